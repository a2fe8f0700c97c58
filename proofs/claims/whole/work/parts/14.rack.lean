/-! Mirrors and contracts. By walk.py. -/
def rmX3_wantedOf : Room := { frames := 0, cells := 0, slots := 0, locals := 0 }
set_option maxHeartbeats 4000000 in
set_option maxRecDepth 100000 in
theorem kX3_wantedOf (l : Launch) (D : va_G) (a : Nat → Nat) (cI cZ : ClassId) (S : ST) (p1 : Int32) (res : Int32) (hm : mX3_wantedOf S p1 = some res) : Met l yX3_wantedOf wsX3_wantedOf rmX3_wantedOf (va_Pc [.ref (a 14), .int p1] (PreR (wC a cI cZ S) D cI cZ)) (vp_Si (fun r => r = res)) 0 0 (fun _ => False) := by
  refine metB (cc := cX3_wantedOf) (maxL := 2) (ret := (some .int)) (by decide) rfl (Nat.le_of_ble_eq_true rfl) ?_
  intro p e s m below meth c ls X hml hr hlocks hin hv hl
  replace X : CX p m c cX3_wantedOf s ([.ref (a 14), .int p1] : List Value).toArray wsX3_wantedOf RX3 := X
  obtain ⟨hP, hK, hNW⟩ := hv
  have hx := X.1
  have hb := X.2.1
  replace hl : lv_has ls 2 [(0, .ref (a 14)), (1, .int p1)] := hl
  have iX3 : ∀ w ∈ wsX30, w ∈ wsX3_wantedOf := fun w h => List.mem_cons_of_mem _ (List.mem_append_right _ h)
  unfold mX3_wantedOf at hm
  refine lv_iload_n hx hb dX3_wantedOf_0 rfl (lv_at hl 1 rfl) ?_
  refine lv_aload_n hx hb dX3_wantedOf_1 rfl (lv_at hl 0 rfl) ?_
  refine gC_X3_orders X hK hP iX3 (List.mem_of_getElem? (i := 1) rfl) dX3_wantedOf_2 ?_
  refine lv_icmp_ge (tgt := 22) hx hb dX3_wantedOf_5 (by decide) (fun hc => ?_) (fun hc => ?_)
  · replace hm := (if_pos hc).symm.trans hm
    refine lv_iconst (v := (0 : Int32)) hx hb dX3_wantedOf_22 (by decide) ?_
    exact endR X hr rfl hlocks hm dX3_wantedOf_23
  · replace hm := (if_neg hc).symm.trans hm
    refine lv_iload_n hx hb dX3_wantedOf_8 rfl (lv_at hl 1 rfl) ?_
    refine lv_iconst (v := (4 : Int32)) hx hb dX3_wantedOf_9 (by decide) ?_
    refine lv_icmp_ge (tgt := 22) hx hb dX3_wantedOf_10 (by decide) (fun hc => ?_) (fun hc => ?_)
    · replace hm := (if_pos hc).symm.trans hm
      refine lv_iconst (v := (0 : Int32)) hx hb dX3_wantedOf_22 (by decide) ?_
      exact endR X hr rfl hlocks hm dX3_wantedOf_23
    · replace hm := (if_neg hc).symm.trans hm
      refine lv_aload_n hx hb dX3_wantedOf_13 rfl (lv_at hl 0 rfl) ?_
      refine gC_X3_demands X hK hP iX3 (List.mem_of_getElem? (i := 2) rfl) dX3_wantedOf_14 ?_
      refine lv_iload_n hx hb dX3_wantedOf_17 rfl (lv_at hl 1 rfl) ?_
      obtain ⟨h1, hm⟩ := gd_ok hm
      refine rC_X3_demands X hK hP h1 dX3_wantedOf_18 ?_
      refine lv_goto (tgt := 23) hx hb dX3_wantedOf_19 (by decide) ?_
      exact endR X hr rfl hlocks hm dX3_wantedOf_23

def rmX3_stockFor : Room := { frames := 0, cells := 0, slots := 0, locals := 0 }
set_option maxHeartbeats 4000000 in
set_option maxRecDepth 100000 in
theorem kX3_stockFor (l : Launch) (D : va_G) (a : Nat → Nat) (cI cZ : ClassId) (S : ST) (p1 : Int32) (res : Int32) (hm : mX3_stockFor S p1 = some res) : Met l yX3_stockFor wsX3_stockFor rmX3_stockFor (va_Pc [.ref (a 14), .int p1] (PreR (wC a cI cZ S) D cI cZ)) (vp_Si (fun r => r = res)) 0 0 (fun _ => False) := by
  refine metB (cc := cX3_stockFor) (maxL := 4) (ret := (some .int)) (by decide) rfl (Nat.le_of_ble_eq_true rfl) ?_
  intro p e s m below meth c ls X hml hr hlocks hin hv hl
  replace X : CX p m c cX3_stockFor s ([.ref (a 14), .int p1] : List Value).toArray wsX3_stockFor RX3 := X
  obtain ⟨hP, hK, hNW⟩ := hv
  have hx := X.1
  have hb := X.2.1
  replace hl : lv_has ls 4 [(0, .ref (a 14)), (1, .int p1)] := hl
  have iX3 : ∀ w ∈ wsX30, w ∈ wsX3_stockFor := fun w h => List.mem_cons_of_mem _ (List.mem_append_right _ h)
  unfold mX3_stockFor at hm
  refine lv_iconst (v := (-1 : Int32)) hx hb dX3_stockFor_0 (by decide) ?_
  refine lv_istore_n (lv' := [(2, .int (-1 : Int32)), (0, .ref (a 14)), (1, .int p1)]) hx hb dX3_stockFor_1 rfl hl (by decide) rfl (fun ls hl => ?_)
  refine lv_iconst (v := (0 : Int32)) hx hb dX3_stockFor_2 (by decide) ?_
  refine lv_istore_n (lv' := [(3, .int (0 : Int32)), (2, .int (-1 : Int32)), (0, .ref (a 14)), (1, .int p1)]) hx hb dX3_stockFor_3 rfl hl (by decide) rfl (fun ls hl => ?_)
  have kb4 : ∀ (k x : Int32 → Int32 → Option (Int32)), (∀ (v2_4 : Int32) (v3_4 : Int32) (ls : Array Slot), lv_has ls 4 [(0, .ref (a 14)), (1, .int p1), (2, .int v2_4), (3, .int v3_4)] → k v2_4 v3_4 = some res → W p l e rmX3_stockFor s m ([.ref (a 14), .int p1] : List Value).toArray below meth c s.heap [] 0 0 (MQ below (vp_Si (fun r => r = res)) ([.ref (a 14), .int p1] : List Value).toArray s 0 0 (fun _ => False)) (F0 m 4 ls [])) → (∀ (v2_4 : Int32) (v3_4 : Int32) (ls : Array Slot), lv_has ls 4 [(0, .ref (a 14)), (1, .int p1), (2, .int v2_4), (3, .int v3_4)] → x v2_4 v3_4 = some res → W p l e rmX3_stockFor s m ([.ref (a 14), .int p1] : List Value).toArray below meth c s.heap [] 0 0 (MQ below (vp_Si (fun r => r = res)) ([.ref (a 14), .int p1] : List Value).toArray s 0 0 (fun _ => False)) (F0 m 55 ls [])) → ∀ (v2_4 : Int32) (v3_4 : Int32) (ls : Array Slot), lv_has ls 4 [(0, .ref (a 14)), (1, .int p1), (2, .int v2_4), (3, .int v3_4)] → mX3_stockFor_B4 k x S p1 v2_4 v3_4 = some res → W p l e rmX3_stockFor s m ([.ref (a 14), .int p1] : List Value).toArray below meth c s.heap [] 0 0 (MQ below (vp_Si (fun r => r = res)) ([.ref (a 14), .int p1] : List Value).toArray s 0 0 (fun _ => False)) (F0 m 4 ls []) := by
    intro k x ih kxh v2_4 v3_4 ls hl hm
    unfold mX3_stockFor_B4 at hm
    refine lv_iload_n hx hb dX3_stockFor_4 rfl (lv_at hl 3 rfl) ?_
    refine lv_aload_n hx hb dX3_stockFor_5 rfl (lv_at hl 0 rfl) ?_
    refine gC_X3_stocks X hK hP iX3 (List.mem_of_getElem? (i := 1) rfl) dX3_stockFor_6 ?_
    refine lv_icmp_ge (tgt := 55) hx hb dX3_stockFor_9 (by decide) (fun hc => ?_) (fun hc => ?_)
    · replace hm := (if_pos hc).symm.trans hm
      exact kxh v2_4 v3_4 ls (lv_sub hl [0, 1, 2, 3] rfl) hm
    · replace hm := (if_neg hc).symm.trans hm
      refine lv_iload_n hx hb dX3_stockFor_12 rfl (lv_at hl 3 rfl) ?_
      refine lv_iconst (v := (3 : Int32)) hx hb dX3_stockFor_13 (by decide) ?_
      refine lv_icmp_ge (tgt := 55) hx hb dX3_stockFor_14 (by decide) (fun hc => ?_) (fun hc => ?_)
      · replace hm := (if_pos hc).symm.trans hm
        exact kxh v2_4 v3_4 ls (lv_sub hl [0, 1, 2, 3] rfl) hm
      · replace hm := (if_neg hc).symm.trans hm
        refine lv_aload_n hx hb dX3_stockFor_17 rfl (lv_at hl 0 rfl) ?_
        refine gC_X3_stockLengths X hK hP iX3 (List.mem_of_getElem? (i := 2) rfl) dX3_stockFor_18 ?_
        refine lv_iload_n hx hb dX3_stockFor_21 rfl (lv_at hl 3 rfl) ?_
        obtain ⟨h1, hm⟩ := gd_ok hm
        refine rC_X3_stockLengths X hK hP h1 dX3_stockFor_22 ?_
        refine lv_iload_n hx hb dX3_stockFor_23 rfl (lv_at hl 1 rfl) ?_
        refine lv_icmp_lt (tgt := 49) hx hb dX3_stockFor_24 (by decide) (fun hc => ?_) (fun hc => ?_)
        · replace hm := (if_pos hc).symm.trans hm
          refine lv_iinc (v := (v3_4 + (1 : Int32))) (lv' := [(3, .int (v3_4 + (1 : Int32))), (0, .ref (a 14)), (1, .int p1), (2, .int v2_4)]) hx hb dX3_stockFor_49 hl (k := 3) rfl rfl (by decide) rfl (fun ls hl => ?_)
          refine lv_goto (tgt := 4) hx hb dX3_stockFor_52 (by decide) ?_
          exact ih v2_4 (v3_4 + (1 : Int32)) ls (lv_sub hl [1, 2, 3, 0] rfl) hm
        · replace hm := (if_neg hc).symm.trans hm
          refine lv_iload_n hx hb dX3_stockFor_27 rfl (lv_at hl 2 rfl) ?_
          refine lv_iconst (v := (-1 : Int32)) hx hb dX3_stockFor_28 (by decide) ?_
          refine lv_icmp_eq (tgt := 47) hx hb dX3_stockFor_29 (by decide) (fun hc => ?_) (fun hc => ?_)
          · replace hm := (if_pos hc).symm.trans hm
            refine lv_iload_n hx hb dX3_stockFor_47 rfl (lv_at hl 3 rfl) ?_
            refine lv_istore_n (lv' := [(2, .int v3_4), (0, .ref (a 14)), (1, .int p1), (3, .int v3_4)]) hx hb dX3_stockFor_48 rfl hl (by decide) rfl (fun ls hl => ?_)
            refine lv_iinc (v := (v3_4 + (1 : Int32))) (lv' := [(3, .int (v3_4 + (1 : Int32))), (2, .int v3_4), (0, .ref (a 14)), (1, .int p1)]) hx hb dX3_stockFor_49 hl (k := 3) rfl rfl (by decide) rfl (fun ls hl => ?_)
            refine lv_goto (tgt := 4) hx hb dX3_stockFor_52 (by decide) ?_
            exact ih v3_4 (v3_4 + (1 : Int32)) ls (lv_sub hl [2, 3, 1, 0] rfl) hm
          · replace hm := (if_neg hc).symm.trans hm
            refine lv_aload_n hx hb dX3_stockFor_32 rfl (lv_at hl 0 rfl) ?_
            refine gC_X3_stockPrices X hK hP iX3 (List.mem_of_getElem? (i := 3) rfl) dX3_stockFor_33 ?_
            refine lv_iload_n hx hb dX3_stockFor_36 rfl (lv_at hl 3 rfl) ?_
            obtain ⟨h1, hm⟩ := gd_ok hm
            refine rC_X3_stockPrices X hK hP h1 dX3_stockFor_37 ?_
            refine lv_aload_n hx hb dX3_stockFor_38 rfl (lv_at hl 0 rfl) ?_
            refine gC_X3_stockPrices X hK hP iX3 (List.mem_of_getElem? (i := 3) rfl) dX3_stockFor_39 ?_
            refine lv_iload_n hx hb dX3_stockFor_42 rfl (lv_at hl 2 rfl) ?_
            obtain ⟨h1, hm⟩ := gd_ok hm
            refine rC_X3_stockPrices X hK hP h1 dX3_stockFor_43 ?_
            refine lv_icmp_ge (tgt := 49) hx hb dX3_stockFor_44 (by decide) (fun hc => ?_) (fun hc => ?_)
            · replace hm := (if_pos hc).symm.trans hm
              refine lv_iinc (v := (v3_4 + (1 : Int32))) (lv' := [(3, .int (v3_4 + (1 : Int32))), (0, .ref (a 14)), (1, .int p1), (2, .int v2_4)]) hx hb dX3_stockFor_49 hl (k := 3) rfl rfl (by decide) rfl (fun ls hl => ?_)
              refine lv_goto (tgt := 4) hx hb dX3_stockFor_52 (by decide) ?_
              exact ih v2_4 (v3_4 + (1 : Int32)) ls (lv_sub hl [1, 2, 3, 0] rfl) hm
            · replace hm := (if_neg hc).symm.trans hm
              refine lv_iload_n hx hb dX3_stockFor_47 rfl (lv_at hl 3 rfl) ?_
              refine lv_istore_n (lv' := [(2, .int v3_4), (0, .ref (a 14)), (1, .int p1), (3, .int v3_4)]) hx hb dX3_stockFor_48 rfl hl (by decide) rfl (fun ls hl => ?_)
              refine lv_iinc (v := (v3_4 + (1 : Int32))) (lv' := [(3, .int (v3_4 + (1 : Int32))), (2, .int v3_4), (0, .ref (a 14)), (1, .int p1)]) hx hb dX3_stockFor_49 hl (k := 3) rfl rfl (by decide) rfl (fun ls hl => ?_)
              refine lv_goto (tgt := 4) hx hb dX3_stockFor_52 (by decide) ?_
              exact ih v3_4 (v3_4 + (1 : Int32)) ls (lv_sub hl [2, 3, 1, 0] rfl) hm
  have kx4 : ∀ (v2_4 : Int32) (v3_4 : Int32) (ls : Array Slot), lv_has ls 4 [(0, .ref (a 14)), (1, .int p1), (2, .int v2_4), (3, .int v3_4)] → mX3_stockFor_X4  S p1 v2_4 v3_4 = some res → W p l e rmX3_stockFor s m ([.ref (a 14), .int p1] : List Value).toArray below meth c s.heap [] 0 0 (MQ below (vp_Si (fun r => r = res)) ([.ref (a 14), .int p1] : List Value).toArray s 0 0 (fun _ => False)) (F0 m 55 ls []) := by
    intro v2_4 v3_4 ls hl hm
    unfold mX3_stockFor_X4 at hm
    refine lv_iload_n hx hb dX3_stockFor_55 rfl (lv_at hl 2 rfl) ?_
    exact endR X hr rfl hlocks hm dX3_stockFor_56
  have lp4 : ∀ (n : Nat) (v2_4 : Int32) (v3_4 : Int32) (ls : Array Slot), lv_has ls 4 [(0, .ref (a 14)), (1, .int p1), (2, .int v2_4), (3, .int v3_4)] → LPf (κ := Int32 → Int32 → Option (Int32)) (fun _ _ => none) (fun kk => mX3_stockFor_B4 kk (mX3_stockFor_X4  S p1) S p1) n v2_4 v3_4 = some res → W p l e rmX3_stockFor s m ([.ref (a 14), .int p1] : List Value).toArray below meth c s.heap [] 0 0 (MQ below (vp_Si (fun r => r = res)) ([.ref (a 14), .int p1] : List Value).toArray s 0 0 (fun _ => False)) (F0 m 4 ls []) := by
    intro n
    induction n with
    | zero =>
      intro v2_4 v3_4 ls hl hm
      exact (noS (show (none : Option (Int32)) = some res from hm)).elim
    | succ n ih =>
      intro v2_4 v3_4 ls hl hm
      exact kb4 _ _ ih kx4 v2_4 v3_4 ls hl hm
  exact lp4 FU (-1 : Int32) (0 : Int32) ls (lv_sub hl [2, 3, 1, 0] rfl) hm

def rmX3_addStock : Room := { frames := 0, cells := 0, slots := 0, locals := 0 }
set_option maxHeartbeats 4000000 in
set_option maxRecDepth 100000 in
theorem kX3_addStock (l : Launch) (D : va_G) (a : Nat → Nat) (cI cZ : ClassId) (hA : AP 24 a) (S : ST) (sz : Nat) (p1 : Int32) (p2 : Int32) (res : Int32 × ST) (hm : mX3_addStock S p1 p2 = some res) : Met l yX3_addStock wsX3_addStock rmX3_addStock (va_Pc [.ref (a 14), .int p1, .int p2] (PreW (wC a cI cZ S) D cI cZ sz)) (va_Qi (fun (r : Int32) (T : ST) => (r, T) = res) (PostW (wC a cI cZ) D cI cZ) (AC 24 a sz)) 0 0 (AC 24 a sz) := by
  refine metB (cc := cX3_addStock) (maxL := 3) (ret := (some .int)) (by decide) rfl (Nat.le_of_ble_eq_true rfl) ?_
  intro p e s m below meth c ls X hml hr hlocks hin hv hl
  replace X : CX p m c cX3_addStock s ([.ref (a 14), .int p1, .int p2] : List Value).toArray wsX3_addStock RX3 := X
  obtain ⟨hsz, hP, hK, hNW⟩ := hv
  subst hsz
  have hS : va_S (AC 24 a s.heap.size) s.heap s.heap [] := va_S.rf
  have hx := X.1
  have hb := X.2.1
  replace hl : lv_has ls 3 [(0, .ref (a 14)), (1, .int p1), (2, .int p2)] := hl
  have iX3 : ∀ w ∈ wsX30, w ∈ wsX3_addStock := fun w h => List.mem_cons_of_mem _ (List.mem_append_right _ h)
  suffices kS : ∀ (H : Heap) (locs : List Loc), va_P D vwCl (wC a cI cZ S) H → va_S (AC 24 a s.heap.size) s.heap H locs → W p l e rmX3_addStock s m ([.ref (a 14), .int p1, .int p2] : List Value).toArray below meth c H locs 0 0 (MQ below (va_Qi (fun (r : Int32) (T : ST) => (r, T) = res) (PostW (wC a cI cZ) D cI cZ) (AC 24 a s.heap.size)) ([.ref (a 14), .int p1, .int p2] : List Value).toArray s 0 0 (AC 24 a s.heap.size)) (F0 m 0 ls []) by exact kS s.heap [] hP hS
  intro H locs hP hS
  unfold mX3_addStock at hm
  refine lv_aload_n hx hb dX3_addStock_0 rfl (lv_at hl 0 rfl) ?_
  refine gC_X3_stocks X hK hP iX3 (List.mem_of_getElem? (i := 1) rfl) dX3_addStock_1 ?_
  refine lv_iconst (v := (3 : Int32)) hx hb dX3_addStock_4 (by decide) ?_
  refine lv_icmp_lt (tgt := 11) hx hb dX3_addStock_5 (by decide) (fun hc => ?_) (fun hc => ?_)
  · replace hm := (if_pos hc).symm.trans hm
    refine lv_aload_n hx hb dX3_addStock_11 rfl (lv_at hl 0 rfl) ?_
    refine gC_X3_stockLengths X hK hP iX3 (List.mem_of_getElem? (i := 2) rfl) dX3_addStock_12 ?_
    refine lv_aload_n hx hb dX3_addStock_15 rfl (lv_at hl 0 rfl) ?_
    refine gC_X3_stocks X hK hP iX3 (List.mem_of_getElem? (i := 1) rfl) dX3_addStock_16 ?_
    refine lv_iload_n hx hb dX3_addStock_19 rfl (lv_at hl 1 rfl) ?_
    obtain ⟨h1, hm⟩ := gd_ok hm
    refine sC_X3_stockLengths X hK hA hP hS h1 dX3_addStock_20 (fun H locs hP hS => ?_)
    refine lv_aload_n hx hb dX3_addStock_21 rfl (lv_at hl 0 rfl) ?_
    refine gC_X3_stockPrices X hK hP iX3 (List.mem_of_getElem? (i := 3) rfl) dX3_addStock_22 ?_
    refine lv_aload_n hx hb dX3_addStock_25 rfl (lv_at hl 0 rfl) ?_
    refine gC_X3_stocks X hK hP iX3 (List.mem_of_getElem? (i := 1) rfl) dX3_addStock_26 ?_
    refine lv_iload_n hx hb dX3_addStock_29 rfl (lv_at hl 2 rfl) ?_
    obtain ⟨h1, hm⟩ := gd_ok hm
    refine sC_X3_stockPrices X hK hA hP hS h1 dX3_addStock_30 (fun H locs hP hS => ?_)
    refine lv_aload_n hx hb dX3_addStock_31 rfl (lv_at hl 0 rfl) ?_
    refine lv_dup hx hb dX3_addStock_32 rfl ?_
    refine gC_X3_stocks X hK hP iX3 (List.mem_of_getElem? (i := 1) rfl) dX3_addStock_33 ?_
    refine lv_iconst (v := (1 : Int32)) hx hb dX3_addStock_36 (by decide) ?_
    refine lv_iadd hx hb dX3_addStock_37 ?_
    refine pC_X3_stocks X hK hA hP hS iX3 (List.mem_of_getElem? (i := 1) rfl) dX3_addStock_38 (fun H locs hP hS => ?_)
    refine lv_aload_n hx hb dX3_addStock_41 rfl (lv_at hl 0 rfl) ?_
    refine gC_X3_stocks X hK hP iX3 (List.mem_of_getElem? (i := 1) rfl) dX3_addStock_42 ?_
    refine lv_iconst (v := (1 : Int32)) hx hb dX3_addStock_45 (by decide) ?_
    refine lv_isub hx hb dX3_addStock_46 ?_
    exact endI X hK hr rfl hlocks hm hP hS dX3_addStock_47
  · replace hm := (if_neg hc).symm.trans hm
    refine lv_bipush (v := (-4 : Int32)) hx hb dX3_addStock_8 (by decide) ?_
    exact endI X hK hr rfl hlocks hm hP hS dX3_addStock_10

def rmX3_addOrder : Room := { frames := 0, cells := 0, slots := 0, locals := 0 }
set_option maxHeartbeats 4000000 in
set_option maxRecDepth 100000 in
theorem kX3_addOrder (l : Launch) (D : va_G) (a : Nat → Nat) (cI cZ : ClassId) (hA : AP 24 a) (S : ST) (sz : Nat) (p1 : Int32) (p2 : Int32) (res : Int32 × ST) (hm : mX3_addOrder S p1 p2 = some res) : Met l yX3_addOrder wsX3_addOrder rmX3_addOrder (va_Pc [.ref (a 14), .int p1, .int p2] (PreW (wC a cI cZ S) D cI cZ sz)) (va_Qi (fun (r : Int32) (T : ST) => (r, T) = res) (PostW (wC a cI cZ) D cI cZ) (AC 24 a sz)) 0 0 (AC 24 a sz) := by
  refine metB (cc := cX3_addOrder) (maxL := 3) (ret := (some .int)) (by decide) rfl (Nat.le_of_ble_eq_true rfl) ?_
  intro p e s m below meth c ls X hml hr hlocks hin hv hl
  replace X : CX p m c cX3_addOrder s ([.ref (a 14), .int p1, .int p2] : List Value).toArray wsX3_addOrder RX3 := X
  obtain ⟨hsz, hP, hK, hNW⟩ := hv
  subst hsz
  have hS : va_S (AC 24 a s.heap.size) s.heap s.heap [] := va_S.rf
  have hx := X.1
  have hb := X.2.1
  replace hl : lv_has ls 3 [(0, .ref (a 14)), (1, .int p1), (2, .int p2)] := hl
  have iX3 : ∀ w ∈ wsX30, w ∈ wsX3_addOrder := fun w h => List.mem_cons_of_mem _ (List.mem_append_right _ h)
  suffices kS : ∀ (H : Heap) (locs : List Loc), va_P D vwCl (wC a cI cZ S) H → va_S (AC 24 a s.heap.size) s.heap H locs → W p l e rmX3_addOrder s m ([.ref (a 14), .int p1, .int p2] : List Value).toArray below meth c H locs 0 0 (MQ below (va_Qi (fun (r : Int32) (T : ST) => (r, T) = res) (PostW (wC a cI cZ) D cI cZ) (AC 24 a s.heap.size)) ([.ref (a 14), .int p1, .int p2] : List Value).toArray s 0 0 (AC 24 a s.heap.size)) (F0 m 0 ls []) by exact kS s.heap [] hP hS
  intro H locs hP hS
  unfold mX3_addOrder at hm
  refine lv_aload_n hx hb dX3_addOrder_0 rfl (lv_at hl 0 rfl) ?_
  refine gC_X3_orders X hK hP iX3 (List.mem_of_getElem? (i := 1) rfl) dX3_addOrder_1 ?_
  refine lv_iconst (v := (4 : Int32)) hx hb dX3_addOrder_4 (by decide) ?_
  refine lv_icmp_lt (tgt := 11) hx hb dX3_addOrder_5 (by decide) (fun hc => ?_) (fun hc => ?_)
  · replace hm := (if_pos hc).symm.trans hm
    refine lv_aload_n hx hb dX3_addOrder_11 rfl (lv_at hl 0 rfl) ?_
    refine gC_X3_orderLengths X hK hP iX3 (List.mem_of_getElem? (i := 2) rfl) dX3_addOrder_12 ?_
    refine lv_aload_n hx hb dX3_addOrder_15 rfl (lv_at hl 0 rfl) ?_
    refine gC_X3_orders X hK hP iX3 (List.mem_of_getElem? (i := 1) rfl) dX3_addOrder_16 ?_
    refine lv_iload_n hx hb dX3_addOrder_19 rfl (lv_at hl 1 rfl) ?_
    obtain ⟨h1, hm⟩ := gd_ok hm
    refine sC_X3_orderLengths X hK hA hP hS h1 dX3_addOrder_20 (fun H locs hP hS => ?_)
    refine lv_aload_n hx hb dX3_addOrder_21 rfl (lv_at hl 0 rfl) ?_
    refine gC_X3_demands X hK hP iX3 (List.mem_of_getElem? (i := 3) rfl) dX3_addOrder_22 ?_
    refine lv_aload_n hx hb dX3_addOrder_25 rfl (lv_at hl 0 rfl) ?_
    refine gC_X3_orders X hK hP iX3 (List.mem_of_getElem? (i := 1) rfl) dX3_addOrder_26 ?_
    refine lv_iload_n hx hb dX3_addOrder_29 rfl (lv_at hl 2 rfl) ?_
    obtain ⟨h1, hm⟩ := gd_ok hm
    refine sC_X3_demands X hK hA hP hS h1 dX3_addOrder_30 (fun H locs hP hS => ?_)
    refine lv_aload_n hx hb dX3_addOrder_31 rfl (lv_at hl 0 rfl) ?_
    refine lv_dup hx hb dX3_addOrder_32 rfl ?_
    refine gC_X3_orders X hK hP iX3 (List.mem_of_getElem? (i := 1) rfl) dX3_addOrder_33 ?_
    refine lv_iconst (v := (1 : Int32)) hx hb dX3_addOrder_36 (by decide) ?_
    refine lv_iadd hx hb dX3_addOrder_37 ?_
    refine pC_X3_orders X hK hA hP hS iX3 (List.mem_of_getElem? (i := 1) rfl) dX3_addOrder_38 (fun H locs hP hS => ?_)
    refine lv_aload_n hx hb dX3_addOrder_41 rfl (lv_at hl 0 rfl) ?_
    refine gC_X3_orders X hK hP iX3 (List.mem_of_getElem? (i := 1) rfl) dX3_addOrder_42 ?_
    refine lv_iconst (v := (1 : Int32)) hx hb dX3_addOrder_45 (by decide) ?_
    refine lv_isub hx hb dX3_addOrder_46 ?_
    exact endI X hK hr rfl hlocks hm hP hS dX3_addOrder_47
  · replace hm := (if_neg hc).symm.trans hm
    refine lv_bipush (v := (-4 : Int32)) hx hb dX3_addOrder_8 (by decide) ?_
    exact endI X hK hr rfl hlocks hm hP hS dX3_addOrder_10
