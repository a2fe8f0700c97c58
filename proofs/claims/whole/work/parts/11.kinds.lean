/-! Mirrors and contracts. By walk.py. -/
def rmX1_add : Room := { frames := 0, cells := 0, slots := 0, locals := 0 }
set_option maxHeartbeats 4000000 in
set_option maxRecDepth 100000 in
theorem kX1_add (l : Launch) (D : va_G) (a : Nat → Nat) (cI cZ : ClassId) (hA : AP 24 a) (S : ST) (sz : Nat) (p1 : Int32) (p2 : Int32) (p3 : Int32) (p4 : Int32) (res : Int32 × ST) (hm : mX1_add S p1 p2 p3 p4 = some res) : Met l yX1_add wsX1_add rmX1_add (va_Pc [.ref (a 3), .int p1, .int p2, .int p3, .int p4] (PreW (wC a cI cZ S) D cI cZ sz)) (va_Qi (fun (r : Int32) (T : ST) => (r, T) = res) (PostW (wC a cI cZ) D cI cZ) (AC 24 a sz)) 0 0 (AC 24 a sz) := by
  refine metB (cc := cX1_add) (maxL := 5) (ret := (some .int)) (by decide) rfl (Nat.le_of_ble_eq_true rfl) ?_
  intro p e s m below meth c ls X hml hr hlocks hin hv hl
  replace X : CX p m c cX1_add s ([.ref (a 3), .int p1, .int p2, .int p3, .int p4] : List Value).toArray wsX1_add RX1 := X
  obtain ⟨hsz, hP, hK, hNW⟩ := hv
  subst hsz
  have hS : va_S (AC 24 a s.heap.size) s.heap s.heap [] := va_S.rf
  have hx := X.1
  have hb := X.2.1
  replace hl : lv_has ls 5 [(0, .ref (a 3)), (1, .int p1), (2, .int p2), (3, .int p3), (4, .int p4)] := hl
  have iX1 : ∀ w ∈ wsX10, w ∈ wsX1_add := fun w h => List.mem_cons_of_mem _ (List.mem_append_right _ h)
  suffices kS : ∀ (H : Heap) (locs : List Loc), va_P D vwCl (wC a cI cZ S) H → va_S (AC 24 a s.heap.size) s.heap H locs → W p l e rmX1_add s m ([.ref (a 3), .int p1, .int p2, .int p3, .int p4] : List Value).toArray below meth c H locs 0 0 (MQ below (va_Qi (fun (r : Int32) (T : ST) => (r, T) = res) (PostW (wC a cI cZ) D cI cZ) (AC 24 a s.heap.size)) ([.ref (a 3), .int p1, .int p2, .int p3, .int p4] : List Value).toArray s 0 0 (AC 24 a s.heap.size)) (F0 m 0 ls []) by exact kS s.heap [] hP hS
  intro H locs hP hS
  unfold mX1_add at hm
  refine lv_aload_n hx hb dX1_add_0 rfl (lv_at hl 0 rfl) ?_
  refine gC_X1_count X hK hP iX1 (List.mem_of_getElem? (i := 1) rfl) dX1_add_1 ?_
  refine lv_bipush (v := (8 : Int32)) hx hb dX1_add_4 (by decide) ?_
  refine lv_icmp_lt (tgt := 12) hx hb dX1_add_6 (by decide) (fun hc => ?_) (fun hc => ?_)
  · replace hm := (if_pos hc).symm.trans hm
    refine lv_aload_n hx hb dX1_add_12 rfl (lv_at hl 0 rfl) ?_
    refine gC_X1_widths X hK hP iX1 (List.mem_of_getElem? (i := 2) rfl) dX1_add_13 ?_
    refine lv_aload_n hx hb dX1_add_16 rfl (lv_at hl 0 rfl) ?_
    refine gC_X1_count X hK hP iX1 (List.mem_of_getElem? (i := 1) rfl) dX1_add_17 ?_
    refine lv_iload_n hx hb dX1_add_20 rfl (lv_at hl 1 rfl) ?_
    obtain ⟨h1, hm⟩ := gd_ok hm
    refine sC_X1_widths X hK hA hP hS h1 dX1_add_21 (fun H locs hP hS => ?_)
    refine lv_aload_n hx hb dX1_add_22 rfl (lv_at hl 0 rfl) ?_
    refine gC_X1_heights X hK hP iX1 (List.mem_of_getElem? (i := 3) rfl) dX1_add_23 ?_
    refine lv_aload_n hx hb dX1_add_26 rfl (lv_at hl 0 rfl) ?_
    refine gC_X1_count X hK hP iX1 (List.mem_of_getElem? (i := 1) rfl) dX1_add_27 ?_
    refine lv_iload_n hx hb dX1_add_30 rfl (lv_at hl 2 rfl) ?_
    obtain ⟨h1, hm⟩ := gd_ok hm
    refine sC_X1_heights X hK hA hP hS h1 dX1_add_31 (fun H locs hP hS => ?_)
    refine lv_aload_n hx hb dX1_add_32 rfl (lv_at hl 0 rfl) ?_
    refine gC_X1_values X hK hP iX1 (List.mem_of_getElem? (i := 4) rfl) dX1_add_33 ?_
    refine lv_aload_n hx hb dX1_add_36 rfl (lv_at hl 0 rfl) ?_
    refine gC_X1_count X hK hP iX1 (List.mem_of_getElem? (i := 1) rfl) dX1_add_37 ?_
    refine lv_iload_n hx hb dX1_add_40 rfl (lv_at hl 3 rfl) ?_
    obtain ⟨h1, hm⟩ := gd_ok hm
    refine sC_X1_values X hK hA hP hS h1 dX1_add_41 (fun H locs hP hS => ?_)
    refine lv_aload_n hx hb dX1_add_42 rfl (lv_at hl 0 rfl) ?_
    refine gC_X1_turning X hK hP iX1 (List.mem_of_getElem? (i := 5) rfl) dX1_add_43 ?_
    refine lv_aload_n hx hb dX1_add_46 rfl (lv_at hl 0 rfl) ?_
    refine gC_X1_count X hK hP iX1 (List.mem_of_getElem? (i := 1) rfl) dX1_add_47 ?_
    refine lv_iload hx hb dX1_add_50 (lv_at hl 4 rfl) ?_
    obtain ⟨h1, hm⟩ := gd_ok hm
    refine sC_X1_turning X hK hA hP hS h1 dX1_add_52 (fun H locs hP hS => ?_)
    refine lv_aload_n hx hb dX1_add_53 rfl (lv_at hl 0 rfl) ?_
    refine lv_dup hx hb dX1_add_54 rfl ?_
    refine gC_X1_count X hK hP iX1 (List.mem_of_getElem? (i := 1) rfl) dX1_add_55 ?_
    refine lv_iconst (v := (1 : Int32)) hx hb dX1_add_58 (by decide) ?_
    refine lv_iadd hx hb dX1_add_59 ?_
    refine pC_X1_count X hK hA hP hS iX1 (List.mem_of_getElem? (i := 1) rfl) dX1_add_60 (fun H locs hP hS => ?_)
    refine lv_aload_n hx hb dX1_add_63 rfl (lv_at hl 0 rfl) ?_
    refine gC_X1_count X hK hP iX1 (List.mem_of_getElem? (i := 1) rfl) dX1_add_64 ?_
    refine lv_iconst (v := (1 : Int32)) hx hb dX1_add_67 (by decide) ?_
    refine lv_isub hx hb dX1_add_68 ?_
    exact endI X hK hr rfl hlocks hm hP hS dX1_add_69
  · replace hm := (if_neg hc).symm.trans hm
    refine lv_bipush (v := (-4 : Int32)) hx hb dX1_add_9 (by decide) ?_
    exact endI X hK hr rfl hlocks hm hP hS dX1_add_11

def rmX1_lies : Room := { frames := 0, cells := 0, slots := 0, locals := 0 }
set_option maxHeartbeats 4000000 in
set_option maxRecDepth 100000 in
theorem kX1_lies (l : Launch) (D : va_G) (a : Nat → Nat) (cI cZ : ClassId) (S : ST) (p1 : Int32) (p2 : Int32) (p3 : Int32) (res : Int32) (hm : mX1_lies S p1 p2 p3 = some res) : Met l yX1_lies wsX1_lies rmX1_lies (va_Pc [.ref (a 3), .int p1, .int p2, .int p3] (PreR (wC a cI cZ S) D cI cZ)) (vp_Si (fun r => r = res)) 0 0 (fun _ => False) := by
  refine metB (cc := cX1_lies) (maxL := 4) (ret := (some .boolean)) (by decide) rfl (Nat.le_of_ble_eq_true rfl) ?_
  intro p e s m below meth c ls X hml hr hlocks hin hv hl
  replace X : CX p m c cX1_lies s ([.ref (a 3), .int p1, .int p2, .int p3] : List Value).toArray wsX1_lies RX1 := X
  obtain ⟨hP, hK, hNW⟩ := hv
  have hx := X.1
  have hb := X.2.1
  replace hl : lv_has ls 4 [(0, .ref (a 3)), (1, .int p1), (2, .int p2), (3, .int p3)] := hl
  have iX1 : ∀ w ∈ wsX10, w ∈ wsX1_lies := fun w h => List.mem_cons_of_mem _ (List.mem_append_right _ h)
  unfold mX1_lies at hm
  refine lv_aload_n hx hb dX1_lies_0 rfl (lv_at hl 0 rfl) ?_
  refine gC_X1_widths X hK hP iX1 (List.mem_of_getElem? (i := 1) rfl) dX1_lies_1 ?_
  refine lv_iload_n hx hb dX1_lies_4 rfl (lv_at hl 1 rfl) ?_
  obtain ⟨h1, hm⟩ := gd_ok hm
  refine rC_X1_widths X hK hP h1 dX1_lies_5 ?_
  refine lv_iload_n hx hb dX1_lies_6 rfl (lv_at hl 2 rfl) ?_
  refine lv_icmp_ne (tgt := 24) hx hb dX1_lies_7 (by decide) (fun hc => ?_) (fun hc => ?_)
  · replace hm := (if_neg hc).symm.trans hm
    refine lv_iconst (v := (0 : Int32)) hx hb dX1_lies_24 (by decide) ?_
    exact endR X hr rfl hlocks hm dX1_lies_25
  · replace hm := (if_pos hc).symm.trans hm
    refine lv_aload_n hx hb dX1_lies_10 rfl (lv_at hl 0 rfl) ?_
    refine gC_X1_heights X hK hP iX1 (List.mem_of_getElem? (i := 2) rfl) dX1_lies_11 ?_
    refine lv_iload_n hx hb dX1_lies_14 rfl (lv_at hl 1 rfl) ?_
    obtain ⟨h1, hm⟩ := gd_ok hm
    refine rC_X1_heights X hK hP h1 dX1_lies_15 ?_
    refine lv_iload_n hx hb dX1_lies_16 rfl (lv_at hl 3 rfl) ?_
    refine lv_icmp_ne (tgt := 24) hx hb dX1_lies_17 (by decide) (fun hc => ?_) (fun hc => ?_)
    · replace hm := (if_neg hc).symm.trans hm
      refine lv_iconst (v := (0 : Int32)) hx hb dX1_lies_24 (by decide) ?_
      exact endR X hr rfl hlocks hm dX1_lies_25
    · replace hm := (if_pos hc).symm.trans hm
      refine lv_iconst (v := (1 : Int32)) hx hb dX1_lies_20 (by decide) ?_
      refine lv_goto (tgt := 25) hx hb dX1_lies_21 (by decide) ?_
      exact endR X hr rfl hlocks hm dX1_lies_25

def rmX1_liesTurned : Room := { frames := 0, cells := 0, slots := 0, locals := 0 }
set_option maxHeartbeats 4000000 in
set_option maxRecDepth 100000 in
theorem kX1_liesTurned (l : Launch) (D : va_G) (a : Nat → Nat) (cI cZ : ClassId) (S : ST) (p1 : Int32) (p2 : Int32) (p3 : Int32) (res : Int32) (hm : mX1_liesTurned S p1 p2 p3 = some res) : Met l yX1_liesTurned wsX1_liesTurned rmX1_liesTurned (va_Pc [.ref (a 3), .int p1, .int p2, .int p3] (PreR (wC a cI cZ S) D cI cZ)) (vp_Si (fun r => r = res)) 0 0 (fun _ => False) := by
  refine metB (cc := cX1_liesTurned) (maxL := 4) (ret := (some .boolean)) (by decide) rfl (Nat.le_of_ble_eq_true rfl) ?_
  intro p e s m below meth c ls X hml hr hlocks hin hv hl
  replace X : CX p m c cX1_liesTurned s ([.ref (a 3), .int p1, .int p2, .int p3] : List Value).toArray wsX1_liesTurned RX1 := X
  obtain ⟨hP, hK, hNW⟩ := hv
  have hx := X.1
  have hb := X.2.1
  replace hl : lv_has ls 4 [(0, .ref (a 3)), (1, .int p1), (2, .int p2), (3, .int p3)] := hl
  have iX1 : ∀ w ∈ wsX10, w ∈ wsX1_liesTurned := fun w h => List.mem_cons_of_mem _ (List.mem_append_right _ h)
  unfold mX1_liesTurned at hm
  refine lv_aload_n hx hb dX1_liesTurned_0 rfl (lv_at hl 0 rfl) ?_
  refine gC_X1_turning X hK hP iX1 (List.mem_of_getElem? (i := 1) rfl) dX1_liesTurned_1 ?_
  refine lv_iload_n hx hb dX1_liesTurned_4 rfl (lv_at hl 1 rfl) ?_
  obtain ⟨h1, hm⟩ := gd_ok hm
  refine rC_X1_turning X hK hP h1 dX1_liesTurned_5 ?_
  refine lv_if_eq (tgt := 33) hx hb dX1_liesTurned_6 (by decide) (fun hc => ?_) (fun hc => ?_)
  · replace hm := (if_pos hc).symm.trans hm
    refine lv_iconst (v := (0 : Int32)) hx hb dX1_liesTurned_33 (by decide) ?_
    exact endR X hr rfl hlocks hm dX1_liesTurned_34
  · replace hm := (if_neg hc).symm.trans hm
    refine lv_aload_n hx hb dX1_liesTurned_9 rfl (lv_at hl 0 rfl) ?_
    refine gC_X1_widths X hK hP iX1 (List.mem_of_getElem? (i := 2) rfl) dX1_liesTurned_10 ?_
    refine lv_iload_n hx hb dX1_liesTurned_13 rfl (lv_at hl 1 rfl) ?_
    obtain ⟨h1, hm⟩ := gd_ok hm
    refine rC_X1_widths X hK hP h1 dX1_liesTurned_14 ?_
    refine lv_iload_n hx hb dX1_liesTurned_15 rfl (lv_at hl 3 rfl) ?_
    refine lv_icmp_ne (tgt := 33) hx hb dX1_liesTurned_16 (by decide) (fun hc => ?_) (fun hc => ?_)
    · replace hm := (if_neg hc).symm.trans hm
      refine lv_iconst (v := (0 : Int32)) hx hb dX1_liesTurned_33 (by decide) ?_
      exact endR X hr rfl hlocks hm dX1_liesTurned_34
    · replace hm := (if_pos hc).symm.trans hm
      refine lv_aload_n hx hb dX1_liesTurned_19 rfl (lv_at hl 0 rfl) ?_
      refine gC_X1_heights X hK hP iX1 (List.mem_of_getElem? (i := 3) rfl) dX1_liesTurned_20 ?_
      refine lv_iload_n hx hb dX1_liesTurned_23 rfl (lv_at hl 1 rfl) ?_
      obtain ⟨h1, hm⟩ := gd_ok hm
      refine rC_X1_heights X hK hP h1 dX1_liesTurned_24 ?_
      refine lv_iload_n hx hb dX1_liesTurned_25 rfl (lv_at hl 2 rfl) ?_
      refine lv_icmp_ne (tgt := 33) hx hb dX1_liesTurned_26 (by decide) (fun hc => ?_) (fun hc => ?_)
      · replace hm := (if_neg hc).symm.trans hm
        refine lv_iconst (v := (0 : Int32)) hx hb dX1_liesTurned_33 (by decide) ?_
        exact endR X hr rfl hlocks hm dX1_liesTurned_34
      · replace hm := (if_pos hc).symm.trans hm
        refine lv_iconst (v := (1 : Int32)) hx hb dX1_liesTurned_29 (by decide) ?_
        refine lv_goto (tgt := 34) hx hb dX1_liesTurned_30 (by decide) ?_
        exact endR X hr rfl hlocks hm dX1_liesTurned_34

def rmX1_mostValue : Room := { frames := 1, cells := 0, slots := 0, locals := 23 }
set_option maxHeartbeats 4000000 in
set_option maxRecDepth 100000 in
theorem kX1_mostValue (l : Launch) (D : va_G) (a : Nat → Nat) (cI cZ : ClassId) (S : ST) (p1 : Int32) (p2 : Int32) (res : Int32) (hm : mX1_mostValue S p1 p2 = some res) : Met l yX1_mostValue wsX1_mostValue rmX1_mostValue (va_Pc [.ref (a 3), .int p1, .int p2] (PreR (wC a cI cZ S) D cI cZ)) (vp_Si (fun r => r = res)) 0 0 (fun _ => False) := by
  refine metB (cc := cX1_mostValue) (maxL := 5) (ret := (some .int)) (by decide) rfl (Nat.le_of_ble_eq_true rfl) ?_
  intro p e s m below meth c ls X hml hr hlocks hin hv hl
  replace X : CX p m c cX1_mostValue s ([.ref (a 3), .int p1, .int p2] : List Value).toArray wsX1_mostValue RX1 := X
  obtain ⟨hP, hK, hNW⟩ := hv
  have hx := X.1
  have hb := X.2.1
  replace hl : lv_has ls 5 [(0, .ref (a 3)), (1, .int p1), (2, .int p2)] := hl
  have iX1 : ∀ w ∈ wsX10, w ∈ wsX1_mostValue := fun w h => List.mem_cons_of_mem _ (List.mem_append_right _ h)
  unfold mX1_mostValue at hm
  refine lv_iconst (v := (0 : Int32)) hx hb dX1_mostValue_0 (by decide) ?_
  refine lv_istore_n (lv' := [(3, .int (0 : Int32)), (0, .ref (a 3)), (1, .int p1), (2, .int p2)]) hx hb dX1_mostValue_1 rfl hl (by decide) rfl (fun ls hl => ?_)
  refine lv_iconst (v := (0 : Int32)) hx hb dX1_mostValue_2 (by decide) ?_
  refine lv_istore (lv' := [(4, .int (0 : Int32)), (3, .int (0 : Int32)), (0, .ref (a 3)), (1, .int p1), (2, .int p2)]) hx hb dX1_mostValue_3 hl (by decide) rfl (fun ls hl => ?_)
  have kb5 : ∀ (k x : Int32 → Int32 → Option (Int32)), (∀ (v3_5 : Int32) (v4_5 : Int32) (ls : Array Slot), lv_has ls 5 [(0, .ref (a 3)), (1, .int p1), (2, .int p2), (3, .int v3_5), (4, .int v4_5)] → k v3_5 v4_5 = some res → W p l e rmX1_mostValue s m ([.ref (a 3), .int p1, .int p2] : List Value).toArray below meth c s.heap [] 0 0 (MQ below (vp_Si (fun r => r = res)) ([.ref (a 3), .int p1, .int p2] : List Value).toArray s 0 0 (fun _ => False)) (F0 m 5 ls [])) → (∀ (v3_5 : Int32) (v4_5 : Int32) (ls : Array Slot), lv_has ls 5 [(0, .ref (a 3)), (1, .int p1), (2, .int p2), (3, .int v3_5), (4, .int v4_5)] → x v3_5 v4_5 = some res → W p l e rmX1_mostValue s m ([.ref (a 3), .int p1, .int p2] : List Value).toArray below meth c s.heap [] 0 0 (MQ below (vp_Si (fun r => r = res)) ([.ref (a 3), .int p1, .int p2] : List Value).toArray s 0 0 (fun _ => False)) (F0 m 61 ls [])) → ∀ (v3_5 : Int32) (v4_5 : Int32) (ls : Array Slot), lv_has ls 5 [(0, .ref (a 3)), (1, .int p1), (2, .int p2), (3, .int v3_5), (4, .int v4_5)] → mX1_mostValue_B5 k x S p1 p2 v3_5 v4_5 = some res → W p l e rmX1_mostValue s m ([.ref (a 3), .int p1, .int p2] : List Value).toArray below meth c s.heap [] 0 0 (MQ below (vp_Si (fun r => r = res)) ([.ref (a 3), .int p1, .int p2] : List Value).toArray s 0 0 (fun _ => False)) (F0 m 5 ls []) := by
    intro k x ih kxh v3_5 v4_5 ls hl hm
    unfold mX1_mostValue_B5 at hm
    refine lv_iload hx hb dX1_mostValue_5 (lv_at hl 4 rfl) ?_
    refine lv_aload_n hx hb dX1_mostValue_7 rfl (lv_at hl 0 rfl) ?_
    refine gC_X1_count X hK hP iX1 (List.mem_of_getElem? (i := 1) rfl) dX1_mostValue_8 ?_
    refine lv_icmp_ge (tgt := 61) hx hb dX1_mostValue_11 (by decide) (fun hc => ?_) (fun hc => ?_)
    · replace hm := (if_pos hc).symm.trans hm
      exact kxh v3_5 v4_5 ls (lv_sub hl [0, 1, 2, 3, 4] rfl) hm
    · replace hm := (if_neg hc).symm.trans hm
      refine lv_iload hx hb dX1_mostValue_14 (lv_at hl 4 rfl) ?_
      refine lv_bipush (v := (8 : Int32)) hx hb dX1_mostValue_16 (by decide) ?_
      refine lv_icmp_ge (tgt := 61) hx hb dX1_mostValue_18 (by decide) (fun hc => ?_) (fun hc => ?_)
      · replace hm := (if_pos hc).symm.trans hm
        exact kxh v3_5 v4_5 ls (lv_sub hl [0, 1, 2, 3, 4] rfl) hm
      · replace hm := (if_neg hc).symm.trans hm
        refine lv_aload_n hx hb dX1_mostValue_21 rfl (lv_at hl 0 rfl) ?_
        refine lv_iload hx hb dX1_mostValue_22 (lv_at hl 4 rfl) ?_
        refine lv_iload_n hx hb dX1_mostValue_24 rfl (lv_at hl 1 rfl) ?_
        refine lv_iload_n hx hb dX1_mostValue_25 rfl (lv_at hl 2 rfl) ?_
        obtain ⟨r1, hr1, hm⟩ := bd_ok hm
        refine callRV (rest := []) X hK hNW hml hP hl.1 (kX1_lies l D a cI cZ S v4_5 p1 p2 r1 hr1) (cwV 3 X.2.2.1 gX1_mostValue_X1_lies rfl rfl rfl (by decide +kernel) ⟨Nat.le_of_ble_eq_true rfl, Nat.le_of_ble_eq_true rfl⟩) (vC_X1 hK hP) rfl rfl (Nat.le_of_ble_eq_true rfl) dX1_mostValue_26 ⟨Nat.zero_le _, Nat.zero_le _⟩ ?_
        refine lv_if_ne (tgt := 43) hx hb dX1_mostValue_29 (by decide) (fun hc => ?_) (fun hc => ?_)
        · replace hm := (if_neg hc).symm.trans hm
          refine lv_iload_n hx hb dX1_mostValue_43 rfl (lv_at hl 3 rfl) ?_
          refine lv_aload_n hx hb dX1_mostValue_44 rfl (lv_at hl 0 rfl) ?_
          refine gC_X1_values X hK hP iX1 (List.mem_of_getElem? (i := 2) rfl) dX1_mostValue_45 ?_
          refine lv_iload hx hb dX1_mostValue_48 (lv_at hl 4 rfl) ?_
          obtain ⟨h1, hm⟩ := gd_ok hm
          refine rC_X1_values X hK hP h1 dX1_mostValue_50 ?_
          refine va_mmax hx hb (hml.trans hl.1.symm) X.2.2.2 (X.2.2.1 (Cond.methodLink RX1 36 Lib.Math.max.name) (List.mem_of_getElem? (i := 3) rfl)) (X.2.2.1 (Cond.static Lib.Math.max.name) (List.mem_of_getElem? (i := 4) rfl)) (X.2.2.1 (Cond.initialized "java/lang/Math") (List.mem_of_getElem? (i := 5) rfl)) (X.2.2.1 (Cond.code Lib.Math.max.name Lib.Math.max.code 2 (some .int)) (List.mem_of_getElem? (i := 6) rfl)) (Nat.le_of_ble_eq_true rfl) (Nat.le_of_ble_eq_true rfl) (Nat.zero_le _) (Nat.zero_le _) dX1_mostValue_51 ?_
          refine lv_istore_n (lv' := [(3, .int (if v3_5 < (S.2 3 v4_5.toNatClampNeg) then (S.2 3 v4_5.toNatClampNeg) else v3_5)), (0, .ref (a 3)), (1, .int p1), (2, .int p2), (4, .int v4_5)]) hx hb dX1_mostValue_54 rfl hl (by decide) rfl (fun ls hl => ?_)
          refine lv_iinc (v := (v4_5 + (1 : Int32))) (lv' := [(4, .int (v4_5 + (1 : Int32))), (3, .int (if v3_5 < (S.2 3 v4_5.toNatClampNeg) then (S.2 3 v4_5.toNatClampNeg) else v3_5)), (0, .ref (a 3)), (1, .int p1), (2, .int p2)]) hx hb dX1_mostValue_55 hl (k := 4) rfl rfl (by decide) rfl (fun ls hl => ?_)
          refine lv_goto (tgt := 5) hx hb dX1_mostValue_58 (by decide) ?_
          exact ih (if v3_5 < (S.2 3 v4_5.toNatClampNeg) then (S.2 3 v4_5.toNatClampNeg) else v3_5) (v4_5 + (1 : Int32)) ls (lv_sub hl [2, 3, 4, 1, 0] rfl) hm
        · replace hm := (if_pos hc).symm.trans hm
          refine lv_aload_n hx hb dX1_mostValue_32 rfl (lv_at hl 0 rfl) ?_
          refine lv_iload hx hb dX1_mostValue_33 (lv_at hl 4 rfl) ?_
          refine lv_iload_n hx hb dX1_mostValue_35 rfl (lv_at hl 1 rfl) ?_
          refine lv_iload_n hx hb dX1_mostValue_36 rfl (lv_at hl 2 rfl) ?_
          obtain ⟨r2, hr2, hm⟩ := bd_ok hm
          refine callRV (rest := []) X hK hNW hml hP hl.1 (kX1_liesTurned l D a cI cZ S v4_5 p1 p2 r2 hr2) (cwV 3 X.2.2.1 gX1_mostValue_X1_liesTurned rfl rfl rfl (by decide +kernel) ⟨Nat.le_of_ble_eq_true rfl, Nat.le_of_ble_eq_true rfl⟩) (vC_X1 hK hP) rfl rfl (Nat.le_of_ble_eq_true rfl) dX1_mostValue_37 ⟨Nat.zero_le _, Nat.zero_le _⟩ ?_
          refine lv_if_eq (tgt := 55) hx hb dX1_mostValue_40 (by decide) (fun hc => ?_) (fun hc => ?_)
          · replace hm := (if_pos hc).symm.trans hm
            refine lv_iinc (v := (v4_5 + (1 : Int32))) (lv' := [(4, .int (v4_5 + (1 : Int32))), (0, .ref (a 3)), (1, .int p1), (2, .int p2), (3, .int v3_5)]) hx hb dX1_mostValue_55 hl (k := 4) rfl rfl (by decide) rfl (fun ls hl => ?_)
            refine lv_goto (tgt := 5) hx hb dX1_mostValue_58 (by decide) ?_
            exact ih v3_5 (v4_5 + (1 : Int32)) ls (lv_sub hl [1, 2, 3, 4, 0] rfl) hm
          · replace hm := (if_neg hc).symm.trans hm
            refine lv_iload_n hx hb dX1_mostValue_43 rfl (lv_at hl 3 rfl) ?_
            refine lv_aload_n hx hb dX1_mostValue_44 rfl (lv_at hl 0 rfl) ?_
            refine gC_X1_values X hK hP iX1 (List.mem_of_getElem? (i := 2) rfl) dX1_mostValue_45 ?_
            refine lv_iload hx hb dX1_mostValue_48 (lv_at hl 4 rfl) ?_
            obtain ⟨h1, hm⟩ := gd_ok hm
            refine rC_X1_values X hK hP h1 dX1_mostValue_50 ?_
            refine va_mmax hx hb (hml.trans hl.1.symm) X.2.2.2 (X.2.2.1 (Cond.methodLink RX1 36 Lib.Math.max.name) (List.mem_of_getElem? (i := 3) rfl)) (X.2.2.1 (Cond.static Lib.Math.max.name) (List.mem_of_getElem? (i := 4) rfl)) (X.2.2.1 (Cond.initialized "java/lang/Math") (List.mem_of_getElem? (i := 5) rfl)) (X.2.2.1 (Cond.code Lib.Math.max.name Lib.Math.max.code 2 (some .int)) (List.mem_of_getElem? (i := 6) rfl)) (Nat.le_of_ble_eq_true rfl) (Nat.le_of_ble_eq_true rfl) (Nat.zero_le _) (Nat.zero_le _) dX1_mostValue_51 ?_
            refine lv_istore_n (lv' := [(3, .int (if v3_5 < (S.2 3 v4_5.toNatClampNeg) then (S.2 3 v4_5.toNatClampNeg) else v3_5)), (0, .ref (a 3)), (1, .int p1), (2, .int p2), (4, .int v4_5)]) hx hb dX1_mostValue_54 rfl hl (by decide) rfl (fun ls hl => ?_)
            refine lv_iinc (v := (v4_5 + (1 : Int32))) (lv' := [(4, .int (v4_5 + (1 : Int32))), (3, .int (if v3_5 < (S.2 3 v4_5.toNatClampNeg) then (S.2 3 v4_5.toNatClampNeg) else v3_5)), (0, .ref (a 3)), (1, .int p1), (2, .int p2)]) hx hb dX1_mostValue_55 hl (k := 4) rfl rfl (by decide) rfl (fun ls hl => ?_)
            refine lv_goto (tgt := 5) hx hb dX1_mostValue_58 (by decide) ?_
            exact ih (if v3_5 < (S.2 3 v4_5.toNatClampNeg) then (S.2 3 v4_5.toNatClampNeg) else v3_5) (v4_5 + (1 : Int32)) ls (lv_sub hl [2, 3, 4, 1, 0] rfl) hm
  have kx5 : ∀ (v3_5 : Int32) (v4_5 : Int32) (ls : Array Slot), lv_has ls 5 [(0, .ref (a 3)), (1, .int p1), (2, .int p2), (3, .int v3_5), (4, .int v4_5)] → mX1_mostValue_X5  S p1 p2 v3_5 v4_5 = some res → W p l e rmX1_mostValue s m ([.ref (a 3), .int p1, .int p2] : List Value).toArray below meth c s.heap [] 0 0 (MQ below (vp_Si (fun r => r = res)) ([.ref (a 3), .int p1, .int p2] : List Value).toArray s 0 0 (fun _ => False)) (F0 m 61 ls []) := by
    intro v3_5 v4_5 ls hl hm
    unfold mX1_mostValue_X5 at hm
    refine lv_iload_n hx hb dX1_mostValue_61 rfl (lv_at hl 3 rfl) ?_
    exact endR X hr rfl hlocks hm dX1_mostValue_62
  have lp5 : ∀ (n : Nat) (v3_5 : Int32) (v4_5 : Int32) (ls : Array Slot), lv_has ls 5 [(0, .ref (a 3)), (1, .int p1), (2, .int p2), (3, .int v3_5), (4, .int v4_5)] → LPf (κ := Int32 → Int32 → Option (Int32)) (fun _ _ => none) (fun kk => mX1_mostValue_B5 kk (mX1_mostValue_X5  S p1 p2) S p1 p2) n v3_5 v4_5 = some res → W p l e rmX1_mostValue s m ([.ref (a 3), .int p1, .int p2] : List Value).toArray below meth c s.heap [] 0 0 (MQ below (vp_Si (fun r => r = res)) ([.ref (a 3), .int p1, .int p2] : List Value).toArray s 0 0 (fun _ => False)) (F0 m 5 ls []) := by
    intro n
    induction n with
    | zero =>
      intro v3_5 v4_5 ls hl hm
      exact (noS (show (none : Option (Int32)) = some res from hm)).elim
    | succ n ih =>
      intro v3_5 v4_5 ls hl hm
      exact kb5 _ _ ih kx5 v3_5 v4_5 ls hl hm
  exact lp5 FU (0 : Int32) (0 : Int32) ls (lv_sub hl [2, 3, 4, 1, 0] rfl) hm

def rmX1_firstOfValue : Room := { frames := 1, cells := 0, slots := 0, locals := 23 }
set_option maxHeartbeats 4000000 in
set_option maxRecDepth 100000 in
theorem kX1_firstOfValue (l : Launch) (D : va_G) (a : Nat → Nat) (cI cZ : ClassId) (S : ST) (p1 : Int32) (p2 : Int32) (p3 : Int32) (res : Int32) (hm : mX1_firstOfValue S p1 p2 p3 = some res) : Met l yX1_firstOfValue wsX1_firstOfValue rmX1_firstOfValue (va_Pc [.ref (a 3), .int p1, .int p2, .int p3] (PreR (wC a cI cZ S) D cI cZ)) (vp_Si (fun r => r = res)) 0 0 (fun _ => False) := by
  refine metB (cc := cX1_firstOfValue) (maxL := 5) (ret := (some .int)) (by decide) rfl (Nat.le_of_ble_eq_true rfl) ?_
  intro p e s m below meth c ls X hml hr hlocks hin hv hl
  replace X : CX p m c cX1_firstOfValue s ([.ref (a 3), .int p1, .int p2, .int p3] : List Value).toArray wsX1_firstOfValue RX1 := X
  obtain ⟨hP, hK, hNW⟩ := hv
  have hx := X.1
  have hb := X.2.1
  replace hl : lv_has ls 5 [(0, .ref (a 3)), (1, .int p1), (2, .int p2), (3, .int p3)] := hl
  have iX1 : ∀ w ∈ wsX10, w ∈ wsX1_firstOfValue := fun w h => List.mem_cons_of_mem _ (List.mem_append_right _ h)
  unfold mX1_firstOfValue at hm
  refine lv_iconst (v := (0 : Int32)) hx hb dX1_firstOfValue_0 (by decide) ?_
  refine lv_istore (lv' := [(4, .int (0 : Int32)), (0, .ref (a 3)), (1, .int p1), (2, .int p2), (3, .int p3)]) hx hb dX1_firstOfValue_1 hl (by decide) rfl (fun ls hl => ?_)
  have kb3 : ∀ (k x : Int32 → Option (Int32)), (∀ (v4_3 : Int32) (ls : Array Slot), lv_has ls 5 [(0, .ref (a 3)), (1, .int p1), (2, .int p2), (3, .int p3), (4, .int v4_3)] → k v4_3 = some res → W p l e rmX1_firstOfValue s m ([.ref (a 3), .int p1, .int p2, .int p3] : List Value).toArray below meth c s.heap [] 0 0 (MQ below (vp_Si (fun r => r = res)) ([.ref (a 3), .int p1, .int p2, .int p3] : List Value).toArray s 0 0 (fun _ => False)) (F0 m 3 ls [])) → (∀ (v4_3 : Int32) (ls : Array Slot), lv_has ls 5 [(0, .ref (a 3)), (1, .int p1), (2, .int p2), (3, .int p3), (4, .int v4_3)] → x v4_3 = some res → W p l e rmX1_firstOfValue s m ([.ref (a 3), .int p1, .int p2, .int p3] : List Value).toArray below meth c s.heap [] 0 0 (MQ below (vp_Si (fun r => r = res)) ([.ref (a 3), .int p1, .int p2, .int p3] : List Value).toArray s 0 0 (fun _ => False)) (F0 m 61 ls [])) → ∀ (v4_3 : Int32) (ls : Array Slot), lv_has ls 5 [(0, .ref (a 3)), (1, .int p1), (2, .int p2), (3, .int p3), (4, .int v4_3)] → mX1_firstOfValue_B3 k x S p1 p2 p3 v4_3 = some res → W p l e rmX1_firstOfValue s m ([.ref (a 3), .int p1, .int p2, .int p3] : List Value).toArray below meth c s.heap [] 0 0 (MQ below (vp_Si (fun r => r = res)) ([.ref (a 3), .int p1, .int p2, .int p3] : List Value).toArray s 0 0 (fun _ => False)) (F0 m 3 ls []) := by
    intro k x ih kxh v4_3 ls hl hm
    unfold mX1_firstOfValue_B3 at hm
    refine lv_iload hx hb dX1_firstOfValue_3 (lv_at hl 4 rfl) ?_
    refine lv_aload_n hx hb dX1_firstOfValue_5 rfl (lv_at hl 0 rfl) ?_
    refine gC_X1_count X hK hP iX1 (List.mem_of_getElem? (i := 1) rfl) dX1_firstOfValue_6 ?_
    refine lv_icmp_ge (tgt := 61) hx hb dX1_firstOfValue_9 (by decide) (fun hc => ?_) (fun hc => ?_)
    · replace hm := (if_pos hc).symm.trans hm
      exact kxh v4_3 ls (lv_sub hl [0, 1, 2, 3, 4] rfl) hm
    · replace hm := (if_neg hc).symm.trans hm
      refine lv_iload hx hb dX1_firstOfValue_12 (lv_at hl 4 rfl) ?_
      refine lv_bipush (v := (8 : Int32)) hx hb dX1_firstOfValue_14 (by decide) ?_
      refine lv_icmp_ge (tgt := 61) hx hb dX1_firstOfValue_16 (by decide) (fun hc => ?_) (fun hc => ?_)
      · replace hm := (if_pos hc).symm.trans hm
        exact kxh v4_3 ls (lv_sub hl [0, 1, 2, 3, 4] rfl) hm
      · replace hm := (if_neg hc).symm.trans hm
        refine lv_aload_n hx hb dX1_firstOfValue_19 rfl (lv_at hl 0 rfl) ?_
        refine gC_X1_values X hK hP iX1 (List.mem_of_getElem? (i := 2) rfl) dX1_firstOfValue_20 ?_
        refine lv_iload hx hb dX1_firstOfValue_23 (lv_at hl 4 rfl) ?_
        obtain ⟨h1, hm⟩ := gd_ok hm
        refine rC_X1_values X hK hP h1 dX1_firstOfValue_25 ?_
        refine lv_iload_n hx hb dX1_firstOfValue_26 rfl (lv_at hl 3 rfl) ?_
        refine lv_icmp_ne (tgt := 55) hx hb dX1_firstOfValue_27 (by decide) (fun hc => ?_) (fun hc => ?_)
        · replace hm := (if_neg hc).symm.trans hm
          refine lv_iinc (v := (v4_3 + (1 : Int32))) (lv' := [(4, .int (v4_3 + (1 : Int32))), (0, .ref (a 3)), (1, .int p1), (2, .int p2), (3, .int p3)]) hx hb dX1_firstOfValue_55 hl (k := 4) rfl rfl (by decide) rfl (fun ls hl => ?_)
          refine lv_goto (tgt := 3) hx hb dX1_firstOfValue_58 (by decide) ?_
          exact ih (v4_3 + (1 : Int32)) ls (lv_sub hl [1, 2, 3, 4, 0] rfl) hm
        · replace hm := (if_pos hc).symm.trans hm
          refine lv_aload_n hx hb dX1_firstOfValue_30 rfl (lv_at hl 0 rfl) ?_
          refine lv_iload hx hb dX1_firstOfValue_31 (lv_at hl 4 rfl) ?_
          refine lv_iload_n hx hb dX1_firstOfValue_33 rfl (lv_at hl 1 rfl) ?_
          refine lv_iload_n hx hb dX1_firstOfValue_34 rfl (lv_at hl 2 rfl) ?_
          obtain ⟨r1, hr1, hm⟩ := bd_ok hm
          refine callRV (rest := []) X hK hNW hml hP hl.1 (kX1_lies l D a cI cZ S v4_3 p1 p2 r1 hr1) (cwV 3 X.2.2.1 gX1_firstOfValue_X1_lies rfl rfl rfl (by decide +kernel) ⟨Nat.le_of_ble_eq_true rfl, Nat.le_of_ble_eq_true rfl⟩) (vC_X1 hK hP) rfl rfl (Nat.le_of_ble_eq_true rfl) dX1_firstOfValue_35 ⟨Nat.zero_le _, Nat.zero_le _⟩ ?_
          refine lv_if_ne (tgt := 52) hx hb dX1_firstOfValue_38 (by decide) (fun hc => ?_) (fun hc => ?_)
          · replace hm := (if_neg hc).symm.trans hm
            refine lv_iload hx hb dX1_firstOfValue_52 (lv_at hl 4 rfl) ?_
            exact endR X hr rfl hlocks hm dX1_firstOfValue_54
          · replace hm := (if_pos hc).symm.trans hm
            refine lv_aload_n hx hb dX1_firstOfValue_41 rfl (lv_at hl 0 rfl) ?_
            refine lv_iload hx hb dX1_firstOfValue_42 (lv_at hl 4 rfl) ?_
            refine lv_iload_n hx hb dX1_firstOfValue_44 rfl (lv_at hl 1 rfl) ?_
            refine lv_iload_n hx hb dX1_firstOfValue_45 rfl (lv_at hl 2 rfl) ?_
            obtain ⟨r2, hr2, hm⟩ := bd_ok hm
            refine callRV (rest := []) X hK hNW hml hP hl.1 (kX1_liesTurned l D a cI cZ S v4_3 p1 p2 r2 hr2) (cwV 3 X.2.2.1 gX1_firstOfValue_X1_liesTurned rfl rfl rfl (by decide +kernel) ⟨Nat.le_of_ble_eq_true rfl, Nat.le_of_ble_eq_true rfl⟩) (vC_X1 hK hP) rfl rfl (Nat.le_of_ble_eq_true rfl) dX1_firstOfValue_46 ⟨Nat.zero_le _, Nat.zero_le _⟩ ?_
            refine lv_if_eq (tgt := 55) hx hb dX1_firstOfValue_49 (by decide) (fun hc => ?_) (fun hc => ?_)
            · replace hm := (if_pos hc).symm.trans hm
              refine lv_iinc (v := (v4_3 + (1 : Int32))) (lv' := [(4, .int (v4_3 + (1 : Int32))), (0, .ref (a 3)), (1, .int p1), (2, .int p2), (3, .int p3)]) hx hb dX1_firstOfValue_55 hl (k := 4) rfl rfl (by decide) rfl (fun ls hl => ?_)
              refine lv_goto (tgt := 3) hx hb dX1_firstOfValue_58 (by decide) ?_
              exact ih (v4_3 + (1 : Int32)) ls (lv_sub hl [1, 2, 3, 4, 0] rfl) hm
            · replace hm := (if_neg hc).symm.trans hm
              refine lv_iload hx hb dX1_firstOfValue_52 (lv_at hl 4 rfl) ?_
              exact endR X hr rfl hlocks hm dX1_firstOfValue_54
  have kx3 : ∀ (v4_3 : Int32) (ls : Array Slot), lv_has ls 5 [(0, .ref (a 3)), (1, .int p1), (2, .int p2), (3, .int p3), (4, .int v4_3)] → mX1_firstOfValue_X3  S p1 p2 p3 v4_3 = some res → W p l e rmX1_firstOfValue s m ([.ref (a 3), .int p1, .int p2, .int p3] : List Value).toArray below meth c s.heap [] 0 0 (MQ below (vp_Si (fun r => r = res)) ([.ref (a 3), .int p1, .int p2, .int p3] : List Value).toArray s 0 0 (fun _ => False)) (F0 m 61 ls []) := by
    intro v4_3 ls hl hm
    unfold mX1_firstOfValue_X3 at hm
    refine lv_iconst (v := (-1 : Int32)) hx hb dX1_firstOfValue_61 (by decide) ?_
    exact endR X hr rfl hlocks hm dX1_firstOfValue_62
  have lp3 : ∀ (n : Nat) (v4_3 : Int32) (ls : Array Slot), lv_has ls 5 [(0, .ref (a 3)), (1, .int p1), (2, .int p2), (3, .int p3), (4, .int v4_3)] → LPf (κ := Int32 → Option (Int32)) (fun _ => none) (fun kk => mX1_firstOfValue_B3 kk (mX1_firstOfValue_X3  S p1 p2 p3) S p1 p2 p3) n v4_3 = some res → W p l e rmX1_firstOfValue s m ([.ref (a 3), .int p1, .int p2, .int p3] : List Value).toArray below meth c s.heap [] 0 0 (MQ below (vp_Si (fun r => r = res)) ([.ref (a 3), .int p1, .int p2, .int p3] : List Value).toArray s 0 0 (fun _ => False)) (F0 m 3 ls []) := by
    intro n
    induction n with
    | zero =>
      intro v4_3 ls hl hm
      exact (noS (show (none : Option (Int32)) = some res from hm)).elim
    | succ n ih =>
      intro v4_3 ls hl hm
      exact kb3 _ _ ih kx3 v4_3 ls hl hm
  exact lp3 FU (0 : Int32) ls (lv_sub hl [1, 2, 3, 4, 0] rfl) hm
