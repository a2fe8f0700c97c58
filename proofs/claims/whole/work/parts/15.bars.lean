/-! Mirrors and contracts. By walk.py. -/
def rmX0_forgetCosts : Room := { frames := 0, cells := 0, slots := 0, locals := 0 }
set_option maxHeartbeats 4000000 in
set_option maxRecDepth 100000 in
theorem kX0_forgetCosts (l : Launch) (D : va_G) (a : Nat → Nat) (cI cZ : ClassId) (hA : AP 24 a) (S : ST) (sz : Nat)  (res : ST) (hm : mX0_forgetCosts S  = some res) : Met l yX0_forgetCosts wsX0_forgetCosts rmX0_forgetCosts (va_Pc [.ref (a 19)] (PreW (wC a cI cZ S) D cI cZ sz)) (va_Qv (fun T : ST => T = res) (PostW (wC a cI cZ) D cI cZ) (AC 24 a sz)) 0 0 (AC 24 a sz) := by
  refine metB (cc := cX0_forgetCosts) (maxL := 1) (ret := none) (by decide) rfl (Nat.le_of_ble_eq_true rfl) ?_
  intro p e s m below meth c ls X hml hr hlocks hin hv hl
  replace X : CX p m c cX0_forgetCosts s ([.ref (a 19)] : List Value).toArray wsX0_forgetCosts RX0 := X
  obtain ⟨hsz, hP, hK, hNW⟩ := hv
  subst hsz
  have hS : va_S (AC 24 a s.heap.size) s.heap s.heap [] := va_S.rf
  have hx := X.1
  have hb := X.2.1
  replace hl : lv_has ls 1 [(0, .ref (a 19))] := hl
  have iX0 : ∀ w ∈ wsX00, w ∈ wsX0_forgetCosts := fun w h => List.mem_cons_of_mem _ (List.mem_append_right _ h)
  suffices kS : ∀ (H : Heap) (locs : List Loc), va_P D vwCl (wC a cI cZ S) H → va_S (AC 24 a s.heap.size) s.heap H locs → W p l e rmX0_forgetCosts s m ([.ref (a 19)] : List Value).toArray below meth c H locs 0 0 (MQ below (va_Qv (fun T : ST => T = res) (PostW (wC a cI cZ) D cI cZ) (AC 24 a s.heap.size)) ([.ref (a 19)] : List Value).toArray s 0 0 (AC 24 a s.heap.size)) (F0 m 0 ls []) by exact kS s.heap [] hP hS
  intro H locs hP hS
  unfold mX0_forgetCosts at hm
  refine lv_aload_n hx hb dX0_forgetCosts_0 rfl (lv_at hl 0 rfl) ?_
  refine lv_iconst (v := (1 : Int32)) hx hb dX0_forgetCosts_1 (by decide) ?_
  refine pC_X0_costsStale X hK hA hP hS iX0 (List.mem_of_getElem? (i := 1) rfl) ⟨rfl, rfl⟩ dX0_forgetCosts_2 (fun H locs hP hS => ?_)
  refine lv_aload_n hx hb dX0_forgetCosts_5 rfl (lv_at hl 0 rfl) ?_
  refine lv_iconst (v := (1 : Int32)) hx hb dX0_forgetCosts_6 (by decide) ?_
  refine pC_X0_barsStale X hK hA hP hS iX0 (List.mem_of_getElem? (i := 2) rfl) ⟨rfl, rfl⟩ dX0_forgetCosts_7 (fun H locs hP hS => ?_)
  exact endV X hK hr hlocks hm hP hS dX0_forgetCosts_10

def rmX0_forgetBars : Room := { frames := 0, cells := 0, slots := 0, locals := 0 }
set_option maxHeartbeats 4000000 in
set_option maxRecDepth 100000 in
theorem kX0_forgetBars (l : Launch) (D : va_G) (a : Nat → Nat) (cI cZ : ClassId) (hA : AP 24 a) (S : ST) (sz : Nat)  (res : ST) (hm : mX0_forgetBars S  = some res) : Met l yX0_forgetBars wsX0_forgetBars rmX0_forgetBars (va_Pc [.ref (a 19)] (PreW (wC a cI cZ S) D cI cZ sz)) (va_Qv (fun T : ST => T = res) (PostW (wC a cI cZ) D cI cZ) (AC 24 a sz)) 0 0 (AC 24 a sz) := by
  refine metB (cc := cX0_forgetBars) (maxL := 1) (ret := none) (by decide) rfl (Nat.le_of_ble_eq_true rfl) ?_
  intro p e s m below meth c ls X hml hr hlocks hin hv hl
  replace X : CX p m c cX0_forgetBars s ([.ref (a 19)] : List Value).toArray wsX0_forgetBars RX0 := X
  obtain ⟨hsz, hP, hK, hNW⟩ := hv
  subst hsz
  have hS : va_S (AC 24 a s.heap.size) s.heap s.heap [] := va_S.rf
  have hx := X.1
  have hb := X.2.1
  replace hl : lv_has ls 1 [(0, .ref (a 19))] := hl
  have iX0 : ∀ w ∈ wsX00, w ∈ wsX0_forgetBars := fun w h => List.mem_cons_of_mem _ (List.mem_append_right _ h)
  suffices kS : ∀ (H : Heap) (locs : List Loc), va_P D vwCl (wC a cI cZ S) H → va_S (AC 24 a s.heap.size) s.heap H locs → W p l e rmX0_forgetBars s m ([.ref (a 19)] : List Value).toArray below meth c H locs 0 0 (MQ below (va_Qv (fun T : ST => T = res) (PostW (wC a cI cZ) D cI cZ) (AC 24 a s.heap.size)) ([.ref (a 19)] : List Value).toArray s 0 0 (AC 24 a s.heap.size)) (F0 m 0 ls []) by exact kS s.heap [] hP hS
  intro H locs hP hS
  unfold mX0_forgetBars at hm
  refine lv_aload_n hx hb dX0_forgetBars_0 rfl (lv_at hl 0 rfl) ?_
  refine lv_iconst (v := (1 : Int32)) hx hb dX0_forgetBars_1 (by decide) ?_
  refine pC_X0_barsStale X hK hA hP hS iX0 (List.mem_of_getElem? (i := 1) rfl) ⟨rfl, rfl⟩ dX0_forgetBars_2 (fun H locs hP hS => ?_)
  exact endV X hK hr hlocks hm hP hS dX0_forgetBars_5

def rmJ7_fill_53178 : Room := { frames := 0, cells := 0, slots := 0, locals := 0 }
set_option maxHeartbeats 4000000 in
set_option maxRecDepth 100000 in
theorem kJ7_fill_53178 (l : Launch) (D : va_G) (a : Nat → Nat) (cI cZ : ClassId) (hA : AP 24 a) (S : ST) (sz : Nat) (p1 : Int32) (res : ST) (hm : mJ7_fill_53178 S p1 = some res) : Met l yJ7_fill_53178 wsJ7_fill_53178 rmJ7_fill_53178 (va_Pc [.ref (a 21), .int p1] (PreW (wC a cI cZ S) D cI cZ sz)) (va_Qv (fun T : ST => T = res) (PostW (wC a cI cZ) D cI cZ) (AC 24 a sz)) 0 0 (AC 24 a sz) := by
  refine metB (cc := cJ7_fill_53178) (maxL := 4) (ret := none) (by decide) rfl (Nat.le_of_ble_eq_true rfl) ?_
  intro p e s m below meth c ls X hml hr hlocks hin hv hl
  replace X : CX p m c cJ7_fill_53178 s ([.ref (a 21), .int p1] : List Value).toArray wsJ7_fill_53178 RJ7 := X
  obtain ⟨hsz, hP, hK, hNW⟩ := hv
  subst hsz
  have hS : va_S (AC 24 a s.heap.size) s.heap s.heap [] := va_S.rf
  have hx := X.1
  have hb := X.2.1
  replace hl : lv_has ls 4 [(0, .ref (a 21)), (1, .int p1)] := hl
  suffices kS : ∀ (H : Heap) (locs : List Loc), va_P D vwCl (wC a cI cZ S) H → va_S (AC 24 a s.heap.size) s.heap H locs → W p l e rmJ7_fill_53178 s m ([.ref (a 21), .int p1] : List Value).toArray below meth c H locs 0 0 (MQ below (va_Qv (fun T : ST => T = res) (PostW (wC a cI cZ) D cI cZ) (AC 24 a s.heap.size)) ([.ref (a 21), .int p1] : List Value).toArray s 0 0 (AC 24 a s.heap.size)) (F0 m 0 ls []) by exact kS s.heap [] hP hS
  intro H locs hP hS
  unfold mJ7_fill_53178 at hm
  refine lv_iconst (v := (0 : Int32)) hx hb dJ7_fill_53178_0 (by decide) ?_
  refine lv_istore_n (lv' := [(2, .int (0 : Int32)), (0, .ref (a 21)), (1, .int p1)]) hx hb dJ7_fill_53178_1 rfl hl (by decide) rfl (fun ls hl => ?_)
  refine lv_aload_n hx hb dJ7_fill_53178_2 rfl (lv_at hl 1 rfl) ?_
  refine nC_X0_leastCosts X hK hP dJ7_fill_53178_3 ?_
  refine lv_istore_n (lv' := [(3, .int (4096 : Int32)), (2, .int (0 : Int32)), (0, .ref (a 21)), (1, .int p1)]) hx hb dJ7_fill_53178_4 rfl hl (by decide) rfl (fun ls hl => ?_)
  have kl5 : ∀ (v3_5 : Int32) (S_5 : ST) (H : Heap) (locs : List Loc) (v2_5 : Int32) (ls : Array Slot), va_P D vwCl (wC a cI cZ S_5) H → va_S (AC 24 a s.heap.size) s.heap H locs → lv_has ls 4 [(0, .ref (a 21)), (1, .int p1), (2, .int v2_5), (3, .int v3_5)] → LPf (κ := ST → Int32 → Option (ST)) (fun _ _ => none) (fun kk => mJ7_fill_53178_B5 kk (mJ7_fill_53178_X5  p1 v3_5) p1 v3_5) FU S_5 v2_5 = some res → W p l e rmJ7_fill_53178 s m ([.ref (a 21), .int p1] : List Value).toArray below meth c H locs 0 0 (MQ below (va_Qv (fun T : ST => T = res) (PostW (wC a cI cZ) D cI cZ) (AC 24 a s.heap.size)) ([.ref (a 21), .int p1] : List Value).toArray s 0 0 (AC 24 a s.heap.size)) (F0 m 5 ls []) := by
    intro v3_5 S_5 H locs v2_5 ls hP hS hl hm
    have kb5 : ∀ (k x : ST → Int32 → Option (ST)), (∀ (S_5 : ST) (H : Heap) (locs : List Loc) (v2_5 : Int32) (ls : Array Slot), va_P D vwCl (wC a cI cZ S_5) H → va_S (AC 24 a s.heap.size) s.heap H locs → lv_has ls 4 [(0, .ref (a 21)), (1, .int p1), (2, .int v2_5), (3, .int v3_5)] → k S_5 v2_5 = some res → W p l e rmJ7_fill_53178 s m ([.ref (a 21), .int p1] : List Value).toArray below meth c H locs 0 0 (MQ below (va_Qv (fun T : ST => T = res) (PostW (wC a cI cZ) D cI cZ) (AC 24 a s.heap.size)) ([.ref (a 21), .int p1] : List Value).toArray s 0 0 (AC 24 a s.heap.size)) (F0 m 5 ls [])) → (∀ (S_5 : ST) (H : Heap) (locs : List Loc) (v2_5 : Int32) (ls : Array Slot), va_P D vwCl (wC a cI cZ S_5) H → va_S (AC 24 a s.heap.size) s.heap H locs → lv_has ls 4 [(0, .ref (a 21)), (1, .int p1), (2, .int v2_5), (3, .int v3_5)] → x S_5 v2_5 = some res → W p l e rmJ7_fill_53178 s m ([.ref (a 21), .int p1] : List Value).toArray below meth c H locs 0 0 (MQ below (va_Qv (fun T : ST => T = res) (PostW (wC a cI cZ) D cI cZ) (AC 24 a s.heap.size)) ([.ref (a 21), .int p1] : List Value).toArray s 0 0 (AC 24 a s.heap.size)) (F0 m 20 ls [])) → ∀ (S_5 : ST) (H : Heap) (locs : List Loc) (v2_5 : Int32) (ls : Array Slot), va_P D vwCl (wC a cI cZ S_5) H → va_S (AC 24 a s.heap.size) s.heap H locs → lv_has ls 4 [(0, .ref (a 21)), (1, .int p1), (2, .int v2_5), (3, .int v3_5)] → mJ7_fill_53178_B5 k x p1 v3_5 S_5 v2_5 = some res → W p l e rmJ7_fill_53178 s m ([.ref (a 21), .int p1] : List Value).toArray below meth c H locs 0 0 (MQ below (va_Qv (fun T : ST => T = res) (PostW (wC a cI cZ) D cI cZ) (AC 24 a s.heap.size)) ([.ref (a 21), .int p1] : List Value).toArray s 0 0 (AC 24 a s.heap.size)) (F0 m 5 ls []) := by
      intro k x ih kxh S_5 H locs v2_5 ls hP hS hl hm
      unfold mJ7_fill_53178_B5 at hm
      refine lv_iload_n hx hb dJ7_fill_53178_5 rfl (lv_at hl 2 rfl) ?_
      refine lv_iload_n hx hb dJ7_fill_53178_6 rfl (lv_at hl 3 rfl) ?_
      refine lv_icmp_ge (tgt := 20) hx hb dJ7_fill_53178_7 (by decide) (fun hc => ?_) (fun hc => ?_)
      · replace hm := (if_pos hc).symm.trans hm
        exact kxh S_5 H locs v2_5 ls hP hS (lv_sub hl [0, 1, 2, 3] rfl) hm
      · replace hm := (if_neg hc).symm.trans hm
        refine lv_aload_n hx hb dJ7_fill_53178_10 rfl (lv_at hl 0 rfl) ?_
        refine lv_iload_n hx hb dJ7_fill_53178_11 rfl (lv_at hl 2 rfl) ?_
        refine lv_iload_n hx hb dJ7_fill_53178_12 rfl (lv_at hl 1 rfl) ?_
        obtain ⟨h1, hm⟩ := gd_ok hm
        refine sC_X0_leastCosts X hK hA hP hS h1 dJ7_fill_53178_13 (fun H locs hP hS => ?_)
        refine lv_iinc (v := (v2_5 + (1 : Int32))) (lv' := [(2, .int (v2_5 + (1 : Int32))), (0, .ref (a 21)), (1, .int p1), (3, .int v3_5)]) hx hb dJ7_fill_53178_14 hl (k := 2) rfl rfl (by decide) rfl (fun ls hl => ?_)
        refine lv_goto (tgt := 5) hx hb dJ7_fill_53178_17 (by decide) ?_
        exact ih (sG S_5 14 v2_5 p1) H locs (v2_5 + (1 : Int32)) ls hP hS (lv_sub hl [1, 2, 0, 3] rfl) hm
    have kx5 : ∀ (S_5 : ST) (H : Heap) (locs : List Loc) (v2_5 : Int32) (ls : Array Slot), va_P D vwCl (wC a cI cZ S_5) H → va_S (AC 24 a s.heap.size) s.heap H locs → lv_has ls 4 [(0, .ref (a 21)), (1, .int p1), (2, .int v2_5), (3, .int v3_5)] → mJ7_fill_53178_X5  p1 v3_5 S_5 v2_5 = some res → W p l e rmJ7_fill_53178 s m ([.ref (a 21), .int p1] : List Value).toArray below meth c H locs 0 0 (MQ below (va_Qv (fun T : ST => T = res) (PostW (wC a cI cZ) D cI cZ) (AC 24 a s.heap.size)) ([.ref (a 21), .int p1] : List Value).toArray s 0 0 (AC 24 a s.heap.size)) (F0 m 20 ls []) := by
      intro S_5 H locs v2_5 ls hP hS hl hm
      unfold mJ7_fill_53178_X5 at hm
      exact endV X hK hr hlocks hm hP hS dJ7_fill_53178_20
    have lp5 : ∀ (n : Nat) (S_5 : ST) (H : Heap) (locs : List Loc) (v2_5 : Int32) (ls : Array Slot), va_P D vwCl (wC a cI cZ S_5) H → va_S (AC 24 a s.heap.size) s.heap H locs → lv_has ls 4 [(0, .ref (a 21)), (1, .int p1), (2, .int v2_5), (3, .int v3_5)] → LPf (κ := ST → Int32 → Option (ST)) (fun _ _ => none) (fun kk => mJ7_fill_53178_B5 kk (mJ7_fill_53178_X5  p1 v3_5) p1 v3_5) n S_5 v2_5 = some res → W p l e rmJ7_fill_53178 s m ([.ref (a 21), .int p1] : List Value).toArray below meth c H locs 0 0 (MQ below (va_Qv (fun T : ST => T = res) (PostW (wC a cI cZ) D cI cZ) (AC 24 a s.heap.size)) ([.ref (a 21), .int p1] : List Value).toArray s 0 0 (AC 24 a s.heap.size)) (F0 m 5 ls []) := by
      intro n
      induction n with
      | zero =>
        intro S_5 H locs v2_5 ls hP hS hl hm
        exact (noS (show (none : Option (ST)) = some res from hm)).elim
      | succ n ih =>
        intro S_5 H locs v2_5 ls hP hS hl hm
        exact kb5 _ _ ih kx5 S_5 H locs v2_5 ls hP hS hl hm
    exact lp5 FU S_5 H locs v2_5 ls hP hS hl hm
  exact kl5 (4096 : Int32) S H locs (0 : Int32) ls hP hS (lv_sub hl [2, 3, 1, 0] rfl) hm

def rmX0_code : Room := { frames := 0, cells := 0, slots := 0, locals := 0 }
set_option maxHeartbeats 4000000 in
set_option maxRecDepth 100000 in
theorem kX0_code (l : Launch) (p0 : Int32) (p1 : Int32) (p2 : Int32) (p3 : Int32) (res : Int32) (hm : mX0_code  p0 p1 p2 p3 = some res) : Met l yX0_code wsX0_code rmX0_code (va_Pc [.int p0, .int p1, .int p2, .int p3] (fun _ => True)) (vp_Si (fun r => r = res)) 0 0 (fun _ => False) := by
  refine metB (cc := cX0_code) (maxL := 4) (ret := (some .int)) (by decide) rfl (Nat.le_of_ble_eq_true rfl) ?_
  intro p e s m below meth c ls X hml hr hlocks hin hv hl
  replace X : CX p m c cX0_code s ([.int p0, .int p1, .int p2, .int p3] : List Value).toArray wsX0_code RX0 := X
  have hx := X.1
  have hb := X.2.1
  replace hl : lv_has ls 4 [(0, .int p0), (1, .int p1), (2, .int p2), (3, .int p3)] := hl
  unfold mX0_code at hm
  refine lv_iload_n hx hb dX0_code_0 rfl (lv_at hl 0 rfl) ?_
  refine lv_iconst (v := (3 : Int32)) hx hb dX0_code_1 (by decide) ?_
  refine lv_ishl hx hb dX0_code_2 ?_
  refine lv_iload_n hx hb dX0_code_3 rfl (lv_at hl 1 rfl) ?_
  refine lv_ior hx hb dX0_code_4 ?_
  refine lv_iconst (v := (3 : Int32)) hx hb dX0_code_5 (by decide) ?_
  refine lv_ishl hx hb dX0_code_6 ?_
  refine lv_iload_n hx hb dX0_code_7 rfl (lv_at hl 2 rfl) ?_
  refine lv_ior hx hb dX0_code_8 ?_
  refine lv_iconst (v := (3 : Int32)) hx hb dX0_code_9 (by decide) ?_
  refine lv_ishl hx hb dX0_code_10 ?_
  refine lv_iload_n hx hb dX0_code_11 rfl (lv_at hl 3 rfl) ?_
  refine lv_ior hx hb dX0_code_12 ?_
  exact endR X hr rfl hlocks hm dX0_code_13

def rmX0_numberOf : Room := { frames := 0, cells := 0, slots := 0, locals := 0 }
set_option maxHeartbeats 4000000 in
set_option maxRecDepth 100000 in
theorem kX0_numberOf (l : Launch) (p0 : Int32) (p1 : Int32) (res : Int32) (hm : mX0_numberOf  p0 p1 = some res) : Met l yX0_numberOf wsX0_numberOf rmX0_numberOf (va_Pc [.int p0, .int p1] (fun _ => True)) (vp_Si (fun r => r = res)) 0 0 (fun _ => False) := by
  refine metB (cc := cX0_numberOf) (maxL := 2) (ret := (some .int)) (by decide) rfl (Nat.le_of_ble_eq_true rfl) ?_
  intro p e s m below meth c ls X hml hr hlocks hin hv hl
  replace X : CX p m c cX0_numberOf s ([.int p0, .int p1] : List Value).toArray wsX0_numberOf RX0 := X
  have hx := X.1
  have hb := X.2.1
  replace hl : lv_has ls 2 [(0, .int p0), (1, .int p1)] := hl
  unfold mX0_numberOf at hm
  refine lv_iload_n hx hb dX0_numberOf_0 rfl (lv_at hl 0 rfl) ?_
  refine lv_iconst (v := (3 : Int32)) hx hb dX0_numberOf_1 (by decide) ?_
  refine lv_iload_n hx hb dX0_numberOf_2 rfl (lv_at hl 1 rfl) ?_
  refine lv_isub hx hb dX0_numberOf_3 ?_
  refine lv_iconst (v := (3 : Int32)) hx hb dX0_numberOf_4 (by decide) ?_
  refine lv_imul hx hb dX0_numberOf_5 ?_
  refine lv_ishr hx hb dX0_numberOf_6 ?_
  refine lv_bipush (v := (7 : Int32)) hx hb dX0_numberOf_7 (by decide) ?_
  refine lv_iand hx hb dX0_numberOf_9 ?_
  exact endR X hr rfl hlocks hm dX0_numberOf_10

def rmX0_lengthWanted : Room := { frames := 1, cells := 0, slots := 0, locals := 21 }
set_option maxHeartbeats 4000000 in
set_option maxRecDepth 100000 in
theorem kX0_lengthWanted (l : Launch) (D : va_G) (a : Nat → Nat) (cI cZ : ClassId) (S : ST) (p1 : Int32) (res : Int32) (hm : mX0_lengthWanted S p1 = some res) : Met l yX0_lengthWanted wsX0_lengthWanted rmX0_lengthWanted (va_Pc [.ref (a 19), .int p1] (PreR (wC a cI cZ S) D cI cZ)) (vp_Si (fun r => r = res)) 0 0 (fun _ => False) := by
  refine metB (cc := cX0_lengthWanted) (maxL := 4) (ret := (some .int)) (by decide) rfl (Nat.le_of_ble_eq_true rfl) ?_
  intro p e s m below meth c ls X hml hr hlocks hin hv hl
  replace X : CX p m c cX0_lengthWanted s ([.ref (a 19), .int p1] : List Value).toArray wsX0_lengthWanted RX0 := X
  obtain ⟨hP, hK, hNW⟩ := hv
  have hx := X.1
  have hb := X.2.1
  replace hl : lv_has ls 4 [(0, .ref (a 19)), (1, .int p1)] := hl
  have iX0 : ∀ w ∈ wsX00, w ∈ wsX0_lengthWanted := fun w h => List.mem_cons_of_mem _ (List.mem_append_left _ (List.mem_append_right _ h))
  have iX3 : ∀ w ∈ wsX30, w ∈ wsX0_lengthWanted := fun w h => List.mem_cons_of_mem _ (List.mem_append_right _ h)
  unfold mX0_lengthWanted at hm
  refine lv_aload_n hx hb dX0_lengthWanted_0 rfl (lv_at hl 0 rfl) ?_
  refine gC_X0_rack X hK hP iX0 (List.mem_of_getElem? (i := 1) rfl) dX0_lengthWanted_1 ?_
  refine gC_X3_blade X hK hP iX3 (List.mem_of_getElem? (i := 2) rfl) dX0_lengthWanted_4 ?_
  refine lv_ineg hx hb dX0_lengthWanted_7 ?_
  refine lv_istore_n (lv' := [(2, .int (-(S.1 14))), (0, .ref (a 19)), (1, .int p1)]) hx hb dX0_lengthWanted_8 rfl hl (by decide) rfl (fun ls hl => ?_)
  refine lv_iconst (v := (0 : Int32)) hx hb dX0_lengthWanted_9 (by decide) ?_
  refine lv_istore_n (lv' := [(3, .int (0 : Int32)), (2, .int (-(S.1 14))), (0, .ref (a 19)), (1, .int p1)]) hx hb dX0_lengthWanted_10 rfl hl (by decide) rfl (fun ls hl => ?_)
  have kb11 : ∀ (k x : Int32 → Int32 → Option (Int32)), (∀ (v2_11 : Int32) (v3_11 : Int32) (ls : Array Slot), lv_has ls 4 [(0, .ref (a 19)), (1, .int p1), (2, .int v2_11), (3, .int v3_11)] → k v2_11 v3_11 = some res → W p l e rmX0_lengthWanted s m ([.ref (a 19), .int p1] : List Value).toArray below meth c s.heap [] 0 0 (MQ below (vp_Si (fun r => r = res)) ([.ref (a 19), .int p1] : List Value).toArray s 0 0 (fun _ => False)) (F0 m 11 ls [])) → (∀ (v2_11 : Int32) (v3_11 : Int32) (ls : Array Slot), lv_has ls 4 [(0, .ref (a 19)), (1, .int p1), (2, .int v2_11), (3, .int v3_11)] → x v2_11 v3_11 = some res → W p l e rmX0_lengthWanted s m ([.ref (a 19), .int p1] : List Value).toArray below meth c s.heap [] 0 0 (MQ below (vp_Si (fun r => r = res)) ([.ref (a 19), .int p1] : List Value).toArray s 0 0 (fun _ => False)) (F0 m 59 ls [])) → ∀ (v2_11 : Int32) (v3_11 : Int32) (ls : Array Slot), lv_has ls 4 [(0, .ref (a 19)), (1, .int p1), (2, .int v2_11), (3, .int v3_11)] → mX0_lengthWanted_B11 k x S p1 v2_11 v3_11 = some res → W p l e rmX0_lengthWanted s m ([.ref (a 19), .int p1] : List Value).toArray below meth c s.heap [] 0 0 (MQ below (vp_Si (fun r => r = res)) ([.ref (a 19), .int p1] : List Value).toArray s 0 0 (fun _ => False)) (F0 m 11 ls []) := by
    intro k x ih kxh v2_11 v3_11 ls hl hm
    unfold mX0_lengthWanted_B11 at hm
    refine lv_iload_n hx hb dX0_lengthWanted_11 rfl (lv_at hl 3 rfl) ?_
    refine lv_aload_n hx hb dX0_lengthWanted_12 rfl (lv_at hl 0 rfl) ?_
    refine gC_X0_rack X hK hP iX0 (List.mem_of_getElem? (i := 1) rfl) dX0_lengthWanted_13 ?_
    refine gC_X3_orders X hK hP iX3 (List.mem_of_getElem? (i := 3) rfl) dX0_lengthWanted_16 ?_
    refine lv_icmp_ge (tgt := 59) hx hb dX0_lengthWanted_19 (by decide) (fun hc => ?_) (fun hc => ?_)
    · replace hm := (if_pos hc).symm.trans hm
      exact kxh v2_11 v3_11 ls (lv_sub hl [0, 1, 2, 3] rfl) hm
    · replace hm := (if_neg hc).symm.trans hm
      refine lv_iload_n hx hb dX0_lengthWanted_22 rfl (lv_at hl 3 rfl) ?_
      refine lv_iconst (v := (4 : Int32)) hx hb dX0_lengthWanted_23 (by decide) ?_
      refine lv_icmp_ge (tgt := 59) hx hb dX0_lengthWanted_24 (by decide) (fun hc => ?_) (fun hc => ?_)
      · replace hm := (if_pos hc).symm.trans hm
        exact kxh v2_11 v3_11 ls (lv_sub hl [0, 1, 2, 3] rfl) hm
      · replace hm := (if_neg hc).symm.trans hm
        refine lv_iload_n hx hb dX0_lengthWanted_27 rfl (lv_at hl 2 rfl) ?_
        refine lv_iload_n hx hb dX0_lengthWanted_28 rfl (lv_at hl 1 rfl) ?_
        refine lv_iload_n hx hb dX0_lengthWanted_29 rfl (lv_at hl 3 rfl) ?_
        obtain ⟨r1, hr1, hm⟩ := bd_ok hm
        refine callRS (rest := [.int v2_11]) X hml hl.1 (kX0_numberOf l p1 v3_11 r1 hr1) (va_cwS 2 X.2.2.1 gX0_lengthWanted_X0_numberOf rfl rfl rfl (by decide +kernel) ⟨Nat.le_of_ble_eq_true rfl, Nat.le_of_ble_eq_true rfl⟩) rfl rfl (Nat.le_of_ble_eq_true rfl) dX0_lengthWanted_30 ⟨Nat.zero_le _, Nat.zero_le _⟩ ?_
        refine lv_aload_n hx hb dX0_lengthWanted_33 rfl (lv_at hl 0 rfl) ?_
        refine gC_X0_rack X hK hP iX0 (List.mem_of_getElem? (i := 1) rfl) dX0_lengthWanted_34 ?_
        refine gC_X3_orderLengths X hK hP iX3 (List.mem_of_getElem? (i := 4) rfl) dX0_lengthWanted_37 ?_
        refine lv_iload_n hx hb dX0_lengthWanted_40 rfl (lv_at hl 3 rfl) ?_
        obtain ⟨h1, hm⟩ := gd_ok hm
        refine rC_X3_orderLengths X hK hP h1 dX0_lengthWanted_41 ?_
        refine lv_aload_n hx hb dX0_lengthWanted_42 rfl (lv_at hl 0 rfl) ?_
        refine gC_X0_rack X hK hP iX0 (List.mem_of_getElem? (i := 1) rfl) dX0_lengthWanted_43 ?_
        refine gC_X3_blade X hK hP iX3 (List.mem_of_getElem? (i := 2) rfl) dX0_lengthWanted_46 ?_
        refine lv_iadd hx hb dX0_lengthWanted_49 ?_
        refine lv_imul hx hb dX0_lengthWanted_50 ?_
        refine lv_iadd hx hb dX0_lengthWanted_51 ?_
        refine lv_istore_n (lv' := [(2, .int (v2_11 + (r1 * ((S.2 11 v3_11.toNatClampNeg) + (S.1 14))))), (0, .ref (a 19)), (1, .int p1), (3, .int v3_11)]) hx hb dX0_lengthWanted_52 rfl hl (by decide) rfl (fun ls hl => ?_)
        refine lv_iinc (v := (v3_11 + (1 : Int32))) (lv' := [(3, .int (v3_11 + (1 : Int32))), (2, .int (v2_11 + (r1 * ((S.2 11 v3_11.toNatClampNeg) + (S.1 14))))), (0, .ref (a 19)), (1, .int p1)]) hx hb dX0_lengthWanted_53 hl (k := 3) rfl rfl (by decide) rfl (fun ls hl => ?_)
        refine lv_goto (tgt := 11) hx hb dX0_lengthWanted_56 (by decide) ?_
        exact ih (v2_11 + (r1 * ((S.2 11 v3_11.toNatClampNeg) + (S.1 14)))) (v3_11 + (1 : Int32)) ls (lv_sub hl [2, 3, 1, 0] rfl) hm
  have kx11 : ∀ (v2_11 : Int32) (v3_11 : Int32) (ls : Array Slot), lv_has ls 4 [(0, .ref (a 19)), (1, .int p1), (2, .int v2_11), (3, .int v3_11)] → mX0_lengthWanted_X11  S p1 v2_11 v3_11 = some res → W p l e rmX0_lengthWanted s m ([.ref (a 19), .int p1] : List Value).toArray below meth c s.heap [] 0 0 (MQ below (vp_Si (fun r => r = res)) ([.ref (a 19), .int p1] : List Value).toArray s 0 0 (fun _ => False)) (F0 m 59 ls []) := by
    intro v2_11 v3_11 ls hl hm
    unfold mX0_lengthWanted_X11 at hm
    refine lv_iload_n hx hb dX0_lengthWanted_59 rfl (lv_at hl 2 rfl) ?_
    exact endR X hr rfl hlocks hm dX0_lengthWanted_60
  have lp11 : ∀ (n : Nat) (v2_11 : Int32) (v3_11 : Int32) (ls : Array Slot), lv_has ls 4 [(0, .ref (a 19)), (1, .int p1), (2, .int v2_11), (3, .int v3_11)] → LPf (κ := Int32 → Int32 → Option (Int32)) (fun _ _ => none) (fun kk => mX0_lengthWanted_B11 kk (mX0_lengthWanted_X11  S p1) S p1) n v2_11 v3_11 = some res → W p l e rmX0_lengthWanted s m ([.ref (a 19), .int p1] : List Value).toArray below meth c s.heap [] 0 0 (MQ below (vp_Si (fun r => r = res)) ([.ref (a 19), .int p1] : List Value).toArray s 0 0 (fun _ => False)) (F0 m 11 ls []) := by
    intro n
    induction n with
    | zero =>
      intro v2_11 v3_11 ls hl hm
      exact (noS (show (none : Option (Int32)) = some res from hm)).elim
    | succ n ih =>
      intro v2_11 v3_11 ls hl hm
      exact kb11 _ _ ih kx11 v2_11 v3_11 ls hl hm
  exact lp11 FU (-(S.1 14)) (0 : Int32) ls (lv_sub hl [2, 3, 1, 0] rfl) hm

def rmX0_barCost : Room := { frames := 2, cells := 0, slots := 0, locals := 44 }
set_option maxHeartbeats 4000000 in
set_option maxRecDepth 100000 in
theorem kX0_barCost (l : Launch) (D : va_G) (a : Nat → Nat) (cI cZ : ClassId) (S : ST) (p1 : Int32) (res : Int32) (hm : mX0_barCost S p1 = some res) : Met l yX0_barCost wsX0_barCost rmX0_barCost (va_Pc [.ref (a 19), .int p1] (PreR (wC a cI cZ S) D cI cZ)) (vp_Si (fun r => r = res)) 0 0 (fun _ => False) := by
  refine metB (cc := cX0_barCost) (maxL := 3) (ret := (some .int)) (by decide) rfl (Nat.le_of_ble_eq_true rfl) ?_
  intro p e s m below meth c ls X hml hr hlocks hin hv hl
  replace X : CX p m c cX0_barCost s ([.ref (a 19), .int p1] : List Value).toArray wsX0_barCost RX0 := X
  obtain ⟨hP, hK, hNW⟩ := hv
  have hx := X.1
  have hb := X.2.1
  replace hl : lv_has ls 3 [(0, .ref (a 19)), (1, .int p1)] := hl
  have iX0 : ∀ w ∈ wsX00, w ∈ wsX0_barCost := fun w h => List.mem_cons_of_mem _ (List.mem_append_left _ (List.mem_append_right _ h))
  have iX3 : ∀ w ∈ wsX30, w ∈ wsX0_barCost := fun w h => List.mem_cons_of_mem _ (List.mem_append_right _ h)
  unfold mX0_barCost at hm
  refine lv_aload_n hx hb dX0_barCost_0 rfl (lv_at hl 0 rfl) ?_
  refine gC_X0_rack X hK hP iX0 (List.mem_of_getElem? (i := 1) rfl) dX0_barCost_1 ?_
  refine lv_aload_n hx hb dX0_barCost_4 rfl (lv_at hl 0 rfl) ?_
  refine lv_iload_n hx hb dX0_barCost_5 rfl (lv_at hl 1 rfl) ?_
  obtain ⟨r1, hr1, hm⟩ := bd_ok hm
  refine callRV (rest := [.ref (a 14)]) X hK hNW hml hP hl.1 (kX0_lengthWanted l D a cI cZ S p1 r1 hr1) (cwV 1 X.2.2.1 gX0_barCost_X0_lengthWanted rfl rfl rfl (by decide +kernel) ⟨Nat.le_of_ble_eq_true rfl, Nat.le_of_ble_eq_true rfl⟩) (vC_X0 hK hP) rfl rfl (Nat.le_of_ble_eq_true rfl) dX0_barCost_6 ⟨Nat.zero_le _, Nat.zero_le _⟩ ?_
  obtain ⟨r2, hr2, hm⟩ := bd_ok hm
  refine callRV (rest := []) X hK hNW hml hP hl.1 (kX3_stockFor l D a cI cZ S r1 r2 hr2) (cwV 1 X.2.2.1 gX0_barCost_X3_stockFor rfl rfl rfl (by decide +kernel) ⟨Nat.le_of_ble_eq_true rfl, Nat.le_of_ble_eq_true rfl⟩) (vC_X3 hK hP) rfl rfl (Nat.le_of_ble_eq_true rfl) dX0_barCost_9 ⟨Nat.zero_le _, Nat.zero_le _⟩ ?_
  refine lv_istore_n (lv' := [(2, .int r2), (0, .ref (a 19)), (1, .int p1)]) hx hb dX0_barCost_12 rfl hl (by decide) rfl (fun ls hl => ?_)
  refine lv_iload_n hx hb dX0_barCost_13 rfl (lv_at hl 0 rfl) ?_
  refine lv_iconst (v := (-1 : Int32)) hx hb dX0_barCost_14 (by decide) ?_
  refine lv_icmp_ne (tgt := 23) hx hb dX0_barCost_15 (by decide) (fun hc => ?_) (fun hc => ?_)
  · replace hm := (if_neg hc).symm.trans hm
    refine lv_aload_n hx hb dX0_barCost_23 rfl (lv_at hl 1 rfl) ?_
    refine gC_X0_rack X hK hP iX0 (List.mem_of_getElem? (i := 1) rfl) dX0_barCost_24 ?_
    refine gC_X3_stockPrices X hK hP iX3 (List.mem_of_getElem? (i := 3) rfl) dX0_barCost_27 ?_
    refine lv_iload_n hx hb dX0_barCost_30 rfl (lv_at hl 0 rfl) ?_
    obtain ⟨h1, hm⟩ := gd_ok hm
    refine rC_X3_stockPrices X hK hP h1 dX0_barCost_31 ?_
    refine lv_bipush (v := (21 : Int32)) hx hb dX0_barCost_32 (by decide) ?_
    refine lv_imul hx hb dX0_barCost_34 ?_
    refine lv_iconst (v := (1 : Int32)) hx hb dX0_barCost_35 (by decide) ?_
    refine lv_iadd hx hb dX0_barCost_36 ?_
    exact endR X hr rfl hlocks hm dX0_barCost_37
  · replace hm := (if_pos hc).symm.trans hm
    refine lv_ldc (v := (1048576 : Int32)) hx hb X.2.2.2 (X.2.2.1 (Cond.constant RX0 79 (1048576)) (List.mem_of_getElem? (i := 2) rfl)) dX0_barCost_18 ?_
    refine lv_goto (tgt := 37) hx hb dX0_barCost_20 (by decide) ?_
    exact endR X hr rfl hlocks hm dX0_barCost_37

def rmX0_tryFirstBars : Room := { frames := 1, cells := 0, slots := 0, locals := 21 }
set_option maxHeartbeats 4000000 in
set_option maxRecDepth 100000 in
theorem kX0_tryFirstBars (l : Launch) (D : va_G) (a : Nat → Nat) (cI cZ : ClassId) (hA : AP 24 a) (S : ST) (sz : Nat) (p1 : Int32) (p2 : Int32) (p3 : Int32) (res : ST) (hm : mX0_tryFirstBars S p1 p2 p3 = some res) : Met l yX0_tryFirstBars wsX0_tryFirstBars rmX0_tryFirstBars (va_Pc [.ref (a 19), .int p1, .int p2, .int p3] (PreW (wC a cI cZ S) D cI cZ sz)) (va_Qv (fun T : ST => T = res) (PostW (wC a cI cZ) D cI cZ) (AC 24 a sz)) 0 0 (AC 24 a sz) := by
  refine metB (cc := cX0_tryFirstBars) (maxL := 7) (ret := none) (by decide) rfl (Nat.le_of_ble_eq_true rfl) ?_
  intro p e s m below meth c ls X hml hr hlocks hin hv hl
  replace X : CX p m c cX0_tryFirstBars s ([.ref (a 19), .int p1, .int p2, .int p3] : List Value).toArray wsX0_tryFirstBars RX0 := X
  obtain ⟨hsz, hP, hK, hNW⟩ := hv
  subst hsz
  have hS : va_S (AC 24 a s.heap.size) s.heap s.heap [] := va_S.rf
  have hx := X.1
  have hb := X.2.1
  replace hl : lv_has ls 7 [(0, .ref (a 19)), (1, .int p1), (2, .int p2), (3, .int p3)] := hl
  have iX0 : ∀ w ∈ wsX00, w ∈ wsX0_tryFirstBars := fun w h => List.mem_cons_of_mem _ (List.mem_append_right _ h)
  suffices kS : ∀ (H : Heap) (locs : List Loc), va_P D vwCl (wC a cI cZ S) H → va_S (AC 24 a s.heap.size) s.heap H locs → W p l e rmX0_tryFirstBars s m ([.ref (a 19), .int p1, .int p2, .int p3] : List Value).toArray below meth c H locs 0 0 (MQ below (va_Qv (fun T : ST => T = res) (PostW (wC a cI cZ) D cI cZ) (AC 24 a s.heap.size)) ([.ref (a 19), .int p1, .int p2, .int p3] : List Value).toArray s 0 0 (AC 24 a s.heap.size)) (F0 m 0 ls []) by exact kS s.heap [] hP hS
  intro H locs hP hS
  unfold mX0_tryFirstBars at hm
  refine lv_iload_n hx hb dX0_tryFirstBars_0 rfl (lv_at hl 2 rfl) ?_
  refine lv_iload_n hx hb dX0_tryFirstBars_1 rfl (lv_at hl 3 rfl) ?_
  refine lv_iadd hx hb dX0_tryFirstBars_2 ?_
  refine lv_istore (lv' := [(4, .int (p2 + p3)), (0, .ref (a 19)), (1, .int p1), (2, .int p2), (3, .int p3)]) hx hb dX0_tryFirstBars_3 hl (by decide) rfl (fun ls hl => ?_)
  refine lv_iload_n hx hb dX0_tryFirstBars_5 rfl (lv_at hl 3 rfl) ?_
  refine lv_if_lt (tgt := 22) hx hb dX0_tryFirstBars_6 (by decide) (fun hc => ?_) (fun hc => ?_)
  · replace hm := (if_pos hc).symm.trans hm
    exact endV X hK hr hlocks hm hP hS dX0_tryFirstBars_22
  · replace hm := (if_neg hc).symm.trans hm
    refine lv_iload hx hb dX0_tryFirstBars_9 (lv_at hl 0 rfl) ?_
    refine lv_iload_n hx hb dX0_tryFirstBars_11 rfl (lv_at hl 2 rfl) ?_
    refine lv_icmp_gt (tgt := 22) hx hb dX0_tryFirstBars_12 (by decide) (fun hc => ?_) (fun hc => ?_)
    · replace hm := (if_pos hc).symm.trans hm
      exact endV X hK hr hlocks hm hP hS dX0_tryFirstBars_22
    · replace hm := (if_neg hc).symm.trans hm
      refine lv_iload_n hx hb dX0_tryFirstBars_15 rfl (lv_at hl 2 rfl) ?_
      refine lv_sipush (v := (4096 : Int32)) hx hb dX0_tryFirstBars_16 (by decide) ?_
      refine lv_icmp_lt (tgt := 23) hx hb dX0_tryFirstBars_19 (by decide) (fun hc => ?_) (fun hc => ?_)
      · replace hm := (if_pos hc).symm.trans hm
        refine lv_iload_n hx hb dX0_tryFirstBars_23 rfl (lv_at hl 3 rfl) ?_
        refine lv_iconst (v := (1 : Int32)) hx hb dX0_tryFirstBars_24 (by decide) ?_
        refine va_mmax hx hb (hml.trans hl.1.symm) X.2.2.2 (X.2.2.1 (Cond.methodLink RX0 84 Lib.Math.max.name) (List.mem_of_getElem? (i := 1) rfl)) (X.2.2.1 (Cond.static Lib.Math.max.name) (List.mem_of_getElem? (i := 2) rfl)) (X.2.2.1 (Cond.initialized "java/lang/Math") (List.mem_of_getElem? (i := 3) rfl)) (X.2.2.1 (Cond.code Lib.Math.max.name Lib.Math.max.code 2 (some .int)) (List.mem_of_getElem? (i := 4) rfl)) (Nat.le_of_ble_eq_true rfl) (Nat.le_of_ble_eq_true rfl) (Nat.zero_le _) (Nat.zero_le _) dX0_tryFirstBars_25 ?_
        refine lv_istore (lv' := [(5, .int (if p2 < (1 : Int32) then (1 : Int32) else p2)), (4, .int (p2 + p3)), (0, .ref (a 19)), (1, .int p1), (2, .int p2), (3, .int p3)]) hx hb dX0_tryFirstBars_28 hl (by decide) rfl (fun ls hl => ?_)
        have kl30 : ∀ (v4_30 : Int32) (S_30 : ST) (H : Heap) (locs : List Loc) (v5_30 : Int32) (ls : Array Slot), va_P D vwCl (wC a cI cZ S_30) H → va_S (AC 24 a s.heap.size) s.heap H locs → lv_has ls 7 [(0, .ref (a 19)), (1, .int p1), (2, .int p2), (3, .int p3), (4, .int v4_30), (5, .int v5_30)] → LPf (κ := ST → Int32 → Option (ST)) (fun _ _ => none) (fun kk => mX0_tryFirstBars_B30 kk (mX0_tryFirstBars_X30  p1 p2 p3 v4_30) p1 p2 p3 v4_30) FU S_30 v5_30 = some res → W p l e rmX0_tryFirstBars s m ([.ref (a 19), .int p1, .int p2, .int p3] : List Value).toArray below meth c H locs 0 0 (MQ below (va_Qv (fun T : ST => T = res) (PostW (wC a cI cZ) D cI cZ) (AC 24 a s.heap.size)) ([.ref (a 19), .int p1, .int p2, .int p3] : List Value).toArray s 0 0 (AC 24 a s.heap.size)) (F0 m 30 ls []) := by
          intro v4_30 S_30 H locs v5_30 ls hP hS hl hm
          have kb30 : ∀ (k x : ST → Int32 → Option (ST)), (∀ (S_30 : ST) (H : Heap) (locs : List Loc) (v5_30 : Int32) (ls : Array Slot), va_P D vwCl (wC a cI cZ S_30) H → va_S (AC 24 a s.heap.size) s.heap H locs → lv_has ls 7 [(0, .ref (a 19)), (1, .int p1), (2, .int p2), (3, .int p3), (4, .int v4_30), (5, .int v5_30)] → k S_30 v5_30 = some res → W p l e rmX0_tryFirstBars s m ([.ref (a 19), .int p1, .int p2, .int p3] : List Value).toArray below meth c H locs 0 0 (MQ below (va_Qv (fun T : ST => T = res) (PostW (wC a cI cZ) D cI cZ) (AC 24 a s.heap.size)) ([.ref (a 19), .int p1, .int p2, .int p3] : List Value).toArray s 0 0 (AC 24 a s.heap.size)) (F0 m 30 ls [])) → (∀ (S_30 : ST) (H : Heap) (locs : List Loc) (v5_30 : Int32) (ls : Array Slot), va_P D vwCl (wC a cI cZ S_30) H → va_S (AC 24 a s.heap.size) s.heap H locs → lv_has ls 7 [(0, .ref (a 19)), (1, .int p1), (2, .int p2), (3, .int p3), (4, .int v4_30), (5, .int v5_30)] → x S_30 v5_30 = some res → W p l e rmX0_tryFirstBars s m ([.ref (a 19), .int p1, .int p2, .int p3] : List Value).toArray below meth c H locs 0 0 (MQ below (va_Qv (fun T : ST => T = res) (PostW (wC a cI cZ) D cI cZ) (AC 24 a s.heap.size)) ([.ref (a 19), .int p1, .int p2, .int p3] : List Value).toArray s 0 0 (AC 24 a s.heap.size)) (F0 m 101 ls [])) → ∀ (S_30 : ST) (H : Heap) (locs : List Loc) (v5_30 : Int32) (ls : Array Slot), va_P D vwCl (wC a cI cZ S_30) H → va_S (AC 24 a s.heap.size) s.heap H locs → lv_has ls 7 [(0, .ref (a 19)), (1, .int p1), (2, .int p2), (3, .int p3), (4, .int v4_30), (5, .int v5_30)] → mX0_tryFirstBars_B30 k x p1 p2 p3 v4_30 S_30 v5_30 = some res → W p l e rmX0_tryFirstBars s m ([.ref (a 19), .int p1, .int p2, .int p3] : List Value).toArray below meth c H locs 0 0 (MQ below (va_Qv (fun T : ST => T = res) (PostW (wC a cI cZ) D cI cZ) (AC 24 a s.heap.size)) ([.ref (a 19), .int p1, .int p2, .int p3] : List Value).toArray s 0 0 (AC 24 a s.heap.size)) (F0 m 30 ls []) := by
            intro k x ih kxh S_30 H locs v5_30 ls hP hS hl hm
            unfold mX0_tryFirstBars_B30 at hm
            refine lv_iload hx hb dX0_tryFirstBars_30 (lv_at hl 5 rfl) ?_
            refine lv_iload hx hb dX0_tryFirstBars_32 (lv_at hl 4 rfl) ?_
            refine lv_icmp_gt (tgt := 101) hx hb dX0_tryFirstBars_34 (by decide) (fun hc => ?_) (fun hc => ?_)
            · replace hm := (if_pos hc).symm.trans hm
              exact kxh S_30 H locs v5_30 ls hP hS (lv_sub hl [0, 1, 2, 3, 4, 5] rfl) hm
            · replace hm := (if_neg hc).symm.trans hm
              refine lv_aload_n hx hb dX0_tryFirstBars_37 rfl (lv_at hl 0 rfl) ?_
              refine gC_X0_barCosts X hK hP iX0 (List.mem_of_getElem? (i := 5) rfl) dX0_tryFirstBars_38 ?_
              refine lv_iload hx hb dX0_tryFirstBars_41 (lv_at hl 5 rfl) ?_
              obtain ⟨h1, hm⟩ := gd_ok hm
              refine rC_X0_barCosts X hK hP h1 dX0_tryFirstBars_43 ?_
              refine lv_ldc (v := (1048576 : Int32)) hx hb X.2.2.2 (X.2.2.1 (Cond.constant RX0 79 (1048576)) (List.mem_of_getElem? (i := 6) rfl)) dX0_tryFirstBars_44 ?_
              refine lv_icmp_ge (tgt := 101) hx hb dX0_tryFirstBars_46 (by decide) (fun hc => ?_) (fun hc => ?_)
              · replace hm := (if_pos hc).symm.trans hm
                exact kxh S_30 H locs v5_30 ls hP hS (lv_sub hl [0, 1, 2, 3, 4, 5] rfl) hm
              · replace hm := (if_neg hc).symm.trans hm
                refine lv_aload_n hx hb dX0_tryFirstBars_49 rfl (lv_at hl 0 rfl) ?_
                refine gC_X0_barCosts X hK hP iX0 (List.mem_of_getElem? (i := 5) rfl) dX0_tryFirstBars_50 ?_
                refine lv_iload hx hb dX0_tryFirstBars_53 (lv_at hl 5 rfl) ?_
                obtain ⟨h1, hm⟩ := gd_ok hm
                refine rC_X0_barCosts X hK hP h1 dX0_tryFirstBars_55 ?_
                refine lv_aload_n hx hb dX0_tryFirstBars_56 rfl (lv_at hl 0 rfl) ?_
                refine gC_X0_leastCosts X hK hP iX0 (List.mem_of_getElem? (i := 7) rfl) dX0_tryFirstBars_57 ?_
                refine lv_iload_n hx hb dX0_tryFirstBars_60 rfl (lv_at hl 1 rfl) ?_
                refine lv_iload hx hb dX0_tryFirstBars_61 (lv_at hl 5 rfl) ?_
                refine lv_isub hx hb dX0_tryFirstBars_63 ?_
                obtain ⟨h1, hm⟩ := gd_ok hm
                refine rC_X0_leastCosts X hK hP h1 dX0_tryFirstBars_64 ?_
                refine lv_iadd hx hb dX0_tryFirstBars_65 ?_
                refine lv_istore (lv' := [(6, .int ((S_30.2 13 v5_30.toNatClampNeg) + (S_30.2 14 (p1 - v5_30).toNatClampNeg))), (0, .ref (a 19)), (1, .int p1), (2, .int p2), (3, .int p3), (4, .int v4_30), (5, .int v5_30)]) hx hb dX0_tryFirstBars_66 hl (by decide) rfl (fun ls hl => ?_)
                refine lv_iload hx hb dX0_tryFirstBars_68 (lv_at hl 0 rfl) ?_
                refine lv_aload_n hx hb dX0_tryFirstBars_70 rfl (lv_at hl 1 rfl) ?_
                refine gC_X0_leastCosts X hK hP iX0 (List.mem_of_getElem? (i := 7) rfl) dX0_tryFirstBars_71 ?_
                refine lv_iload_n hx hb dX0_tryFirstBars_74 rfl (lv_at hl 2 rfl) ?_
                obtain ⟨h1, hm⟩ := gd_ok hm
                refine rC_X0_leastCosts X hK hP h1 dX0_tryFirstBars_75 ?_
                refine lv_icmp_gt (tgt := 95) hx hb dX0_tryFirstBars_76 (by decide) (fun hc => ?_) (fun hc => ?_)
                · replace hm := (if_pos hc).symm.trans hm
                  refine lv_iinc (v := (v5_30 + (1 : Int32))) (lv' := [(5, .int (v5_30 + (1 : Int32))), (6, .int ((S_30.2 13 v5_30.toNatClampNeg) + (S_30.2 14 (p1 - v5_30).toNatClampNeg))), (0, .ref (a 19)), (1, .int p1), (2, .int p2), (3, .int p3), (4, .int v4_30)]) hx hb dX0_tryFirstBars_95 hl (k := 6) rfl rfl (by decide) rfl (fun ls hl => ?_)
                  refine lv_goto (tgt := 30) hx hb dX0_tryFirstBars_98 (by decide) ?_
                  exact ih S_30 H locs (v5_30 + (1 : Int32)) ls hP hS (lv_sub hl [2, 3, 4, 5, 6, 0] rfl) hm
                · replace hm := (if_neg hc).symm.trans hm
                  refine lv_aload_n hx hb dX0_tryFirstBars_79 rfl (lv_at hl 1 rfl) ?_
                  refine gC_X0_leastCosts X hK hP iX0 (List.mem_of_getElem? (i := 7) rfl) dX0_tryFirstBars_80 ?_
                  refine lv_iload_n hx hb dX0_tryFirstBars_83 rfl (lv_at hl 2 rfl) ?_
                  refine lv_iload hx hb dX0_tryFirstBars_84 (lv_at hl 0 rfl) ?_
                  obtain ⟨h1, hm⟩ := gd_ok hm
                  refine sC_X0_leastCosts X hK hA hP hS h1 dX0_tryFirstBars_86 (fun H locs hP hS => ?_)
                  refine lv_aload_n hx hb dX0_tryFirstBars_87 rfl (lv_at hl 1 rfl) ?_
                  refine gC_X0_firstPatterns X hK hP iX0 (List.mem_of_getElem? (i := 8) rfl) dX0_tryFirstBars_88 ?_
                  refine lv_iload_n hx hb dX0_tryFirstBars_91 rfl (lv_at hl 2 rfl) ?_
                  refine lv_iload hx hb dX0_tryFirstBars_92 (lv_at hl 6 rfl) ?_
                  obtain ⟨h1, hm⟩ := gd_ok hm
                  refine sC_X0_firstPatterns X hK hA hP hS h1 dX0_tryFirstBars_94 (fun H locs hP hS => ?_)
                  refine lv_iinc (v := (v5_30 + (1 : Int32))) (lv' := [(5, .int (v5_30 + (1 : Int32))), (6, .int ((S_30.2 13 v5_30.toNatClampNeg) + (S_30.2 14 (p1 - v5_30).toNatClampNeg))), (0, .ref (a 19)), (1, .int p1), (2, .int p2), (3, .int p3), (4, .int v4_30)]) hx hb dX0_tryFirstBars_95 hl (k := 6) rfl rfl (by decide) rfl (fun ls hl => ?_)
                  refine lv_goto (tgt := 30) hx hb dX0_tryFirstBars_98 (by decide) ?_
                  exact ih (sG (sG S_30 14 p1 ((S_30.2 13 v5_30.toNatClampNeg) + (S_30.2 14 (p1 - v5_30).toNatClampNeg))) 15 p1 v5_30) H locs (v5_30 + (1 : Int32)) ls hP hS (lv_sub hl [2, 3, 4, 5, 6, 0] rfl) hm
          have kx30 : ∀ (S_30 : ST) (H : Heap) (locs : List Loc) (v5_30 : Int32) (ls : Array Slot), va_P D vwCl (wC a cI cZ S_30) H → va_S (AC 24 a s.heap.size) s.heap H locs → lv_has ls 7 [(0, .ref (a 19)), (1, .int p1), (2, .int p2), (3, .int p3), (4, .int v4_30), (5, .int v5_30)] → mX0_tryFirstBars_X30  p1 p2 p3 v4_30 S_30 v5_30 = some res → W p l e rmX0_tryFirstBars s m ([.ref (a 19), .int p1, .int p2, .int p3] : List Value).toArray below meth c H locs 0 0 (MQ below (va_Qv (fun T : ST => T = res) (PostW (wC a cI cZ) D cI cZ) (AC 24 a s.heap.size)) ([.ref (a 19), .int p1, .int p2, .int p3] : List Value).toArray s 0 0 (AC 24 a s.heap.size)) (F0 m 101 ls []) := by
            intro S_30 H locs v5_30 ls hP hS hl hm
            unfold mX0_tryFirstBars_X30 at hm
            exact endV X hK hr hlocks hm hP hS dX0_tryFirstBars_101
          have lp30 : ∀ (n : Nat) (S_30 : ST) (H : Heap) (locs : List Loc) (v5_30 : Int32) (ls : Array Slot), va_P D vwCl (wC a cI cZ S_30) H → va_S (AC 24 a s.heap.size) s.heap H locs → lv_has ls 7 [(0, .ref (a 19)), (1, .int p1), (2, .int p2), (3, .int p3), (4, .int v4_30), (5, .int v5_30)] → LPf (κ := ST → Int32 → Option (ST)) (fun _ _ => none) (fun kk => mX0_tryFirstBars_B30 kk (mX0_tryFirstBars_X30  p1 p2 p3 v4_30) p1 p2 p3 v4_30) n S_30 v5_30 = some res → W p l e rmX0_tryFirstBars s m ([.ref (a 19), .int p1, .int p2, .int p3] : List Value).toArray below meth c H locs 0 0 (MQ below (va_Qv (fun T : ST => T = res) (PostW (wC a cI cZ) D cI cZ) (AC 24 a s.heap.size)) ([.ref (a 19), .int p1, .int p2, .int p3] : List Value).toArray s 0 0 (AC 24 a s.heap.size)) (F0 m 30 ls []) := by
            intro n
            induction n with
            | zero =>
              intro S_30 H locs v5_30 ls hP hS hl hm
              exact (noS (show (none : Option (ST)) = some res from hm)).elim
            | succ n ih =>
              intro S_30 H locs v5_30 ls hP hS hl hm
              exact kb30 _ _ ih kx30 S_30 H locs v5_30 ls hP hS hl hm
          exact lp30 FU S_30 H locs v5_30 ls hP hS hl hm
        exact kl30 (p2 + p3) S H locs (if p2 < (1 : Int32) then (1 : Int32) else p2) ls hP hS (lv_sub hl [2, 3, 4, 5, 1, 0] rfl) hm
      · replace hm := (if_neg hc).symm.trans hm
        exact endV X hK hr hlocks hm hP hS dX0_tryFirstBars_22

def rmX0_findLeastCost : Room := { frames := 3, cells := 0, slots := 0, locals := 66 }
set_option maxHeartbeats 4000000 in
set_option maxRecDepth 100000 in
theorem kX0_findLeastCost (l : Launch) (D : va_G) (a : Nat → Nat) (cI cZ : ClassId) (hA : AP 24 a) (S : ST) (sz : Nat) (p1 : Int32) (p2 : Int32) (p3 : Int32) (p4 : Int32) (res : ST) (hm : mX0_findLeastCost S p1 p2 p3 p4 = some res) : Met l yX0_findLeastCost wsX0_findLeastCost rmX0_findLeastCost (va_Pc [.ref (a 19), .int p1, .int p2, .int p3, .int p4] (PreW (wC a cI cZ S) D cI cZ sz)) (va_Qv (fun T : ST => T = res) (PostW (wC a cI cZ) D cI cZ) (AC 24 a sz)) 0 0 (AC 24 a sz) := by
  refine metB (cc := cX0_findLeastCost) (maxL := 9) (ret := none) (by decide) rfl (Nat.le_of_ble_eq_true rfl) ?_
  intro p e s m below meth c ls X hml hr hlocks hin hv hl
  replace X : CX p m c cX0_findLeastCost s ([.ref (a 19), .int p1, .int p2, .int p3, .int p4] : List Value).toArray wsX0_findLeastCost RX0 := X
  obtain ⟨hsz, hP, hK, hNW⟩ := hv
  subst hsz
  have hS : va_S (AC 24 a s.heap.size) s.heap s.heap [] := va_S.rf
  have hx := X.1
  have hb := X.2.1
  replace hl : lv_has ls 9 [(0, .ref (a 19)), (1, .int p1), (2, .int p2), (3, .int p3), (4, .int p4)] := hl
  have iX0 : ∀ w ∈ wsX00, w ∈ wsX0_findLeastCost := fun w h => List.mem_cons_of_mem _ (List.mem_append_left _ (List.mem_append_right _ h))
  have iX3 : ∀ w ∈ wsX30, w ∈ wsX0_findLeastCost := fun w h => List.mem_cons_of_mem _ (List.mem_append_right _ h)
  suffices kS : ∀ (H : Heap) (locs : List Loc), va_P D vwCl (wC a cI cZ S) H → va_S (AC 24 a s.heap.size) s.heap H locs → W p l e rmX0_findLeastCost s m ([.ref (a 19), .int p1, .int p2, .int p3, .int p4] : List Value).toArray below meth c H locs 0 0 (MQ below (va_Qv (fun T : ST => T = res) (PostW (wC a cI cZ) D cI cZ) (AC 24 a s.heap.size)) ([.ref (a 19), .int p1, .int p2, .int p3, .int p4] : List Value).toArray s 0 0 (AC 24 a s.heap.size)) (F0 m 0 ls []) by exact kS s.heap [] hP hS
  intro H locs hP hS
  unfold mX0_findLeastCost at hm
  refine lv_iload_n hx hb dX0_findLeastCost_0 rfl (lv_at hl 1 rfl) ?_
  refine lv_iload_n hx hb dX0_findLeastCost_1 rfl (lv_at hl 2 rfl) ?_
  refine lv_iload_n hx hb dX0_findLeastCost_2 rfl (lv_at hl 3 rfl) ?_
  refine lv_iload hx hb dX0_findLeastCost_3 (lv_at hl 4 rfl) ?_
  obtain ⟨r1, hr1, hm⟩ := bd_ok hm
  refine callRS (rest := []) X hml hl.1 (kX0_code l p1 p2 p3 p4 r1 hr1) (va_cwS 4 X.2.2.1 gX0_findLeastCost_X0_code rfl rfl rfl (by decide +kernel) ⟨Nat.le_of_ble_eq_true rfl, Nat.le_of_ble_eq_true rfl⟩) rfl rfl (Nat.le_of_ble_eq_true rfl) dX0_findLeastCost_5 ⟨Nat.zero_le _, Nat.zero_le _⟩ ?_
  refine lv_istore (lv' := [(5, .int r1), (0, .ref (a 19)), (1, .int p1), (2, .int p2), (3, .int p3), (4, .int p4)]) hx hb dX0_findLeastCost_8 hl (by decide) rfl (fun ls hl => ?_)
  refine lv_iload hx hb dX0_findLeastCost_10 (lv_at hl 0 rfl) ?_
  refine lv_iconst (v := (1 : Int32)) hx hb dX0_findLeastCost_12 (by decide) ?_
  refine lv_sipush (v := (4095 : Int32)) hx hb dX0_findLeastCost_13 (by decide) ?_
  obtain ⟨r2, hr2, hm⟩ := bd_ok hm
  refine callRN (rest := []) X hml hl.1 (kX6_within l r1 (1 : Int32) (4095 : Int32) r2 hr2) ⟨va_cnB 3 X.2.2.1 gX0_findLeastCost_X6_within_n72 rfl rfl rfl hNW.1 (X.2.2.1 (Cond.initialized RX6) (List.mem_of_getElem? (i := 9) rfl)) (by decide +kernel) ⟨Nat.le_of_ble_eq_true rfl, Nat.le_of_ble_eq_true rfl⟩, X.2.2.1 (Cond.static yX6_within) (List.mem_of_getElem? (i := 8) rfl), trivial⟩ rfl rfl (Nat.le_of_ble_eq_true rfl) dX0_findLeastCost_16 ⟨Nat.zero_le _, Nat.zero_le _⟩ ?_
  refine lv_if_eq (tgt := 32) hx hb dX0_findLeastCost_19 (by decide) (fun hc => ?_) (fun hc => ?_)
  · replace hm := (if_pos hc).symm.trans hm
    exact endV X hK hr hlocks hm hP hS dX0_findLeastCost_32
  · replace hm := (if_neg hc).symm.trans hm
    refine lv_aload_n hx hb dX0_findLeastCost_22 rfl (lv_at hl 1 rfl) ?_
    refine gC_X0_leastCosts X hK hP iX0 (List.mem_of_getElem? (i := 1) rfl) dX0_findLeastCost_23 ?_
    refine lv_iload hx hb dX0_findLeastCost_26 (lv_at hl 0 rfl) ?_
    obtain ⟨h1, hm⟩ := gd_ok hm
    refine rC_X0_leastCosts X hK hP h1 dX0_findLeastCost_28 ?_
    refine lv_if_eq (tgt := 33) hx hb dX0_findLeastCost_29 (by decide) (fun hc => ?_) (fun hc => ?_)
    · replace hm := (if_pos hc).symm.trans hm
      refine lv_aload_n hx hb dX0_findLeastCost_33 rfl (lv_at hl 1 rfl) ?_
      refine gC_X0_barCosts X hK hP iX0 (List.mem_of_getElem? (i := 2) rfl) dX0_findLeastCost_34 ?_
      refine lv_iload hx hb dX0_findLeastCost_37 (lv_at hl 0 rfl) ?_
      refine lv_aload_n hx hb dX0_findLeastCost_39 rfl (lv_at hl 1 rfl) ?_
      refine lv_iload hx hb dX0_findLeastCost_40 (lv_at hl 0 rfl) ?_
      obtain ⟨r3, hr3, hm⟩ := bd_ok hm
      refine callRV (rest := [.int r1, .ref (a 20)]) X hK hNW hml hP hl.1 (kX0_barCost l D a cI cZ S r1 r3 hr3) (cwV 1 X.2.2.1 gX0_findLeastCost_X0_barCost rfl rfl rfl (by decide +kernel) ⟨Nat.le_of_ble_eq_true rfl, Nat.le_of_ble_eq_true rfl⟩) (vC_X0 hK hP) rfl rfl (Nat.le_of_ble_eq_true rfl) dX0_findLeastCost_42 ⟨Nat.zero_le _, Nat.zero_le _⟩ ?_
      obtain ⟨h1, hm⟩ := gd_ok hm
      refine sC_X0_barCosts X hK hA hP hS h1 dX0_findLeastCost_45 (fun H locs hP hS => ?_)
      refine lv_aload_n hx hb dX0_findLeastCost_46 rfl (lv_at hl 1 rfl) ?_
      refine gC_X0_leastCosts X hK hP iX0 (List.mem_of_getElem? (i := 1) rfl) dX0_findLeastCost_47 ?_
      refine lv_iload hx hb dX0_findLeastCost_50 (lv_at hl 0 rfl) ?_
      refine lv_ldc (v := (1048576 : Int32)) hx hb X.2.2.2 (X.2.2.1 (Cond.constant RX0 79 (1048576)) (List.mem_of_getElem? (i := 3) rfl)) dX0_findLeastCost_52 ?_
      obtain ⟨h1, hm⟩ := gd_ok hm
      refine sC_X0_leastCosts X hK hA hP hS h1 dX0_findLeastCost_54 (fun H locs hP hS => ?_)
      refine lv_iconst (v := (0 : Int32)) hx hb dX0_findLeastCost_55 (by decide) ?_
      refine lv_istore (lv' := [(6, .int (0 : Int32)), (5, .int r1), (0, .ref (a 19)), (1, .int p1), (2, .int p2), (3, .int p3), (4, .int p4)]) hx hb dX0_findLeastCost_56 hl (by decide) rfl (fun ls hl => ?_)
      have kb58 : ∀ (k x : ST → Int32 → Option (ST)), (∀ (S_58 : ST) (H : Heap) (locs : List Loc) (v6_58 : Int32) (ls : Array Slot), va_P D vwCl (wC a cI cZ S_58) H → va_S (AC 24 a s.heap.size) s.heap H locs → lv_has ls 9 [(0, .ref (a 19)), (1, .int p1), (2, .int p2), (3, .int p3), (4, .int p4), (5, .int r1), (6, .int v6_58)] → k S_58 v6_58 = some res → W p l e rmX0_findLeastCost s m ([.ref (a 19), .int p1, .int p2, .int p3, .int p4] : List Value).toArray below meth c H locs 0 0 (MQ below (va_Qv (fun T : ST => T = res) (PostW (wC a cI cZ) D cI cZ) (AC 24 a s.heap.size)) ([.ref (a 19), .int p1, .int p2, .int p3, .int p4] : List Value).toArray s 0 0 (AC 24 a s.heap.size)) (F0 m 58 ls [])) → (∀ (S_58 : ST) (H : Heap) (locs : List Loc) (v6_58 : Int32) (ls : Array Slot), va_P D vwCl (wC a cI cZ S_58) H → va_S (AC 24 a s.heap.size) s.heap H locs → lv_has ls 9 [(0, .ref (a 19)), (1, .int p1), (2, .int p2), (3, .int p3), (4, .int p4), (5, .int r1), (6, .int v6_58)] → x S_58 v6_58 = some res → W p l e rmX0_findLeastCost s m ([.ref (a 19), .int p1, .int p2, .int p3, .int p4] : List Value).toArray below meth c H locs 0 0 (MQ below (va_Qv (fun T : ST => T = res) (PostW (wC a cI cZ) D cI cZ) (AC 24 a s.heap.size)) ([.ref (a 19), .int p1, .int p2, .int p3, .int p4] : List Value).toArray s 0 0 (AC 24 a s.heap.size)) (F0 m 118 ls [])) → ∀ (S_58 : ST) (H : Heap) (locs : List Loc) (v6_58 : Int32) (ls : Array Slot), va_P D vwCl (wC a cI cZ S_58) H → va_S (AC 24 a s.heap.size) s.heap H locs → lv_has ls 9 [(0, .ref (a 19)), (1, .int p1), (2, .int p2), (3, .int p3), (4, .int p4), (5, .int r1), (6, .int v6_58)] → mX0_findLeastCost_B58 k x p1 p2 p3 p4 r1 S_58 v6_58 = some res → W p l e rmX0_findLeastCost s m ([.ref (a 19), .int p1, .int p2, .int p3, .int p4] : List Value).toArray below meth c H locs 0 0 (MQ below (va_Qv (fun T : ST => T = res) (PostW (wC a cI cZ) D cI cZ) (AC 24 a s.heap.size)) ([.ref (a 19), .int p1, .int p2, .int p3, .int p4] : List Value).toArray s 0 0 (AC 24 a s.heap.size)) (F0 m 58 ls []) := by
        intro k x ih kxh S_58 H locs v6_58 ls hP hS hl hm
        unfold mX0_findLeastCost_B58 at hm
        refine lv_iload hx hb dX0_findLeastCost_58 (lv_at hl 6 rfl) ?_
        refine lv_iload_n hx hb dX0_findLeastCost_60 rfl (lv_at hl 1 rfl) ?_
        refine lv_icmp_gt (tgt := 118) hx hb dX0_findLeastCost_61 (by decide) (fun hc => ?_) (fun hc => ?_)
        · replace hm := (if_pos hc).symm.trans hm
          exact kxh S_58 H locs v6_58 ls hP hS (lv_sub hl [0, 1, 2, 3, 4, 5, 6] rfl) hm
        · replace hm := (if_neg hc).symm.trans hm
          refine lv_iconst (v := (0 : Int32)) hx hb dX0_findLeastCost_64 (by decide) ?_
          refine lv_istore (lv' := [(7, .int (0 : Int32)), (0, .ref (a 19)), (1, .int p1), (2, .int p2), (3, .int p3), (4, .int p4), (5, .int r1), (6, .int v6_58)]) hx hb dX0_findLeastCost_65 hl (by decide) rfl (fun ls hl => ?_)
          have kb67 : ∀ (k x : ST → Int32 → Option (ST)), (∀ (S_67 : ST) (H : Heap) (locs : List Loc) (v7_67 : Int32) (ls : Array Slot), va_P D vwCl (wC a cI cZ S_67) H → va_S (AC 24 a s.heap.size) s.heap H locs → lv_has ls 9 [(0, .ref (a 19)), (1, .int p1), (2, .int p2), (3, .int p3), (4, .int p4), (5, .int r1), (6, .int v6_58), (7, .int v7_67)] → k S_67 v7_67 = some res → W p l e rmX0_findLeastCost s m ([.ref (a 19), .int p1, .int p2, .int p3, .int p4] : List Value).toArray below meth c H locs 0 0 (MQ below (va_Qv (fun T : ST => T = res) (PostW (wC a cI cZ) D cI cZ) (AC 24 a s.heap.size)) ([.ref (a 19), .int p1, .int p2, .int p3, .int p4] : List Value).toArray s 0 0 (AC 24 a s.heap.size)) (F0 m 67 ls [])) → (∀ (S_67 : ST) (H : Heap) (locs : List Loc) (v7_67 : Int32) (ls : Array Slot), va_P D vwCl (wC a cI cZ S_67) H → va_S (AC 24 a s.heap.size) s.heap H locs → lv_has ls 9 [(0, .ref (a 19)), (1, .int p1), (2, .int p2), (3, .int p3), (4, .int p4), (5, .int r1), (6, .int v6_58), (7, .int v7_67)] → x S_67 v7_67 = some res → W p l e rmX0_findLeastCost s m ([.ref (a 19), .int p1, .int p2, .int p3, .int p4] : List Value).toArray below meth c H locs 0 0 (MQ below (va_Qv (fun T : ST => T = res) (PostW (wC a cI cZ) D cI cZ) (AC 24 a s.heap.size)) ([.ref (a 19), .int p1, .int p2, .int p3, .int p4] : List Value).toArray s 0 0 (AC 24 a s.heap.size)) (F0 m 112 ls [])) → ∀ (S_67 : ST) (H : Heap) (locs : List Loc) (v7_67 : Int32) (ls : Array Slot), va_P D vwCl (wC a cI cZ S_67) H → va_S (AC 24 a s.heap.size) s.heap H locs → lv_has ls 9 [(0, .ref (a 19)), (1, .int p1), (2, .int p2), (3, .int p3), (4, .int p4), (5, .int r1), (6, .int v6_58), (7, .int v7_67)] → mX0_findLeastCost_B67 k x p1 p2 p3 p4 r1 v6_58 S_67 v7_67 = some res → W p l e rmX0_findLeastCost s m ([.ref (a 19), .int p1, .int p2, .int p3, .int p4] : List Value).toArray below meth c H locs 0 0 (MQ below (va_Qv (fun T : ST => T = res) (PostW (wC a cI cZ) D cI cZ) (AC 24 a s.heap.size)) ([.ref (a 19), .int p1, .int p2, .int p3, .int p4] : List Value).toArray s 0 0 (AC 24 a s.heap.size)) (F0 m 67 ls []) := by
            intro k x ih kxh S_67 H locs v7_67 ls hP hS hl hm
            unfold mX0_findLeastCost_B67 at hm
            refine lv_iload hx hb dX0_findLeastCost_67 (lv_at hl 7 rfl) ?_
            refine lv_iload_n hx hb dX0_findLeastCost_69 rfl (lv_at hl 2 rfl) ?_
            refine lv_icmp_gt (tgt := 112) hx hb dX0_findLeastCost_70 (by decide) (fun hc => ?_) (fun hc => ?_)
            · replace hm := (if_pos hc).symm.trans hm
              exact kxh S_67 H locs v7_67 ls hP hS (lv_sub hl [0, 1, 2, 3, 4, 5, 6, 7] rfl) hm
            · replace hm := (if_neg hc).symm.trans hm
              refine lv_iconst (v := (0 : Int32)) hx hb dX0_findLeastCost_73 (by decide) ?_
              refine lv_istore (lv' := [(8, .int (0 : Int32)), (0, .ref (a 19)), (1, .int p1), (2, .int p2), (3, .int p3), (4, .int p4), (5, .int r1), (6, .int v6_58), (7, .int v7_67)]) hx hb dX0_findLeastCost_74 hl (by decide) rfl (fun ls hl => ?_)
              have kb76 : ∀ (k x : ST → Int32 → Option (ST)), (∀ (S_76 : ST) (H : Heap) (locs : List Loc) (v8_76 : Int32) (ls : Array Slot), va_P D vwCl (wC a cI cZ S_76) H → va_S (AC 24 a s.heap.size) s.heap H locs → lv_has ls 9 [(0, .ref (a 19)), (1, .int p1), (2, .int p2), (3, .int p3), (4, .int p4), (5, .int r1), (6, .int v6_58), (7, .int v7_67), (8, .int v8_76)] → k S_76 v8_76 = some res → W p l e rmX0_findLeastCost s m ([.ref (a 19), .int p1, .int p2, .int p3, .int p4] : List Value).toArray below meth c H locs 0 0 (MQ below (va_Qv (fun T : ST => T = res) (PostW (wC a cI cZ) D cI cZ) (AC 24 a s.heap.size)) ([.ref (a 19), .int p1, .int p2, .int p3, .int p4] : List Value).toArray s 0 0 (AC 24 a s.heap.size)) (F0 m 76 ls [])) → (∀ (S_76 : ST) (H : Heap) (locs : List Loc) (v8_76 : Int32) (ls : Array Slot), va_P D vwCl (wC a cI cZ S_76) H → va_S (AC 24 a s.heap.size) s.heap H locs → lv_has ls 9 [(0, .ref (a 19)), (1, .int p1), (2, .int p2), (3, .int p3), (4, .int p4), (5, .int r1), (6, .int v6_58), (7, .int v7_67), (8, .int v8_76)] → x S_76 v8_76 = some res → W p l e rmX0_findLeastCost s m ([.ref (a 19), .int p1, .int p2, .int p3, .int p4] : List Value).toArray below meth c H locs 0 0 (MQ below (va_Qv (fun T : ST => T = res) (PostW (wC a cI cZ) D cI cZ) (AC 24 a s.heap.size)) ([.ref (a 19), .int p1, .int p2, .int p3, .int p4] : List Value).toArray s 0 0 (AC 24 a s.heap.size)) (F0 m 106 ls [])) → ∀ (S_76 : ST) (H : Heap) (locs : List Loc) (v8_76 : Int32) (ls : Array Slot), va_P D vwCl (wC a cI cZ S_76) H → va_S (AC 24 a s.heap.size) s.heap H locs → lv_has ls 9 [(0, .ref (a 19)), (1, .int p1), (2, .int p2), (3, .int p3), (4, .int p4), (5, .int r1), (6, .int v6_58), (7, .int v7_67), (8, .int v8_76)] → mX0_findLeastCost_B76 k x p1 p2 p3 p4 r1 v6_58 v7_67 S_76 v8_76 = some res → W p l e rmX0_findLeastCost s m ([.ref (a 19), .int p1, .int p2, .int p3, .int p4] : List Value).toArray below meth c H locs 0 0 (MQ below (va_Qv (fun T : ST => T = res) (PostW (wC a cI cZ) D cI cZ) (AC 24 a s.heap.size)) ([.ref (a 19), .int p1, .int p2, .int p3, .int p4] : List Value).toArray s 0 0 (AC 24 a s.heap.size)) (F0 m 76 ls []) := by
                intro k x ih kxh S_76 H locs v8_76 ls hP hS hl hm
                unfold mX0_findLeastCost_B76 at hm
                refine lv_iload hx hb dX0_findLeastCost_76 (lv_at hl 8 rfl) ?_
                refine lv_iload_n hx hb dX0_findLeastCost_78 rfl (lv_at hl 3 rfl) ?_
                refine lv_icmp_gt (tgt := 106) hx hb dX0_findLeastCost_79 (by decide) (fun hc => ?_) (fun hc => ?_)
                · replace hm := (if_pos hc).symm.trans hm
                  exact kxh S_76 H locs v8_76 ls hP hS (lv_sub hl [0, 1, 2, 3, 4, 5, 6, 7, 8] rfl) hm
                · replace hm := (if_neg hc).symm.trans hm
                  refine lv_aload_n hx hb dX0_findLeastCost_82 rfl (lv_at hl 0 rfl) ?_
                  refine lv_iload hx hb dX0_findLeastCost_83 (lv_at hl 5 rfl) ?_
                  refine lv_iload hx hb dX0_findLeastCost_85 (lv_at hl 6 rfl) ?_
                  refine lv_iload hx hb dX0_findLeastCost_87 (lv_at hl 7 rfl) ?_
                  refine lv_iload hx hb dX0_findLeastCost_89 (lv_at hl 8 rfl) ?_
                  refine lv_iconst (v := (0 : Int32)) hx hb dX0_findLeastCost_91 (by decide) ?_
                  obtain ⟨r4, hr4, hm⟩ := bd_ok hm
                  refine callRS (rest := [.int r1, .ref (a 19)]) X hml hl.1 (kX0_code l v6_58 v7_67 v8_76 (0 : Int32) r4 hr4) (va_cwS 4 X.2.2.1 gX0_findLeastCost_X0_code rfl rfl rfl (by decide +kernel) ⟨Nat.le_of_ble_eq_true rfl, Nat.le_of_ble_eq_true rfl⟩) rfl rfl (Nat.le_of_ble_eq_true rfl) dX0_findLeastCost_92 ⟨Nat.zero_le _, Nat.zero_le _⟩ ?_
                  refine lv_iload hx hb dX0_findLeastCost_95 (lv_at hl 4 rfl) ?_
                  obtain ⟨r5, hr5, hm⟩ := bd_ok hm
                  refine callWV (wf := wC a cI cZ) (rest := []) X hK hNW hml hP hS hl.1 (kX0_tryFirstBars l D a cI cZ hA S_76 H.size r1 r4 p4 r5 hr5) (cwV 3 X.2.2.1 gX0_findLeastCost_X0_tryFirstBars rfl rfl rfl (by decide +kernel) ⟨Nat.le_of_ble_eq_true rfl, Nat.le_of_ble_eq_true rfl⟩) (vC_X0 hK hP) rfl rfl (Nat.le_of_ble_eq_true rfl) dX0_findLeastCost_97 ⟨Nat.zero_le _, Nat.zero_le _⟩ (fun H locs hP hS => ?_)
                  refine lv_iinc (v := (v8_76 + (1 : Int32))) (lv' := [(8, .int (v8_76 + (1 : Int32))), (0, .ref (a 19)), (1, .int p1), (2, .int p2), (3, .int p3), (4, .int p4), (5, .int r1), (6, .int v6_58), (7, .int v7_67)]) hx hb dX0_findLeastCost_100 hl (k := 8) rfl rfl (by decide) rfl (fun ls hl => ?_)
                  refine lv_goto (tgt := 76) hx hb dX0_findLeastCost_103 (by decide) ?_
                  exact ih r5 H locs (v8_76 + (1 : Int32)) ls hP hS (lv_sub hl [1, 2, 3, 4, 5, 6, 7, 8, 0] rfl) hm
              have kx76 : ∀ (S_76 : ST) (H : Heap) (locs : List Loc) (v8_76 : Int32) (ls : Array Slot), va_P D vwCl (wC a cI cZ S_76) H → va_S (AC 24 a s.heap.size) s.heap H locs → lv_has ls 9 [(0, .ref (a 19)), (1, .int p1), (2, .int p2), (3, .int p3), (4, .int p4), (5, .int r1), (6, .int v6_58), (7, .int v7_67), (8, .int v8_76)] → mX0_findLeastCost_X76 k x p1 p2 p3 p4 r1 v6_58 v7_67 S_76 v8_76 = some res → W p l e rmX0_findLeastCost s m ([.ref (a 19), .int p1, .int p2, .int p3, .int p4] : List Value).toArray below meth c H locs 0 0 (MQ below (va_Qv (fun T : ST => T = res) (PostW (wC a cI cZ) D cI cZ) (AC 24 a s.heap.size)) ([.ref (a 19), .int p1, .int p2, .int p3, .int p4] : List Value).toArray s 0 0 (AC 24 a s.heap.size)) (F0 m 106 ls []) := by
                intro S_76 H locs v8_76 ls hP hS hl hm
                unfold mX0_findLeastCost_X76 at hm
                refine lv_iinc (v := (v7_67 + (1 : Int32))) (lv' := [(7, .int (v7_67 + (1 : Int32))), (0, .ref (a 19)), (1, .int p1), (2, .int p2), (3, .int p3), (4, .int p4), (5, .int r1), (6, .int v6_58), (8, .int v8_76)]) hx hb dX0_findLeastCost_106 hl (k := 7) rfl rfl (by decide) rfl (fun ls hl => ?_)
                refine lv_goto (tgt := 67) hx hb dX0_findLeastCost_109 (by decide) ?_
                exact ih S_76 H locs (v7_67 + (1 : Int32)) ls hP hS (lv_sub hl [1, 2, 3, 4, 5, 6, 7, 0] rfl) hm
              have lp76 : ∀ (n : Nat) (S_76 : ST) (H : Heap) (locs : List Loc) (v8_76 : Int32) (ls : Array Slot), va_P D vwCl (wC a cI cZ S_76) H → va_S (AC 24 a s.heap.size) s.heap H locs → lv_has ls 9 [(0, .ref (a 19)), (1, .int p1), (2, .int p2), (3, .int p3), (4, .int p4), (5, .int r1), (6, .int v6_58), (7, .int v7_67), (8, .int v8_76)] → LPf (κ := ST → Int32 → Option (ST)) (fun _ _ => none) (fun kk => mX0_findLeastCost_B76 kk (mX0_findLeastCost_X76 k x p1 p2 p3 p4 r1 v6_58 v7_67) p1 p2 p3 p4 r1 v6_58 v7_67) n S_76 v8_76 = some res → W p l e rmX0_findLeastCost s m ([.ref (a 19), .int p1, .int p2, .int p3, .int p4] : List Value).toArray below meth c H locs 0 0 (MQ below (va_Qv (fun T : ST => T = res) (PostW (wC a cI cZ) D cI cZ) (AC 24 a s.heap.size)) ([.ref (a 19), .int p1, .int p2, .int p3, .int p4] : List Value).toArray s 0 0 (AC 24 a s.heap.size)) (F0 m 76 ls []) := by
                intro n
                induction n with
                | zero =>
                  intro S_76 H locs v8_76 ls hP hS hl hm
                  exact (noS (show (none : Option (ST)) = some res from hm)).elim
                | succ n ih =>
                  intro S_76 H locs v8_76 ls hP hS hl hm
                  exact kb76 _ _ ih kx76 S_76 H locs v8_76 ls hP hS hl hm
              exact lp76 FU S_67 H locs (0 : Int32) ls hP hS (lv_sub hl [1, 2, 3, 4, 5, 6, 7, 8, 0] rfl) hm
          have kx67 : ∀ (S_67 : ST) (H : Heap) (locs : List Loc) (v7_67 : Int32) (ls : Array Slot), va_P D vwCl (wC a cI cZ S_67) H → va_S (AC 24 a s.heap.size) s.heap H locs → lv_has ls 9 [(0, .ref (a 19)), (1, .int p1), (2, .int p2), (3, .int p3), (4, .int p4), (5, .int r1), (6, .int v6_58), (7, .int v7_67)] → mX0_findLeastCost_X67 k x p1 p2 p3 p4 r1 v6_58 S_67 v7_67 = some res → W p l e rmX0_findLeastCost s m ([.ref (a 19), .int p1, .int p2, .int p3, .int p4] : List Value).toArray below meth c H locs 0 0 (MQ below (va_Qv (fun T : ST => T = res) (PostW (wC a cI cZ) D cI cZ) (AC 24 a s.heap.size)) ([.ref (a 19), .int p1, .int p2, .int p3, .int p4] : List Value).toArray s 0 0 (AC 24 a s.heap.size)) (F0 m 112 ls []) := by
            intro S_67 H locs v7_67 ls hP hS hl hm
            unfold mX0_findLeastCost_X67 at hm
            refine lv_iinc (v := (v6_58 + (1 : Int32))) (lv' := [(6, .int (v6_58 + (1 : Int32))), (0, .ref (a 19)), (1, .int p1), (2, .int p2), (3, .int p3), (4, .int p4), (5, .int r1), (7, .int v7_67)]) hx hb dX0_findLeastCost_112 hl (k := 6) rfl rfl (by decide) rfl (fun ls hl => ?_)
            refine lv_goto (tgt := 58) hx hb dX0_findLeastCost_115 (by decide) ?_
            exact ih S_67 H locs (v6_58 + (1 : Int32)) ls hP hS (lv_sub hl [1, 2, 3, 4, 5, 6, 0] rfl) hm
          have lp67 : ∀ (n : Nat) (S_67 : ST) (H : Heap) (locs : List Loc) (v7_67 : Int32) (ls : Array Slot), va_P D vwCl (wC a cI cZ S_67) H → va_S (AC 24 a s.heap.size) s.heap H locs → lv_has ls 9 [(0, .ref (a 19)), (1, .int p1), (2, .int p2), (3, .int p3), (4, .int p4), (5, .int r1), (6, .int v6_58), (7, .int v7_67)] → LPf (κ := ST → Int32 → Option (ST)) (fun _ _ => none) (fun kk => mX0_findLeastCost_B67 kk (mX0_findLeastCost_X67 k x p1 p2 p3 p4 r1 v6_58) p1 p2 p3 p4 r1 v6_58) n S_67 v7_67 = some res → W p l e rmX0_findLeastCost s m ([.ref (a 19), .int p1, .int p2, .int p3, .int p4] : List Value).toArray below meth c H locs 0 0 (MQ below (va_Qv (fun T : ST => T = res) (PostW (wC a cI cZ) D cI cZ) (AC 24 a s.heap.size)) ([.ref (a 19), .int p1, .int p2, .int p3, .int p4] : List Value).toArray s 0 0 (AC 24 a s.heap.size)) (F0 m 67 ls []) := by
            intro n
            induction n with
            | zero =>
              intro S_67 H locs v7_67 ls hP hS hl hm
              exact (noS (show (none : Option (ST)) = some res from hm)).elim
            | succ n ih =>
              intro S_67 H locs v7_67 ls hP hS hl hm
              exact kb67 _ _ ih kx67 S_67 H locs v7_67 ls hP hS hl hm
          exact lp67 FU S_58 H locs (0 : Int32) ls hP hS (lv_sub hl [1, 2, 3, 4, 5, 6, 7, 0] rfl) hm
      have kx58 : ∀ (S_58 : ST) (H : Heap) (locs : List Loc) (v6_58 : Int32) (ls : Array Slot), va_P D vwCl (wC a cI cZ S_58) H → va_S (AC 24 a s.heap.size) s.heap H locs → lv_has ls 9 [(0, .ref (a 19)), (1, .int p1), (2, .int p2), (3, .int p3), (4, .int p4), (5, .int r1), (6, .int v6_58)] → mX0_findLeastCost_X58  p1 p2 p3 p4 r1 S_58 v6_58 = some res → W p l e rmX0_findLeastCost s m ([.ref (a 19), .int p1, .int p2, .int p3, .int p4] : List Value).toArray below meth c H locs 0 0 (MQ below (va_Qv (fun T : ST => T = res) (PostW (wC a cI cZ) D cI cZ) (AC 24 a s.heap.size)) ([.ref (a 19), .int p1, .int p2, .int p3, .int p4] : List Value).toArray s 0 0 (AC 24 a s.heap.size)) (F0 m 118 ls []) := by
        intro S_58 H locs v6_58 ls hP hS hl hm
        unfold mX0_findLeastCost_X58 at hm
        exact endV X hK hr hlocks hm hP hS dX0_findLeastCost_118
      have lp58 : ∀ (n : Nat) (S_58 : ST) (H : Heap) (locs : List Loc) (v6_58 : Int32) (ls : Array Slot), va_P D vwCl (wC a cI cZ S_58) H → va_S (AC 24 a s.heap.size) s.heap H locs → lv_has ls 9 [(0, .ref (a 19)), (1, .int p1), (2, .int p2), (3, .int p3), (4, .int p4), (5, .int r1), (6, .int v6_58)] → LPf (κ := ST → Int32 → Option (ST)) (fun _ _ => none) (fun kk => mX0_findLeastCost_B58 kk (mX0_findLeastCost_X58  p1 p2 p3 p4 r1) p1 p2 p3 p4 r1) n S_58 v6_58 = some res → W p l e rmX0_findLeastCost s m ([.ref (a 19), .int p1, .int p2, .int p3, .int p4] : List Value).toArray below meth c H locs 0 0 (MQ below (va_Qv (fun T : ST => T = res) (PostW (wC a cI cZ) D cI cZ) (AC 24 a s.heap.size)) ([.ref (a 19), .int p1, .int p2, .int p3, .int p4] : List Value).toArray s 0 0 (AC 24 a s.heap.size)) (F0 m 58 ls []) := by
        intro n
        induction n with
        | zero =>
          intro S_58 H locs v6_58 ls hP hS hl hm
          exact (noS (show (none : Option (ST)) = some res from hm)).elim
        | succ n ih =>
          intro S_58 H locs v6_58 ls hP hS hl hm
          exact kb58 _ _ ih kx58 S_58 H locs v6_58 ls hP hS hl hm
      exact lp58 FU (sG (sG S 13 r1 r3) 14 r1 (1048576 : Int32)) H locs (0 : Int32) ls hP hS (lv_sub hl [2, 3, 4, 5, 6, 1, 0] rfl) hm
    · replace hm := (if_neg hc).symm.trans hm
      exact endV X hK hr hlocks hm hP hS dX0_findLeastCost_32

def rmX0_findLeastCosts : Room := { frames := 4, cells := 0, slots := 0, locals := 94 }
set_option maxHeartbeats 4000000 in
set_option maxRecDepth 100000 in
theorem kX0_findLeastCosts (l : Launch) (D : va_G) (a : Nat → Nat) (cI cZ : ClassId) (hA : AP 24 a) (S : ST) (sz : Nat)  (res : ST) (hm : mX0_findLeastCosts S  = some res) : Met l yX0_findLeastCosts wsX0_findLeastCosts rmX0_findLeastCosts (va_Pc [.ref (a 19)] (PreW (wC a cI cZ S) D cI cZ sz)) (va_Qv (fun T : ST => T = res) (PostW (wC a cI cZ) D cI cZ) (AC 24 a sz)) 0 0 (AC 24 a sz) := by
  refine metB (cc := cX0_findLeastCosts) (maxL := 5) (ret := none) (by decide) rfl (Nat.le_of_ble_eq_true rfl) ?_
  intro p e s m below meth c ls X hml hr hlocks hin hv hl
  replace X : CX p m c cX0_findLeastCosts s ([.ref (a 19)] : List Value).toArray wsX0_findLeastCosts RX0 := X
  obtain ⟨hsz, hP, hK, hNW⟩ := hv
  subst hsz
  have hS : va_S (AC 24 a s.heap.size) s.heap s.heap [] := va_S.rf
  have hx := X.1
  have hb := X.2.1
  replace hl : lv_has ls 5 [(0, .ref (a 19))] := hl
  have iX0 : ∀ w ∈ wsX00, w ∈ wsX0_findLeastCosts := fun w h => List.mem_cons_of_mem _ (List.mem_append_left _ (List.mem_append_right _ h))
  have iX3 : ∀ w ∈ wsX30, w ∈ wsX0_findLeastCosts := fun w h => List.mem_cons_of_mem _ (List.mem_append_right _ h)
  suffices kS : ∀ (H : Heap) (locs : List Loc), va_P D vwCl (wC a cI cZ S) H → va_S (AC 24 a s.heap.size) s.heap H locs → W p l e rmX0_findLeastCosts s m ([.ref (a 19)] : List Value).toArray below meth c H locs 0 0 (MQ below (va_Qv (fun T : ST => T = res) (PostW (wC a cI cZ) D cI cZ) (AC 24 a s.heap.size)) ([.ref (a 19)] : List Value).toArray s 0 0 (AC 24 a s.heap.size)) (F0 m 0 ls []) by exact kS s.heap [] hP hS
  intro H locs hP hS
  unfold mX0_findLeastCosts at hm
  refine lv_iconst (v := (0 : Int32)) hx hb dX0_findLeastCosts_0 (by decide) ?_
  refine lv_istore_n (lv' := [(1, .int (0 : Int32)), (0, .ref (a 19))]) hx hb dX0_findLeastCosts_1 rfl hl (by decide) rfl (fun ls hl => ?_)
  have kb2 : ∀ (k x : ST → Int32 → Option (ST)), (∀ (S_2 : ST) (H : Heap) (locs : List Loc) (v1_2 : Int32) (ls : Array Slot), va_P D vwCl (wC a cI cZ S_2) H → va_S (AC 24 a s.heap.size) s.heap H locs → lv_has ls 5 [(0, .ref (a 19)), (1, .int v1_2)] → k S_2 v1_2 = some res → W p l e rmX0_findLeastCosts s m ([.ref (a 19)] : List Value).toArray below meth c H locs 0 0 (MQ below (va_Qv (fun T : ST => T = res) (PostW (wC a cI cZ) D cI cZ) (AC 24 a s.heap.size)) ([.ref (a 19)] : List Value).toArray s 0 0 (AC 24 a s.heap.size)) (F0 m 2 ls [])) → (∀ (S_2 : ST) (H : Heap) (locs : List Loc) (v1_2 : Int32) (ls : Array Slot), va_P D vwCl (wC a cI cZ S_2) H → va_S (AC 24 a s.heap.size) s.heap H locs → lv_has ls 5 [(0, .ref (a 19)), (1, .int v1_2)] → x S_2 v1_2 = some res → W p l e rmX0_findLeastCosts s m ([.ref (a 19)] : List Value).toArray below meth c H locs 0 0 (MQ below (va_Qv (fun T : ST => T = res) (PostW (wC a cI cZ) D cI cZ) (AC 24 a s.heap.size)) ([.ref (a 19)] : List Value).toArray s 0 0 (AC 24 a s.heap.size)) (F0 m 91 ls [])) → ∀ (S_2 : ST) (H : Heap) (locs : List Loc) (v1_2 : Int32) (ls : Array Slot), va_P D vwCl (wC a cI cZ S_2) H → va_S (AC 24 a s.heap.size) s.heap H locs → lv_has ls 5 [(0, .ref (a 19)), (1, .int v1_2)] → mX0_findLeastCosts_B2 k x  S_2 v1_2 = some res → W p l e rmX0_findLeastCosts s m ([.ref (a 19)] : List Value).toArray below meth c H locs 0 0 (MQ below (va_Qv (fun T : ST => T = res) (PostW (wC a cI cZ) D cI cZ) (AC 24 a s.heap.size)) ([.ref (a 19)] : List Value).toArray s 0 0 (AC 24 a s.heap.size)) (F0 m 2 ls []) := by
    intro k x ih kxh S_2 H locs v1_2 ls hP hS hl hm
    unfold mX0_findLeastCosts_B2 at hm
    refine lv_iload_n hx hb dX0_findLeastCosts_2 rfl (lv_at hl 1 rfl) ?_
    refine lv_aload_n hx hb dX0_findLeastCosts_3 rfl (lv_at hl 0 rfl) ?_
    refine gC_X0_rack X hK hP iX0 (List.mem_of_getElem? (i := 1) rfl) dX0_findLeastCosts_4 ?_
    refine lv_iconst (v := (0 : Int32)) hx hb dX0_findLeastCosts_7 (by decide) ?_
    obtain ⟨r1, hr1, hm⟩ := bd_ok hm
    refine callRV (rest := [.int v1_2]) X hK hNW hml hP hl.1 (kX3_wantedOf l D a cI cZ S_2 (0 : Int32) r1 hr1) (cwV 1 X.2.2.1 gX0_findLeastCosts_X3_wantedOf rfl rfl rfl (by decide +kernel) ⟨Nat.le_of_ble_eq_true rfl, Nat.le_of_ble_eq_true rfl⟩) (vC_X3 hK hP) rfl rfl (Nat.le_of_ble_eq_true rfl) dX0_findLeastCosts_8 ⟨Nat.zero_le _, Nat.zero_le _⟩ ?_
    refine lv_icmp_gt (tgt := 91) hx hb dX0_findLeastCosts_11 (by decide) (fun hc => ?_) (fun hc => ?_)
    · replace hm := (if_pos hc).symm.trans hm
      exact kxh S_2 H locs v1_2 ls hP hS (lv_sub hl [0, 1] rfl) hm
    · replace hm := (if_neg hc).symm.trans hm
      refine lv_iconst (v := (0 : Int32)) hx hb dX0_findLeastCosts_14 (by decide) ?_
      refine lv_istore_n (lv' := [(2, .int (0 : Int32)), (0, .ref (a 19)), (1, .int v1_2)]) hx hb dX0_findLeastCosts_15 rfl hl (by decide) rfl (fun ls hl => ?_)
      have kb16 : ∀ (k x : ST → Int32 → Option (ST)), (∀ (S_16 : ST) (H : Heap) (locs : List Loc) (v2_16 : Int32) (ls : Array Slot), va_P D vwCl (wC a cI cZ S_16) H → va_S (AC 24 a s.heap.size) s.heap H locs → lv_has ls 5 [(0, .ref (a 19)), (1, .int v1_2), (2, .int v2_16)] → k S_16 v2_16 = some res → W p l e rmX0_findLeastCosts s m ([.ref (a 19)] : List Value).toArray below meth c H locs 0 0 (MQ below (va_Qv (fun T : ST => T = res) (PostW (wC a cI cZ) D cI cZ) (AC 24 a s.heap.size)) ([.ref (a 19)] : List Value).toArray s 0 0 (AC 24 a s.heap.size)) (F0 m 16 ls [])) → (∀ (S_16 : ST) (H : Heap) (locs : List Loc) (v2_16 : Int32) (ls : Array Slot), va_P D vwCl (wC a cI cZ S_16) H → va_S (AC 24 a s.heap.size) s.heap H locs → lv_has ls 5 [(0, .ref (a 19)), (1, .int v1_2), (2, .int v2_16)] → x S_16 v2_16 = some res → W p l e rmX0_findLeastCosts s m ([.ref (a 19)] : List Value).toArray below meth c H locs 0 0 (MQ below (va_Qv (fun T : ST => T = res) (PostW (wC a cI cZ) D cI cZ) (AC 24 a s.heap.size)) ([.ref (a 19)] : List Value).toArray s 0 0 (AC 24 a s.heap.size)) (F0 m 85 ls [])) → ∀ (S_16 : ST) (H : Heap) (locs : List Loc) (v2_16 : Int32) (ls : Array Slot), va_P D vwCl (wC a cI cZ S_16) H → va_S (AC 24 a s.heap.size) s.heap H locs → lv_has ls 5 [(0, .ref (a 19)), (1, .int v1_2), (2, .int v2_16)] → mX0_findLeastCosts_B16 k x v1_2 S_16 v2_16 = some res → W p l e rmX0_findLeastCosts s m ([.ref (a 19)] : List Value).toArray below meth c H locs 0 0 (MQ below (va_Qv (fun T : ST => T = res) (PostW (wC a cI cZ) D cI cZ) (AC 24 a s.heap.size)) ([.ref (a 19)] : List Value).toArray s 0 0 (AC 24 a s.heap.size)) (F0 m 16 ls []) := by
        intro k x ih kxh S_16 H locs v2_16 ls hP hS hl hm
        unfold mX0_findLeastCosts_B16 at hm
        refine lv_iload_n hx hb dX0_findLeastCosts_16 rfl (lv_at hl 2 rfl) ?_
        refine lv_aload_n hx hb dX0_findLeastCosts_17 rfl (lv_at hl 0 rfl) ?_
        refine gC_X0_rack X hK hP iX0 (List.mem_of_getElem? (i := 1) rfl) dX0_findLeastCosts_18 ?_
        refine lv_iconst (v := (1 : Int32)) hx hb dX0_findLeastCosts_21 (by decide) ?_
        obtain ⟨r2, hr2, hm⟩ := bd_ok hm
        refine callRV (rest := [.int v2_16]) X hK hNW hml hP hl.1 (kX3_wantedOf l D a cI cZ S_16 (1 : Int32) r2 hr2) (cwV 1 X.2.2.1 gX0_findLeastCosts_X3_wantedOf rfl rfl rfl (by decide +kernel) ⟨Nat.le_of_ble_eq_true rfl, Nat.le_of_ble_eq_true rfl⟩) (vC_X3 hK hP) rfl rfl (Nat.le_of_ble_eq_true rfl) dX0_findLeastCosts_22 ⟨Nat.zero_le _, Nat.zero_le _⟩ ?_
        refine lv_icmp_gt (tgt := 85) hx hb dX0_findLeastCosts_25 (by decide) (fun hc => ?_) (fun hc => ?_)
        · replace hm := (if_pos hc).symm.trans hm
          exact kxh S_16 H locs v2_16 ls hP hS (lv_sub hl [0, 1, 2] rfl) hm
        · replace hm := (if_neg hc).symm.trans hm
          refine lv_iconst (v := (0 : Int32)) hx hb dX0_findLeastCosts_28 (by decide) ?_
          refine lv_istore_n (lv' := [(3, .int (0 : Int32)), (0, .ref (a 19)), (1, .int v1_2), (2, .int v2_16)]) hx hb dX0_findLeastCosts_29 rfl hl (by decide) rfl (fun ls hl => ?_)
          have kb30 : ∀ (k x : ST → Int32 → Option (ST)), (∀ (S_30 : ST) (H : Heap) (locs : List Loc) (v3_30 : Int32) (ls : Array Slot), va_P D vwCl (wC a cI cZ S_30) H → va_S (AC 24 a s.heap.size) s.heap H locs → lv_has ls 5 [(0, .ref (a 19)), (1, .int v1_2), (2, .int v2_16), (3, .int v3_30)] → k S_30 v3_30 = some res → W p l e rmX0_findLeastCosts s m ([.ref (a 19)] : List Value).toArray below meth c H locs 0 0 (MQ below (va_Qv (fun T : ST => T = res) (PostW (wC a cI cZ) D cI cZ) (AC 24 a s.heap.size)) ([.ref (a 19)] : List Value).toArray s 0 0 (AC 24 a s.heap.size)) (F0 m 30 ls [])) → (∀ (S_30 : ST) (H : Heap) (locs : List Loc) (v3_30 : Int32) (ls : Array Slot), va_P D vwCl (wC a cI cZ S_30) H → va_S (AC 24 a s.heap.size) s.heap H locs → lv_has ls 5 [(0, .ref (a 19)), (1, .int v1_2), (2, .int v2_16), (3, .int v3_30)] → x S_30 v3_30 = some res → W p l e rmX0_findLeastCosts s m ([.ref (a 19)] : List Value).toArray below meth c H locs 0 0 (MQ below (va_Qv (fun T : ST => T = res) (PostW (wC a cI cZ) D cI cZ) (AC 24 a s.heap.size)) ([.ref (a 19)] : List Value).toArray s 0 0 (AC 24 a s.heap.size)) (F0 m 79 ls [])) → ∀ (S_30 : ST) (H : Heap) (locs : List Loc) (v3_30 : Int32) (ls : Array Slot), va_P D vwCl (wC a cI cZ S_30) H → va_S (AC 24 a s.heap.size) s.heap H locs → lv_has ls 5 [(0, .ref (a 19)), (1, .int v1_2), (2, .int v2_16), (3, .int v3_30)] → mX0_findLeastCosts_B30 k x v1_2 v2_16 S_30 v3_30 = some res → W p l e rmX0_findLeastCosts s m ([.ref (a 19)] : List Value).toArray below meth c H locs 0 0 (MQ below (va_Qv (fun T : ST => T = res) (PostW (wC a cI cZ) D cI cZ) (AC 24 a s.heap.size)) ([.ref (a 19)] : List Value).toArray s 0 0 (AC 24 a s.heap.size)) (F0 m 30 ls []) := by
            intro k x ih kxh S_30 H locs v3_30 ls hP hS hl hm
            unfold mX0_findLeastCosts_B30 at hm
            refine lv_iload_n hx hb dX0_findLeastCosts_30 rfl (lv_at hl 3 rfl) ?_
            refine lv_aload_n hx hb dX0_findLeastCosts_31 rfl (lv_at hl 0 rfl) ?_
            refine gC_X0_rack X hK hP iX0 (List.mem_of_getElem? (i := 1) rfl) dX0_findLeastCosts_32 ?_
            refine lv_iconst (v := (2 : Int32)) hx hb dX0_findLeastCosts_35 (by decide) ?_
            obtain ⟨r3, hr3, hm⟩ := bd_ok hm
            refine callRV (rest := [.int v3_30]) X hK hNW hml hP hl.1 (kX3_wantedOf l D a cI cZ S_30 (2 : Int32) r3 hr3) (cwV 1 X.2.2.1 gX0_findLeastCosts_X3_wantedOf rfl rfl rfl (by decide +kernel) ⟨Nat.le_of_ble_eq_true rfl, Nat.le_of_ble_eq_true rfl⟩) (vC_X3 hK hP) rfl rfl (Nat.le_of_ble_eq_true rfl) dX0_findLeastCosts_36 ⟨Nat.zero_le _, Nat.zero_le _⟩ ?_
            refine lv_icmp_gt (tgt := 79) hx hb dX0_findLeastCosts_39 (by decide) (fun hc => ?_) (fun hc => ?_)
            · replace hm := (if_pos hc).symm.trans hm
              exact kxh S_30 H locs v3_30 ls hP hS (lv_sub hl [0, 1, 2, 3] rfl) hm
            · replace hm := (if_neg hc).symm.trans hm
              refine lv_iconst (v := (0 : Int32)) hx hb dX0_findLeastCosts_42 (by decide) ?_
              refine lv_istore (lv' := [(4, .int (0 : Int32)), (0, .ref (a 19)), (1, .int v1_2), (2, .int v2_16), (3, .int v3_30)]) hx hb dX0_findLeastCosts_43 hl (by decide) rfl (fun ls hl => ?_)
              have kb45 : ∀ (k x : ST → Int32 → Option (ST)), (∀ (S_45 : ST) (H : Heap) (locs : List Loc) (v4_45 : Int32) (ls : Array Slot), va_P D vwCl (wC a cI cZ S_45) H → va_S (AC 24 a s.heap.size) s.heap H locs → lv_has ls 5 [(0, .ref (a 19)), (1, .int v1_2), (2, .int v2_16), (3, .int v3_30), (4, .int v4_45)] → k S_45 v4_45 = some res → W p l e rmX0_findLeastCosts s m ([.ref (a 19)] : List Value).toArray below meth c H locs 0 0 (MQ below (va_Qv (fun T : ST => T = res) (PostW (wC a cI cZ) D cI cZ) (AC 24 a s.heap.size)) ([.ref (a 19)] : List Value).toArray s 0 0 (AC 24 a s.heap.size)) (F0 m 45 ls [])) → (∀ (S_45 : ST) (H : Heap) (locs : List Loc) (v4_45 : Int32) (ls : Array Slot), va_P D vwCl (wC a cI cZ S_45) H → va_S (AC 24 a s.heap.size) s.heap H locs → lv_has ls 5 [(0, .ref (a 19)), (1, .int v1_2), (2, .int v2_16), (3, .int v3_30), (4, .int v4_45)] → x S_45 v4_45 = some res → W p l e rmX0_findLeastCosts s m ([.ref (a 19)] : List Value).toArray below meth c H locs 0 0 (MQ below (va_Qv (fun T : ST => T = res) (PostW (wC a cI cZ) D cI cZ) (AC 24 a s.heap.size)) ([.ref (a 19)] : List Value).toArray s 0 0 (AC 24 a s.heap.size)) (F0 m 73 ls [])) → ∀ (S_45 : ST) (H : Heap) (locs : List Loc) (v4_45 : Int32) (ls : Array Slot), va_P D vwCl (wC a cI cZ S_45) H → va_S (AC 24 a s.heap.size) s.heap H locs → lv_has ls 5 [(0, .ref (a 19)), (1, .int v1_2), (2, .int v2_16), (3, .int v3_30), (4, .int v4_45)] → mX0_findLeastCosts_B45 k x v1_2 v2_16 v3_30 S_45 v4_45 = some res → W p l e rmX0_findLeastCosts s m ([.ref (a 19)] : List Value).toArray below meth c H locs 0 0 (MQ below (va_Qv (fun T : ST => T = res) (PostW (wC a cI cZ) D cI cZ) (AC 24 a s.heap.size)) ([.ref (a 19)] : List Value).toArray s 0 0 (AC 24 a s.heap.size)) (F0 m 45 ls []) := by
                intro k x ih kxh S_45 H locs v4_45 ls hP hS hl hm
                unfold mX0_findLeastCosts_B45 at hm
                refine lv_iload hx hb dX0_findLeastCosts_45 (lv_at hl 4 rfl) ?_
                refine lv_aload_n hx hb dX0_findLeastCosts_47 rfl (lv_at hl 0 rfl) ?_
                refine gC_X0_rack X hK hP iX0 (List.mem_of_getElem? (i := 1) rfl) dX0_findLeastCosts_48 ?_
                refine lv_iconst (v := (3 : Int32)) hx hb dX0_findLeastCosts_51 (by decide) ?_
                obtain ⟨r4, hr4, hm⟩ := bd_ok hm
                refine callRV (rest := [.int v4_45]) X hK hNW hml hP hl.1 (kX3_wantedOf l D a cI cZ S_45 (3 : Int32) r4 hr4) (cwV 1 X.2.2.1 gX0_findLeastCosts_X3_wantedOf rfl rfl rfl (by decide +kernel) ⟨Nat.le_of_ble_eq_true rfl, Nat.le_of_ble_eq_true rfl⟩) (vC_X3 hK hP) rfl rfl (Nat.le_of_ble_eq_true rfl) dX0_findLeastCosts_52 ⟨Nat.zero_le _, Nat.zero_le _⟩ ?_
                refine lv_icmp_gt (tgt := 73) hx hb dX0_findLeastCosts_55 (by decide) (fun hc => ?_) (fun hc => ?_)
                · replace hm := (if_pos hc).symm.trans hm
                  exact kxh S_45 H locs v4_45 ls hP hS (lv_sub hl [0, 1, 2, 3, 4] rfl) hm
                · replace hm := (if_neg hc).symm.trans hm
                  refine lv_aload_n hx hb dX0_findLeastCosts_58 rfl (lv_at hl 0 rfl) ?_
                  refine lv_iload_n hx hb dX0_findLeastCosts_59 rfl (lv_at hl 1 rfl) ?_
                  refine lv_iload_n hx hb dX0_findLeastCosts_60 rfl (lv_at hl 2 rfl) ?_
                  refine lv_iload_n hx hb dX0_findLeastCosts_61 rfl (lv_at hl 3 rfl) ?_
                  refine lv_iload hx hb dX0_findLeastCosts_62 (lv_at hl 4 rfl) ?_
                  obtain ⟨r5, hr5, hm⟩ := bd_ok hm
                  refine callWV (wf := wC a cI cZ) (rest := []) X hK hNW hml hP hS hl.1 (kX0_findLeastCost l D a cI cZ hA S_45 H.size v1_2 v2_16 v3_30 v4_45 r5 hr5) (cwV 4 X.2.2.1 gX0_findLeastCosts_X0_findLeastCost rfl rfl rfl (by decide +kernel) ⟨Nat.le_of_ble_eq_true rfl, Nat.le_of_ble_eq_true rfl⟩) (vC_X0 hK hP) rfl rfl (Nat.le_of_ble_eq_true rfl) dX0_findLeastCosts_64 ⟨Nat.zero_le _, Nat.zero_le _⟩ (fun H locs hP hS => ?_)
                  refine lv_iinc (v := (v4_45 + (1 : Int32))) (lv' := [(4, .int (v4_45 + (1 : Int32))), (0, .ref (a 19)), (1, .int v1_2), (2, .int v2_16), (3, .int v3_30)]) hx hb dX0_findLeastCosts_67 hl (k := 4) rfl rfl (by decide) rfl (fun ls hl => ?_)
                  refine lv_goto (tgt := 45) hx hb dX0_findLeastCosts_70 (by decide) ?_
                  exact ih r5 H locs (v4_45 + (1 : Int32)) ls hP hS (lv_sub hl [1, 2, 3, 4, 0] rfl) hm
              have kx45 : ∀ (S_45 : ST) (H : Heap) (locs : List Loc) (v4_45 : Int32) (ls : Array Slot), va_P D vwCl (wC a cI cZ S_45) H → va_S (AC 24 a s.heap.size) s.heap H locs → lv_has ls 5 [(0, .ref (a 19)), (1, .int v1_2), (2, .int v2_16), (3, .int v3_30), (4, .int v4_45)] → mX0_findLeastCosts_X45 k x v1_2 v2_16 v3_30 S_45 v4_45 = some res → W p l e rmX0_findLeastCosts s m ([.ref (a 19)] : List Value).toArray below meth c H locs 0 0 (MQ below (va_Qv (fun T : ST => T = res) (PostW (wC a cI cZ) D cI cZ) (AC 24 a s.heap.size)) ([.ref (a 19)] : List Value).toArray s 0 0 (AC 24 a s.heap.size)) (F0 m 73 ls []) := by
                intro S_45 H locs v4_45 ls hP hS hl hm
                unfold mX0_findLeastCosts_X45 at hm
                refine lv_iinc (v := (v3_30 + (1 : Int32))) (lv' := [(3, .int (v3_30 + (1 : Int32))), (0, .ref (a 19)), (1, .int v1_2), (2, .int v2_16), (4, .int v4_45)]) hx hb dX0_findLeastCosts_73 hl (k := 3) rfl rfl (by decide) rfl (fun ls hl => ?_)
                refine lv_goto (tgt := 30) hx hb dX0_findLeastCosts_76 (by decide) ?_
                exact ih S_45 H locs (v3_30 + (1 : Int32)) ls hP hS (lv_sub hl [1, 2, 3, 0] rfl) hm
              have lp45 : ∀ (n : Nat) (S_45 : ST) (H : Heap) (locs : List Loc) (v4_45 : Int32) (ls : Array Slot), va_P D vwCl (wC a cI cZ S_45) H → va_S (AC 24 a s.heap.size) s.heap H locs → lv_has ls 5 [(0, .ref (a 19)), (1, .int v1_2), (2, .int v2_16), (3, .int v3_30), (4, .int v4_45)] → LPf (κ := ST → Int32 → Option (ST)) (fun _ _ => none) (fun kk => mX0_findLeastCosts_B45 kk (mX0_findLeastCosts_X45 k x v1_2 v2_16 v3_30) v1_2 v2_16 v3_30) n S_45 v4_45 = some res → W p l e rmX0_findLeastCosts s m ([.ref (a 19)] : List Value).toArray below meth c H locs 0 0 (MQ below (va_Qv (fun T : ST => T = res) (PostW (wC a cI cZ) D cI cZ) (AC 24 a s.heap.size)) ([.ref (a 19)] : List Value).toArray s 0 0 (AC 24 a s.heap.size)) (F0 m 45 ls []) := by
                intro n
                induction n with
                | zero =>
                  intro S_45 H locs v4_45 ls hP hS hl hm
                  exact (noS (show (none : Option (ST)) = some res from hm)).elim
                | succ n ih =>
                  intro S_45 H locs v4_45 ls hP hS hl hm
                  exact kb45 _ _ ih kx45 S_45 H locs v4_45 ls hP hS hl hm
              exact lp45 FU S_30 H locs (0 : Int32) ls hP hS (lv_sub hl [1, 2, 3, 4, 0] rfl) hm
          have kx30 : ∀ (S_30 : ST) (H : Heap) (locs : List Loc) (v3_30 : Int32) (ls : Array Slot), va_P D vwCl (wC a cI cZ S_30) H → va_S (AC 24 a s.heap.size) s.heap H locs → lv_has ls 5 [(0, .ref (a 19)), (1, .int v1_2), (2, .int v2_16), (3, .int v3_30)] → mX0_findLeastCosts_X30 k x v1_2 v2_16 S_30 v3_30 = some res → W p l e rmX0_findLeastCosts s m ([.ref (a 19)] : List Value).toArray below meth c H locs 0 0 (MQ below (va_Qv (fun T : ST => T = res) (PostW (wC a cI cZ) D cI cZ) (AC 24 a s.heap.size)) ([.ref (a 19)] : List Value).toArray s 0 0 (AC 24 a s.heap.size)) (F0 m 79 ls []) := by
            intro S_30 H locs v3_30 ls hP hS hl hm
            unfold mX0_findLeastCosts_X30 at hm
            refine lv_iinc (v := (v2_16 + (1 : Int32))) (lv' := [(2, .int (v2_16 + (1 : Int32))), (0, .ref (a 19)), (1, .int v1_2), (3, .int v3_30)]) hx hb dX0_findLeastCosts_79 hl (k := 2) rfl rfl (by decide) rfl (fun ls hl => ?_)
            refine lv_goto (tgt := 16) hx hb dX0_findLeastCosts_82 (by decide) ?_
            exact ih S_30 H locs (v2_16 + (1 : Int32)) ls hP hS (lv_sub hl [1, 2, 0] rfl) hm
          have lp30 : ∀ (n : Nat) (S_30 : ST) (H : Heap) (locs : List Loc) (v3_30 : Int32) (ls : Array Slot), va_P D vwCl (wC a cI cZ S_30) H → va_S (AC 24 a s.heap.size) s.heap H locs → lv_has ls 5 [(0, .ref (a 19)), (1, .int v1_2), (2, .int v2_16), (3, .int v3_30)] → LPf (κ := ST → Int32 → Option (ST)) (fun _ _ => none) (fun kk => mX0_findLeastCosts_B30 kk (mX0_findLeastCosts_X30 k x v1_2 v2_16) v1_2 v2_16) n S_30 v3_30 = some res → W p l e rmX0_findLeastCosts s m ([.ref (a 19)] : List Value).toArray below meth c H locs 0 0 (MQ below (va_Qv (fun T : ST => T = res) (PostW (wC a cI cZ) D cI cZ) (AC 24 a s.heap.size)) ([.ref (a 19)] : List Value).toArray s 0 0 (AC 24 a s.heap.size)) (F0 m 30 ls []) := by
            intro n
            induction n with
            | zero =>
              intro S_30 H locs v3_30 ls hP hS hl hm
              exact (noS (show (none : Option (ST)) = some res from hm)).elim
            | succ n ih =>
              intro S_30 H locs v3_30 ls hP hS hl hm
              exact kb30 _ _ ih kx30 S_30 H locs v3_30 ls hP hS hl hm
          exact lp30 FU S_16 H locs (0 : Int32) ls hP hS (lv_sub hl [1, 2, 3, 0] rfl) hm
      have kx16 : ∀ (S_16 : ST) (H : Heap) (locs : List Loc) (v2_16 : Int32) (ls : Array Slot), va_P D vwCl (wC a cI cZ S_16) H → va_S (AC 24 a s.heap.size) s.heap H locs → lv_has ls 5 [(0, .ref (a 19)), (1, .int v1_2), (2, .int v2_16)] → mX0_findLeastCosts_X16 k x v1_2 S_16 v2_16 = some res → W p l e rmX0_findLeastCosts s m ([.ref (a 19)] : List Value).toArray below meth c H locs 0 0 (MQ below (va_Qv (fun T : ST => T = res) (PostW (wC a cI cZ) D cI cZ) (AC 24 a s.heap.size)) ([.ref (a 19)] : List Value).toArray s 0 0 (AC 24 a s.heap.size)) (F0 m 85 ls []) := by
        intro S_16 H locs v2_16 ls hP hS hl hm
        unfold mX0_findLeastCosts_X16 at hm
        refine lv_iinc (v := (v1_2 + (1 : Int32))) (lv' := [(1, .int (v1_2 + (1 : Int32))), (0, .ref (a 19)), (2, .int v2_16)]) hx hb dX0_findLeastCosts_85 hl (k := 1) rfl rfl (by decide) rfl (fun ls hl => ?_)
        refine lv_goto (tgt := 2) hx hb dX0_findLeastCosts_88 (by decide) ?_
        exact ih S_16 H locs (v1_2 + (1 : Int32)) ls hP hS (lv_sub hl [1, 0] rfl) hm
      have lp16 : ∀ (n : Nat) (S_16 : ST) (H : Heap) (locs : List Loc) (v2_16 : Int32) (ls : Array Slot), va_P D vwCl (wC a cI cZ S_16) H → va_S (AC 24 a s.heap.size) s.heap H locs → lv_has ls 5 [(0, .ref (a 19)), (1, .int v1_2), (2, .int v2_16)] → LPf (κ := ST → Int32 → Option (ST)) (fun _ _ => none) (fun kk => mX0_findLeastCosts_B16 kk (mX0_findLeastCosts_X16 k x v1_2) v1_2) n S_16 v2_16 = some res → W p l e rmX0_findLeastCosts s m ([.ref (a 19)] : List Value).toArray below meth c H locs 0 0 (MQ below (va_Qv (fun T : ST => T = res) (PostW (wC a cI cZ) D cI cZ) (AC 24 a s.heap.size)) ([.ref (a 19)] : List Value).toArray s 0 0 (AC 24 a s.heap.size)) (F0 m 16 ls []) := by
        intro n
        induction n with
        | zero =>
          intro S_16 H locs v2_16 ls hP hS hl hm
          exact (noS (show (none : Option (ST)) = some res from hm)).elim
        | succ n ih =>
          intro S_16 H locs v2_16 ls hP hS hl hm
          exact kb16 _ _ ih kx16 S_16 H locs v2_16 ls hP hS hl hm
      exact lp16 FU S_2 H locs (0 : Int32) ls hP hS (lv_sub hl [1, 2, 0] rfl) hm
  have kx2 : ∀ (S_2 : ST) (H : Heap) (locs : List Loc) (v1_2 : Int32) (ls : Array Slot), va_P D vwCl (wC a cI cZ S_2) H → va_S (AC 24 a s.heap.size) s.heap H locs → lv_has ls 5 [(0, .ref (a 19)), (1, .int v1_2)] → mX0_findLeastCosts_X2   S_2 v1_2 = some res → W p l e rmX0_findLeastCosts s m ([.ref (a 19)] : List Value).toArray below meth c H locs 0 0 (MQ below (va_Qv (fun T : ST => T = res) (PostW (wC a cI cZ) D cI cZ) (AC 24 a s.heap.size)) ([.ref (a 19)] : List Value).toArray s 0 0 (AC 24 a s.heap.size)) (F0 m 91 ls []) := by
    intro S_2 H locs v1_2 ls hP hS hl hm
    unfold mX0_findLeastCosts_X2 at hm
    exact endV X hK hr hlocks hm hP hS dX0_findLeastCosts_91
  have lp2 : ∀ (n : Nat) (S_2 : ST) (H : Heap) (locs : List Loc) (v1_2 : Int32) (ls : Array Slot), va_P D vwCl (wC a cI cZ S_2) H → va_S (AC 24 a s.heap.size) s.heap H locs → lv_has ls 5 [(0, .ref (a 19)), (1, .int v1_2)] → LPf (κ := ST → Int32 → Option (ST)) (fun _ _ => none) (fun kk => mX0_findLeastCosts_B2 kk (mX0_findLeastCosts_X2  ) ) n S_2 v1_2 = some res → W p l e rmX0_findLeastCosts s m ([.ref (a 19)] : List Value).toArray below meth c H locs 0 0 (MQ below (va_Qv (fun T : ST => T = res) (PostW (wC a cI cZ) D cI cZ) (AC 24 a s.heap.size)) ([.ref (a 19)] : List Value).toArray s 0 0 (AC 24 a s.heap.size)) (F0 m 2 ls []) := by
    intro n
    induction n with
    | zero =>
      intro S_2 H locs v1_2 ls hP hS hl hm
      exact (noS (show (none : Option (ST)) = some res from hm)).elim
    | succ n ih =>
      intro S_2 H locs v1_2 ls hP hS hl hm
      exact kb2 _ _ ih kx2 S_2 H locs v1_2 ls hP hS hl hm
  exact lp2 FU S H locs (0 : Int32) ls hP hS (lv_sub hl [1, 0] rfl) hm

def rmX0_takeBars : Room := { frames := 1, cells := 0, slots := 0, locals := 22 }
set_option maxHeartbeats 4000000 in
set_option maxRecDepth 100000 in
theorem kX0_takeBars (l : Launch) (D : va_G) (a : Nat → Nat) (cI cZ : ClassId) (hA : AP 24 a) (S : ST) (sz : Nat) (p1 : Int32) (res : ST) (hm : mX0_takeBars S p1 = some res) : Met l yX0_takeBars wsX0_takeBars rmX0_takeBars (va_Pc [.ref (a 19), .int p1] (PreW (wC a cI cZ S) D cI cZ sz)) (va_Qv (fun T : ST => T = res) (PostW (wC a cI cZ) D cI cZ) (AC 24 a sz)) 0 0 (AC 24 a sz) := by
  refine metB (cc := cX0_takeBars) (maxL := 3) (ret := none) (by decide) rfl (Nat.le_of_ble_eq_true rfl) ?_
  intro p e s m below meth c ls X hml hr hlocks hin hv hl
  replace X : CX p m c cX0_takeBars s ([.ref (a 19), .int p1] : List Value).toArray wsX0_takeBars RX0 := X
  obtain ⟨hsz, hP, hK, hNW⟩ := hv
  subst hsz
  have hS : va_S (AC 24 a s.heap.size) s.heap s.heap [] := va_S.rf
  have hx := X.1
  have hb := X.2.1
  replace hl : lv_has ls 3 [(0, .ref (a 19)), (1, .int p1)] := hl
  have iX0 : ∀ w ∈ wsX00, w ∈ wsX0_takeBars := fun w h => List.mem_cons_of_mem _ (List.mem_append_right _ h)
  suffices kS : ∀ (H : Heap) (locs : List Loc), va_P D vwCl (wC a cI cZ S) H → va_S (AC 24 a s.heap.size) s.heap H locs → W p l e rmX0_takeBars s m ([.ref (a 19), .int p1] : List Value).toArray below meth c H locs 0 0 (MQ below (va_Qv (fun T : ST => T = res) (PostW (wC a cI cZ) D cI cZ) (AC 24 a s.heap.size)) ([.ref (a 19), .int p1] : List Value).toArray s 0 0 (AC 24 a s.heap.size)) (F0 m 0 ls []) by exact kS s.heap [] hP hS
  intro H locs hP hS
  unfold mX0_takeBars at hm
  refine lv_aload_n hx hb dX0_takeBars_0 rfl (lv_at hl 0 rfl) ?_
  refine lv_iconst (v := (0 : Int32)) hx hb dX0_takeBars_1 (by decide) ?_
  refine pC_X0_count X hK hA hP hS iX0 (List.mem_of_getElem? (i := 1) rfl) dX0_takeBars_2 (fun H locs hP hS => ?_)
  refine lv_aload_n hx hb dX0_takeBars_5 rfl (lv_at hl 0 rfl) ?_
  refine lv_iconst (v := (0 : Int32)) hx hb dX0_takeBars_6 (by decide) ?_
  refine pC_X0_priceTogether X hK hA hP hS iX0 (List.mem_of_getElem? (i := 2) rfl) dX0_takeBars_7 (fun H locs hP hS => ?_)
  refine lv_aload_n hx hb dX0_takeBars_10 rfl (lv_at hl 0 rfl) ?_
  refine lv_iload_n hx hb dX0_takeBars_11 rfl (lv_at hl 1 rfl) ?_
  refine lv_iconst (v := (0 : Int32)) hx hb dX0_takeBars_12 (by decide) ?_
  refine lv_sipush (v := (4095 : Int32)) hx hb dX0_takeBars_13 (by decide) ?_
  obtain ⟨r1, hr1, hm⟩ := bd_ok hm
  refine callRN (rest := [.ref (a 19)]) X hml hl.1 (kX6_within l p1 (0 : Int32) (4095 : Int32) r1 hr1) ⟨va_cnB 3 X.2.2.1 gX0_takeBars_X6_within_n72 rfl rfl rfl hNW.1 (X.2.2.1 (Cond.initialized RX6) (List.mem_of_getElem? (i := 9) rfl)) (by decide +kernel) ⟨Nat.le_of_ble_eq_true rfl, Nat.le_of_ble_eq_true rfl⟩, X.2.2.1 (Cond.static yX6_within) (List.mem_of_getElem? (i := 8) rfl), trivial⟩ rfl rfl (Nat.le_of_ble_eq_true rfl) dX0_takeBars_16 ⟨Nat.zero_le _, Nat.zero_le _⟩ ?_
  have kJ38 : ∀ (S_38 : ST) (H : Heap) (locs : List Loc) (t0_38 : Int32) (ls : Array Slot), va_P D vwCl (wC a cI cZ S_38) H → va_S (AC 24 a s.heap.size) s.heap H locs → lv_has ls 3 [(0, .ref (a 19)), (1, .int p1)] → mX0_takeBars_J38  S_38 p1 t0_38 = some res → W p l e rmX0_takeBars s m ([.ref (a 19), .int p1] : List Value).toArray below meth c H locs 0 0 (MQ below (va_Qv (fun T : ST => T = res) (PostW (wC a cI cZ) D cI cZ) (AC 24 a s.heap.size)) ([.ref (a 19), .int p1] : List Value).toArray s 0 0 (AC 24 a s.heap.size)) (F0 m 38 ls [.int t0_38, .ref (a 19)]) := by
    intro S_38 H locs t0_38 ls hP hS hl hm
    unfold mX0_takeBars_J38 at hm
    obtain ⟨h1, hm⟩ := gd_ok hm
    refine pC_X0_isShort X hK hA hP hS iX0 (List.mem_of_getElem? (i := 5) rfl) (zB_ok h1) dX0_takeBars_38 (fun H locs hP hS => ?_)
    refine lv_aload_n hx hb dX0_takeBars_41 rfl (lv_at hl 0 rfl) ?_
    refine gC_X0_isShort X hK hP iX0 (List.mem_of_getElem? (i := 5) rfl) dX0_takeBars_42 ?_
    refine lv_if_eq (tgt := 49) hx hb dX0_takeBars_45 (by decide) (fun hc => ?_) (fun hc => ?_)
    · replace hm := (if_pos hc).symm.trans hm
      refine lv_aload_n hx hb dX0_takeBars_49 rfl (lv_at hl 0 rfl) ?_
      refine lv_aload_n hx hb dX0_takeBars_50 rfl (lv_at hl 0 rfl) ?_
      refine gC_X0_leastCosts X hK hP iX0 (List.mem_of_getElem? (i := 3) rfl) dX0_takeBars_51 ?_
      refine lv_iload_n hx hb dX0_takeBars_54 rfl (lv_at hl 1 rfl) ?_
      obtain ⟨h1, hm⟩ := gd_ok hm
      refine rC_X0_leastCosts X hK hP h1 dX0_takeBars_55 ?_
      refine lv_bipush (v := (21 : Int32)) hx hb dX0_takeBars_56 (by decide) ?_
      refine lv_idiv hx hb dX0_takeBars_58 (by decide) ?_
      refine pC_X0_priceTogether X hK hA hP hS iX0 (List.mem_of_getElem? (i := 2) rfl) dX0_takeBars_59 (fun H locs hP hS => ?_)
      refine lv_iload_n hx hb dX0_takeBars_62 rfl (lv_at hl 1 rfl) ?_
      refine lv_istore_n (lv' := [(2, .int p1), (0, .ref (a 19)), (1, .int p1)]) hx hb dX0_takeBars_63 rfl hl (by decide) rfl (fun ls hl => ?_)
      have kb64 : ∀ (k x : ST → Int32 → Option (ST)), (∀ (S_64 : ST) (H : Heap) (locs : List Loc) (v2_64 : Int32) (ls : Array Slot), va_P D vwCl (wC a cI cZ S_64) H → va_S (AC 24 a s.heap.size) s.heap H locs → lv_has ls 3 [(0, .ref (a 19)), (1, .int p1), (2, .int v2_64)] → k S_64 v2_64 = some res → W p l e rmX0_takeBars s m ([.ref (a 19), .int p1] : List Value).toArray below meth c H locs 0 0 (MQ below (va_Qv (fun T : ST => T = res) (PostW (wC a cI cZ) D cI cZ) (AC 24 a s.heap.size)) ([.ref (a 19), .int p1] : List Value).toArray s 0 0 (AC 24 a s.heap.size)) (F0 m 64 ls [])) → (∀ (S_64 : ST) (H : Heap) (locs : List Loc) (v2_64 : Int32) (ls : Array Slot), va_P D vwCl (wC a cI cZ S_64) H → va_S (AC 24 a s.heap.size) s.heap H locs → lv_has ls 3 [(0, .ref (a 19)), (1, .int p1), (2, .int v2_64)] → x S_64 v2_64 = some res → W p l e rmX0_takeBars s m ([.ref (a 19), .int p1] : List Value).toArray below meth c H locs 0 0 (MQ below (va_Qv (fun T : ST => T = res) (PostW (wC a cI cZ) D cI cZ) (AC 24 a s.heap.size)) ([.ref (a 19), .int p1] : List Value).toArray s 0 0 (AC 24 a s.heap.size)) (F0 m 121 ls [])) → ∀ (S_64 : ST) (H : Heap) (locs : List Loc) (v2_64 : Int32) (ls : Array Slot), va_P D vwCl (wC a cI cZ S_64) H → va_S (AC 24 a s.heap.size) s.heap H locs → lv_has ls 3 [(0, .ref (a 19)), (1, .int p1), (2, .int v2_64)] → mX0_takeBars_B64 k x p1 S_64 v2_64 = some res → W p l e rmX0_takeBars s m ([.ref (a 19), .int p1] : List Value).toArray below meth c H locs 0 0 (MQ below (va_Qv (fun T : ST => T = res) (PostW (wC a cI cZ) D cI cZ) (AC 24 a s.heap.size)) ([.ref (a 19), .int p1] : List Value).toArray s 0 0 (AC 24 a s.heap.size)) (F0 m 64 ls []) := by
        intro k x ih kxh S_64 H locs v2_64 ls hP hS hl hm
        unfold mX0_takeBars_B64 at hm
        refine lv_aload_n hx hb dX0_takeBars_64 rfl (lv_at hl 0 rfl) ?_
        refine gC_X0_count X hK hP iX0 (List.mem_of_getElem? (i := 1) rfl) dX0_takeBars_65 ?_
        refine lv_bipush (v := (20 : Int32)) hx hb dX0_takeBars_68 (by decide) ?_
        refine lv_icmp_ge (tgt := 121) hx hb dX0_takeBars_70 (by decide) (fun hc => ?_) (fun hc => ?_)
        · replace hm := (if_pos hc).symm.trans hm
          exact kxh S_64 H locs v2_64 ls hP hS (lv_sub hl [0, 1, 2] rfl) hm
        · replace hm := (if_neg hc).symm.trans hm
          refine lv_iload_n hx hb dX0_takeBars_73 rfl (lv_at hl 2 rfl) ?_
          refine lv_iconst (v := (1 : Int32)) hx hb dX0_takeBars_74 (by decide) ?_
          refine lv_sipush (v := (4095 : Int32)) hx hb dX0_takeBars_75 (by decide) ?_
          obtain ⟨r2, hr2, hm⟩ := bd_ok hm
          refine callRN (rest := []) X hml hl.1 (kX6_within l v2_64 (1 : Int32) (4095 : Int32) r2 hr2) ⟨va_cnB 3 X.2.2.1 gX0_takeBars_X6_within_n72 rfl rfl rfl hNW.1 (X.2.2.1 (Cond.initialized RX6) (List.mem_of_getElem? (i := 9) rfl)) (by decide +kernel) ⟨Nat.le_of_ble_eq_true rfl, Nat.le_of_ble_eq_true rfl⟩, X.2.2.1 (Cond.static yX6_within) (List.mem_of_getElem? (i := 8) rfl), trivial⟩ rfl rfl (Nat.le_of_ble_eq_true rfl) dX0_takeBars_78 ⟨Nat.zero_le _, Nat.zero_le _⟩ ?_
          refine lv_if_eq (tgt := 121) hx hb dX0_takeBars_81 (by decide) (fun hc => ?_) (fun hc => ?_)
          · replace hm := (if_pos hc).symm.trans hm
            exact kxh S_64 H locs v2_64 ls hP hS (lv_sub hl [0, 1, 2] rfl) hm
          · replace hm := (if_neg hc).symm.trans hm
            refine lv_aload_n hx hb dX0_takeBars_84 rfl (lv_at hl 0 rfl) ?_
            refine gC_X0_patterns X hK hP iX0 (List.mem_of_getElem? (i := 6) rfl) dX0_takeBars_85 ?_
            refine lv_aload_n hx hb dX0_takeBars_88 rfl (lv_at hl 0 rfl) ?_
            refine gC_X0_count X hK hP iX0 (List.mem_of_getElem? (i := 1) rfl) dX0_takeBars_89 ?_
            refine lv_aload_n hx hb dX0_takeBars_92 rfl (lv_at hl 0 rfl) ?_
            refine gC_X0_firstPatterns X hK hP iX0 (List.mem_of_getElem? (i := 7) rfl) dX0_takeBars_93 ?_
            refine lv_iload_n hx hb dX0_takeBars_96 rfl (lv_at hl 2 rfl) ?_
            obtain ⟨h1, hm⟩ := gd_ok hm
            refine rC_X0_firstPatterns X hK hP h1 dX0_takeBars_97 ?_
            obtain ⟨h1, hm⟩ := gd_ok hm
            refine sC_X0_patterns X hK hA hP hS h1 dX0_takeBars_98 (fun H locs hP hS => ?_)
            refine lv_iload_n hx hb dX0_takeBars_99 rfl (lv_at hl 2 rfl) ?_
            refine lv_aload_n hx hb dX0_takeBars_100 rfl (lv_at hl 0 rfl) ?_
            refine gC_X0_firstPatterns X hK hP iX0 (List.mem_of_getElem? (i := 7) rfl) dX0_takeBars_101 ?_
            refine lv_iload_n hx hb dX0_takeBars_104 rfl (lv_at hl 2 rfl) ?_
            obtain ⟨h1, hm⟩ := gd_ok hm
            refine rC_X0_firstPatterns X hK hP h1 dX0_takeBars_105 ?_
            refine lv_isub hx hb dX0_takeBars_106 ?_
            refine lv_istore_n (lv' := [(2, .int (v2_64 - (S_64.2 15 v2_64.toNatClampNeg))), (0, .ref (a 19)), (1, .int p1)]) hx hb dX0_takeBars_107 rfl hl (by decide) rfl (fun ls hl => ?_)
            refine lv_aload_n hx hb dX0_takeBars_108 rfl (lv_at hl 1 rfl) ?_
            refine lv_dup hx hb dX0_takeBars_109 rfl ?_
            refine gC_X0_count X hK hP iX0 (List.mem_of_getElem? (i := 1) rfl) dX0_takeBars_110 ?_
            refine lv_iconst (v := (1 : Int32)) hx hb dX0_takeBars_113 (by decide) ?_
            refine lv_iadd hx hb dX0_takeBars_114 ?_
            refine pC_X0_count X hK hA hP hS iX0 (List.mem_of_getElem? (i := 1) rfl) dX0_takeBars_115 (fun H locs hP hS => ?_)
            refine lv_goto (tgt := 64) hx hb dX0_takeBars_118 (by decide) ?_
            exact ih (sI (sG S_64 16 (S_64.1 15) (S_64.2 15 v2_64.toNatClampNeg)) 15 ((S_64.1 15) + (1 : Int32))) H locs (v2_64 - (S_64.2 15 v2_64.toNatClampNeg)) ls hP hS (lv_sub hl [1, 2, 0] rfl) hm
      have kx64 : ∀ (S_64 : ST) (H : Heap) (locs : List Loc) (v2_64 : Int32) (ls : Array Slot), va_P D vwCl (wC a cI cZ S_64) H → va_S (AC 24 a s.heap.size) s.heap H locs → lv_has ls 3 [(0, .ref (a 19)), (1, .int p1), (2, .int v2_64)] → mX0_takeBars_X64  p1 S_64 v2_64 = some res → W p l e rmX0_takeBars s m ([.ref (a 19), .int p1] : List Value).toArray below meth c H locs 0 0 (MQ below (va_Qv (fun T : ST => T = res) (PostW (wC a cI cZ) D cI cZ) (AC 24 a s.heap.size)) ([.ref (a 19), .int p1] : List Value).toArray s 0 0 (AC 24 a s.heap.size)) (F0 m 121 ls []) := by
        intro S_64 H locs v2_64 ls hP hS hl hm
        unfold mX0_takeBars_X64 at hm
        exact endV X hK hr hlocks hm hP hS dX0_takeBars_121
      have lp64 : ∀ (n : Nat) (S_64 : ST) (H : Heap) (locs : List Loc) (v2_64 : Int32) (ls : Array Slot), va_P D vwCl (wC a cI cZ S_64) H → va_S (AC 24 a s.heap.size) s.heap H locs → lv_has ls 3 [(0, .ref (a 19)), (1, .int p1), (2, .int v2_64)] → LPf (κ := ST → Int32 → Option (ST)) (fun _ _ => none) (fun kk => mX0_takeBars_B64 kk (mX0_takeBars_X64  p1) p1) n S_64 v2_64 = some res → W p l e rmX0_takeBars s m ([.ref (a 19), .int p1] : List Value).toArray below meth c H locs 0 0 (MQ below (va_Qv (fun T : ST => T = res) (PostW (wC a cI cZ) D cI cZ) (AC 24 a s.heap.size)) ([.ref (a 19), .int p1] : List Value).toArray s 0 0 (AC 24 a s.heap.size)) (F0 m 64 ls []) := by
        intro n
        induction n with
        | zero =>
          intro S_64 H locs v2_64 ls hP hS hl hm
          exact (noS (show (none : Option (ST)) = some res from hm)).elim
        | succ n ih =>
          intro S_64 H locs v2_64 ls hP hS hl hm
          exact kb64 _ _ ih kx64 S_64 H locs v2_64 ls hP hS hl hm
      exact lp64 FU (sI (sI S_38 17 t0_38) 16 ((S_38.2 14 p1.toNatClampNeg) / (21 : Int32))) H locs p1 ls hP hS (lv_sub hl [1, 2, 0] rfl) hm
    · replace hm := (if_neg hc).symm.trans hm
      exact endV X hK hr hlocks hm hP hS dX0_takeBars_48
  refine lv_if_eq (tgt := 33) hx hb dX0_takeBars_19 (by decide) (fun hc => ?_) (fun hc => ?_)
  · replace hm := (if_pos hc).symm.trans hm
    refine lv_iconst (v := (1 : Int32)) hx hb dX0_takeBars_33 (by decide) ?_
    refine lv_goto (tgt := 38) hx hb dX0_takeBars_34 (by decide) ?_
    exact kJ38 (sI (sI S 15 (0 : Int32)) 16 (0 : Int32)) H locs (1 : Int32) ls hP hS (lv_sub hl [0, 1] rfl) hm
  · replace hm := (if_neg hc).symm.trans hm
    refine lv_aload_n hx hb dX0_takeBars_22 rfl (lv_at hl 0 rfl) ?_
    refine gC_X0_leastCosts X hK hP iX0 (List.mem_of_getElem? (i := 3) rfl) dX0_takeBars_23 ?_
    refine lv_iload_n hx hb dX0_takeBars_26 rfl (lv_at hl 1 rfl) ?_
    obtain ⟨h1, hm⟩ := gd_ok hm
    refine rC_X0_leastCosts X hK hP h1 dX0_takeBars_27 ?_
    refine lv_ldc (v := (1048576 : Int32)) hx hb X.2.2.2 (X.2.2.1 (Cond.constant RX0 79 (1048576)) (List.mem_of_getElem? (i := 4) rfl)) dX0_takeBars_28 ?_
    refine lv_icmp_lt (tgt := 37) hx hb dX0_takeBars_30 (by decide) (fun hc => ?_) (fun hc => ?_)
    · replace hm := (if_pos hc).symm.trans hm
      refine lv_iconst (v := (0 : Int32)) hx hb dX0_takeBars_37 (by decide) ?_
      exact kJ38 (sI (sI S 15 (0 : Int32)) 16 (0 : Int32)) H locs (0 : Int32) ls hP hS (lv_sub hl [0, 1] rfl) hm
    · replace hm := (if_neg hc).symm.trans hm
      refine lv_iconst (v := (1 : Int32)) hx hb dX0_takeBars_33 (by decide) ?_
      refine lv_goto (tgt := 38) hx hb dX0_takeBars_34 (by decide) ?_
      exact kJ38 (sI (sI S 15 (0 : Int32)) 16 (0 : Int32)) H locs (1 : Int32) ls hP hS (lv_sub hl [0, 1] rfl) hm

def rmX0_makeReady : Room := { frames := 5, cells := 0, slots := 0, locals := 118 }
set_option maxHeartbeats 4000000 in
set_option maxRecDepth 100000 in
theorem kX0_makeReady (l : Launch) (D : va_G) (a : Nat → Nat) (cI cZ : ClassId) (hA : AP 24 a) (S : ST) (sz : Nat)  (res : ST) (hm : mX0_makeReady S  = some res) : Met l yX0_makeReady wsX0_makeReady rmX0_makeReady (va_Pc [.ref (a 19)] (PreW (wC a cI cZ S) D cI cZ sz)) (va_Qv (fun T : ST => T = res) (PostW (wC a cI cZ) D cI cZ) (AC 24 a sz)) 0 0 (AC 24 a sz) := by
  refine metB (cc := cX0_makeReady) (maxL := 1) (ret := none) (by decide) rfl (Nat.le_of_ble_eq_true rfl) ?_
  intro p e s m below meth c ls X hml hr hlocks hin hv hl
  replace X : CX p m c cX0_makeReady s ([.ref (a 19)] : List Value).toArray wsX0_makeReady RX0 := X
  obtain ⟨hsz, hP, hK, hNW⟩ := hv
  subst hsz
  have hS : va_S (AC 24 a s.heap.size) s.heap s.heap [] := va_S.rf
  have hx := X.1
  have hb := X.2.1
  replace hl : lv_has ls 1 [(0, .ref (a 19))] := hl
  have iX0 : ∀ w ∈ wsX00, w ∈ wsX0_makeReady := fun w h => List.mem_cons_of_mem _ (List.mem_append_left _ (List.mem_append_right _ h))
  have iX3 : ∀ w ∈ wsX30, w ∈ wsX0_makeReady := fun w h => List.mem_cons_of_mem _ (List.mem_append_right _ h)
  suffices kS : ∀ (H : Heap) (locs : List Loc), va_P D vwCl (wC a cI cZ S) H → va_S (AC 24 a s.heap.size) s.heap H locs → W p l e rmX0_makeReady s m ([.ref (a 19)] : List Value).toArray below meth c H locs 0 0 (MQ below (va_Qv (fun T : ST => T = res) (PostW (wC a cI cZ) D cI cZ) (AC 24 a s.heap.size)) ([.ref (a 19)] : List Value).toArray s 0 0 (AC 24 a s.heap.size)) (F0 m 0 ls []) by exact kS s.heap [] hP hS
  intro H locs hP hS
  unfold mX0_makeReady at hm
  refine lv_aload_n hx hb dX0_makeReady_0 rfl (lv_at hl 0 rfl) ?_
  refine gC_X0_barsStale X hK hP iX0 (List.mem_of_getElem? (i := 1) rfl) dX0_makeReady_1 ?_
  refine lv_if_ne (tgt := 8) hx hb dX0_makeReady_4 (by decide) (fun hc => ?_) (fun hc => ?_)
  · replace hm := (if_neg hc).symm.trans hm
    refine lv_aload_n hx hb dX0_makeReady_8 rfl (lv_at hl 0 rfl) ?_
    refine gC_X0_costsStale X hK hP iX0 (List.mem_of_getElem? (i := 2) rfl) dX0_makeReady_9 ?_
    have kJ28 : ∀ (S_28 : ST) (H : Heap) (locs : List Loc)  (ls : Array Slot), va_P D vwCl (wC a cI cZ S_28) H → va_S (AC 24 a s.heap.size) s.heap H locs → lv_has ls 1 [(0, .ref (a 19))] → mX0_makeReady_J28  S_28 = some res → W p l e rmX0_makeReady s m ([.ref (a 19)] : List Value).toArray below meth c H locs 0 0 (MQ below (va_Qv (fun T : ST => T = res) (PostW (wC a cI cZ) D cI cZ) (AC 24 a s.heap.size)) ([.ref (a 19)] : List Value).toArray s 0 0 (AC 24 a s.heap.size)) (F0 m 28 ls []) := by
      intro S_28 H locs  ls hP hS hl hm
      unfold mX0_makeReady_J28 at hm
      refine lv_aload_n hx hb dX0_makeReady_28 rfl (lv_at hl 0 rfl) ?_
      obtain ⟨r1, hr1, hm⟩ := bd_ok hm
      refine callWV (wf := wC a cI cZ) (rest := []) X hK hNW hml hP hS hl.1 (kX0_findLeastCosts l D a cI cZ hA S_28 H.size  r1 hr1) (cwV 0 X.2.2.1 gX0_makeReady_X0_findLeastCosts rfl rfl rfl (by decide +kernel) ⟨Nat.le_of_ble_eq_true rfl, Nat.le_of_ble_eq_true rfl⟩) (vC_X0 hK hP) rfl rfl (Nat.le_of_ble_eq_true rfl) dX0_makeReady_29 ⟨Nat.zero_le _, Nat.zero_le _⟩ (fun H locs hP hS => ?_)
      refine lv_aload_n hx hb dX0_makeReady_32 rfl (lv_at hl 0 rfl) ?_
      refine lv_aload_n hx hb dX0_makeReady_33 rfl (lv_at hl 0 rfl) ?_
      refine gC_X0_rack X hK hP iX0 (List.mem_of_getElem? (i := 4) rfl) dX0_makeReady_34 ?_
      refine lv_iconst (v := (0 : Int32)) hx hb dX0_makeReady_37 (by decide) ?_
      obtain ⟨r2, hr2, hm⟩ := bd_ok hm
      refine callRV (rest := [.ref (a 19)]) X hK hNW hml hP hl.1 (kX3_wantedOf l D a cI cZ r1 (0 : Int32) r2 hr2) (cwV 1 X.2.2.1 gX0_makeReady_X3_wantedOf rfl rfl rfl (by decide +kernel) ⟨Nat.le_of_ble_eq_true rfl, Nat.le_of_ble_eq_true rfl⟩) (vC_X3 hK hP) rfl rfl (Nat.le_of_ble_eq_true rfl) dX0_makeReady_38 ⟨Nat.zero_le _, Nat.zero_le _⟩ ?_
      refine lv_aload_n hx hb dX0_makeReady_41 rfl (lv_at hl 0 rfl) ?_
      refine gC_X0_rack X hK hP iX0 (List.mem_of_getElem? (i := 4) rfl) dX0_makeReady_42 ?_
      refine lv_iconst (v := (1 : Int32)) hx hb dX0_makeReady_45 (by decide) ?_
      obtain ⟨r3, hr3, hm⟩ := bd_ok hm
      refine callRV (rest := [.int r2, .ref (a 19)]) X hK hNW hml hP hl.1 (kX3_wantedOf l D a cI cZ r1 (1 : Int32) r3 hr3) (cwV 1 X.2.2.1 gX0_makeReady_X3_wantedOf rfl rfl rfl (by decide +kernel) ⟨Nat.le_of_ble_eq_true rfl, Nat.le_of_ble_eq_true rfl⟩) (vC_X3 hK hP) rfl rfl (Nat.le_of_ble_eq_true rfl) dX0_makeReady_46 ⟨Nat.zero_le _, Nat.zero_le _⟩ ?_
      refine lv_aload_n hx hb dX0_makeReady_49 rfl (lv_at hl 0 rfl) ?_
      refine gC_X0_rack X hK hP iX0 (List.mem_of_getElem? (i := 4) rfl) dX0_makeReady_50 ?_
      refine lv_iconst (v := (2 : Int32)) hx hb dX0_makeReady_53 (by decide) ?_
      obtain ⟨r4, hr4, hm⟩ := bd_ok hm
      refine callRV (rest := [.int r3, .int r2, .ref (a 19)]) X hK hNW hml hP hl.1 (kX3_wantedOf l D a cI cZ r1 (2 : Int32) r4 hr4) (cwV 1 X.2.2.1 gX0_makeReady_X3_wantedOf rfl rfl rfl (by decide +kernel) ⟨Nat.le_of_ble_eq_true rfl, Nat.le_of_ble_eq_true rfl⟩) (vC_X3 hK hP) rfl rfl (Nat.le_of_ble_eq_true rfl) dX0_makeReady_54 ⟨Nat.zero_le _, Nat.zero_le _⟩ ?_
      refine lv_aload_n hx hb dX0_makeReady_57 rfl (lv_at hl 0 rfl) ?_
      refine gC_X0_rack X hK hP iX0 (List.mem_of_getElem? (i := 4) rfl) dX0_makeReady_58 ?_
      refine lv_iconst (v := (3 : Int32)) hx hb dX0_makeReady_61 (by decide) ?_
      obtain ⟨r5, hr5, hm⟩ := bd_ok hm
      refine callRV (rest := [.int r4, .int r3, .int r2, .ref (a 19)]) X hK hNW hml hP hl.1 (kX3_wantedOf l D a cI cZ r1 (3 : Int32) r5 hr5) (cwV 1 X.2.2.1 gX0_makeReady_X3_wantedOf rfl rfl rfl (by decide +kernel) ⟨Nat.le_of_ble_eq_true rfl, Nat.le_of_ble_eq_true rfl⟩) (vC_X3 hK hP) rfl rfl (Nat.le_of_ble_eq_true rfl) dX0_makeReady_62 ⟨Nat.zero_le _, Nat.zero_le _⟩ ?_
      obtain ⟨r6, hr6, hm⟩ := bd_ok hm
      refine callRS (rest := [.ref (a 19)]) X hml hl.1 (kX0_code l r2 r3 r4 r5 r6 hr6) (va_cwS 4 X.2.2.1 gX0_makeReady_X0_code rfl rfl rfl (by decide +kernel) ⟨Nat.le_of_ble_eq_true rfl, Nat.le_of_ble_eq_true rfl⟩) rfl rfl (Nat.le_of_ble_eq_true rfl) dX0_makeReady_65 ⟨Nat.zero_le _, Nat.zero_le _⟩ ?_
      obtain ⟨r7, hr7, hm⟩ := bd_ok hm
      refine callWV (wf := wC a cI cZ) (rest := []) X hK hNW hml hP hS hl.1 (kX0_takeBars l D a cI cZ hA r1 H.size r6 r7 hr7) (cwV 1 X.2.2.1 gX0_makeReady_X0_takeBars rfl rfl rfl (by decide +kernel) ⟨Nat.le_of_ble_eq_true rfl, Nat.le_of_ble_eq_true rfl⟩) (vC_X0 hK hP) rfl rfl (Nat.le_of_ble_eq_true rfl) dX0_makeReady_68 ⟨Nat.zero_le _, Nat.zero_le _⟩ (fun H locs hP hS => ?_)
      refine lv_aload_n hx hb dX0_makeReady_71 rfl (lv_at hl 0 rfl) ?_
      refine lv_iconst (v := (0 : Int32)) hx hb dX0_makeReady_72 (by decide) ?_
      refine pC_X0_barsStale X hK hA hP hS iX0 (List.mem_of_getElem? (i := 1) rfl) ⟨rfl, rfl⟩ dX0_makeReady_73 (fun H locs hP hS => ?_)
      exact endV X hK hr hlocks hm hP hS dX0_makeReady_76
    refine lv_if_eq (tgt := 28) hx hb dX0_makeReady_12 (by decide) (fun hc => ?_) (fun hc => ?_)
    · replace hm := (if_pos hc).symm.trans hm
      exact kJ28 S H locs  ls hP hS (lv_sub hl [0] rfl) hm
    · replace hm := (if_neg hc).symm.trans hm
      refine lv_aload_n hx hb dX0_makeReady_15 rfl (lv_at hl 0 rfl) ?_
      refine gC_X0_leastCosts X hK hP iX0 (List.mem_of_getElem? (i := 3) rfl) dX0_makeReady_16 ?_
      refine lv_iconst (v := (0 : Int32)) hx hb dX0_makeReady_19 (by decide) ?_
      obtain ⟨r8, hr8, hm⟩ := bd_ok hm
      refine callWS (wf := wC a cI cZ) (rest := []) X hK hNW hml hP hS hl.1 (kJ7_fill_53178 l D a cI cZ hA S H.size (0 : Int32) r8 hr8) (va_cwS 2 X.2.2.1 gX0_makeReady_J7_fill_53178 rfl rfl rfl (by decide +kernel) ⟨Nat.le_of_ble_eq_true rfl, Nat.le_of_ble_eq_true rfl⟩) rfl rfl (Nat.le_of_ble_eq_true rfl) dX0_makeReady_20 ⟨Nat.zero_le _, Nat.zero_le _⟩ (fun H locs hP hS => ?_)
      refine lv_aload_n hx hb dX0_makeReady_23 rfl (lv_at hl 0 rfl) ?_
      refine lv_iconst (v := (0 : Int32)) hx hb dX0_makeReady_24 (by decide) ?_
      refine pC_X0_costsStale X hK hA hP hS iX0 (List.mem_of_getElem? (i := 2) rfl) ⟨rfl, rfl⟩ dX0_makeReady_25 (fun H locs hP hS => ?_)
      exact kJ28 (sI r8 18 (0 : Int32)) H locs  ls hP hS (lv_sub hl [0] rfl) hm
  · replace hm := (if_pos hc).symm.trans hm
    exact endV X hK hr hlocks hm hP hS dX0_makeReady_7

def rmX0_fact : Room := { frames := 2, cells := 0, slots := 0, locals := 44 }
set_option maxHeartbeats 4000000 in
set_option maxRecDepth 100000 in
theorem kX0_fact (l : Launch) (D : va_G) (a : Nat → Nat) (cI cZ : ClassId) (S : ST) (p1 : Int32) (p2 : Int32) (res : Int32) (hm : mX0_fact S p1 p2 = some res) : Met l yX0_fact wsX0_fact rmX0_fact (va_Pc [.ref (a 19), .int p1, .int p2] (PreR (wC a cI cZ S) D cI cZ)) (vp_Si (fun r => r = res)) 0 0 (fun _ => False) := by
  refine metB (cc := cX0_fact) (maxL := 5) (ret := (some .int)) (by decide) rfl (Nat.le_of_ble_eq_true rfl) ?_
  intro p e s m below meth c ls X hml hr hlocks hin hv hl
  replace X : CX p m c cX0_fact s ([.ref (a 19), .int p1, .int p2] : List Value).toArray wsX0_fact RX0 := X
  obtain ⟨hP, hK, hNW⟩ := hv
  have hx := X.1
  have hb := X.2.1
  replace hl : lv_has ls 5 [(0, .ref (a 19)), (1, .int p1), (2, .int p2)] := hl
  have iX0 : ∀ w ∈ wsX00, w ∈ wsX0_fact := fun w h => List.mem_cons_of_mem _ (List.mem_append_left _ (List.mem_append_right _ h))
  have iX3 : ∀ w ∈ wsX30, w ∈ wsX0_fact := fun w h => List.mem_cons_of_mem _ (List.mem_append_right _ h)
  unfold mX0_fact at hm
  refine lv_iload_n hx hb dX0_fact_0 rfl (lv_at hl 2 rfl) ?_
  refine lv_iconst (v := (2 : Int32)) hx hb dX0_fact_1 (by decide) ?_
  refine lv_icmp_lt (tgt := 13) hx hb dX0_fact_2 (by decide) (fun hc => ?_) (fun hc => ?_)
  · replace hm := (if_pos hc).symm.trans hm
    refine lv_aload_n hx hb dX0_fact_13 rfl (lv_at hl 0 rfl) ?_
    refine lv_iload_n hx hb dX0_fact_14 rfl (lv_at hl 1 rfl) ?_
    obtain ⟨r1, hr1, hm⟩ := bd_ok hm
    refine callRV (rest := []) X hK hNW hml hP hl.1 (kX0_lengthWanted l D a cI cZ S p1 r1 hr1) (cwV 1 X.2.2.1 gX0_fact_X0_lengthWanted rfl rfl rfl (by decide +kernel) ⟨Nat.le_of_ble_eq_true rfl, Nat.le_of_ble_eq_true rfl⟩) (vC_X0 hK hP) rfl rfl (Nat.le_of_ble_eq_true rfl) dX0_fact_15 ⟨Nat.zero_le _, Nat.zero_le _⟩ ?_
    refine lv_istore_n (lv' := [(3, .int r1), (0, .ref (a 19)), (1, .int p1), (2, .int p2)]) hx hb dX0_fact_18 rfl hl (by decide) rfl (fun ls hl => ?_)
    refine lv_aload_n hx hb dX0_fact_19 rfl (lv_at hl 1 rfl) ?_
    refine gC_X0_rack X hK hP iX0 (List.mem_of_getElem? (i := 1) rfl) dX0_fact_20 ?_
    refine lv_iload_n hx hb dX0_fact_23 rfl (lv_at hl 0 rfl) ?_
    obtain ⟨r2, hr2, hm⟩ := bd_ok hm
    refine callRV (rest := []) X hK hNW hml hP hl.1 (kX3_stockFor l D a cI cZ S r1 r2 hr2) (cwV 1 X.2.2.1 gX0_fact_X3_stockFor rfl rfl rfl (by decide +kernel) ⟨Nat.le_of_ble_eq_true rfl, Nat.le_of_ble_eq_true rfl⟩) (vC_X3 hK hP) rfl rfl (Nat.le_of_ble_eq_true rfl) dX0_fact_24 ⟨Nat.zero_le _, Nat.zero_le _⟩ ?_
    refine lv_istore (lv' := [(4, .int r2), (3, .int r1), (0, .ref (a 19)), (1, .int p1), (2, .int p2)]) hx hb dX0_fact_27 hl (by decide) rfl (fun ls hl => ?_)
    refine lv_iload hx hb dX0_fact_29 (lv_at hl 0 rfl) ?_
    refine lv_iconst (v := (-1 : Int32)) hx hb dX0_fact_31 (by decide) ?_
    refine lv_icmp_eq (tgt := 39) hx hb dX0_fact_32 (by decide) (fun hc => ?_) (fun hc => ?_)
    · replace hm := (if_pos hc).symm.trans hm
      refine lv_iload hx hb dX0_fact_39 (lv_at hl 0 rfl) ?_
      exact endR X hr rfl hlocks hm dX0_fact_41
    · replace hm := (if_neg hc).symm.trans hm
      refine lv_iload_n hx hb dX0_fact_35 rfl (lv_at hl 4 rfl) ?_
      refine lv_if_ne (tgt := 42) hx hb dX0_fact_36 (by decide) (fun hc => ?_) (fun hc => ?_)
      · replace hm := (if_neg hc).symm.trans hm
        refine lv_aload_n hx hb dX0_fact_42 rfl (lv_at hl 2 rfl) ?_
        refine gC_X0_rack X hK hP iX0 (List.mem_of_getElem? (i := 1) rfl) dX0_fact_43 ?_
        refine gC_X3_stockLengths X hK hP iX3 (List.mem_of_getElem? (i := 2) rfl) dX0_fact_46 ?_
        refine lv_iload hx hb dX0_fact_49 (lv_at hl 0 rfl) ?_
        obtain ⟨h1, hm⟩ := gd_ok hm
        refine rC_X3_stockLengths X hK hP h1 dX0_fact_51 ?_
        refine lv_iload_n hx hb dX0_fact_52 rfl (lv_at hl 1 rfl) ?_
        refine lv_isub hx hb dX0_fact_53 ?_
        exact endR X hr rfl hlocks hm dX0_fact_54
      · replace hm := (if_pos hc).symm.trans hm
        refine lv_iload hx hb dX0_fact_39 (lv_at hl 0 rfl) ?_
        exact endR X hr rfl hlocks hm dX0_fact_41
  · replace hm := (if_neg hc).symm.trans hm
    refine lv_iload_n hx hb dX0_fact_5 rfl (lv_at hl 1 rfl) ?_
    refine lv_iload_n hx hb dX0_fact_6 rfl (lv_at hl 2 rfl) ?_
    refine lv_iconst (v := (2 : Int32)) hx hb dX0_fact_7 (by decide) ?_
    refine lv_isub hx hb dX0_fact_8 ?_
    obtain ⟨r3, hr3, hm⟩ := bd_ok hm
    refine callRS (rest := []) X hml hl.1 (kX0_numberOf l p1 (p2 - (2 : Int32)) r3 hr3) (va_cwS 2 X.2.2.1 gX0_fact_X0_numberOf rfl rfl rfl (by decide +kernel) ⟨Nat.le_of_ble_eq_true rfl, Nat.le_of_ble_eq_true rfl⟩) rfl rfl (Nat.le_of_ble_eq_true rfl) dX0_fact_9 ⟨Nat.zero_le _, Nat.zero_le _⟩ ?_
    exact endR X hr rfl hlocks hm dX0_fact_12
