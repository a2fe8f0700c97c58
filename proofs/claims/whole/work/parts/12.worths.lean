/-! Mirrors and contracts. By walk.py. -/
def rmX5_forget : Room := { frames := 0, cells := 0, slots := 0, locals := 0 }
set_option maxHeartbeats 4000000 in
set_option maxRecDepth 100000 in
theorem kX5_forget (l : Launch) (D : va_G) (a : Nat → Nat) (cI cZ : ClassId) (hA : AP 24 a) (S : ST) (sz : Nat)  (res : ST) (hm : mX5_forget S  = some res) : Met l yX5_forget wsX5_forget rmX5_forget (va_Pc [.ref (a 8)] (PreW (wC a cI cZ S) D cI cZ sz)) (va_Qv (fun T : ST => T = res) (PostW (wC a cI cZ) D cI cZ) (AC 24 a sz)) 0 0 (AC 24 a sz) := by
  refine metB (cc := cX5_forget) (maxL := 1) (ret := none) (by decide) rfl (Nat.le_of_ble_eq_true rfl) ?_
  intro p e s m below meth c ls X hml hr hlocks hin hv hl
  replace X : CX p m c cX5_forget s ([.ref (a 8)] : List Value).toArray wsX5_forget RX5 := X
  obtain ⟨hsz, hP, hK, hNW⟩ := hv
  subst hsz
  have hS : va_S (AC 24 a s.heap.size) s.heap s.heap [] := va_S.rf
  have hx := X.1
  have hb := X.2.1
  replace hl : lv_has ls 1 [(0, .ref (a 8))] := hl
  have iX5 : ∀ w ∈ wsX50, w ∈ wsX5_forget := fun w h => List.mem_cons_of_mem _ (List.mem_append_right _ h)
  suffices kS : ∀ (H : Heap) (locs : List Loc), va_P D vwCl (wC a cI cZ S) H → va_S (AC 24 a s.heap.size) s.heap H locs → W p l e rmX5_forget s m ([.ref (a 8)] : List Value).toArray below meth c H locs 0 0 (MQ below (va_Qv (fun T : ST => T = res) (PostW (wC a cI cZ) D cI cZ) (AC 24 a s.heap.size)) ([.ref (a 8)] : List Value).toArray s 0 0 (AC 24 a s.heap.size)) (F0 m 0 ls []) by exact kS s.heap [] hP hS
  intro H locs hP hS
  unfold mX5_forget at hm
  refine lv_aload_n hx hb dX5_forget_0 rfl (lv_at hl 0 rfl) ?_
  refine lv_iconst (v := (1 : Int32)) hx hb dX5_forget_1 (by decide) ?_
  refine pC_X5_stale X hK hA hP hS iX5 (List.mem_of_getElem? (i := 1) rfl) ⟨rfl, rfl⟩ dX5_forget_2 (fun H locs hP hS => ?_)
  exact endV X hK hr hlocks hm hP hS dX5_forget_5

def rmX5_sizeSlot : Room := { frames := 0, cells := 0, slots := 0, locals := 0 }
set_option maxHeartbeats 4000000 in
set_option maxRecDepth 100000 in
theorem kX5_sizeSlot (l : Launch) (p0 : Int32) (p1 : Int32) (p2 : Int32) (res : Int32) (hm : mX5_sizeSlot  p0 p1 p2 = some res) : Met l yX5_sizeSlot wsX5_sizeSlot rmX5_sizeSlot (va_Pc [.int p0, .int p1, .int p2] (fun _ => True)) (vp_Si (fun r => r = res)) 0 0 (fun _ => False) := by
  refine metB (cc := cX5_sizeSlot) (maxL := 3) (ret := (some .int)) (by decide) rfl (Nat.le_of_ble_eq_true rfl) ?_
  intro p e s m below meth c ls X hml hr hlocks hin hv hl
  replace X : CX p m c cX5_sizeSlot s ([.int p0, .int p1, .int p2] : List Value).toArray wsX5_sizeSlot RX5 := X
  have hx := X.1
  have hb := X.2.1
  replace hl : lv_has ls 3 [(0, .int p0), (1, .int p1), (2, .int p2)] := hl
  unfold mX5_sizeSlot at hm
  refine lv_iload_n hx hb dX5_sizeSlot_0 rfl (lv_at hl 2 rfl) ?_
  refine lv_iconst (v := (1 : Int32)) hx hb dX5_sizeSlot_1 (by decide) ?_
  refine lv_isub hx hb dX5_sizeSlot_2 ?_
  refine lv_bipush (v := (16 : Int32)) hx hb dX5_sizeSlot_3 (by decide) ?_
  refine lv_imul hx hb dX5_sizeSlot_5 ?_
  refine lv_iload_n hx hb dX5_sizeSlot_6 rfl (lv_at hl 0 rfl) ?_
  refine lv_iadd hx hb dX5_sizeSlot_7 ?_
  refine lv_iconst (v := (1 : Int32)) hx hb dX5_sizeSlot_8 (by decide) ?_
  refine lv_isub hx hb dX5_sizeSlot_9 ?_
  refine lv_bipush (v := (16 : Int32)) hx hb dX5_sizeSlot_10 (by decide) ?_
  refine lv_imul hx hb dX5_sizeSlot_12 ?_
  refine lv_iload_n hx hb dX5_sizeSlot_13 rfl (lv_at hl 1 rfl) ?_
  refine lv_iadd hx hb dX5_sizeSlot_14 ?_
  refine lv_iconst (v := (1 : Int32)) hx hb dX5_sizeSlot_15 (by decide) ?_
  refine lv_isub hx hb dX5_sizeSlot_16 ?_
  exact endR X hr rfl hlocks hm dX5_sizeSlot_17

def rmX5_ofSize : Room := { frames := 1, cells := 0, slots := 0, locals := 22 }
set_option maxHeartbeats 4000000 in
set_option maxRecDepth 100000 in
theorem kX5_ofSize (l : Launch) (D : va_G) (a : Nat → Nat) (cI cZ : ClassId) (S : ST) (p1 : Int32) (p2 : Int32) (p3 : Int32) (res : Int32) (hm : mX5_ofSize S p1 p2 p3 = some res) : Met l yX5_ofSize wsX5_ofSize rmX5_ofSize (va_Pc [.ref (a 8), .int p1, .int p2, .int p3] (PreR (wC a cI cZ S) D cI cZ)) (vp_Si (fun r => r = res)) 0 0 (fun _ => False) := by
  refine metB (cc := cX5_ofSize) (maxL := 5) (ret := (some .int)) (by decide) rfl (Nat.le_of_ble_eq_true rfl) ?_
  intro p e s m below meth c ls X hml hr hlocks hin hv hl
  replace X : CX p m c cX5_ofSize s ([.ref (a 8), .int p1, .int p2, .int p3] : List Value).toArray wsX5_ofSize RX5 := X
  obtain ⟨hP, hK, hNW⟩ := hv
  have hx := X.1
  have hb := X.2.1
  replace hl : lv_has ls 5 [(0, .ref (a 8)), (1, .int p1), (2, .int p2), (3, .int p3)] := hl
  have iX5 : ∀ w ∈ wsX50, w ∈ wsX5_ofSize := fun w h => List.mem_cons_of_mem _ (List.mem_append_left _ (List.mem_append_right _ h))
  have iX4 : ∀ w ∈ wsX40, w ∈ wsX5_ofSize := fun w h => List.mem_cons_of_mem _ (List.mem_append_right _ h)
  unfold mX5_ofSize at hm
  refine lv_iload_n hx hb dX5_ofSize_0 rfl (lv_at hl 1 rfl) ?_
  refine lv_iload_n hx hb dX5_ofSize_1 rfl (lv_at hl 2 rfl) ?_
  refine lv_iload_n hx hb dX5_ofSize_2 rfl (lv_at hl 3 rfl) ?_
  obtain ⟨r1, hr1, hm⟩ := bd_ok hm
  refine callRS (rest := []) X hml hl.1 (kX5_sizeSlot l p1 p2 p3 r1 hr1) (va_cwS 3 X.2.2.1 gX5_ofSize_X5_sizeSlot rfl rfl rfl (by decide +kernel) ⟨Nat.le_of_ble_eq_true rfl, Nat.le_of_ble_eq_true rfl⟩) rfl rfl (Nat.le_of_ble_eq_true rfl) dX5_ofSize_3 ⟨Nat.zero_le _, Nat.zero_le _⟩ ?_
  refine lv_istore (lv' := [(4, .int r1), (0, .ref (a 8)), (1, .int p1), (2, .int p2), (3, .int p3)]) hx hb dX5_ofSize_6 hl (by decide) rfl (fun ls hl => ?_)
  refine lv_iload_n hx hb dX5_ofSize_8 rfl (lv_at hl 4 rfl) ?_
  refine lv_aload_n hx hb dX5_ofSize_9 rfl (lv_at hl 1 rfl) ?_
  refine gC_X5_sheet X hK hP iX5 (List.mem_of_getElem? (i := 1) rfl) dX5_ofSize_10 ?_
  refine gC_X4_stages X hK hP iX4 (List.mem_of_getElem? (i := 2) rfl) dX5_ofSize_13 ?_
  refine lv_icmp_gt (tgt := 45) hx hb dX5_ofSize_16 (by decide) (fun hc => ?_) (fun hc => ?_)
  · replace hm := (if_pos hc).symm.trans hm
    refine lv_iconst (v := (0 : Int32)) hx hb dX5_ofSize_45 (by decide) ?_
    exact endR X hr rfl hlocks hm dX5_ofSize_46
  · replace hm := (if_neg hc).symm.trans hm
    refine lv_iload hx hb dX5_ofSize_19 (lv_at hl 0 rfl) ?_
    refine lv_iconst (v := (0 : Int32)) hx hb dX5_ofSize_21 (by decide) ?_
    refine lv_aload_n hx hb dX5_ofSize_22 rfl (lv_at hl 1 rfl) ?_
    refine gC_X5_ofSizes X hK hP iX5 (List.mem_of_getElem? (i := 3) rfl) dX5_ofSize_23 ?_
    refine nC_X5_ofSizes X hK hP dX5_ofSize_26 ?_
    refine lv_iconst (v := (1 : Int32)) hx hb dX5_ofSize_27 (by decide) ?_
    refine lv_isub hx hb dX5_ofSize_28 ?_
    obtain ⟨r2, hr2, hm⟩ := bd_ok hm
    refine callRN (rest := []) X hml hl.1 (kX6_within l r1 (0 : Int32) ((1024 : Int32) - (1 : Int32)) r2 hr2) ⟨va_cnB 3 X.2.2.1 gX5_ofSize_X6_within_n54 rfl rfl rfl hNW.2.2 (X.2.2.1 (Cond.initialized RX6) (List.mem_of_getElem? (i := 9) rfl)) (by decide +kernel) ⟨Nat.le_of_ble_eq_true rfl, Nat.le_of_ble_eq_true rfl⟩, X.2.2.1 (Cond.static yX6_within) (List.mem_of_getElem? (i := 8) rfl), trivial⟩ rfl rfl (Nat.le_of_ble_eq_true rfl) dX5_ofSize_29 ⟨Nat.zero_le _, Nat.zero_le _⟩ ?_
    refine lv_if_eq (tgt := 45) hx hb dX5_ofSize_32 (by decide) (fun hc => ?_) (fun hc => ?_)
    · replace hm := (if_pos hc).symm.trans hm
      refine lv_iconst (v := (0 : Int32)) hx hb dX5_ofSize_45 (by decide) ?_
      exact endR X hr rfl hlocks hm dX5_ofSize_46
    · replace hm := (if_neg hc).symm.trans hm
      refine lv_aload_n hx hb dX5_ofSize_35 rfl (lv_at hl 1 rfl) ?_
      refine gC_X5_ofSizes X hK hP iX5 (List.mem_of_getElem? (i := 3) rfl) dX5_ofSize_36 ?_
      refine lv_iload hx hb dX5_ofSize_39 (lv_at hl 0 rfl) ?_
      obtain ⟨h1, hm⟩ := gd_ok hm
      refine rC_X5_ofSizes X hK hP h1 dX5_ofSize_41 ?_
      refine lv_goto (tgt := 46) hx hb dX5_ofSize_42 (by decide) ?_
      exact endR X hr rfl hlocks hm dX5_ofSize_46

def rmX5_mostOfSize : Room := { frames := 2, cells := 0, slots := 0, locals := 47 }
set_option maxHeartbeats 4000000 in
set_option maxRecDepth 100000 in
theorem kX5_mostOfSize (l : Launch) (D : va_G) (a : Nat → Nat) (cI cZ : ClassId) (S : ST) (p1 : Int32) (p2 : Int32) (p3 : Int32) (res : Int32) (hm : mX5_mostOfSize S p1 p2 p3 = some res) : Met l yX5_mostOfSize wsX5_mostOfSize rmX5_mostOfSize (va_Pc [.ref (a 8), .int p1, .int p2, .int p3] (PreR (wC a cI cZ S) D cI cZ)) (vp_Si (fun r => r = res)) 0 0 (fun _ => False) := by
  refine metB (cc := cX5_mostOfSize) (maxL := 10) (ret := (some .int)) (by decide) rfl (Nat.le_of_ble_eq_true rfl) ?_
  intro p e s m below meth c ls X hml hr hlocks hin hv hl
  replace X : CX p m c cX5_mostOfSize s ([.ref (a 8), .int p1, .int p2, .int p3] : List Value).toArray wsX5_mostOfSize RX5 := X
  obtain ⟨hP, hK, hNW⟩ := hv
  have hx := X.1
  have hb := X.2.1
  replace hl : lv_has ls 10 [(0, .ref (a 8)), (1, .int p1), (2, .int p2), (3, .int p3)] := hl
  have iX5 : ∀ w ∈ wsX50, w ∈ wsX5_mostOfSize := fun w h => List.mem_cons_of_mem _ (List.mem_append_left _ (List.mem_append_left _ (List.mem_append_right _ h)))
  have iX4 : ∀ w ∈ wsX40, w ∈ wsX5_mostOfSize := fun w h => List.mem_cons_of_mem _ (List.mem_append_left _ (List.mem_append_right _ h))
  have iX1 : ∀ w ∈ wsX10, w ∈ wsX5_mostOfSize := fun w h => List.mem_cons_of_mem _ (List.mem_append_right _ h)
  unfold mX5_mostOfSize at hm
  refine lv_aload_n hx hb dX5_mostOfSize_0 rfl (lv_at hl 0 rfl) ?_
  refine gC_X5_kinds X hK hP iX5 (List.mem_of_getElem? (i := 1) rfl) dX5_mostOfSize_1 ?_
  refine lv_iload_n hx hb dX5_mostOfSize_4 rfl (lv_at hl 1 rfl) ?_
  refine lv_iload_n hx hb dX5_mostOfSize_5 rfl (lv_at hl 2 rfl) ?_
  obtain ⟨r1, hr1, hm⟩ := bd_ok hm
  refine callRV (rest := []) X hK hNW hml hP hl.1 (kX1_mostValue l D a cI cZ S p1 p2 r1 hr1) (cwV 2 X.2.2.1 gX5_mostOfSize_X1_mostValue rfl rfl rfl (by decide +kernel) ⟨Nat.le_of_ble_eq_true rfl, Nat.le_of_ble_eq_true rfl⟩) (vC_X1 hK hP) rfl rfl (Nat.le_of_ble_eq_true rfl) dX5_mostOfSize_6 ⟨Nat.zero_le _, Nat.zero_le _⟩ ?_
  refine lv_aload_n hx hb dX5_mostOfSize_9 rfl (lv_at hl 0 rfl) ?_
  refine lv_iload_n hx hb dX5_mostOfSize_10 rfl (lv_at hl 1 rfl) ?_
  refine lv_iload_n hx hb dX5_mostOfSize_11 rfl (lv_at hl 2 rfl) ?_
  refine lv_iload_n hx hb dX5_mostOfSize_12 rfl (lv_at hl 3 rfl) ?_
  refine lv_iconst (v := (1 : Int32)) hx hb dX5_mostOfSize_13 (by decide) ?_
  refine lv_iadd hx hb dX5_mostOfSize_14 ?_
  obtain ⟨r2, hr2, hm⟩ := bd_ok hm
  refine callRV (rest := [.int r1]) X hK hNW hml hP hl.1 (kX5_ofSize l D a cI cZ S p1 p2 (p3 + (1 : Int32)) r2 hr2) (cwV 3 X.2.2.1 gX5_mostOfSize_X5_ofSize rfl rfl rfl (by decide +kernel) ⟨Nat.le_of_ble_eq_true rfl, Nat.le_of_ble_eq_true rfl⟩) (vC_X5 hK hP) rfl rfl (Nat.le_of_ble_eq_true rfl) dX5_mostOfSize_15 ⟨Nat.zero_le _, Nat.zero_le _⟩ ?_
  refine va_mmax hx hb (hml.trans hl.1.symm) X.2.2.2 (X.2.2.1 (Cond.methodLink RX5 78 Lib.Math.max.name) (List.mem_of_getElem? (i := 2) rfl)) (X.2.2.1 (Cond.static Lib.Math.max.name) (List.mem_of_getElem? (i := 3) rfl)) (X.2.2.1 (Cond.initialized "java/lang/Math") (List.mem_of_getElem? (i := 4) rfl)) (X.2.2.1 (Cond.code Lib.Math.max.name Lib.Math.max.code 2 (some .int)) (List.mem_of_getElem? (i := 5) rfl)) (Nat.le_of_ble_eq_true rfl) (Nat.le_of_ble_eq_true rfl) (Nat.zero_le _) (Nat.zero_le _) dX5_mostOfSize_18 ?_
  refine lv_istore (lv' := [(4, .int (if r1 < r2 then r2 else r1)), (0, .ref (a 8)), (1, .int p1), (2, .int p2), (3, .int p3)]) hx hb dX5_mostOfSize_21 hl (by decide) rfl (fun ls hl => ?_)
  refine lv_aload_n hx hb dX5_mostOfSize_23 rfl (lv_at hl 1 rfl) ?_
  refine gC_X5_sheet X hK hP iX5 (List.mem_of_getElem? (i := 6) rfl) dX5_mostOfSize_24 ?_
  refine lv_iload_n hx hb dX5_mostOfSize_27 rfl (lv_at hl 2 rfl) ?_
  refine lv_iload_n hx hb dX5_mostOfSize_28 rfl (lv_at hl 3 rfl) ?_
  refine lv_iload_n hx hb dX5_mostOfSize_29 rfl (lv_at hl 4 rfl) ?_
  obtain ⟨r3, hr3, hm⟩ := bd_ok hm
  refine callRV (rest := []) X hK hNW hml hP hl.1 (kX4_lastCut l D a cI cZ S p1 p2 p3 r3 hr3) (cwV 3 X.2.2.1 gX5_mostOfSize_X4_lastCut rfl rfl rfl (by decide +kernel) ⟨Nat.le_of_ble_eq_true rfl, Nat.le_of_ble_eq_true rfl⟩) (vC_X4 hK hP) rfl rfl (Nat.le_of_ble_eq_true rfl) dX5_mostOfSize_30 ⟨Nat.zero_le _, Nat.zero_le _⟩ ?_
  refine lv_istore (lv' := [(5, .int r3), (4, .int (if r1 < r2 then r2 else r1)), (0, .ref (a 8)), (1, .int p1), (2, .int p2), (3, .int p3)]) hx hb dX5_mostOfSize_33 hl (by decide) rfl (fun ls hl => ?_)
  refine lv_aload_n hx hb dX5_mostOfSize_35 rfl (lv_at hl 2 rfl) ?_
  refine gC_X5_sheet X hK hP iX5 (List.mem_of_getElem? (i := 6) rfl) dX5_mostOfSize_36 ?_
  refine lv_iload_n hx hb dX5_mostOfSize_39 rfl (lv_at hl 5 rfl) ?_
  obtain ⟨r4, hr4, hm⟩ := bd_ok hm
  refine callRV (rest := []) X hK hNW hml hP hl.1 (kX4_partsWidth l D a cI cZ S p3 r4 hr4) (cwV 1 X.2.2.1 gX5_mostOfSize_X4_partsWidth rfl rfl rfl (by decide +kernel) ⟨Nat.le_of_ble_eq_true rfl, Nat.le_of_ble_eq_true rfl⟩) (vC_X4 hK hP) rfl rfl (Nat.le_of_ble_eq_true rfl) dX5_mostOfSize_40 ⟨Nat.zero_le _, Nat.zero_le _⟩ ?_
  refine lv_istore (lv' := [(6, .int r4), (5, .int r3), (4, .int (if r1 < r2 then r2 else r1)), (0, .ref (a 8)), (1, .int p1), (2, .int p2), (3, .int p3)]) hx hb dX5_mostOfSize_43 hl (by decide) rfl (fun ls hl => ?_)
  refine lv_iconst (v := (1 : Int32)) hx hb dX5_mostOfSize_45 (by decide) ?_
  refine lv_istore (lv' := [(7, .int (1 : Int32)), (6, .int r4), (5, .int r3), (4, .int (if r1 < r2 then r2 else r1)), (0, .ref (a 8)), (1, .int p1), (2, .int p2), (3, .int p3)]) hx hb dX5_mostOfSize_46 hl (by decide) rfl (fun ls hl => ?_)
  have kb48 : ∀ (k x : Int32 → Int32 → Option (Int32)), (∀ (v4_48 : Int32) (v7_48 : Int32) (ls : Array Slot), lv_has ls 10 [(0, .ref (a 8)), (1, .int p1), (2, .int p2), (3, .int p3), (4, .int v4_48), (5, .int r3), (6, .int r4), (7, .int v7_48)] → k v4_48 v7_48 = some res → W p l e rmX5_mostOfSize s m ([.ref (a 8), .int p1, .int p2, .int p3] : List Value).toArray below meth c s.heap [] 0 0 (MQ below (vp_Si (fun r => r = res)) ([.ref (a 8), .int p1, .int p2, .int p3] : List Value).toArray s 0 0 (fun _ => False)) (F0 m 48 ls [])) → (∀ (v4_48 : Int32) (v7_48 : Int32) (ls : Array Slot), lv_has ls 10 [(0, .ref (a 8)), (1, .int p1), (2, .int p2), (3, .int p3), (4, .int v4_48), (5, .int r3), (6, .int r4), (7, .int v7_48)] → x v4_48 v7_48 = some res → W p l e rmX5_mostOfSize s m ([.ref (a 8), .int p1, .int p2, .int p3] : List Value).toArray below meth c s.heap [] 0 0 (MQ below (vp_Si (fun r => r = res)) ([.ref (a 8), .int p1, .int p2, .int p3] : List Value).toArray s 0 0 (fun _ => False)) (F0 m 130 ls [])) → ∀ (v4_48 : Int32) (v7_48 : Int32) (ls : Array Slot), lv_has ls 10 [(0, .ref (a 8)), (1, .int p1), (2, .int p2), (3, .int p3), (4, .int v4_48), (5, .int r3), (6, .int r4), (7, .int v7_48)] → mX5_mostOfSize_B48 k x S p1 p2 p3 r3 r4 v4_48 v7_48 = some res → W p l e rmX5_mostOfSize s m ([.ref (a 8), .int p1, .int p2, .int p3] : List Value).toArray below meth c s.heap [] 0 0 (MQ below (vp_Si (fun r => r = res)) ([.ref (a 8), .int p1, .int p2, .int p3] : List Value).toArray s 0 0 (fun _ => False)) (F0 m 48 ls []) := by
    intro k x ih kxh v4_48 v7_48 ls hl hm
    unfold mX5_mostOfSize_B48 at hm
    refine lv_iload hx hb dX5_mostOfSize_48 (lv_at hl 7 rfl) ?_
    refine lv_iload hx hb dX5_mostOfSize_50 (lv_at hl 5 rfl) ?_
    refine lv_icmp_gt (tgt := 130) hx hb dX5_mostOfSize_52 (by decide) (fun hc => ?_) (fun hc => ?_)
    · replace hm := (if_pos hc).symm.trans hm
      exact kxh v4_48 v7_48 ls (lv_sub hl [0, 1, 2, 3, 4, 5, 6, 7] rfl) hm
    · replace hm := (if_neg hc).symm.trans hm
      refine lv_iload hx hb dX5_mostOfSize_55 (lv_at hl 7 rfl) ?_
      refine lv_aload_n hx hb dX5_mostOfSize_57 rfl (lv_at hl 0 rfl) ?_
      refine gC_X5_sheet X hK hP iX5 (List.mem_of_getElem? (i := 6) rfl) dX5_mostOfSize_58 ?_
      refine gC_X4_kerf X hK hP iX4 (List.mem_of_getElem? (i := 7) rfl) dX5_mostOfSize_61 ?_
      refine lv_iadd hx hb dX5_mostOfSize_64 ?_
      refine lv_istore (lv' := [(8, .int (v7_48 + (S.1 2))), (0, .ref (a 8)), (1, .int p1), (2, .int p2), (3, .int p3), (4, .int v4_48), (5, .int r3), (6, .int r4), (7, .int v7_48)]) hx hb dX5_mostOfSize_65 hl (by decide) rfl (fun ls hl => ?_)
      refine lv_iload hx hb dX5_mostOfSize_67 (lv_at hl 7 rfl) ?_
      have kJ113 : ∀ (v8_113 : Int32) (t0_113 : Int32) (ls : Array Slot), lv_has ls 10 [(0, .ref (a 8)), (1, .int p1), (2, .int p2), (3, .int p3), (4, .int v4_48), (5, .int r3), (6, .int r4), (7, .int v7_48), (8, .int v8_113)] → mX5_mostOfSize_J113 k x S p1 p2 p3 v4_48 r3 r4 v7_48 v8_113 t0_113 = some res → W p l e rmX5_mostOfSize s m ([.ref (a 8), .int p1, .int p2, .int p3] : List Value).toArray below meth c s.heap [] 0 0 (MQ below (vp_Si (fun r => r = res)) ([.ref (a 8), .int p1, .int p2, .int p3] : List Value).toArray s 0 0 (fun _ => False)) (F0 m 113 ls [.int t0_113]) := by
        intro v8_113 t0_113 ls hl hm
        unfold mX5_mostOfSize_J113 at hm
        refine lv_istore (lv' := [(9, .int t0_113), (0, .ref (a 8)), (1, .int p1), (2, .int p2), (3, .int p3), (4, .int v4_48), (5, .int r3), (6, .int r4), (7, .int v7_48), (8, .int v8_113)]) hx hb dX5_mostOfSize_113 hl (by decide) rfl (fun ls hl => ?_)
        refine lv_iload hx hb dX5_mostOfSize_115 (lv_at hl 5 rfl) ?_
        refine lv_iload hx hb dX5_mostOfSize_117 (lv_at hl 0 rfl) ?_
        refine va_mmax hx hb (hml.trans hl.1.symm) X.2.2.2 (X.2.2.1 (Cond.methodLink RX5 78 Lib.Math.max.name) (List.mem_of_getElem? (i := 2) rfl)) (X.2.2.1 (Cond.static Lib.Math.max.name) (List.mem_of_getElem? (i := 3) rfl)) (X.2.2.1 (Cond.initialized "java/lang/Math") (List.mem_of_getElem? (i := 4) rfl)) (X.2.2.1 (Cond.code Lib.Math.max.name Lib.Math.max.code 2 (some .int)) (List.mem_of_getElem? (i := 5) rfl)) (Nat.le_of_ble_eq_true rfl) (Nat.le_of_ble_eq_true rfl) (Nat.zero_le _) (Nat.zero_le _) dX5_mostOfSize_119 ?_
        refine lv_istore (lv' := [(4, .int (if v4_48 < t0_113 then t0_113 else v4_48)), (9, .int t0_113), (0, .ref (a 8)), (1, .int p1), (2, .int p2), (3, .int p3), (5, .int r3), (6, .int r4), (7, .int v7_48), (8, .int v8_113)]) hx hb dX5_mostOfSize_122 hl (by decide) rfl (fun ls hl => ?_)
        refine lv_iinc (v := (v7_48 + (1 : Int32))) (lv' := [(7, .int (v7_48 + (1 : Int32))), (4, .int (if v4_48 < t0_113 then t0_113 else v4_48)), (9, .int t0_113), (0, .ref (a 8)), (1, .int p1), (2, .int p2), (3, .int p3), (5, .int r3), (6, .int r4), (8, .int v8_113)]) hx hb dX5_mostOfSize_124 hl (k := 8) rfl rfl (by decide) rfl (fun ls hl => ?_)
        refine lv_goto (tgt := 48) hx hb dX5_mostOfSize_127 (by decide) ?_
        exact ih (if v4_48 < t0_113 then t0_113 else v4_48) (v7_48 + (1 : Int32)) ls (lv_sub hl [3, 4, 5, 6, 1, 7, 8, 0] rfl) hm
      refine lv_if_eq (tgt := 94) hx hb dX5_mostOfSize_69 (by decide) (fun hc => ?_) (fun hc => ?_)
      · replace hm := (if_pos hc).symm.trans hm
        refine lv_aload_n hx hb dX5_mostOfSize_94 rfl (lv_at hl 1 rfl) ?_
        refine lv_iload_n hx hb dX5_mostOfSize_95 rfl (lv_at hl 2 rfl) ?_
        refine lv_iload hx hb dX5_mostOfSize_96 (lv_at hl 8 rfl) ?_
        refine lv_iload_n hx hb dX5_mostOfSize_98 rfl (lv_at hl 4 rfl) ?_
        obtain ⟨r5, hr5, hm⟩ := bd_ok hm
        refine callRV (rest := []) X hK hNW hml hP hl.1 (kX5_ofSize l D a cI cZ S p1 v7_48 p3 r5 hr5) (cwV 3 X.2.2.1 gX5_mostOfSize_X5_ofSize rfl rfl rfl (by decide +kernel) ⟨Nat.le_of_ble_eq_true rfl, Nat.le_of_ble_eq_true rfl⟩) (vC_X5 hK hP) rfl rfl (Nat.le_of_ble_eq_true rfl) dX5_mostOfSize_99 ⟨Nat.zero_le _, Nat.zero_le _⟩ ?_
        refine lv_aload_n hx hb dX5_mostOfSize_102 rfl (lv_at hl 1 rfl) ?_
        refine lv_iload_n hx hb dX5_mostOfSize_103 rfl (lv_at hl 2 rfl) ?_
        refine lv_iload_n hx hb dX5_mostOfSize_104 rfl (lv_at hl 3 rfl) ?_
        refine lv_iload hx hb dX5_mostOfSize_105 (lv_at hl 0 rfl) ?_
        refine lv_isub hx hb dX5_mostOfSize_107 ?_
        refine lv_iload_n hx hb dX5_mostOfSize_108 rfl (lv_at hl 4 rfl) ?_
        obtain ⟨r6, hr6, hm⟩ := bd_ok hm
        refine callRV (rest := [.int r5]) X hK hNW hml hP hl.1 (kX5_ofSize l D a cI cZ S p1 (p2 - (v7_48 + (S.1 2))) p3 r6 hr6) (cwV 3 X.2.2.1 gX5_mostOfSize_X5_ofSize rfl rfl rfl (by decide +kernel) ⟨Nat.le_of_ble_eq_true rfl, Nat.le_of_ble_eq_true rfl⟩) (vC_X5 hK hP) rfl rfl (Nat.le_of_ble_eq_true rfl) dX5_mostOfSize_109 ⟨Nat.zero_le _, Nat.zero_le _⟩ ?_
        refine lv_iadd hx hb dX5_mostOfSize_112 ?_
        exact kJ113 (v7_48 + (S.1 2)) (r5 + r6) ls (lv_sub hl [1, 2, 3, 4, 5, 6, 7, 8, 0] rfl) hm
      · replace hm := (if_neg hc).symm.trans hm
        refine lv_aload_n hx hb dX5_mostOfSize_72 rfl (lv_at hl 1 rfl) ?_
        refine lv_iload hx hb dX5_mostOfSize_73 (lv_at hl 8 rfl) ?_
        refine lv_iload_n hx hb dX5_mostOfSize_75 rfl (lv_at hl 3 rfl) ?_
        refine lv_iload_n hx hb dX5_mostOfSize_76 rfl (lv_at hl 4 rfl) ?_
        obtain ⟨r7, hr7, hm⟩ := bd_ok hm
        refine callRV (rest := []) X hK hNW hml hP hl.1 (kX5_ofSize l D a cI cZ S v7_48 p2 p3 r7 hr7) (cwV 3 X.2.2.1 gX5_mostOfSize_X5_ofSize rfl rfl rfl (by decide +kernel) ⟨Nat.le_of_ble_eq_true rfl, Nat.le_of_ble_eq_true rfl⟩) (vC_X5 hK hP) rfl rfl (Nat.le_of_ble_eq_true rfl) dX5_mostOfSize_77 ⟨Nat.zero_le _, Nat.zero_le _⟩ ?_
        refine lv_aload_n hx hb dX5_mostOfSize_80 rfl (lv_at hl 1 rfl) ?_
        refine lv_iload_n hx hb dX5_mostOfSize_81 rfl (lv_at hl 2 rfl) ?_
        refine lv_iload hx hb dX5_mostOfSize_82 (lv_at hl 0 rfl) ?_
        refine lv_isub hx hb dX5_mostOfSize_84 ?_
        refine lv_iload_n hx hb dX5_mostOfSize_85 rfl (lv_at hl 3 rfl) ?_
        refine lv_iload_n hx hb dX5_mostOfSize_86 rfl (lv_at hl 4 rfl) ?_
        obtain ⟨r8, hr8, hm⟩ := bd_ok hm
        refine callRV (rest := [.int r7]) X hK hNW hml hP hl.1 (kX5_ofSize l D a cI cZ S (p1 - (v7_48 + (S.1 2))) p2 p3 r8 hr8) (cwV 3 X.2.2.1 gX5_mostOfSize_X5_ofSize rfl rfl rfl (by decide +kernel) ⟨Nat.le_of_ble_eq_true rfl, Nat.le_of_ble_eq_true rfl⟩) (vC_X5 hK hP) rfl rfl (Nat.le_of_ble_eq_true rfl) dX5_mostOfSize_87 ⟨Nat.zero_le _, Nat.zero_le _⟩ ?_
        refine lv_iadd hx hb dX5_mostOfSize_90 ?_
        refine lv_goto (tgt := 113) hx hb dX5_mostOfSize_91 (by decide) ?_
        exact kJ113 (v7_48 + (S.1 2)) (r7 + r8) ls (lv_sub hl [1, 2, 3, 4, 5, 6, 7, 8, 0] rfl) hm
  have kx48 : ∀ (v4_48 : Int32) (v7_48 : Int32) (ls : Array Slot), lv_has ls 10 [(0, .ref (a 8)), (1, .int p1), (2, .int p2), (3, .int p3), (4, .int v4_48), (5, .int r3), (6, .int r4), (7, .int v7_48)] → mX5_mostOfSize_X48  S p1 p2 p3 r3 r4 v4_48 v7_48 = some res → W p l e rmX5_mostOfSize s m ([.ref (a 8), .int p1, .int p2, .int p3] : List Value).toArray below meth c s.heap [] 0 0 (MQ below (vp_Si (fun r => r = res)) ([.ref (a 8), .int p1, .int p2, .int p3] : List Value).toArray s 0 0 (fun _ => False)) (F0 m 130 ls []) := by
    intro v4_48 v7_48 ls hl hm
    unfold mX5_mostOfSize_X48 at hm
    refine lv_iload hx hb dX5_mostOfSize_130 (lv_at hl 4 rfl) ?_
    exact endR X hr rfl hlocks hm dX5_mostOfSize_132
  have lp48 : ∀ (n : Nat) (v4_48 : Int32) (v7_48 : Int32) (ls : Array Slot), lv_has ls 10 [(0, .ref (a 8)), (1, .int p1), (2, .int p2), (3, .int p3), (4, .int v4_48), (5, .int r3), (6, .int r4), (7, .int v7_48)] → LPf (κ := Int32 → Int32 → Option (Int32)) (fun _ _ => none) (fun kk => mX5_mostOfSize_B48 kk (mX5_mostOfSize_X48  S p1 p2 p3 r3 r4) S p1 p2 p3 r3 r4) n v4_48 v7_48 = some res → W p l e rmX5_mostOfSize s m ([.ref (a 8), .int p1, .int p2, .int p3] : List Value).toArray below meth c s.heap [] 0 0 (MQ below (vp_Si (fun r => r = res)) ([.ref (a 8), .int p1, .int p2, .int p3] : List Value).toArray s 0 0 (fun _ => False)) (F0 m 48 ls []) := by
    intro n
    induction n with
    | zero =>
      intro v4_48 v7_48 ls hl hm
      exact (noS (show (none : Option (Int32)) = some res from hm)).elim
    | succ n ih =>
      intro v4_48 v7_48 ls hl hm
      exact kb48 _ _ ih kx48 v4_48 v7_48 ls hl hm
  exact lp48 FU (if r1 < r2 then r2 else r1) (1 : Int32) ls (lv_sub hl [4, 5, 6, 7, 3, 2, 1, 0] rfl) hm

def rmX5_fillSizes : Room := { frames := 3, cells := 0, slots := 0, locals := 76 }
set_option maxHeartbeats 4000000 in
set_option maxRecDepth 100000 in
theorem kX5_fillSizes (l : Launch) (D : va_G) (a : Nat → Nat) (cI cZ : ClassId) (hA : AP 24 a) (S : ST) (sz : Nat)  (res : ST) (hm : mX5_fillSizes S  = some res) : Met l yX5_fillSizes wsX5_fillSizes rmX5_fillSizes (va_Pc [.ref (a 8)] (PreW (wC a cI cZ S) D cI cZ sz)) (va_Qv (fun T : ST => T = res) (PostW (wC a cI cZ) D cI cZ) (AC 24 a sz)) 0 0 (AC 24 a sz) := by
  refine metB (cc := cX5_fillSizes) (maxL := 5) (ret := none) (by decide) rfl (Nat.le_of_ble_eq_true rfl) ?_
  intro p e s m below meth c ls X hml hr hlocks hin hv hl
  replace X : CX p m c cX5_fillSizes s ([.ref (a 8)] : List Value).toArray wsX5_fillSizes RX5 := X
  obtain ⟨hsz, hP, hK, hNW⟩ := hv
  subst hsz
  have hS : va_S (AC 24 a s.heap.size) s.heap s.heap [] := va_S.rf
  have hx := X.1
  have hb := X.2.1
  replace hl : lv_has ls 5 [(0, .ref (a 8))] := hl
  have iX5 : ∀ w ∈ wsX50, w ∈ wsX5_fillSizes := fun w h => List.mem_cons_of_mem _ (List.mem_append_left _ (List.mem_append_left _ (List.mem_append_right _ h)))
  have iX4 : ∀ w ∈ wsX40, w ∈ wsX5_fillSizes := fun w h => List.mem_cons_of_mem _ (List.mem_append_left _ (List.mem_append_right _ h))
  have iX1 : ∀ w ∈ wsX10, w ∈ wsX5_fillSizes := fun w h => List.mem_cons_of_mem _ (List.mem_append_right _ h)
  suffices kS : ∀ (H : Heap) (locs : List Loc), va_P D vwCl (wC a cI cZ S) H → va_S (AC 24 a s.heap.size) s.heap H locs → W p l e rmX5_fillSizes s m ([.ref (a 8)] : List Value).toArray below meth c H locs 0 0 (MQ below (va_Qv (fun T : ST => T = res) (PostW (wC a cI cZ) D cI cZ) (AC 24 a s.heap.size)) ([.ref (a 8)] : List Value).toArray s 0 0 (AC 24 a s.heap.size)) (F0 m 0 ls []) by exact kS s.heap [] hP hS
  intro H locs hP hS
  unfold mX5_fillSizes at hm
  refine lv_aload_n hx hb dX5_fillSizes_0 rfl (lv_at hl 0 rfl) ?_
  refine gC_X5_sheet X hK hP iX5 (List.mem_of_getElem? (i := 1) rfl) dX5_fillSizes_1 ?_
  refine gC_X4_stages X hK hP iX4 (List.mem_of_getElem? (i := 2) rfl) dX5_fillSizes_4 ?_
  refine lv_istore_n (lv' := [(1, .int (S.1 3)), (0, .ref (a 8))]) hx hb dX5_fillSizes_7 rfl hl (by decide) rfl (fun ls hl => ?_)
  have kb8 : ∀ (k x : ST → Int32 → Option (ST)), (∀ (S_8 : ST) (H : Heap) (locs : List Loc) (v1_8 : Int32) (ls : Array Slot), va_P D vwCl (wC a cI cZ S_8) H → va_S (AC 24 a s.heap.size) s.heap H locs → lv_has ls 5 [(0, .ref (a 8)), (1, .int v1_8)] → k S_8 v1_8 = some res → W p l e rmX5_fillSizes s m ([.ref (a 8)] : List Value).toArray below meth c H locs 0 0 (MQ below (va_Qv (fun T : ST => T = res) (PostW (wC a cI cZ) D cI cZ) (AC 24 a s.heap.size)) ([.ref (a 8)] : List Value).toArray s 0 0 (AC 24 a s.heap.size)) (F0 m 8 ls [])) → (∀ (S_8 : ST) (H : Heap) (locs : List Loc) (v1_8 : Int32) (ls : Array Slot), va_P D vwCl (wC a cI cZ S_8) H → va_S (AC 24 a s.heap.size) s.heap H locs → lv_has ls 5 [(0, .ref (a 8)), (1, .int v1_8)] → x S_8 v1_8 = some res → W p l e rmX5_fillSizes s m ([.ref (a 8)] : List Value).toArray below meth c H locs 0 0 (MQ below (va_Qv (fun T : ST => T = res) (PostW (wC a cI cZ) D cI cZ) (AC 24 a s.heap.size)) ([.ref (a 8)] : List Value).toArray s 0 0 (AC 24 a s.heap.size)) (F0 m 95 ls [])) → ∀ (S_8 : ST) (H : Heap) (locs : List Loc) (v1_8 : Int32) (ls : Array Slot), va_P D vwCl (wC a cI cZ S_8) H → va_S (AC 24 a s.heap.size) s.heap H locs → lv_has ls 5 [(0, .ref (a 8)), (1, .int v1_8)] → mX5_fillSizes_B8 k x  S_8 v1_8 = some res → W p l e rmX5_fillSizes s m ([.ref (a 8)] : List Value).toArray below meth c H locs 0 0 (MQ below (va_Qv (fun T : ST => T = res) (PostW (wC a cI cZ) D cI cZ) (AC 24 a s.heap.size)) ([.ref (a 8)] : List Value).toArray s 0 0 (AC 24 a s.heap.size)) (F0 m 8 ls []) := by
    intro k x ih kxh S_8 H locs v1_8 ls hP hS hl hm
    unfold mX5_fillSizes_B8 at hm
    refine lv_iload_n hx hb dX5_fillSizes_8 rfl (lv_at hl 1 rfl) ?_
    refine lv_iconst (v := (1 : Int32)) hx hb dX5_fillSizes_9 (by decide) ?_
    refine lv_icmp_lt (tgt := 95) hx hb dX5_fillSizes_10 (by decide) (fun hc => ?_) (fun hc => ?_)
    · replace hm := (if_pos hc).symm.trans hm
      exact kxh S_8 H locs v1_8 ls hP hS (lv_sub hl [0, 1] rfl) hm
    · replace hm := (if_neg hc).symm.trans hm
      refine lv_iconst (v := (1 : Int32)) hx hb dX5_fillSizes_13 (by decide) ?_
      refine lv_istore_n (lv' := [(2, .int (1 : Int32)), (0, .ref (a 8)), (1, .int v1_8)]) hx hb dX5_fillSizes_14 rfl hl (by decide) rfl (fun ls hl => ?_)
      have kb15 : ∀ (k x : ST → Int32 → Option (ST)), (∀ (S_15 : ST) (H : Heap) (locs : List Loc) (v2_15 : Int32) (ls : Array Slot), va_P D vwCl (wC a cI cZ S_15) H → va_S (AC 24 a s.heap.size) s.heap H locs → lv_has ls 5 [(0, .ref (a 8)), (1, .int v1_8), (2, .int v2_15)] → k S_15 v2_15 = some res → W p l e rmX5_fillSizes s m ([.ref (a 8)] : List Value).toArray below meth c H locs 0 0 (MQ below (va_Qv (fun T : ST => T = res) (PostW (wC a cI cZ) D cI cZ) (AC 24 a s.heap.size)) ([.ref (a 8)] : List Value).toArray s 0 0 (AC 24 a s.heap.size)) (F0 m 15 ls [])) → (∀ (S_15 : ST) (H : Heap) (locs : List Loc) (v2_15 : Int32) (ls : Array Slot), va_P D vwCl (wC a cI cZ S_15) H → va_S (AC 24 a s.heap.size) s.heap H locs → lv_has ls 5 [(0, .ref (a 8)), (1, .int v1_8), (2, .int v2_15)] → x S_15 v2_15 = some res → W p l e rmX5_fillSizes s m ([.ref (a 8)] : List Value).toArray below meth c H locs 0 0 (MQ below (va_Qv (fun T : ST => T = res) (PostW (wC a cI cZ) D cI cZ) (AC 24 a s.heap.size)) ([.ref (a 8)] : List Value).toArray s 0 0 (AC 24 a s.heap.size)) (F0 m 89 ls [])) → ∀ (S_15 : ST) (H : Heap) (locs : List Loc) (v2_15 : Int32) (ls : Array Slot), va_P D vwCl (wC a cI cZ S_15) H → va_S (AC 24 a s.heap.size) s.heap H locs → lv_has ls 5 [(0, .ref (a 8)), (1, .int v1_8), (2, .int v2_15)] → mX5_fillSizes_B15 k x v1_8 S_15 v2_15 = some res → W p l e rmX5_fillSizes s m ([.ref (a 8)] : List Value).toArray below meth c H locs 0 0 (MQ below (va_Qv (fun T : ST => T = res) (PostW (wC a cI cZ) D cI cZ) (AC 24 a s.heap.size)) ([.ref (a 8)] : List Value).toArray s 0 0 (AC 24 a s.heap.size)) (F0 m 15 ls []) := by
        intro k x ih kxh S_15 H locs v2_15 ls hP hS hl hm
        unfold mX5_fillSizes_B15 at hm
        refine lv_iload_n hx hb dX5_fillSizes_15 rfl (lv_at hl 2 rfl) ?_
        refine lv_aload_n hx hb dX5_fillSizes_16 rfl (lv_at hl 0 rfl) ?_
        refine gC_X5_sheet X hK hP iX5 (List.mem_of_getElem? (i := 1) rfl) dX5_fillSizes_17 ?_
        refine gC_X4_width X hK hP iX4 (List.mem_of_getElem? (i := 3) rfl) dX5_fillSizes_20 ?_
        refine lv_icmp_gt (tgt := 89) hx hb dX5_fillSizes_23 (by decide) (fun hc => ?_) (fun hc => ?_)
        · replace hm := (if_pos hc).symm.trans hm
          exact kxh S_15 H locs v2_15 ls hP hS (lv_sub hl [0, 1, 2] rfl) hm
        · replace hm := (if_neg hc).symm.trans hm
          refine lv_iconst (v := (1 : Int32)) hx hb dX5_fillSizes_26 (by decide) ?_
          refine lv_istore_n (lv' := [(3, .int (1 : Int32)), (0, .ref (a 8)), (1, .int v1_8), (2, .int v2_15)]) hx hb dX5_fillSizes_27 rfl hl (by decide) rfl (fun ls hl => ?_)
          have kb28 : ∀ (k x : ST → Int32 → Option (ST)), (∀ (S_28 : ST) (H : Heap) (locs : List Loc) (v3_28 : Int32) (ls : Array Slot), va_P D vwCl (wC a cI cZ S_28) H → va_S (AC 24 a s.heap.size) s.heap H locs → lv_has ls 5 [(0, .ref (a 8)), (1, .int v1_8), (2, .int v2_15), (3, .int v3_28)] → k S_28 v3_28 = some res → W p l e rmX5_fillSizes s m ([.ref (a 8)] : List Value).toArray below meth c H locs 0 0 (MQ below (va_Qv (fun T : ST => T = res) (PostW (wC a cI cZ) D cI cZ) (AC 24 a s.heap.size)) ([.ref (a 8)] : List Value).toArray s 0 0 (AC 24 a s.heap.size)) (F0 m 28 ls [])) → (∀ (S_28 : ST) (H : Heap) (locs : List Loc) (v3_28 : Int32) (ls : Array Slot), va_P D vwCl (wC a cI cZ S_28) H → va_S (AC 24 a s.heap.size) s.heap H locs → lv_has ls 5 [(0, .ref (a 8)), (1, .int v1_8), (2, .int v2_15), (3, .int v3_28)] → x S_28 v3_28 = some res → W p l e rmX5_fillSizes s m ([.ref (a 8)] : List Value).toArray below meth c H locs 0 0 (MQ below (va_Qv (fun T : ST => T = res) (PostW (wC a cI cZ) D cI cZ) (AC 24 a s.heap.size)) ([.ref (a 8)] : List Value).toArray s 0 0 (AC 24 a s.heap.size)) (F0 m 83 ls [])) → ∀ (S_28 : ST) (H : Heap) (locs : List Loc) (v3_28 : Int32) (ls : Array Slot), va_P D vwCl (wC a cI cZ S_28) H → va_S (AC 24 a s.heap.size) s.heap H locs → lv_has ls 5 [(0, .ref (a 8)), (1, .int v1_8), (2, .int v2_15), (3, .int v3_28)] → mX5_fillSizes_B28 k x v1_8 v2_15 S_28 v3_28 = some res → W p l e rmX5_fillSizes s m ([.ref (a 8)] : List Value).toArray below meth c H locs 0 0 (MQ below (va_Qv (fun T : ST => T = res) (PostW (wC a cI cZ) D cI cZ) (AC 24 a s.heap.size)) ([.ref (a 8)] : List Value).toArray s 0 0 (AC 24 a s.heap.size)) (F0 m 28 ls []) := by
            intro k x ih kxh S_28 H locs v3_28 ls hP hS hl hm
            unfold mX5_fillSizes_B28 at hm
            refine lv_iload_n hx hb dX5_fillSizes_28 rfl (lv_at hl 3 rfl) ?_
            refine lv_aload_n hx hb dX5_fillSizes_29 rfl (lv_at hl 0 rfl) ?_
            refine gC_X5_sheet X hK hP iX5 (List.mem_of_getElem? (i := 1) rfl) dX5_fillSizes_30 ?_
            refine gC_X4_height X hK hP iX4 (List.mem_of_getElem? (i := 4) rfl) dX5_fillSizes_33 ?_
            refine lv_icmp_gt (tgt := 83) hx hb dX5_fillSizes_36 (by decide) (fun hc => ?_) (fun hc => ?_)
            · replace hm := (if_pos hc).symm.trans hm
              exact kxh S_28 H locs v3_28 ls hP hS (lv_sub hl [0, 1, 2, 3] rfl) hm
            · replace hm := (if_neg hc).symm.trans hm
              refine lv_iload_n hx hb dX5_fillSizes_39 rfl (lv_at hl 2 rfl) ?_
              refine lv_iload_n hx hb dX5_fillSizes_40 rfl (lv_at hl 3 rfl) ?_
              refine lv_iload_n hx hb dX5_fillSizes_41 rfl (lv_at hl 1 rfl) ?_
              obtain ⟨r1, hr1, hm⟩ := bd_ok hm
              refine callRS (rest := []) X hml hl.1 (kX5_sizeSlot l v2_15 v3_28 v1_8 r1 hr1) (va_cwS 3 X.2.2.1 gX5_fillSizes_X5_sizeSlot rfl rfl rfl (by decide +kernel) ⟨Nat.le_of_ble_eq_true rfl, Nat.le_of_ble_eq_true rfl⟩) rfl rfl (Nat.le_of_ble_eq_true rfl) dX5_fillSizes_42 ⟨Nat.zero_le _, Nat.zero_le _⟩ ?_
              refine lv_istore (lv' := [(4, .int r1), (0, .ref (a 8)), (1, .int v1_8), (2, .int v2_15), (3, .int v3_28)]) hx hb dX5_fillSizes_45 hl (by decide) rfl (fun ls hl => ?_)
              refine lv_iload hx hb dX5_fillSizes_47 (lv_at hl 0 rfl) ?_
              refine lv_iconst (v := (0 : Int32)) hx hb dX5_fillSizes_49 (by decide) ?_
              refine lv_aload_n hx hb dX5_fillSizes_50 rfl (lv_at hl 1 rfl) ?_
              refine gC_X5_ofSizes X hK hP iX5 (List.mem_of_getElem? (i := 5) rfl) dX5_fillSizes_51 ?_
              refine nC_X5_ofSizes X hK hP dX5_fillSizes_54 ?_
              refine lv_iconst (v := (1 : Int32)) hx hb dX5_fillSizes_55 (by decide) ?_
              refine lv_isub hx hb dX5_fillSizes_56 ?_
              obtain ⟨r2, hr2, hm⟩ := bd_ok hm
              refine callRN (rest := []) X hml hl.1 (kX6_within l r1 (0 : Int32) ((1024 : Int32) - (1 : Int32)) r2 hr2) ⟨va_cnB 3 X.2.2.1 gX5_fillSizes_X6_within_n54 rfl rfl rfl hNW.2.2 (X.2.2.1 (Cond.initialized RX6) (List.mem_of_getElem? (i := 11) rfl)) (by decide +kernel) ⟨Nat.le_of_ble_eq_true rfl, Nat.le_of_ble_eq_true rfl⟩, X.2.2.1 (Cond.static yX6_within) (List.mem_of_getElem? (i := 10) rfl), trivial⟩ rfl rfl (Nat.le_of_ble_eq_true rfl) dX5_fillSizes_57 ⟨Nat.zero_le _, Nat.zero_le _⟩ ?_
              refine lv_if_eq (tgt := 77) hx hb dX5_fillSizes_60 (by decide) (fun hc => ?_) (fun hc => ?_)
              · replace hm := (if_pos hc).symm.trans hm
                refine lv_iinc (v := (v3_28 + (1 : Int32))) (lv' := [(3, .int (v3_28 + (1 : Int32))), (4, .int r1), (0, .ref (a 8)), (1, .int v1_8), (2, .int v2_15)]) hx hb dX5_fillSizes_77 hl (k := 4) rfl rfl (by decide) rfl (fun ls hl => ?_)
                refine lv_goto (tgt := 28) hx hb dX5_fillSizes_80 (by decide) ?_
                exact ih S_28 H locs (v3_28 + (1 : Int32)) ls hP hS (lv_sub hl [2, 3, 4, 0] rfl) hm
              · replace hm := (if_neg hc).symm.trans hm
                refine lv_aload_n hx hb dX5_fillSizes_63 rfl (lv_at hl 1 rfl) ?_
                refine gC_X5_ofSizes X hK hP iX5 (List.mem_of_getElem? (i := 5) rfl) dX5_fillSizes_64 ?_
                refine lv_iload hx hb dX5_fillSizes_67 (lv_at hl 0 rfl) ?_
                refine lv_aload_n hx hb dX5_fillSizes_69 rfl (lv_at hl 1 rfl) ?_
                refine lv_iload_n hx hb dX5_fillSizes_70 rfl (lv_at hl 3 rfl) ?_
                refine lv_iload_n hx hb dX5_fillSizes_71 rfl (lv_at hl 4 rfl) ?_
                refine lv_iload_n hx hb dX5_fillSizes_72 rfl (lv_at hl 2 rfl) ?_
                obtain ⟨r3, hr3, hm⟩ := bd_ok hm
                refine callRV (rest := [.int r1, .ref (a 9)]) X hK hNW hml hP hl.1 (kX5_mostOfSize l D a cI cZ S_28 v2_15 v3_28 v1_8 r3 hr3) (cwV 3 X.2.2.1 gX5_fillSizes_X5_mostOfSize rfl rfl rfl (by decide +kernel) ⟨Nat.le_of_ble_eq_true rfl, Nat.le_of_ble_eq_true rfl⟩) (vC_X5 hK hP) rfl rfl (Nat.le_of_ble_eq_true rfl) dX5_fillSizes_73 ⟨Nat.zero_le _, Nat.zero_le _⟩ ?_
                obtain ⟨h1, hm⟩ := gd_ok hm
                refine sC_X5_ofSizes X hK hA hP hS h1 dX5_fillSizes_76 (fun H locs hP hS => ?_)
                refine lv_iinc (v := (v3_28 + (1 : Int32))) (lv' := [(3, .int (v3_28 + (1 : Int32))), (4, .int r1), (0, .ref (a 8)), (1, .int v1_8), (2, .int v2_15)]) hx hb dX5_fillSizes_77 hl (k := 4) rfl rfl (by decide) rfl (fun ls hl => ?_)
                refine lv_goto (tgt := 28) hx hb dX5_fillSizes_80 (by decide) ?_
                exact ih (sG S_28 5 r1 r3) H locs (v3_28 + (1 : Int32)) ls hP hS (lv_sub hl [2, 3, 4, 0] rfl) hm
          have kx28 : ∀ (S_28 : ST) (H : Heap) (locs : List Loc) (v3_28 : Int32) (ls : Array Slot), va_P D vwCl (wC a cI cZ S_28) H → va_S (AC 24 a s.heap.size) s.heap H locs → lv_has ls 5 [(0, .ref (a 8)), (1, .int v1_8), (2, .int v2_15), (3, .int v3_28)] → mX5_fillSizes_X28 k x v1_8 v2_15 S_28 v3_28 = some res → W p l e rmX5_fillSizes s m ([.ref (a 8)] : List Value).toArray below meth c H locs 0 0 (MQ below (va_Qv (fun T : ST => T = res) (PostW (wC a cI cZ) D cI cZ) (AC 24 a s.heap.size)) ([.ref (a 8)] : List Value).toArray s 0 0 (AC 24 a s.heap.size)) (F0 m 83 ls []) := by
            intro S_28 H locs v3_28 ls hP hS hl hm
            unfold mX5_fillSizes_X28 at hm
            refine lv_iinc (v := (v2_15 + (1 : Int32))) (lv' := [(2, .int (v2_15 + (1 : Int32))), (0, .ref (a 8)), (1, .int v1_8), (3, .int v3_28)]) hx hb dX5_fillSizes_83 hl (k := 2) rfl rfl (by decide) rfl (fun ls hl => ?_)
            refine lv_goto (tgt := 15) hx hb dX5_fillSizes_86 (by decide) ?_
            exact ih S_28 H locs (v2_15 + (1 : Int32)) ls hP hS (lv_sub hl [1, 2, 0] rfl) hm
          have lp28 : ∀ (n : Nat) (S_28 : ST) (H : Heap) (locs : List Loc) (v3_28 : Int32) (ls : Array Slot), va_P D vwCl (wC a cI cZ S_28) H → va_S (AC 24 a s.heap.size) s.heap H locs → lv_has ls 5 [(0, .ref (a 8)), (1, .int v1_8), (2, .int v2_15), (3, .int v3_28)] → LPf (κ := ST → Int32 → Option (ST)) (fun _ _ => none) (fun kk => mX5_fillSizes_B28 kk (mX5_fillSizes_X28 k x v1_8 v2_15) v1_8 v2_15) n S_28 v3_28 = some res → W p l e rmX5_fillSizes s m ([.ref (a 8)] : List Value).toArray below meth c H locs 0 0 (MQ below (va_Qv (fun T : ST => T = res) (PostW (wC a cI cZ) D cI cZ) (AC 24 a s.heap.size)) ([.ref (a 8)] : List Value).toArray s 0 0 (AC 24 a s.heap.size)) (F0 m 28 ls []) := by
            intro n
            induction n with
            | zero =>
              intro S_28 H locs v3_28 ls hP hS hl hm
              exact (noS (show (none : Option (ST)) = some res from hm)).elim
            | succ n ih =>
              intro S_28 H locs v3_28 ls hP hS hl hm
              exact kb28 _ _ ih kx28 S_28 H locs v3_28 ls hP hS hl hm
          exact lp28 FU S_15 H locs (1 : Int32) ls hP hS (lv_sub hl [1, 2, 3, 0] rfl) hm
      have kx15 : ∀ (S_15 : ST) (H : Heap) (locs : List Loc) (v2_15 : Int32) (ls : Array Slot), va_P D vwCl (wC a cI cZ S_15) H → va_S (AC 24 a s.heap.size) s.heap H locs → lv_has ls 5 [(0, .ref (a 8)), (1, .int v1_8), (2, .int v2_15)] → mX5_fillSizes_X15 k x v1_8 S_15 v2_15 = some res → W p l e rmX5_fillSizes s m ([.ref (a 8)] : List Value).toArray below meth c H locs 0 0 (MQ below (va_Qv (fun T : ST => T = res) (PostW (wC a cI cZ) D cI cZ) (AC 24 a s.heap.size)) ([.ref (a 8)] : List Value).toArray s 0 0 (AC 24 a s.heap.size)) (F0 m 89 ls []) := by
        intro S_15 H locs v2_15 ls hP hS hl hm
        unfold mX5_fillSizes_X15 at hm
        refine lv_iinc (v := (v1_8 + (-1 : Int32))) (lv' := [(1, .int (v1_8 + (-1 : Int32))), (0, .ref (a 8)), (2, .int v2_15)]) hx hb dX5_fillSizes_89 hl (k := 1) rfl rfl (by decide) rfl (fun ls hl => ?_)
        refine lv_goto (tgt := 8) hx hb dX5_fillSizes_92 (by decide) ?_
        exact ih S_15 H locs (v1_8 + (-1 : Int32)) ls hP hS (lv_sub hl [1, 0] rfl) hm
      have lp15 : ∀ (n : Nat) (S_15 : ST) (H : Heap) (locs : List Loc) (v2_15 : Int32) (ls : Array Slot), va_P D vwCl (wC a cI cZ S_15) H → va_S (AC 24 a s.heap.size) s.heap H locs → lv_has ls 5 [(0, .ref (a 8)), (1, .int v1_8), (2, .int v2_15)] → LPf (κ := ST → Int32 → Option (ST)) (fun _ _ => none) (fun kk => mX5_fillSizes_B15 kk (mX5_fillSizes_X15 k x v1_8) v1_8) n S_15 v2_15 = some res → W p l e rmX5_fillSizes s m ([.ref (a 8)] : List Value).toArray below meth c H locs 0 0 (MQ below (va_Qv (fun T : ST => T = res) (PostW (wC a cI cZ) D cI cZ) (AC 24 a s.heap.size)) ([.ref (a 8)] : List Value).toArray s 0 0 (AC 24 a s.heap.size)) (F0 m 15 ls []) := by
        intro n
        induction n with
        | zero =>
          intro S_15 H locs v2_15 ls hP hS hl hm
          exact (noS (show (none : Option (ST)) = some res from hm)).elim
        | succ n ih =>
          intro S_15 H locs v2_15 ls hP hS hl hm
          exact kb15 _ _ ih kx15 S_15 H locs v2_15 ls hP hS hl hm
      exact lp15 FU S_8 H locs (1 : Int32) ls hP hS (lv_sub hl [1, 2, 0] rfl) hm
  have kx8 : ∀ (S_8 : ST) (H : Heap) (locs : List Loc) (v1_8 : Int32) (ls : Array Slot), va_P D vwCl (wC a cI cZ S_8) H → va_S (AC 24 a s.heap.size) s.heap H locs → lv_has ls 5 [(0, .ref (a 8)), (1, .int v1_8)] → mX5_fillSizes_X8   S_8 v1_8 = some res → W p l e rmX5_fillSizes s m ([.ref (a 8)] : List Value).toArray below meth c H locs 0 0 (MQ below (va_Qv (fun T : ST => T = res) (PostW (wC a cI cZ) D cI cZ) (AC 24 a s.heap.size)) ([.ref (a 8)] : List Value).toArray s 0 0 (AC 24 a s.heap.size)) (F0 m 95 ls []) := by
    intro S_8 H locs v1_8 ls hP hS hl hm
    unfold mX5_fillSizes_X8 at hm
    exact endV X hK hr hlocks hm hP hS dX5_fillSizes_95
  have lp8 : ∀ (n : Nat) (S_8 : ST) (H : Heap) (locs : List Loc) (v1_8 : Int32) (ls : Array Slot), va_P D vwCl (wC a cI cZ S_8) H → va_S (AC 24 a s.heap.size) s.heap H locs → lv_has ls 5 [(0, .ref (a 8)), (1, .int v1_8)] → LPf (κ := ST → Int32 → Option (ST)) (fun _ _ => none) (fun kk => mX5_fillSizes_B8 kk (mX5_fillSizes_X8  ) ) n S_8 v1_8 = some res → W p l e rmX5_fillSizes s m ([.ref (a 8)] : List Value).toArray below meth c H locs 0 0 (MQ below (va_Qv (fun T : ST => T = res) (PostW (wC a cI cZ) D cI cZ) (AC 24 a s.heap.size)) ([.ref (a 8)] : List Value).toArray s 0 0 (AC 24 a s.heap.size)) (F0 m 8 ls []) := by
    intro n
    induction n with
    | zero =>
      intro S_8 H locs v1_8 ls hP hS hl hm
      exact (noS (show (none : Option (ST)) = some res from hm)).elim
    | succ n ih =>
      intro S_8 H locs v1_8 ls hP hS hl hm
      exact kb8 _ _ ih kx8 S_8 H locs v1_8 ls hP hS hl hm
  exact lp8 FU S H locs (S.1 3) ls hP hS (lv_sub hl [1, 0] rfl) hm

def rmX5_span : Room := { frames := 0, cells := 0, slots := 0, locals := 0 }
set_option maxHeartbeats 4000000 in
set_option maxRecDepth 100000 in
theorem kX5_span (l : Launch) (p0 : Int32) (p1 : Int32) (res : Int32) (hm : mX5_span  p0 p1 = some res) : Met l yX5_span wsX5_span rmX5_span (va_Pc [.int p0, .int p1] (fun _ => True)) (vp_Si (fun r => r = res)) 0 0 (fun _ => False) := by
  refine metB (cc := cX5_span) (maxL := 2) (ret := (some .int)) (by decide) rfl (Nat.le_of_ble_eq_true rfl) ?_
  intro p e s m below meth c ls X hml hr hlocks hin hv hl
  replace X : CX p m c cX5_span s ([.int p0, .int p1] : List Value).toArray wsX5_span RX5 := X
  have hx := X.1
  have hb := X.2.1
  replace hl : lv_has ls 2 [(0, .int p0), (1, .int p1)] := hl
  unfold mX5_span at hm
  refine lv_iload_n hx hb dX5_span_0 rfl (lv_at hl 1 rfl) ?_
  refine lv_iload_n hx hb dX5_span_1 rfl (lv_at hl 1 rfl) ?_
  refine lv_iconst (v := (1 : Int32)) hx hb dX5_span_2 (by decide) ?_
  refine lv_isub hx hb dX5_span_3 ?_
  refine lv_imul hx hb dX5_span_4 ?_
  refine lv_iconst (v := (2 : Int32)) hx hb dX5_span_5 (by decide) ?_
  refine lv_idiv hx hb dX5_span_6 (by decide) ?_
  refine lv_iload_n hx hb dX5_span_7 rfl (lv_at hl 0 rfl) ?_
  refine lv_iadd hx hb dX5_span_8 ?_
  exact endR X hr rfl hlocks hm dX5_span_9

def rmX5_partSlot : Room := { frames := 0, cells := 0, slots := 0, locals := 0 }
set_option maxHeartbeats 4000000 in
set_option maxRecDepth 100000 in
theorem kX5_partSlot (l : Launch) (p0 : Int32) (p1 : Int32) (p2 : Int32) (res : Int32) (hm : mX5_partSlot  p0 p1 p2 = some res) : Met l yX5_partSlot wsX5_partSlot rmX5_partSlot (va_Pc [.int p0, .int p1, .int p2] (fun _ => True)) (vp_Si (fun r => r = res)) 0 0 (fun _ => False) := by
  refine metB (cc := cX5_partSlot) (maxL := 3) (ret := (some .int)) (by decide) rfl (Nat.le_of_ble_eq_true rfl) ?_
  intro p e s m below meth c ls X hml hr hlocks hin hv hl
  replace X : CX p m c cX5_partSlot s ([.int p0, .int p1, .int p2] : List Value).toArray wsX5_partSlot RX5 := X
  have hx := X.1
  have hb := X.2.1
  replace hl : lv_has ls 3 [(0, .int p0), (1, .int p1), (2, .int p2)] := hl
  unfold mX5_partSlot at hm
  refine lv_iload_n hx hb dX5_partSlot_0 rfl (lv_at hl 0 rfl) ?_
  refine lv_iconst (v := (1 : Int32)) hx hb dX5_partSlot_1 (by decide) ?_
  refine lv_isub hx hb dX5_partSlot_2 ?_
  refine lv_sipush (v := (136 : Int32)) hx hb dX5_partSlot_3 (by decide) ?_
  refine lv_imul hx hb dX5_partSlot_6 ?_
  refine lv_iload_n hx hb dX5_partSlot_7 rfl (lv_at hl 1 rfl) ?_
  refine lv_iadd hx hb dX5_partSlot_8 ?_
  refine lv_sipush (v := (136 : Int32)) hx hb dX5_partSlot_9 (by decide) ?_
  refine lv_imul hx hb dX5_partSlot_12 ?_
  refine lv_iload_n hx hb dX5_partSlot_13 rfl (lv_at hl 2 rfl) ?_
  refine lv_iadd hx hb dX5_partSlot_14 ?_
  exact endR X hr rfl hlocks hm dX5_partSlot_15

def rmX5_mostOfCuts : Room := { frames := 1, cells := 0, slots := 0, locals := 21 }
set_option maxHeartbeats 4000000 in
set_option maxRecDepth 100000 in
theorem kX5_mostOfCuts (l : Launch) (D : va_G) (a : Nat → Nat) (cI cZ : ClassId) (S : ST) (p1 : Int32) (p2 : Int32) (p3 : Int32) (p4 : Int32) (p5 : Int32) (res : Int32) (hm : mX5_mostOfCuts S p1 p2 p3 p4 p5 = some res) : Met l yX5_mostOfCuts wsX5_mostOfCuts rmX5_mostOfCuts (va_Pc [.ref (a 8), .int p1, .int p2, .int p3, .int p4, .int p5] (PreR (wC a cI cZ S) D cI cZ)) (vp_Si (fun r => r = res)) 0 0 (fun _ => False) := by
  refine metB (cc := cX5_mostOfCuts) (maxL := 11) (ret := (some .int)) (by decide) rfl (Nat.le_of_ble_eq_true rfl) ?_
  intro p e s m below meth c ls X hml hr hlocks hin hv hl
  replace X : CX p m c cX5_mostOfCuts s ([.ref (a 8), .int p1, .int p2, .int p3, .int p4, .int p5] : List Value).toArray wsX5_mostOfCuts RX5 := X
  obtain ⟨hP, hK, hNW⟩ := hv
  have hx := X.1
  have hb := X.2.1
  replace hl : lv_has ls 11 [(0, .ref (a 8)), (1, .int p1), (2, .int p2), (3, .int p3), (4, .int p4), (5, .int p5)] := hl
  have iX5 : ∀ w ∈ wsX50, w ∈ wsX5_mostOfCuts := fun w h => List.mem_cons_of_mem _ (List.mem_append_left _ (List.mem_append_right _ h))
  have iX4 : ∀ w ∈ wsX40, w ∈ wsX5_mostOfCuts := fun w h => List.mem_cons_of_mem _ (List.mem_append_right _ h)
  unfold mX5_mostOfCuts at hm
  refine lv_iload_n hx hb dX5_mostOfCuts_0 rfl (lv_at hl 1 rfl) ?_
  refine lv_if_lt (tgt := 25) hx hb dX5_mostOfCuts_1 (by decide) (fun hc => ?_) (fun hc => ?_)
  · replace hm := (if_pos hc).symm.trans hm
    refine lv_iconst (v := (0 : Int32)) hx hb dX5_mostOfCuts_25 (by decide) ?_
    exact endR X hr rfl hlocks hm dX5_mostOfCuts_26
  · replace hm := (if_neg hc).symm.trans hm
    refine lv_iload_n hx hb dX5_mostOfCuts_4 rfl (lv_at hl 1 rfl) ?_
    refine lv_iload_n hx hb dX5_mostOfCuts_5 rfl (lv_at hl 2 rfl) ?_
    refine lv_iload hx hb dX5_mostOfCuts_6 (lv_at hl 4 rfl) ?_
    refine lv_iconst (v := (1 : Int32)) hx hb dX5_mostOfCuts_8 (by decide) ?_
    refine lv_isub hx hb dX5_mostOfCuts_9 ?_
    refine lv_iload hx hb dX5_mostOfCuts_10 (lv_at hl 4 rfl) ?_
    obtain ⟨r1, hr1, hm⟩ := bd_ok hm
    refine callRS (rest := [.int p2, .int p1]) X hml hl.1 (kX5_span l (p4 - (1 : Int32)) p4 r1 hr1) (va_cwS 2 X.2.2.1 gX5_mostOfCuts_X5_span rfl rfl rfl (by decide +kernel) ⟨Nat.le_of_ble_eq_true rfl, Nat.le_of_ble_eq_true rfl⟩) rfl rfl (Nat.le_of_ble_eq_true rfl) dX5_mostOfCuts_12 ⟨Nat.zero_le _, Nat.zero_le _⟩ ?_
    refine lv_imul hx hb dX5_mostOfCuts_15 ?_
    refine lv_iadd hx hb dX5_mostOfCuts_16 ?_
    refine lv_aload_n hx hb dX5_mostOfCuts_17 rfl (lv_at hl 0 rfl) ?_
    refine gC_X5_ofParts X hK hP iX5 (List.mem_of_getElem? (i := 1) rfl) dX5_mostOfCuts_18 ?_
    refine nC_X5_ofParts X hK hP dX5_mostOfCuts_21 ?_
    refine lv_icmp_lt (tgt := 27) hx hb dX5_mostOfCuts_22 (by decide) (fun hc => ?_) (fun hc => ?_)
    · replace hm := (if_pos hc).symm.trans hm
      refine lv_iload_n hx hb dX5_mostOfCuts_27 rfl (lv_at hl 1 rfl) ?_
      refine lv_iload_n hx hb dX5_mostOfCuts_28 rfl (lv_at hl 2 rfl) ?_
      refine lv_iload_n hx hb dX5_mostOfCuts_29 rfl (lv_at hl 3 rfl) ?_
      refine lv_iload_n hx hb dX5_mostOfCuts_30 rfl (lv_at hl 3 rfl) ?_
      refine lv_iconst (v := (1 : Int32)) hx hb dX5_mostOfCuts_31 (by decide) ?_
      refine lv_iadd hx hb dX5_mostOfCuts_32 ?_
      obtain ⟨r2, hr2, hm⟩ := bd_ok hm
      refine callRS (rest := [.int p2, .int p1]) X hml hl.1 (kX5_span l p3 (p3 + (1 : Int32)) r2 hr2) (va_cwS 2 X.2.2.1 gX5_mostOfCuts_X5_span rfl rfl rfl (by decide +kernel) ⟨Nat.le_of_ble_eq_true rfl, Nat.le_of_ble_eq_true rfl⟩) rfl rfl (Nat.le_of_ble_eq_true rfl) dX5_mostOfCuts_33 ⟨Nat.zero_le _, Nat.zero_le _⟩ ?_
      refine lv_imul hx hb dX5_mostOfCuts_36 ?_
      refine lv_iadd hx hb dX5_mostOfCuts_37 ?_
      refine lv_istore (lv' := [(6, .int (p1 + (p2 * r2))), (0, .ref (a 8)), (1, .int p1), (2, .int p2), (3, .int p3), (4, .int p4), (5, .int p5)]) hx hb dX5_mostOfCuts_38 hl (by decide) rfl (fun ls hl => ?_)
      refine lv_iload_n hx hb dX5_mostOfCuts_40 rfl (lv_at hl 2 rfl) ?_
      refine lv_iload_n hx hb dX5_mostOfCuts_41 rfl (lv_at hl 3 rfl) ?_
      refine lv_iload_n hx hb dX5_mostOfCuts_42 rfl (lv_at hl 4 rfl) ?_
      refine lv_iconst (v := (1 : Int32)) hx hb dX5_mostOfCuts_43 (by decide) ?_
      refine lv_iadd hx hb dX5_mostOfCuts_44 ?_
      refine lv_aload_n hx hb dX5_mostOfCuts_45 rfl (lv_at hl 1 rfl) ?_
      refine gC_X5_sheet X hK hP iX5 (List.mem_of_getElem? (i := 2) rfl) dX5_mostOfCuts_46 ?_
      refine gC_X4_kerf X hK hP iX4 (List.mem_of_getElem? (i := 3) rfl) dX5_mostOfCuts_49 ?_
      refine lv_iadd hx hb dX5_mostOfCuts_52 ?_
      refine lv_iload hx hb dX5_mostOfCuts_53 (lv_at hl 5 rfl) ?_
      obtain ⟨r3, hr3, hm⟩ := bd_ok hm
      refine callRS (rest := [.int p2, .int p1]) X hml hl.1 (kX5_span l ((p3 + (1 : Int32)) + (S.1 2)) p4 r3 hr3) (va_cwS 2 X.2.2.1 gX5_mostOfCuts_X5_span rfl rfl rfl (by decide +kernel) ⟨Nat.le_of_ble_eq_true rfl, Nat.le_of_ble_eq_true rfl⟩) rfl rfl (Nat.le_of_ble_eq_true rfl) dX5_mostOfCuts_55 ⟨Nat.zero_le _, Nat.zero_le _⟩ ?_
      refine lv_imul hx hb dX5_mostOfCuts_58 ?_
      refine lv_iadd hx hb dX5_mostOfCuts_59 ?_
      refine lv_istore (lv' := [(7, .int (p1 + (p2 * r3))), (6, .int (p1 + (p2 * r2))), (0, .ref (a 8)), (1, .int p1), (2, .int p2), (3, .int p3), (4, .int p4), (5, .int p5)]) hx hb dX5_mostOfCuts_60 hl (by decide) rfl (fun ls hl => ?_)
      refine lv_iconst (v := (0 : Int32)) hx hb dX5_mostOfCuts_62 (by decide) ?_
      refine lv_istore (lv' := [(8, .int (0 : Int32)), (7, .int (p1 + (p2 * r3))), (6, .int (p1 + (p2 * r2))), (0, .ref (a 8)), (1, .int p1), (2, .int p2), (3, .int p3), (4, .int p4), (5, .int p5)]) hx hb dX5_mostOfCuts_63 hl (by decide) rfl (fun ls hl => ?_)
      refine lv_iload_n hx hb dX5_mostOfCuts_65 rfl (lv_at hl 6 rfl) ?_
      refine lv_iconst (v := (1 : Int32)) hx hb dX5_mostOfCuts_66 (by decide) ?_
      refine lv_iadd hx hb dX5_mostOfCuts_67 ?_
      refine lv_istore (lv' := [(9, .int (p3 + (1 : Int32))), (8, .int (0 : Int32)), (7, .int (p1 + (p2 * r3))), (6, .int (p1 + (p2 * r2))), (0, .ref (a 8)), (1, .int p1), (2, .int p2), (3, .int p3), (4, .int p4), (5, .int p5)]) hx hb dX5_mostOfCuts_68 hl (by decide) rfl (fun ls hl => ?_)
      have kb70 : ∀ (k x : Int32 → Int32 → Int32 → Int32 → Option (Int32)), (∀ (v6_70 : Int32) (v7_70 : Int32) (v8_70 : Int32) (v9_70 : Int32) (ls : Array Slot), lv_has ls 11 [(0, .ref (a 8)), (1, .int p1), (2, .int p2), (3, .int p3), (4, .int p4), (5, .int p5), (6, .int v6_70), (7, .int v7_70), (8, .int v8_70), (9, .int v9_70)] → k v6_70 v7_70 v8_70 v9_70 = some res → W p l e rmX5_mostOfCuts s m ([.ref (a 8), .int p1, .int p2, .int p3, .int p4, .int p5] : List Value).toArray below meth c s.heap [] 0 0 (MQ below (vp_Si (fun r => r = res)) ([.ref (a 8), .int p1, .int p2, .int p3, .int p4, .int p5] : List Value).toArray s 0 0 (fun _ => False)) (F0 m 70 ls [])) → (∀ (v6_70 : Int32) (v7_70 : Int32) (v8_70 : Int32) (v9_70 : Int32) (ls : Array Slot), lv_has ls 11 [(0, .ref (a 8)), (1, .int p1), (2, .int p2), (3, .int p3), (4, .int p4), (5, .int p5), (6, .int v6_70), (7, .int v7_70), (8, .int v8_70), (9, .int v9_70)] → x v6_70 v7_70 v8_70 v9_70 = some res → W p l e rmX5_mostOfCuts s m ([.ref (a 8), .int p1, .int p2, .int p3, .int p4, .int p5] : List Value).toArray below meth c s.heap [] 0 0 (MQ below (vp_Si (fun r => r = res)) ([.ref (a 8), .int p1, .int p2, .int p3, .int p4, .int p5] : List Value).toArray s 0 0 (fun _ => False)) (F0 m 141 ls [])) → ∀ (v6_70 : Int32) (v7_70 : Int32) (v8_70 : Int32) (v9_70 : Int32) (ls : Array Slot), lv_has ls 11 [(0, .ref (a 8)), (1, .int p1), (2, .int p2), (3, .int p3), (4, .int p4), (5, .int p5), (6, .int v6_70), (7, .int v7_70), (8, .int v8_70), (9, .int v9_70)] → mX5_mostOfCuts_B70 k x S p1 p2 p3 p4 p5 v6_70 v7_70 v8_70 v9_70 = some res → W p l e rmX5_mostOfCuts s m ([.ref (a 8), .int p1, .int p2, .int p3, .int p4, .int p5] : List Value).toArray below meth c s.heap [] 0 0 (MQ below (vp_Si (fun r => r = res)) ([.ref (a 8), .int p1, .int p2, .int p3, .int p4, .int p5] : List Value).toArray s 0 0 (fun _ => False)) (F0 m 70 ls []) := by
        intro k x ih kxh v6_70 v7_70 v8_70 v9_70 ls hl hm
        unfold mX5_mostOfCuts_B70 at hm
        refine lv_iload hx hb dX5_mostOfCuts_70 (lv_at hl 9 rfl) ?_
        refine lv_aload_n hx hb dX5_mostOfCuts_72 rfl (lv_at hl 0 rfl) ?_
        refine gC_X5_sheet X hK hP iX5 (List.mem_of_getElem? (i := 2) rfl) dX5_mostOfCuts_73 ?_
        refine gC_X4_kerf X hK hP iX4 (List.mem_of_getElem? (i := 3) rfl) dX5_mostOfCuts_76 ?_
        refine lv_iadd hx hb dX5_mostOfCuts_79 ?_
        refine lv_iload hx hb dX5_mostOfCuts_80 (lv_at hl 4 rfl) ?_
        refine lv_icmp_ge (tgt := 141) hx hb dX5_mostOfCuts_82 (by decide) (fun hc => ?_) (fun hc => ?_)
        · replace hm := (if_pos hc).symm.trans hm
          exact kxh v6_70 v7_70 v8_70 v9_70 ls (lv_sub hl [0, 1, 2, 3, 4, 5, 6, 7, 8, 9] rfl) hm
        · replace hm := (if_neg hc).symm.trans hm
          refine lv_iload hx hb dX5_mostOfCuts_85 (lv_at hl 8 rfl) ?_
          refine lv_iload hx hb dX5_mostOfCuts_87 (lv_at hl 5 rfl) ?_
          refine lv_icmp_ge (tgt := 141) hx hb dX5_mostOfCuts_89 (by decide) (fun hc => ?_) (fun hc => ?_)
          · replace hm := (if_pos hc).symm.trans hm
            exact kxh v6_70 v7_70 v8_70 v9_70 ls (lv_sub hl [0, 1, 2, 3, 4, 5, 6, 7, 8, 9] rfl) hm
          · replace hm := (if_neg hc).symm.trans hm
            refine lv_aload_n hx hb dX5_mostOfCuts_92 rfl (lv_at hl 0 rfl) ?_
            refine gC_X5_ofParts X hK hP iX5 (List.mem_of_getElem? (i := 1) rfl) dX5_mostOfCuts_93 ?_
            refine lv_iload hx hb dX5_mostOfCuts_96 (lv_at hl 6 rfl) ?_
            obtain ⟨h1, hm⟩ := gd_ok hm
            refine rC_X5_ofParts X hK hP h1 dX5_mostOfCuts_98 ?_
            refine lv_aload_n hx hb dX5_mostOfCuts_99 rfl (lv_at hl 0 rfl) ?_
            refine gC_X5_ofParts X hK hP iX5 (List.mem_of_getElem? (i := 1) rfl) dX5_mostOfCuts_100 ?_
            refine lv_iload hx hb dX5_mostOfCuts_103 (lv_at hl 7 rfl) ?_
            obtain ⟨h1, hm⟩ := gd_ok hm
            refine rC_X5_ofParts X hK hP h1 dX5_mostOfCuts_105 ?_
            refine lv_iadd hx hb dX5_mostOfCuts_106 ?_
            refine lv_istore (lv' := [(10, .int ((S.2 6 v6_70.toNatClampNeg) + (S.2 6 v7_70.toNatClampNeg))), (0, .ref (a 8)), (1, .int p1), (2, .int p2), (3, .int p3), (4, .int p4), (5, .int p5), (6, .int v6_70), (7, .int v7_70), (8, .int v8_70), (9, .int v9_70)]) hx hb dX5_mostOfCuts_107 hl (by decide) rfl (fun ls hl => ?_)
            refine lv_iload hx hb dX5_mostOfCuts_109 (lv_at hl 0 rfl) ?_
            refine lv_iload hx hb dX5_mostOfCuts_111 (lv_at hl 9 rfl) ?_
            have kJ120 : ∀ (v8_120 : Int32) (v10_120 : Int32) (ls : Array Slot), lv_has ls 11 [(0, .ref (a 8)), (1, .int p1), (2, .int p2), (3, .int p3), (4, .int p4), (5, .int p5), (6, .int v6_70), (7, .int v7_70), (8, .int v8_120), (9, .int v9_70), (10, .int v10_120)] → mX5_mostOfCuts_J120 k x S p1 p2 p3 p4 p5 v6_70 v7_70 v8_120 v9_70 v10_120 = some res → W p l e rmX5_mostOfCuts s m ([.ref (a 8), .int p1, .int p2, .int p3, .int p4, .int p5] : List Value).toArray below meth c s.heap [] 0 0 (MQ below (vp_Si (fun r => r = res)) ([.ref (a 8), .int p1, .int p2, .int p3, .int p4, .int p5] : List Value).toArray s 0 0 (fun _ => False)) (F0 m 120 ls []) := by
              intro v8_120 v10_120 ls hl hm
              unfold mX5_mostOfCuts_J120 at hm
              refine lv_iload hx hb dX5_mostOfCuts_120 (lv_at hl 6 rfl) ?_
              refine lv_iload_n hx hb dX5_mostOfCuts_122 rfl (lv_at hl 2 rfl) ?_
              refine lv_iload hx hb dX5_mostOfCuts_123 (lv_at hl 9 rfl) ?_
              refine lv_imul hx hb dX5_mostOfCuts_125 ?_
              refine lv_iadd hx hb dX5_mostOfCuts_126 ?_
              refine lv_istore (lv' := [(6, .int (v6_70 + (p2 * v9_70))), (0, .ref (a 8)), (1, .int p1), (2, .int p2), (3, .int p3), (4, .int p4), (5, .int p5), (7, .int v7_70), (8, .int v8_120), (9, .int v9_70), (10, .int v10_120)]) hx hb dX5_mostOfCuts_127 hl (by decide) rfl (fun ls hl => ?_)
              refine lv_iload hx hb dX5_mostOfCuts_129 (lv_at hl 7 rfl) ?_
              refine lv_iload_n hx hb dX5_mostOfCuts_131 rfl (lv_at hl 3 rfl) ?_
              refine lv_iadd hx hb dX5_mostOfCuts_132 ?_
              refine lv_istore (lv' := [(7, .int (v7_70 + p2)), (6, .int (v6_70 + (p2 * v9_70))), (0, .ref (a 8)), (1, .int p1), (2, .int p2), (3, .int p3), (4, .int p4), (5, .int p5), (8, .int v8_120), (9, .int v9_70), (10, .int v10_120)]) hx hb dX5_mostOfCuts_133 hl (by decide) rfl (fun ls hl => ?_)
              refine lv_iinc (v := (v9_70 + (1 : Int32))) (lv' := [(9, .int (v9_70 + (1 : Int32))), (7, .int (v7_70 + p2)), (6, .int (v6_70 + (p2 * v9_70))), (0, .ref (a 8)), (1, .int p1), (2, .int p2), (3, .int p3), (4, .int p4), (5, .int p5), (8, .int v8_120), (10, .int v10_120)]) hx hb dX5_mostOfCuts_135 hl (k := 9) rfl rfl (by decide) rfl (fun ls hl => ?_)
              refine lv_goto (tgt := 70) hx hb dX5_mostOfCuts_138 (by decide) ?_
              exact ih (v6_70 + (p2 * v9_70)) (v7_70 + p2) v8_120 (v9_70 + (1 : Int32)) ls (lv_sub hl [3, 4, 5, 6, 7, 8, 2, 1, 9, 0] rfl) hm
            refine lv_icmp_le (tgt := 120) hx hb dX5_mostOfCuts_113 (by decide) (fun hc => ?_) (fun hc => ?_)
            · replace hm := (if_pos hc).symm.trans hm
              exact kJ120 v8_70 ((S.2 6 v6_70.toNatClampNeg) + (S.2 6 v7_70.toNatClampNeg)) ls (lv_sub hl [1, 2, 3, 4, 5, 6, 7, 8, 9, 10, 0] rfl) hm
            · replace hm := (if_neg hc).symm.trans hm
              refine lv_iload hx hb dX5_mostOfCuts_116 (lv_at hl 0 rfl) ?_
              refine lv_istore (lv' := [(8, .int ((S.2 6 v6_70.toNatClampNeg) + (S.2 6 v7_70.toNatClampNeg))), (10, .int ((S.2 6 v6_70.toNatClampNeg) + (S.2 6 v7_70.toNatClampNeg))), (0, .ref (a 8)), (1, .int p1), (2, .int p2), (3, .int p3), (4, .int p4), (5, .int p5), (6, .int v6_70), (7, .int v7_70), (9, .int v9_70)]) hx hb dX5_mostOfCuts_118 hl (by decide) rfl (fun ls hl => ?_)
              exact kJ120 ((S.2 6 v6_70.toNatClampNeg) + (S.2 6 v7_70.toNatClampNeg)) ((S.2 6 v6_70.toNatClampNeg) + (S.2 6 v7_70.toNatClampNeg)) ls (lv_sub hl [2, 3, 4, 5, 6, 7, 8, 9, 0, 10, 1] rfl) hm
      have kx70 : ∀ (v6_70 : Int32) (v7_70 : Int32) (v8_70 : Int32) (v9_70 : Int32) (ls : Array Slot), lv_has ls 11 [(0, .ref (a 8)), (1, .int p1), (2, .int p2), (3, .int p3), (4, .int p4), (5, .int p5), (6, .int v6_70), (7, .int v7_70), (8, .int v8_70), (9, .int v9_70)] → mX5_mostOfCuts_X70  S p1 p2 p3 p4 p5 v6_70 v7_70 v8_70 v9_70 = some res → W p l e rmX5_mostOfCuts s m ([.ref (a 8), .int p1, .int p2, .int p3, .int p4, .int p5] : List Value).toArray below meth c s.heap [] 0 0 (MQ below (vp_Si (fun r => r = res)) ([.ref (a 8), .int p1, .int p2, .int p3, .int p4, .int p5] : List Value).toArray s 0 0 (fun _ => False)) (F0 m 141 ls []) := by
        intro v6_70 v7_70 v8_70 v9_70 ls hl hm
        unfold mX5_mostOfCuts_X70 at hm
        refine lv_iload hx hb dX5_mostOfCuts_141 (lv_at hl 8 rfl) ?_
        exact endR X hr rfl hlocks hm dX5_mostOfCuts_143
      have lp70 : ∀ (n : Nat) (v6_70 : Int32) (v7_70 : Int32) (v8_70 : Int32) (v9_70 : Int32) (ls : Array Slot), lv_has ls 11 [(0, .ref (a 8)), (1, .int p1), (2, .int p2), (3, .int p3), (4, .int p4), (5, .int p5), (6, .int v6_70), (7, .int v7_70), (8, .int v8_70), (9, .int v9_70)] → LPf (κ := Int32 → Int32 → Int32 → Int32 → Option (Int32)) (fun _ _ _ _ => none) (fun kk => mX5_mostOfCuts_B70 kk (mX5_mostOfCuts_X70  S p1 p2 p3 p4 p5) S p1 p2 p3 p4 p5) n v6_70 v7_70 v8_70 v9_70 = some res → W p l e rmX5_mostOfCuts s m ([.ref (a 8), .int p1, .int p2, .int p3, .int p4, .int p5] : List Value).toArray below meth c s.heap [] 0 0 (MQ below (vp_Si (fun r => r = res)) ([.ref (a 8), .int p1, .int p2, .int p3, .int p4, .int p5] : List Value).toArray s 0 0 (fun _ => False)) (F0 m 70 ls []) := by
        intro n
        induction n with
        | zero =>
          intro v6_70 v7_70 v8_70 v9_70 ls hl hm
          exact (noS (show (none : Option (Int32)) = some res from hm)).elim
        | succ n ih =>
          intro v6_70 v7_70 v8_70 v9_70 ls hl hm
          exact kb70 _ _ ih kx70 v6_70 v7_70 v8_70 v9_70 ls hl hm
      exact lp70 FU (p1 + (p2 * r2)) (p1 + (p2 * r3)) (0 : Int32) (p3 + (1 : Int32)) ls (lv_sub hl [4, 5, 6, 7, 8, 9, 3, 2, 1, 0] rfl) hm
    · replace hm := (if_neg hc).symm.trans hm
      refine lv_iconst (v := (0 : Int32)) hx hb dX5_mostOfCuts_25 (by decide) ?_
      exact endR X hr rfl hlocks hm dX5_mostOfCuts_26

def rmX5_fillPart : Room := { frames := 2, cells := 0, slots := 0, locals := 51 }
set_option maxHeartbeats 4000000 in
set_option maxRecDepth 100000 in
theorem kX5_fillPart (l : Launch) (D : va_G) (a : Nat → Nat) (cI cZ : ClassId) (hA : AP 24 a) (S : ST) (sz : Nat) (p1 : Int32) (p2 : Int32) (p3 : Int32) (p4 : Int32) (res : ST) (hm : mX5_fillPart S p1 p2 p3 p4 = some res) : Met l yX5_fillPart wsX5_fillPart rmX5_fillPart (va_Pc [.ref (a 8), .int p1, .int p2, .int p3, .int p4] (PreW (wC a cI cZ S) D cI cZ sz)) (va_Qv (fun T : ST => T = res) (PostW (wC a cI cZ) D cI cZ) (AC 24 a sz)) 0 0 (AC 24 a sz) := by
  refine metB (cc := cX5_fillPart) (maxL := 12) (ret := none) (by decide) rfl (Nat.le_of_ble_eq_true rfl) ?_
  intro p e s m below meth c ls X hml hr hlocks hin hv hl
  replace X : CX p m c cX5_fillPart s ([.ref (a 8), .int p1, .int p2, .int p3, .int p4] : List Value).toArray wsX5_fillPart RX5 := X
  obtain ⟨hsz, hP, hK, hNW⟩ := hv
  subst hsz
  have hS : va_S (AC 24 a s.heap.size) s.heap s.heap [] := va_S.rf
  have hx := X.1
  have hb := X.2.1
  replace hl : lv_has ls 12 [(0, .ref (a 8)), (1, .int p1), (2, .int p2), (3, .int p3), (4, .int p4)] := hl
  have iX5 : ∀ w ∈ wsX50, w ∈ wsX5_fillPart := fun w h => List.mem_cons_of_mem _ (List.mem_append_left _ (List.mem_append_right _ h))
  have iX4 : ∀ w ∈ wsX40, w ∈ wsX5_fillPart := fun w h => List.mem_cons_of_mem _ (List.mem_append_right _ h)
  suffices kS : ∀ (H : Heap) (locs : List Loc), va_P D vwCl (wC a cI cZ S) H → va_S (AC 24 a s.heap.size) s.heap H locs → W p l e rmX5_fillPart s m ([.ref (a 8), .int p1, .int p2, .int p3, .int p4] : List Value).toArray below meth c H locs 0 0 (MQ below (va_Qv (fun T : ST => T = res) (PostW (wC a cI cZ) D cI cZ) (AC 24 a s.heap.size)) ([.ref (a 8), .int p1, .int p2, .int p3, .int p4] : List Value).toArray s 0 0 (AC 24 a s.heap.size)) (F0 m 0 ls []) by exact kS s.heap [] hP hS
  intro H locs hP hS
  unfold mX5_fillPart at hm
  refine lv_aload_n hx hb dX5_fillPart_0 rfl (lv_at hl 0 rfl) ?_
  refine gC_X5_sheet X hK hP iX5 (List.mem_of_getElem? (i := 1) rfl) dX5_fillPart_1 ?_
  refine lv_iload_n hx hb dX5_fillPart_4 rfl (lv_at hl 1 rfl) ?_
  refine lv_iload_n hx hb dX5_fillPart_5 rfl (lv_at hl 2 rfl) ?_
  refine lv_iload_n hx hb dX5_fillPart_6 rfl (lv_at hl 3 rfl) ?_
  refine lv_iload hx hb dX5_fillPart_7 (lv_at hl 4 rfl) ?_
  obtain ⟨r1, hr1, hm⟩ := bd_ok hm
  refine callRV (rest := []) X hK hNW hml hP hl.1 (kX4_isClean l D a cI cZ S p1 p2 p3 p4 r1 hr1) (cwV 4 X.2.2.1 gX5_fillPart_X4_isClean rfl rfl rfl (by decide +kernel) ⟨Nat.le_of_ble_eq_true rfl, Nat.le_of_ble_eq_true rfl⟩) (vC_X4 hK hP) rfl rfl (Nat.le_of_ble_eq_true rfl) dX5_fillPart_9 ⟨Nat.zero_le _, Nat.zero_le _⟩ ?_
  refine lv_istore (lv' := [(5, .int r1), (0, .ref (a 8)), (1, .int p1), (2, .int p2), (3, .int p3), (4, .int p4)]) hx hb dX5_fillPart_12 hl (by decide) rfl (fun ls hl => ?_)
  refine lv_iload_n hx hb dX5_fillPart_14 rfl (lv_at hl 2 rfl) ?_
  refine lv_iload_n hx hb dX5_fillPart_15 rfl (lv_at hl 2 rfl) ?_
  refine lv_iload_n hx hb dX5_fillPart_16 rfl (lv_at hl 4 rfl) ?_
  refine lv_iadd hx hb dX5_fillPart_17 ?_
  obtain ⟨r2, hr2, hm⟩ := bd_ok hm
  refine callRS (rest := []) X hml hl.1 (kX5_span l p1 (p1 + p3) r2 hr2) (va_cwS 2 X.2.2.1 gX5_fillPart_X5_span rfl rfl rfl (by decide +kernel) ⟨Nat.le_of_ble_eq_true rfl, Nat.le_of_ble_eq_true rfl⟩) rfl rfl (Nat.le_of_ble_eq_true rfl) dX5_fillPart_18 ⟨Nat.zero_le _, Nat.zero_le _⟩ ?_
  refine lv_istore (lv' := [(6, .int r2), (5, .int r1), (0, .ref (a 8)), (1, .int p1), (2, .int p2), (3, .int p3), (4, .int p4)]) hx hb dX5_fillPart_21 hl (by decide) rfl (fun ls hl => ?_)
  refine lv_iload_n hx hb dX5_fillPart_23 rfl (lv_at hl 4 rfl) ?_
  refine lv_iload_n hx hb dX5_fillPart_24 rfl (lv_at hl 4 rfl) ?_
  refine lv_iload hx hb dX5_fillPart_25 (lv_at hl 6 rfl) ?_
  refine lv_iadd hx hb dX5_fillPart_27 ?_
  obtain ⟨r3, hr3, hm⟩ := bd_ok hm
  refine callRS (rest := []) X hml hl.1 (kX5_span l p2 (p2 + p4) r3 hr3) (va_cwS 2 X.2.2.1 gX5_fillPart_X5_span rfl rfl rfl (by decide +kernel) ⟨Nat.le_of_ble_eq_true rfl, Nat.le_of_ble_eq_true rfl⟩) rfl rfl (Nat.le_of_ble_eq_true rfl) dX5_fillPart_28 ⟨Nat.zero_le _, Nat.zero_le _⟩ ?_
  refine lv_istore (lv' := [(7, .int r3), (6, .int r2), (5, .int r1), (0, .ref (a 8)), (1, .int p1), (2, .int p2), (3, .int p3), (4, .int p4)]) hx hb dX5_fillPart_31 hl (by decide) rfl (fun ls hl => ?_)
  refine lv_iconst (v := (0 : Int32)) hx hb dX5_fillPart_33 (by decide) ?_
  refine lv_istore (lv' := [(8, .int (0 : Int32)), (7, .int r3), (6, .int r2), (5, .int r1), (0, .ref (a 8)), (1, .int p1), (2, .int p2), (3, .int p3), (4, .int p4)]) hx hb dX5_fillPart_34 hl (by decide) rfl (fun ls hl => ?_)
  refine lv_aload_n hx hb dX5_fillPart_36 rfl (lv_at hl 4 rfl) ?_
  refine gC_X5_sheet X hK hP iX5 (List.mem_of_getElem? (i := 1) rfl) dX5_fillPart_37 ?_
  refine gC_X4_stages X hK hP iX4 (List.mem_of_getElem? (i := 2) rfl) dX5_fillPart_40 ?_
  refine lv_istore (lv' := [(9, .int (S.1 3)), (8, .int (0 : Int32)), (7, .int r3), (6, .int r2), (5, .int r1), (0, .ref (a 8)), (1, .int p1), (2, .int p2), (3, .int p3), (4, .int p4)]) hx hb dX5_fillPart_43 hl (by decide) rfl (fun ls hl => ?_)
  have kb45 : ∀ (k x : ST → Int32 → Int32 → Option (ST)), (∀ (S_45 : ST) (H : Heap) (locs : List Loc) (v8_45 : Int32) (v9_45 : Int32) (ls : Array Slot), va_P D vwCl (wC a cI cZ S_45) H → va_S (AC 24 a s.heap.size) s.heap H locs → lv_has ls 12 [(0, .ref (a 8)), (1, .int p1), (2, .int p2), (3, .int p3), (4, .int p4), (5, .int r1), (6, .int r2), (7, .int r3), (8, .int v8_45), (9, .int v9_45)] → k S_45 v8_45 v9_45 = some res → W p l e rmX5_fillPart s m ([.ref (a 8), .int p1, .int p2, .int p3, .int p4] : List Value).toArray below meth c H locs 0 0 (MQ below (va_Qv (fun T : ST => T = res) (PostW (wC a cI cZ) D cI cZ) (AC 24 a s.heap.size)) ([.ref (a 8), .int p1, .int p2, .int p3, .int p4] : List Value).toArray s 0 0 (AC 24 a s.heap.size)) (F0 m 45 ls [])) → (∀ (S_45 : ST) (H : Heap) (locs : List Loc) (v8_45 : Int32) (v9_45 : Int32) (ls : Array Slot), va_P D vwCl (wC a cI cZ S_45) H → va_S (AC 24 a s.heap.size) s.heap H locs → lv_has ls 12 [(0, .ref (a 8)), (1, .int p1), (2, .int p2), (3, .int p3), (4, .int p4), (5, .int r1), (6, .int r2), (7, .int r3), (8, .int v8_45), (9, .int v9_45)] → x S_45 v8_45 v9_45 = some res → W p l e rmX5_fillPart s m ([.ref (a 8), .int p1, .int p2, .int p3, .int p4] : List Value).toArray below meth c H locs 0 0 (MQ below (va_Qv (fun T : ST => T = res) (PostW (wC a cI cZ) D cI cZ) (AC 24 a s.heap.size)) ([.ref (a 8), .int p1, .int p2, .int p3, .int p4] : List Value).toArray s 0 0 (AC 24 a s.heap.size)) (F0 m 187 ls [])) → ∀ (S_45 : ST) (H : Heap) (locs : List Loc) (v8_45 : Int32) (v9_45 : Int32) (ls : Array Slot), va_P D vwCl (wC a cI cZ S_45) H → va_S (AC 24 a s.heap.size) s.heap H locs → lv_has ls 12 [(0, .ref (a 8)), (1, .int p1), (2, .int p2), (3, .int p3), (4, .int p4), (5, .int r1), (6, .int r2), (7, .int r3), (8, .int v8_45), (9, .int v9_45)] → mX5_fillPart_B45 k x p1 p2 p3 p4 r1 r2 r3 S_45 v8_45 v9_45 = some res → W p l e rmX5_fillPart s m ([.ref (a 8), .int p1, .int p2, .int p3, .int p4] : List Value).toArray below meth c H locs 0 0 (MQ below (va_Qv (fun T : ST => T = res) (PostW (wC a cI cZ) D cI cZ) (AC 24 a s.heap.size)) ([.ref (a 8), .int p1, .int p2, .int p3, .int p4] : List Value).toArray s 0 0 (AC 24 a s.heap.size)) (F0 m 45 ls []) := by
    intro k x ih kxh S_45 H locs v8_45 v9_45 ls hP hS hl hm
    unfold mX5_fillPart_B45 at hm
    refine lv_iload hx hb dX5_fillPart_45 (lv_at hl 9 rfl) ?_
    refine lv_iconst (v := (1 : Int32)) hx hb dX5_fillPart_47 (by decide) ?_
    refine lv_icmp_lt (tgt := 187) hx hb dX5_fillPart_48 (by decide) (fun hc => ?_) (fun hc => ?_)
    · replace hm := (if_pos hc).symm.trans hm
      exact kxh S_45 H locs v8_45 v9_45 ls hP hS (lv_sub hl [0, 1, 2, 3, 4, 5, 6, 7, 8, 9] rfl) hm
    · replace hm := (if_neg hc).symm.trans hm
      refine lv_aload_n hx hb dX5_fillPart_51 rfl (lv_at hl 0 rfl) ?_
      refine lv_iload_n hx hb dX5_fillPart_52 rfl (lv_at hl 3 rfl) ?_
      refine lv_iload hx hb dX5_fillPart_53 (lv_at hl 4 rfl) ?_
      refine lv_iload hx hb dX5_fillPart_55 (lv_at hl 9 rfl) ?_
      obtain ⟨r4, hr4, hm⟩ := bd_ok hm
      refine callRV (rest := []) X hK hNW hml hP hl.1 (kX5_ofSize l D a cI cZ S_45 p3 p4 v9_45 r4 hr4) (cwV 3 X.2.2.1 gX5_fillPart_X5_ofSize rfl rfl rfl (by decide +kernel) ⟨Nat.le_of_ble_eq_true rfl, Nat.le_of_ble_eq_true rfl⟩) (vC_X5 hK hP) rfl rfl (Nat.le_of_ble_eq_true rfl) dX5_fillPart_57 ⟨Nat.zero_le _, Nat.zero_le _⟩ ?_
      refine lv_istore (lv' := [(10, .int r4), (0, .ref (a 8)), (1, .int p1), (2, .int p2), (3, .int p3), (4, .int p4), (5, .int r1), (6, .int r2), (7, .int r3), (8, .int v8_45), (9, .int v9_45)]) hx hb dX5_fillPart_60 hl (by decide) rfl (fun ls hl => ?_)
      refine lv_iload hx hb dX5_fillPart_62 (lv_at hl 6 rfl) ?_
      have kJ141 : ∀ (v10_141 : Int32) (ls : Array Slot), lv_has ls 12 [(0, .ref (a 8)), (1, .int p1), (2, .int p2), (3, .int p3), (4, .int p4), (5, .int r1), (6, .int r2), (7, .int r3), (8, .int v8_45), (9, .int v9_45), (10, .int v10_141)] → mX5_fillPart_J141 k x S_45 p1 p2 p3 p4 r1 r2 r3 v8_45 v9_45 v10_141 = some res → W p l e rmX5_fillPart s m ([.ref (a 8), .int p1, .int p2, .int p3, .int p4] : List Value).toArray below meth c H locs 0 0 (MQ below (va_Qv (fun T : ST => T = res) (PostW (wC a cI cZ) D cI cZ) (AC 24 a s.heap.size)) ([.ref (a 8), .int p1, .int p2, .int p3, .int p4] : List Value).toArray s 0 0 (AC 24 a s.heap.size)) (F0 m 141 ls []) := by
        intro v10_141 ls hl hm
        unfold mX5_fillPart_J141 at hm
        refine lv_iload hx hb dX5_fillPart_141 (lv_at hl 9 rfl) ?_
        refine lv_iload hx hb dX5_fillPart_143 (lv_at hl 6 rfl) ?_
        refine lv_iload hx hb dX5_fillPart_145 (lv_at hl 7 rfl) ?_
        obtain ⟨r5, hr5, hm⟩ := bd_ok hm
        refine callRS (rest := []) X hml hl.1 (kX5_partSlot l v9_45 r2 r3 r5 hr5) (va_cwS 3 X.2.2.1 gX5_fillPart_X5_partSlot rfl rfl rfl (by decide +kernel) ⟨Nat.le_of_ble_eq_true rfl, Nat.le_of_ble_eq_true rfl⟩) rfl rfl (Nat.le_of_ble_eq_true rfl) dX5_fillPart_147 ⟨Nat.zero_le _, Nat.zero_le _⟩ ?_
        refine lv_istore (lv' := [(11, .int r5), (0, .ref (a 8)), (1, .int p1), (2, .int p2), (3, .int p3), (4, .int p4), (5, .int r1), (6, .int r2), (7, .int r3), (8, .int v8_45), (9, .int v9_45), (10, .int v10_141)]) hx hb dX5_fillPart_150 hl (by decide) rfl (fun ls hl => ?_)
        refine lv_iload hx hb dX5_fillPart_152 (lv_at hl 0 rfl) ?_
        refine lv_iconst (v := (0 : Int32)) hx hb dX5_fillPart_154 (by decide) ?_
        refine lv_aload_n hx hb dX5_fillPart_155 rfl (lv_at hl 1 rfl) ?_
        refine gC_X5_ofParts X hK hP iX5 (List.mem_of_getElem? (i := 7) rfl) dX5_fillPart_156 ?_
        refine nC_X5_ofParts X hK hP dX5_fillPart_159 ?_
        refine lv_iconst (v := (1 : Int32)) hx hb dX5_fillPart_160 (by decide) ?_
        refine lv_isub hx hb dX5_fillPart_161 ?_
        obtain ⟨r6, hr6, hm⟩ := bd_ok hm
        refine callRN (rest := []) X hml hl.1 (kX6_within l r5 (0 : Int32) ((73984 : Int32) - (1 : Int32)) r6 hr6) ⟨va_cnB 3 X.2.2.1 gX5_fillPart_X6_within_n54 rfl rfl rfl hNW.2.2 (X.2.2.1 (Cond.initialized RX6) (List.mem_of_getElem? (i := 28) rfl)) (by decide +kernel) ⟨Nat.le_of_ble_eq_true rfl, Nat.le_of_ble_eq_true rfl⟩, X.2.2.1 (Cond.static yX6_within) (List.mem_of_getElem? (i := 27) rfl), trivial⟩ rfl rfl (Nat.le_of_ble_eq_true rfl) dX5_fillPart_162 ⟨Nat.zero_le _, Nat.zero_le _⟩ ?_
        refine lv_if_eq (tgt := 177) hx hb dX5_fillPart_165 (by decide) (fun hc => ?_) (fun hc => ?_)
        · replace hm := (if_pos hc).symm.trans hm
          refine lv_iload hx hb dX5_fillPart_177 (lv_at hl 11 rfl) ?_
          refine lv_istore (lv' := [(8, .int v10_141), (11, .int r5), (0, .ref (a 8)), (1, .int p1), (2, .int p2), (3, .int p3), (4, .int p4), (5, .int r1), (6, .int r2), (7, .int r3), (9, .int v9_45), (10, .int v10_141)]) hx hb dX5_fillPart_179 hl (by decide) rfl (fun ls hl => ?_)
          refine lv_iinc (v := (v9_45 + (-1 : Int32))) (lv' := [(9, .int (v9_45 + (-1 : Int32))), (8, .int v10_141), (11, .int r5), (0, .ref (a 8)), (1, .int p1), (2, .int p2), (3, .int p3), (4, .int p4), (5, .int r1), (6, .int r2), (7, .int r3), (10, .int v10_141)]) hx hb dX5_fillPart_181 hl (k := 10) rfl rfl (by decide) rfl (fun ls hl => ?_)
          refine lv_goto (tgt := 45) hx hb dX5_fillPart_184 (by decide) ?_
          exact ih S_45 H locs v10_141 (v9_45 + (-1 : Int32)) ls hP hS (lv_sub hl [3, 4, 5, 6, 7, 8, 9, 10, 1, 0] rfl) hm
        · replace hm := (if_neg hc).symm.trans hm
          refine lv_aload_n hx hb dX5_fillPart_168 rfl (lv_at hl 1 rfl) ?_
          refine gC_X5_ofParts X hK hP iX5 (List.mem_of_getElem? (i := 7) rfl) dX5_fillPart_169 ?_
          refine lv_iload hx hb dX5_fillPart_172 (lv_at hl 0 rfl) ?_
          refine lv_iload hx hb dX5_fillPart_174 (lv_at hl 11 rfl) ?_
          obtain ⟨h1, hm⟩ := gd_ok hm
          refine sC_X5_ofParts X hK hA hP hS h1 dX5_fillPart_176 (fun H locs hP hS => ?_)
          refine lv_iload hx hb dX5_fillPart_177 (lv_at hl 11 rfl) ?_
          refine lv_istore (lv' := [(8, .int v10_141), (11, .int r5), (0, .ref (a 8)), (1, .int p1), (2, .int p2), (3, .int p3), (4, .int p4), (5, .int r1), (6, .int r2), (7, .int r3), (9, .int v9_45), (10, .int v10_141)]) hx hb dX5_fillPart_179 hl (by decide) rfl (fun ls hl => ?_)
          refine lv_iinc (v := (v9_45 + (-1 : Int32))) (lv' := [(9, .int (v9_45 + (-1 : Int32))), (8, .int v10_141), (11, .int r5), (0, .ref (a 8)), (1, .int p1), (2, .int p2), (3, .int p3), (4, .int p4), (5, .int r1), (6, .int r2), (7, .int r3), (10, .int v10_141)]) hx hb dX5_fillPart_181 hl (k := 10) rfl rfl (by decide) rfl (fun ls hl => ?_)
          refine lv_goto (tgt := 45) hx hb dX5_fillPart_184 (by decide) ?_
          exact ih (sG S_45 6 r5 v10_141) H locs v10_141 (v9_45 + (-1 : Int32)) ls hP hS (lv_sub hl [3, 4, 5, 6, 7, 8, 9, 10, 1, 0] rfl) hm
      refine lv_if_ne (tgt := 141) hx hb dX5_fillPart_64 (by decide) (fun hc => ?_) (fun hc => ?_)
      · replace hm := (if_neg hc).symm.trans hm
        exact kJ141 r4 ls (lv_sub hl [1, 2, 3, 4, 5, 6, 7, 8, 9, 10, 0] rfl) hm
      · replace hm := (if_pos hc).symm.trans hm
        refine lv_iload hx hb dX5_fillPart_67 (lv_at hl 0 rfl) ?_
        refine lv_iload hx hb dX5_fillPart_69 (lv_at hl 9 rfl) ?_
        refine lv_icmp_le (tgt := 141) hx hb dX5_fillPart_71 (by decide) (fun hc => ?_) (fun hc => ?_)
        · replace hm := (if_pos hc).symm.trans hm
          exact kJ141 r4 ls (lv_sub hl [1, 2, 3, 4, 5, 6, 7, 8, 9, 10, 0] rfl) hm
        · replace hm := (if_neg hc).symm.trans hm
          refine lv_aload_n hx hb dX5_fillPart_74 rfl (lv_at hl 1 rfl) ?_
          refine gC_X5_sheet X hK hP iX5 (List.mem_of_getElem? (i := 1) rfl) dX5_fillPart_75 ?_
          refine lv_iload hx hb dX5_fillPart_78 (lv_at hl 10 rfl) ?_
          obtain ⟨r7, hr7, hm⟩ := bd_ok hm
          refine callRV (rest := []) X hK hNW hml hP hl.1 (kX4_partsWidth l D a cI cZ S_45 v9_45 r7 hr7) (cwV 1 X.2.2.1 gX5_fillPart_X4_partsWidth rfl rfl rfl (by decide +kernel) ⟨Nat.le_of_ble_eq_true rfl, Nat.le_of_ble_eq_true rfl⟩) (vC_X4 hK hP) rfl rfl (Nat.le_of_ble_eq_true rfl) dX5_fillPart_80 ⟨Nat.zero_le _, Nat.zero_le _⟩ ?_
          have kJ130 : ∀ (t0_130 : Int32) (ls : Array Slot), lv_has ls 12 [(0, .ref (a 8)), (1, .int p1), (2, .int p2), (3, .int p3), (4, .int p4), (5, .int r1), (6, .int r2), (7, .int r3), (8, .int v8_45), (9, .int v9_45), (10, .int r4)] → mX5_fillPart_J130 k x S_45 p1 p2 p3 p4 r1 r2 r3 v8_45 v9_45 r4 t0_130 = some res → W p l e rmX5_fillPart s m ([.ref (a 8), .int p1, .int p2, .int p3, .int p4] : List Value).toArray below meth c H locs 0 0 (MQ below (va_Qv (fun T : ST => T = res) (PostW (wC a cI cZ) D cI cZ) (AC 24 a s.heap.size)) ([.ref (a 8), .int p1, .int p2, .int p3, .int p4] : List Value).toArray s 0 0 (AC 24 a s.heap.size)) (F0 m 130 ls [.int t0_130]) := by
            intro t0_130 ls hl hm
            unfold mX5_fillPart_J130 at hm
            refine lv_istore (lv' := [(11, .int t0_130), (0, .ref (a 8)), (1, .int p1), (2, .int p2), (3, .int p3), (4, .int p4), (5, .int r1), (6, .int r2), (7, .int r3), (8, .int v8_45), (9, .int v9_45), (10, .int r4)]) hx hb dX5_fillPart_130 hl (by decide) rfl (fun ls hl => ?_)
            refine lv_iload hx hb dX5_fillPart_132 (lv_at hl 9 rfl) ?_
            refine lv_iload hx hb dX5_fillPart_134 (lv_at hl 0 rfl) ?_
            refine va_mmax hx hb (hml.trans hl.1.symm) X.2.2.2 (X.2.2.1 (Cond.methodLink RX5 78 Lib.Math.max.name) (List.mem_of_getElem? (i := 3) rfl)) (X.2.2.1 (Cond.static Lib.Math.max.name) (List.mem_of_getElem? (i := 4) rfl)) (X.2.2.1 (Cond.initialized "java/lang/Math") (List.mem_of_getElem? (i := 5) rfl)) (X.2.2.1 (Cond.code Lib.Math.max.name Lib.Math.max.code 2 (some .int)) (List.mem_of_getElem? (i := 6) rfl)) (Nat.le_of_ble_eq_true rfl) (Nat.le_of_ble_eq_true rfl) (Nat.zero_le _) (Nat.zero_le _) dX5_fillPart_136 ?_
            refine lv_istore (lv' := [(10, .int (if v8_45 < t0_130 then t0_130 else v8_45)), (11, .int t0_130), (0, .ref (a 8)), (1, .int p1), (2, .int p2), (3, .int p3), (4, .int p4), (5, .int r1), (6, .int r2), (7, .int r3), (8, .int v8_45), (9, .int v9_45)]) hx hb dX5_fillPart_139 hl (by decide) rfl (fun ls hl => ?_)
            exact kJ141 (if v8_45 < t0_130 then t0_130 else v8_45) ls (lv_sub hl [2, 3, 4, 5, 6, 7, 8, 9, 10, 11, 0] rfl) hm
          refine lv_if_eq (tgt := 110) hx hb dX5_fillPart_83 (by decide) (fun hc => ?_) (fun hc => ?_)
          · replace hm := (if_pos hc).symm.trans hm
            refine lv_aload_n hx hb dX5_fillPart_110 rfl (lv_at hl 1 rfl) ?_
            refine lv_iload hx hb dX5_fillPart_111 (lv_at hl 10 rfl) ?_
            refine lv_iload hx hb dX5_fillPart_113 (lv_at hl 7 rfl) ?_
            refine lv_iconst (v := (0 : Int32)) hx hb dX5_fillPart_115 (by decide) ?_
            obtain ⟨r8, hr8, hm⟩ := bd_ok hm
            refine callRS (rest := [.ref (a 8)]) X hml hl.1 (kX5_partSlot l v9_45 r2 (0 : Int32) r8 hr8) (va_cwS 3 X.2.2.1 gX5_fillPart_X5_partSlot rfl rfl rfl (by decide +kernel) ⟨Nat.le_of_ble_eq_true rfl, Nat.le_of_ble_eq_true rfl⟩) rfl rfl (Nat.le_of_ble_eq_true rfl) dX5_fillPart_116 ⟨Nat.zero_le _, Nat.zero_le _⟩ ?_
            refine lv_iconst (v := (1 : Int32)) hx hb dX5_fillPart_119 (by decide) ?_
            refine lv_iload_n hx hb dX5_fillPart_120 rfl (lv_at hl 3 rfl) ?_
            refine lv_iload_n hx hb dX5_fillPart_121 rfl (lv_at hl 3 rfl) ?_
            refine lv_iload hx hb dX5_fillPart_122 (lv_at hl 5 rfl) ?_
            refine lv_iadd hx hb dX5_fillPart_124 ?_
            refine lv_iload hx hb dX5_fillPart_125 (lv_at hl 0 rfl) ?_
            obtain ⟨r9, hr9, hm⟩ := bd_ok hm
            refine callRV (rest := []) X hK hNW hml hP hl.1 (kX5_mostOfCuts l D a cI cZ S_45 r8 (1 : Int32) p2 (p2 + p4) r4 r9 hr9) (cwV 5 X.2.2.1 gX5_fillPart_X5_mostOfCuts rfl rfl rfl (by decide +kernel) ⟨Nat.le_of_ble_eq_true rfl, Nat.le_of_ble_eq_true rfl⟩) (vC_X5 hK hP) rfl rfl (Nat.le_of_ble_eq_true rfl) dX5_fillPart_127 ⟨Nat.zero_le _, Nat.zero_le _⟩ ?_
            exact kJ130 r9 ls (lv_sub hl [1, 2, 3, 4, 5, 6, 7, 8, 9, 10, 0] rfl) hm
          · replace hm := (if_neg hc).symm.trans hm
            refine lv_aload_n hx hb dX5_fillPart_86 rfl (lv_at hl 1 rfl) ?_
            refine lv_iload hx hb dX5_fillPart_87 (lv_at hl 10 rfl) ?_
            refine lv_iconst (v := (0 : Int32)) hx hb dX5_fillPart_89 (by decide) ?_
            refine lv_iload hx hb dX5_fillPart_90 (lv_at hl 8 rfl) ?_
            obtain ⟨r10, hr10, hm⟩ := bd_ok hm
            refine callRS (rest := [.ref (a 8)]) X hml hl.1 (kX5_partSlot l v9_45 (0 : Int32) r3 r10 hr10) (va_cwS 3 X.2.2.1 gX5_fillPart_X5_partSlot rfl rfl rfl (by decide +kernel) ⟨Nat.le_of_ble_eq_true rfl, Nat.le_of_ble_eq_true rfl⟩) rfl rfl (Nat.le_of_ble_eq_true rfl) dX5_fillPart_92 ⟨Nat.zero_le _, Nat.zero_le _⟩ ?_
            refine lv_sipush (v := (136 : Int32)) hx hb dX5_fillPart_95 (by decide) ?_
            refine lv_iload_n hx hb dX5_fillPart_98 rfl (lv_at hl 2 rfl) ?_
            refine lv_iload_n hx hb dX5_fillPart_99 rfl (lv_at hl 2 rfl) ?_
            refine lv_iload_n hx hb dX5_fillPart_100 rfl (lv_at hl 4 rfl) ?_
            refine lv_iadd hx hb dX5_fillPart_101 ?_
            refine lv_iload hx hb dX5_fillPart_102 (lv_at hl 0 rfl) ?_
            obtain ⟨r11, hr11, hm⟩ := bd_ok hm
            refine callRV (rest := []) X hK hNW hml hP hl.1 (kX5_mostOfCuts l D a cI cZ S_45 r10 (136 : Int32) p1 (p1 + p3) r4 r11 hr11) (cwV 5 X.2.2.1 gX5_fillPart_X5_mostOfCuts rfl rfl rfl (by decide +kernel) ⟨Nat.le_of_ble_eq_true rfl, Nat.le_of_ble_eq_true rfl⟩) (vC_X5 hK hP) rfl rfl (Nat.le_of_ble_eq_true rfl) dX5_fillPart_104 ⟨Nat.zero_le _, Nat.zero_le _⟩ ?_
            refine lv_goto (tgt := 130) hx hb dX5_fillPart_107 (by decide) ?_
            exact kJ130 r11 ls (lv_sub hl [1, 2, 3, 4, 5, 6, 7, 8, 9, 10, 0] rfl) hm
  have kx45 : ∀ (S_45 : ST) (H : Heap) (locs : List Loc) (v8_45 : Int32) (v9_45 : Int32) (ls : Array Slot), va_P D vwCl (wC a cI cZ S_45) H → va_S (AC 24 a s.heap.size) s.heap H locs → lv_has ls 12 [(0, .ref (a 8)), (1, .int p1), (2, .int p2), (3, .int p3), (4, .int p4), (5, .int r1), (6, .int r2), (7, .int r3), (8, .int v8_45), (9, .int v9_45)] → mX5_fillPart_X45  p1 p2 p3 p4 r1 r2 r3 S_45 v8_45 v9_45 = some res → W p l e rmX5_fillPart s m ([.ref (a 8), .int p1, .int p2, .int p3, .int p4] : List Value).toArray below meth c H locs 0 0 (MQ below (va_Qv (fun T : ST => T = res) (PostW (wC a cI cZ) D cI cZ) (AC 24 a s.heap.size)) ([.ref (a 8), .int p1, .int p2, .int p3, .int p4] : List Value).toArray s 0 0 (AC 24 a s.heap.size)) (F0 m 187 ls []) := by
    intro S_45 H locs v8_45 v9_45 ls hP hS hl hm
    unfold mX5_fillPart_X45 at hm
    exact endV X hK hr hlocks hm hP hS dX5_fillPart_187
  have lp45 : ∀ (n : Nat) (S_45 : ST) (H : Heap) (locs : List Loc) (v8_45 : Int32) (v9_45 : Int32) (ls : Array Slot), va_P D vwCl (wC a cI cZ S_45) H → va_S (AC 24 a s.heap.size) s.heap H locs → lv_has ls 12 [(0, .ref (a 8)), (1, .int p1), (2, .int p2), (3, .int p3), (4, .int p4), (5, .int r1), (6, .int r2), (7, .int r3), (8, .int v8_45), (9, .int v9_45)] → LPf (κ := ST → Int32 → Int32 → Option (ST)) (fun _ _ _ => none) (fun kk => mX5_fillPart_B45 kk (mX5_fillPart_X45  p1 p2 p3 p4 r1 r2 r3) p1 p2 p3 p4 r1 r2 r3) n S_45 v8_45 v9_45 = some res → W p l e rmX5_fillPart s m ([.ref (a 8), .int p1, .int p2, .int p3, .int p4] : List Value).toArray below meth c H locs 0 0 (MQ below (va_Qv (fun T : ST => T = res) (PostW (wC a cI cZ) D cI cZ) (AC 24 a s.heap.size)) ([.ref (a 8), .int p1, .int p2, .int p3, .int p4] : List Value).toArray s 0 0 (AC 24 a s.heap.size)) (F0 m 45 ls []) := by
    intro n
    induction n with
    | zero =>
      intro S_45 H locs v8_45 v9_45 ls hP hS hl hm
      exact (noS (show (none : Option (ST)) = some res from hm)).elim
    | succ n ih =>
      intro S_45 H locs v8_45 v9_45 ls hP hS hl hm
      exact kb45 _ _ ih kx45 S_45 H locs v8_45 v9_45 ls hP hS hl hm
  exact lp45 FU S H locs (0 : Int32) (S.1 3) ls hP hS (lv_sub hl [5, 6, 7, 8, 9, 4, 3, 2, 1, 0] rfl) hm

def rmX5_fillParts : Room := { frames := 3, cells := 0, slots := 0, locals := 82 }
set_option maxHeartbeats 4000000 in
set_option maxRecDepth 100000 in
theorem kX5_fillParts (l : Launch) (D : va_G) (a : Nat → Nat) (cI cZ : ClassId) (hA : AP 24 a) (S : ST) (sz : Nat)  (res : ST) (hm : mX5_fillParts S  = some res) : Met l yX5_fillParts wsX5_fillParts rmX5_fillParts (va_Pc [.ref (a 8)] (PreW (wC a cI cZ S) D cI cZ sz)) (va_Qv (fun T : ST => T = res) (PostW (wC a cI cZ) D cI cZ) (AC 24 a sz)) 0 0 (AC 24 a sz) := by
  refine metB (cc := cX5_fillParts) (maxL := 5) (ret := none) (by decide) rfl (Nat.le_of_ble_eq_true rfl) ?_
  intro p e s m below meth c ls X hml hr hlocks hin hv hl
  replace X : CX p m c cX5_fillParts s ([.ref (a 8)] : List Value).toArray wsX5_fillParts RX5 := X
  obtain ⟨hsz, hP, hK, hNW⟩ := hv
  subst hsz
  have hS : va_S (AC 24 a s.heap.size) s.heap s.heap [] := va_S.rf
  have hx := X.1
  have hb := X.2.1
  replace hl : lv_has ls 5 [(0, .ref (a 8))] := hl
  have iX5 : ∀ w ∈ wsX50, w ∈ wsX5_fillParts := fun w h => List.mem_cons_of_mem _ (List.mem_append_left _ (List.mem_append_right _ h))
  have iX4 : ∀ w ∈ wsX40, w ∈ wsX5_fillParts := fun w h => List.mem_cons_of_mem _ (List.mem_append_right _ h)
  suffices kS : ∀ (H : Heap) (locs : List Loc), va_P D vwCl (wC a cI cZ S) H → va_S (AC 24 a s.heap.size) s.heap H locs → W p l e rmX5_fillParts s m ([.ref (a 8)] : List Value).toArray below meth c H locs 0 0 (MQ below (va_Qv (fun T : ST => T = res) (PostW (wC a cI cZ) D cI cZ) (AC 24 a s.heap.size)) ([.ref (a 8)] : List Value).toArray s 0 0 (AC 24 a s.heap.size)) (F0 m 0 ls []) by exact kS s.heap [] hP hS
  intro H locs hP hS
  unfold mX5_fillParts at hm
  refine lv_iconst (v := (1 : Int32)) hx hb dX5_fillParts_0 (by decide) ?_
  refine lv_istore_n (lv' := [(1, .int (1 : Int32)), (0, .ref (a 8))]) hx hb dX5_fillParts_1 rfl hl (by decide) rfl (fun ls hl => ?_)
  have kb2 : ∀ (k x : ST → Int32 → Option (ST)), (∀ (S_2 : ST) (H : Heap) (locs : List Loc) (v1_2 : Int32) (ls : Array Slot), va_P D vwCl (wC a cI cZ S_2) H → va_S (AC 24 a s.heap.size) s.heap H locs → lv_has ls 5 [(0, .ref (a 8)), (1, .int v1_2)] → k S_2 v1_2 = some res → W p l e rmX5_fillParts s m ([.ref (a 8)] : List Value).toArray below meth c H locs 0 0 (MQ below (va_Qv (fun T : ST => T = res) (PostW (wC a cI cZ) D cI cZ) (AC 24 a s.heap.size)) ([.ref (a 8)] : List Value).toArray s 0 0 (AC 24 a s.heap.size)) (F0 m 2 ls [])) → (∀ (S_2 : ST) (H : Heap) (locs : List Loc) (v1_2 : Int32) (ls : Array Slot), va_P D vwCl (wC a cI cZ S_2) H → va_S (AC 24 a s.heap.size) s.heap H locs → lv_has ls 5 [(0, .ref (a 8)), (1, .int v1_2)] → x S_2 v1_2 = some res → W p l e rmX5_fillParts s m ([.ref (a 8)] : List Value).toArray below meth c H locs 0 0 (MQ below (va_Qv (fun T : ST => T = res) (PostW (wC a cI cZ) D cI cZ) (AC 24 a s.heap.size)) ([.ref (a 8)] : List Value).toArray s 0 0 (AC 24 a s.heap.size)) (F0 m 82 ls [])) → ∀ (S_2 : ST) (H : Heap) (locs : List Loc) (v1_2 : Int32) (ls : Array Slot), va_P D vwCl (wC a cI cZ S_2) H → va_S (AC 24 a s.heap.size) s.heap H locs → lv_has ls 5 [(0, .ref (a 8)), (1, .int v1_2)] → mX5_fillParts_B2 k x  S_2 v1_2 = some res → W p l e rmX5_fillParts s m ([.ref (a 8)] : List Value).toArray below meth c H locs 0 0 (MQ below (va_Qv (fun T : ST => T = res) (PostW (wC a cI cZ) D cI cZ) (AC 24 a s.heap.size)) ([.ref (a 8)] : List Value).toArray s 0 0 (AC 24 a s.heap.size)) (F0 m 2 ls []) := by
    intro k x ih kxh S_2 H locs v1_2 ls hP hS hl hm
    unfold mX5_fillParts_B2 at hm
    refine lv_iload_n hx hb dX5_fillParts_2 rfl (lv_at hl 1 rfl) ?_
    refine lv_aload_n hx hb dX5_fillParts_3 rfl (lv_at hl 0 rfl) ?_
    refine gC_X5_sheet X hK hP iX5 (List.mem_of_getElem? (i := 1) rfl) dX5_fillParts_4 ?_
    refine gC_X4_width X hK hP iX4 (List.mem_of_getElem? (i := 2) rfl) dX5_fillParts_7 ?_
    refine lv_icmp_gt (tgt := 82) hx hb dX5_fillParts_10 (by decide) (fun hc => ?_) (fun hc => ?_)
    · replace hm := (if_pos hc).symm.trans hm
      exact kxh S_2 H locs v1_2 ls hP hS (lv_sub hl [0, 1] rfl) hm
    · replace hm := (if_neg hc).symm.trans hm
      refine lv_iload_n hx hb dX5_fillParts_13 rfl (lv_at hl 1 rfl) ?_
      refine lv_iconst (v := (1 : Int32)) hx hb dX5_fillParts_14 (by decide) ?_
      refine lv_isub hx hb dX5_fillParts_15 ?_
      refine lv_istore_n (lv' := [(2, .int (v1_2 - (1 : Int32))), (0, .ref (a 8)), (1, .int v1_2)]) hx hb dX5_fillParts_16 rfl hl (by decide) rfl (fun ls hl => ?_)
      have kb17 : ∀ (k x : ST → Int32 → Option (ST)), (∀ (S_17 : ST) (H : Heap) (locs : List Loc) (v2_17 : Int32) (ls : Array Slot), va_P D vwCl (wC a cI cZ S_17) H → va_S (AC 24 a s.heap.size) s.heap H locs → lv_has ls 5 [(0, .ref (a 8)), (1, .int v1_2), (2, .int v2_17)] → k S_17 v2_17 = some res → W p l e rmX5_fillParts s m ([.ref (a 8)] : List Value).toArray below meth c H locs 0 0 (MQ below (va_Qv (fun T : ST => T = res) (PostW (wC a cI cZ) D cI cZ) (AC 24 a s.heap.size)) ([.ref (a 8)] : List Value).toArray s 0 0 (AC 24 a s.heap.size)) (F0 m 17 ls [])) → (∀ (S_17 : ST) (H : Heap) (locs : List Loc) (v2_17 : Int32) (ls : Array Slot), va_P D vwCl (wC a cI cZ S_17) H → va_S (AC 24 a s.heap.size) s.heap H locs → lv_has ls 5 [(0, .ref (a 8)), (1, .int v1_2), (2, .int v2_17)] → x S_17 v2_17 = some res → W p l e rmX5_fillParts s m ([.ref (a 8)] : List Value).toArray below meth c H locs 0 0 (MQ below (va_Qv (fun T : ST => T = res) (PostW (wC a cI cZ) D cI cZ) (AC 24 a s.heap.size)) ([.ref (a 8)] : List Value).toArray s 0 0 (AC 24 a s.heap.size)) (F0 m 76 ls [])) → ∀ (S_17 : ST) (H : Heap) (locs : List Loc) (v2_17 : Int32) (ls : Array Slot), va_P D vwCl (wC a cI cZ S_17) H → va_S (AC 24 a s.heap.size) s.heap H locs → lv_has ls 5 [(0, .ref (a 8)), (1, .int v1_2), (2, .int v2_17)] → mX5_fillParts_B17 k x v1_2 S_17 v2_17 = some res → W p l e rmX5_fillParts s m ([.ref (a 8)] : List Value).toArray below meth c H locs 0 0 (MQ below (va_Qv (fun T : ST => T = res) (PostW (wC a cI cZ) D cI cZ) (AC 24 a s.heap.size)) ([.ref (a 8)] : List Value).toArray s 0 0 (AC 24 a s.heap.size)) (F0 m 17 ls []) := by
        intro k x ih kxh S_17 H locs v2_17 ls hP hS hl hm
        unfold mX5_fillParts_B17 at hm
        refine lv_iload_n hx hb dX5_fillParts_17 rfl (lv_at hl 2 rfl) ?_
        refine lv_if_lt (tgt := 76) hx hb dX5_fillParts_18 (by decide) (fun hc => ?_) (fun hc => ?_)
        · replace hm := (if_pos hc).symm.trans hm
          exact kxh S_17 H locs v2_17 ls hP hS (lv_sub hl [0, 1, 2] rfl) hm
        · replace hm := (if_neg hc).symm.trans hm
          refine lv_iconst (v := (1 : Int32)) hx hb dX5_fillParts_21 (by decide) ?_
          refine lv_istore_n (lv' := [(3, .int (1 : Int32)), (0, .ref (a 8)), (1, .int v1_2), (2, .int v2_17)]) hx hb dX5_fillParts_22 rfl hl (by decide) rfl (fun ls hl => ?_)
          have kb23 : ∀ (k x : ST → Int32 → Option (ST)), (∀ (S_23 : ST) (H : Heap) (locs : List Loc) (v3_23 : Int32) (ls : Array Slot), va_P D vwCl (wC a cI cZ S_23) H → va_S (AC 24 a s.heap.size) s.heap H locs → lv_has ls 5 [(0, .ref (a 8)), (1, .int v1_2), (2, .int v2_17), (3, .int v3_23)] → k S_23 v3_23 = some res → W p l e rmX5_fillParts s m ([.ref (a 8)] : List Value).toArray below meth c H locs 0 0 (MQ below (va_Qv (fun T : ST => T = res) (PostW (wC a cI cZ) D cI cZ) (AC 24 a s.heap.size)) ([.ref (a 8)] : List Value).toArray s 0 0 (AC 24 a s.heap.size)) (F0 m 23 ls [])) → (∀ (S_23 : ST) (H : Heap) (locs : List Loc) (v3_23 : Int32) (ls : Array Slot), va_P D vwCl (wC a cI cZ S_23) H → va_S (AC 24 a s.heap.size) s.heap H locs → lv_has ls 5 [(0, .ref (a 8)), (1, .int v1_2), (2, .int v2_17), (3, .int v3_23)] → x S_23 v3_23 = some res → W p l e rmX5_fillParts s m ([.ref (a 8)] : List Value).toArray below meth c H locs 0 0 (MQ below (va_Qv (fun T : ST => T = res) (PostW (wC a cI cZ) D cI cZ) (AC 24 a s.heap.size)) ([.ref (a 8)] : List Value).toArray s 0 0 (AC 24 a s.heap.size)) (F0 m 70 ls [])) → ∀ (S_23 : ST) (H : Heap) (locs : List Loc) (v3_23 : Int32) (ls : Array Slot), va_P D vwCl (wC a cI cZ S_23) H → va_S (AC 24 a s.heap.size) s.heap H locs → lv_has ls 5 [(0, .ref (a 8)), (1, .int v1_2), (2, .int v2_17), (3, .int v3_23)] → mX5_fillParts_B23 k x v1_2 v2_17 S_23 v3_23 = some res → W p l e rmX5_fillParts s m ([.ref (a 8)] : List Value).toArray below meth c H locs 0 0 (MQ below (va_Qv (fun T : ST => T = res) (PostW (wC a cI cZ) D cI cZ) (AC 24 a s.heap.size)) ([.ref (a 8)] : List Value).toArray s 0 0 (AC 24 a s.heap.size)) (F0 m 23 ls []) := by
            intro k x ih kxh S_23 H locs v3_23 ls hP hS hl hm
            unfold mX5_fillParts_B23 at hm
            refine lv_iload_n hx hb dX5_fillParts_23 rfl (lv_at hl 3 rfl) ?_
            refine lv_aload_n hx hb dX5_fillParts_24 rfl (lv_at hl 0 rfl) ?_
            refine gC_X5_sheet X hK hP iX5 (List.mem_of_getElem? (i := 1) rfl) dX5_fillParts_25 ?_
            refine gC_X4_height X hK hP iX4 (List.mem_of_getElem? (i := 3) rfl) dX5_fillParts_28 ?_
            refine lv_icmp_gt (tgt := 70) hx hb dX5_fillParts_31 (by decide) (fun hc => ?_) (fun hc => ?_)
            · replace hm := (if_pos hc).symm.trans hm
              exact kxh S_23 H locs v3_23 ls hP hS (lv_sub hl [0, 1, 2, 3] rfl) hm
            · replace hm := (if_neg hc).symm.trans hm
              refine lv_iload_n hx hb dX5_fillParts_34 rfl (lv_at hl 3 rfl) ?_
              refine lv_iconst (v := (1 : Int32)) hx hb dX5_fillParts_35 (by decide) ?_
              refine lv_isub hx hb dX5_fillParts_36 ?_
              refine lv_istore (lv' := [(4, .int (v3_23 - (1 : Int32))), (0, .ref (a 8)), (1, .int v1_2), (2, .int v2_17), (3, .int v3_23)]) hx hb dX5_fillParts_37 hl (by decide) rfl (fun ls hl => ?_)
              have kb39 : ∀ (k x : ST → Int32 → Option (ST)), (∀ (S_39 : ST) (H : Heap) (locs : List Loc) (v4_39 : Int32) (ls : Array Slot), va_P D vwCl (wC a cI cZ S_39) H → va_S (AC 24 a s.heap.size) s.heap H locs → lv_has ls 5 [(0, .ref (a 8)), (1, .int v1_2), (2, .int v2_17), (3, .int v3_23), (4, .int v4_39)] → k S_39 v4_39 = some res → W p l e rmX5_fillParts s m ([.ref (a 8)] : List Value).toArray below meth c H locs 0 0 (MQ below (va_Qv (fun T : ST => T = res) (PostW (wC a cI cZ) D cI cZ) (AC 24 a s.heap.size)) ([.ref (a 8)] : List Value).toArray s 0 0 (AC 24 a s.heap.size)) (F0 m 39 ls [])) → (∀ (S_39 : ST) (H : Heap) (locs : List Loc) (v4_39 : Int32) (ls : Array Slot), va_P D vwCl (wC a cI cZ S_39) H → va_S (AC 24 a s.heap.size) s.heap H locs → lv_has ls 5 [(0, .ref (a 8)), (1, .int v1_2), (2, .int v2_17), (3, .int v3_23), (4, .int v4_39)] → x S_39 v4_39 = some res → W p l e rmX5_fillParts s m ([.ref (a 8)] : List Value).toArray below meth c H locs 0 0 (MQ below (va_Qv (fun T : ST => T = res) (PostW (wC a cI cZ) D cI cZ) (AC 24 a s.heap.size)) ([.ref (a 8)] : List Value).toArray s 0 0 (AC 24 a s.heap.size)) (F0 m 64 ls [])) → ∀ (S_39 : ST) (H : Heap) (locs : List Loc) (v4_39 : Int32) (ls : Array Slot), va_P D vwCl (wC a cI cZ S_39) H → va_S (AC 24 a s.heap.size) s.heap H locs → lv_has ls 5 [(0, .ref (a 8)), (1, .int v1_2), (2, .int v2_17), (3, .int v3_23), (4, .int v4_39)] → mX5_fillParts_B39 k x v1_2 v2_17 v3_23 S_39 v4_39 = some res → W p l e rmX5_fillParts s m ([.ref (a 8)] : List Value).toArray below meth c H locs 0 0 (MQ below (va_Qv (fun T : ST => T = res) (PostW (wC a cI cZ) D cI cZ) (AC 24 a s.heap.size)) ([.ref (a 8)] : List Value).toArray s 0 0 (AC 24 a s.heap.size)) (F0 m 39 ls []) := by
                intro k x ih kxh S_39 H locs v4_39 ls hP hS hl hm
                unfold mX5_fillParts_B39 at hm
                refine lv_iload hx hb dX5_fillParts_39 (lv_at hl 4 rfl) ?_
                refine lv_if_lt (tgt := 64) hx hb dX5_fillParts_41 (by decide) (fun hc => ?_) (fun hc => ?_)
                · replace hm := (if_pos hc).symm.trans hm
                  exact kxh S_39 H locs v4_39 ls hP hS (lv_sub hl [0, 1, 2, 3, 4] rfl) hm
                · replace hm := (if_neg hc).symm.trans hm
                  refine lv_aload_n hx hb dX5_fillParts_44 rfl (lv_at hl 0 rfl) ?_
                  refine lv_iload_n hx hb dX5_fillParts_45 rfl (lv_at hl 2 rfl) ?_
                  refine lv_iload hx hb dX5_fillParts_46 (lv_at hl 4 rfl) ?_
                  refine lv_iload_n hx hb dX5_fillParts_48 rfl (lv_at hl 1 rfl) ?_
                  refine lv_iload_n hx hb dX5_fillParts_49 rfl (lv_at hl 2 rfl) ?_
                  refine lv_isub hx hb dX5_fillParts_50 ?_
                  refine lv_iload_n hx hb dX5_fillParts_51 rfl (lv_at hl 3 rfl) ?_
                  refine lv_iload hx hb dX5_fillParts_52 (lv_at hl 4 rfl) ?_
                  refine lv_isub hx hb dX5_fillParts_54 ?_
                  obtain ⟨r1, hr1, hm⟩ := bd_ok hm
                  refine callWV (wf := wC a cI cZ) (rest := []) X hK hNW hml hP hS hl.1 (kX5_fillPart l D a cI cZ hA S_39 H.size v2_17 v4_39 (v1_2 - v2_17) (v3_23 - v4_39) r1 hr1) (cwV 4 X.2.2.1 gX5_fillParts_X5_fillPart rfl rfl rfl (by decide +kernel) ⟨Nat.le_of_ble_eq_true rfl, Nat.le_of_ble_eq_true rfl⟩) (vC_X5 hK hP) rfl rfl (Nat.le_of_ble_eq_true rfl) dX5_fillParts_55 ⟨Nat.zero_le _, Nat.zero_le _⟩ (fun H locs hP hS => ?_)
                  refine lv_iinc (v := (v4_39 + (-1 : Int32))) (lv' := [(4, .int (v4_39 + (-1 : Int32))), (0, .ref (a 8)), (1, .int v1_2), (2, .int v2_17), (3, .int v3_23)]) hx hb dX5_fillParts_58 hl (k := 4) rfl rfl (by decide) rfl (fun ls hl => ?_)
                  refine lv_goto (tgt := 39) hx hb dX5_fillParts_61 (by decide) ?_
                  exact ih r1 H locs (v4_39 + (-1 : Int32)) ls hP hS (lv_sub hl [1, 2, 3, 4, 0] rfl) hm
              have kx39 : ∀ (S_39 : ST) (H : Heap) (locs : List Loc) (v4_39 : Int32) (ls : Array Slot), va_P D vwCl (wC a cI cZ S_39) H → va_S (AC 24 a s.heap.size) s.heap H locs → lv_has ls 5 [(0, .ref (a 8)), (1, .int v1_2), (2, .int v2_17), (3, .int v3_23), (4, .int v4_39)] → mX5_fillParts_X39 k x v1_2 v2_17 v3_23 S_39 v4_39 = some res → W p l e rmX5_fillParts s m ([.ref (a 8)] : List Value).toArray below meth c H locs 0 0 (MQ below (va_Qv (fun T : ST => T = res) (PostW (wC a cI cZ) D cI cZ) (AC 24 a s.heap.size)) ([.ref (a 8)] : List Value).toArray s 0 0 (AC 24 a s.heap.size)) (F0 m 64 ls []) := by
                intro S_39 H locs v4_39 ls hP hS hl hm
                unfold mX5_fillParts_X39 at hm
                refine lv_iinc (v := (v3_23 + (1 : Int32))) (lv' := [(3, .int (v3_23 + (1 : Int32))), (0, .ref (a 8)), (1, .int v1_2), (2, .int v2_17), (4, .int v4_39)]) hx hb dX5_fillParts_64 hl (k := 3) rfl rfl (by decide) rfl (fun ls hl => ?_)
                refine lv_goto (tgt := 23) hx hb dX5_fillParts_67 (by decide) ?_
                exact ih S_39 H locs (v3_23 + (1 : Int32)) ls hP hS (lv_sub hl [1, 2, 3, 0] rfl) hm
              have lp39 : ∀ (n : Nat) (S_39 : ST) (H : Heap) (locs : List Loc) (v4_39 : Int32) (ls : Array Slot), va_P D vwCl (wC a cI cZ S_39) H → va_S (AC 24 a s.heap.size) s.heap H locs → lv_has ls 5 [(0, .ref (a 8)), (1, .int v1_2), (2, .int v2_17), (3, .int v3_23), (4, .int v4_39)] → LPf (κ := ST → Int32 → Option (ST)) (fun _ _ => none) (fun kk => mX5_fillParts_B39 kk (mX5_fillParts_X39 k x v1_2 v2_17 v3_23) v1_2 v2_17 v3_23) n S_39 v4_39 = some res → W p l e rmX5_fillParts s m ([.ref (a 8)] : List Value).toArray below meth c H locs 0 0 (MQ below (va_Qv (fun T : ST => T = res) (PostW (wC a cI cZ) D cI cZ) (AC 24 a s.heap.size)) ([.ref (a 8)] : List Value).toArray s 0 0 (AC 24 a s.heap.size)) (F0 m 39 ls []) := by
                intro n
                induction n with
                | zero =>
                  intro S_39 H locs v4_39 ls hP hS hl hm
                  exact (noS (show (none : Option (ST)) = some res from hm)).elim
                | succ n ih =>
                  intro S_39 H locs v4_39 ls hP hS hl hm
                  exact kb39 _ _ ih kx39 S_39 H locs v4_39 ls hP hS hl hm
              exact lp39 FU S_23 H locs (v3_23 - (1 : Int32)) ls hP hS (lv_sub hl [1, 2, 3, 4, 0] rfl) hm
          have kx23 : ∀ (S_23 : ST) (H : Heap) (locs : List Loc) (v3_23 : Int32) (ls : Array Slot), va_P D vwCl (wC a cI cZ S_23) H → va_S (AC 24 a s.heap.size) s.heap H locs → lv_has ls 5 [(0, .ref (a 8)), (1, .int v1_2), (2, .int v2_17), (3, .int v3_23)] → mX5_fillParts_X23 k x v1_2 v2_17 S_23 v3_23 = some res → W p l e rmX5_fillParts s m ([.ref (a 8)] : List Value).toArray below meth c H locs 0 0 (MQ below (va_Qv (fun T : ST => T = res) (PostW (wC a cI cZ) D cI cZ) (AC 24 a s.heap.size)) ([.ref (a 8)] : List Value).toArray s 0 0 (AC 24 a s.heap.size)) (F0 m 70 ls []) := by
            intro S_23 H locs v3_23 ls hP hS hl hm
            unfold mX5_fillParts_X23 at hm
            refine lv_iinc (v := (v2_17 + (-1 : Int32))) (lv' := [(2, .int (v2_17 + (-1 : Int32))), (0, .ref (a 8)), (1, .int v1_2), (3, .int v3_23)]) hx hb dX5_fillParts_70 hl (k := 2) rfl rfl (by decide) rfl (fun ls hl => ?_)
            refine lv_goto (tgt := 17) hx hb dX5_fillParts_73 (by decide) ?_
            exact ih S_23 H locs (v2_17 + (-1 : Int32)) ls hP hS (lv_sub hl [1, 2, 0] rfl) hm
          have lp23 : ∀ (n : Nat) (S_23 : ST) (H : Heap) (locs : List Loc) (v3_23 : Int32) (ls : Array Slot), va_P D vwCl (wC a cI cZ S_23) H → va_S (AC 24 a s.heap.size) s.heap H locs → lv_has ls 5 [(0, .ref (a 8)), (1, .int v1_2), (2, .int v2_17), (3, .int v3_23)] → LPf (κ := ST → Int32 → Option (ST)) (fun _ _ => none) (fun kk => mX5_fillParts_B23 kk (mX5_fillParts_X23 k x v1_2 v2_17) v1_2 v2_17) n S_23 v3_23 = some res → W p l e rmX5_fillParts s m ([.ref (a 8)] : List Value).toArray below meth c H locs 0 0 (MQ below (va_Qv (fun T : ST => T = res) (PostW (wC a cI cZ) D cI cZ) (AC 24 a s.heap.size)) ([.ref (a 8)] : List Value).toArray s 0 0 (AC 24 a s.heap.size)) (F0 m 23 ls []) := by
            intro n
            induction n with
            | zero =>
              intro S_23 H locs v3_23 ls hP hS hl hm
              exact (noS (show (none : Option (ST)) = some res from hm)).elim
            | succ n ih =>
              intro S_23 H locs v3_23 ls hP hS hl hm
              exact kb23 _ _ ih kx23 S_23 H locs v3_23 ls hP hS hl hm
          exact lp23 FU S_17 H locs (1 : Int32) ls hP hS (lv_sub hl [1, 2, 3, 0] rfl) hm
      have kx17 : ∀ (S_17 : ST) (H : Heap) (locs : List Loc) (v2_17 : Int32) (ls : Array Slot), va_P D vwCl (wC a cI cZ S_17) H → va_S (AC 24 a s.heap.size) s.heap H locs → lv_has ls 5 [(0, .ref (a 8)), (1, .int v1_2), (2, .int v2_17)] → mX5_fillParts_X17 k x v1_2 S_17 v2_17 = some res → W p l e rmX5_fillParts s m ([.ref (a 8)] : List Value).toArray below meth c H locs 0 0 (MQ below (va_Qv (fun T : ST => T = res) (PostW (wC a cI cZ) D cI cZ) (AC 24 a s.heap.size)) ([.ref (a 8)] : List Value).toArray s 0 0 (AC 24 a s.heap.size)) (F0 m 76 ls []) := by
        intro S_17 H locs v2_17 ls hP hS hl hm
        unfold mX5_fillParts_X17 at hm
        refine lv_iinc (v := (v1_2 + (1 : Int32))) (lv' := [(1, .int (v1_2 + (1 : Int32))), (0, .ref (a 8)), (2, .int v2_17)]) hx hb dX5_fillParts_76 hl (k := 1) rfl rfl (by decide) rfl (fun ls hl => ?_)
        refine lv_goto (tgt := 2) hx hb dX5_fillParts_79 (by decide) ?_
        exact ih S_17 H locs (v1_2 + (1 : Int32)) ls hP hS (lv_sub hl [1, 0] rfl) hm
      have lp17 : ∀ (n : Nat) (S_17 : ST) (H : Heap) (locs : List Loc) (v2_17 : Int32) (ls : Array Slot), va_P D vwCl (wC a cI cZ S_17) H → va_S (AC 24 a s.heap.size) s.heap H locs → lv_has ls 5 [(0, .ref (a 8)), (1, .int v1_2), (2, .int v2_17)] → LPf (κ := ST → Int32 → Option (ST)) (fun _ _ => none) (fun kk => mX5_fillParts_B17 kk (mX5_fillParts_X17 k x v1_2) v1_2) n S_17 v2_17 = some res → W p l e rmX5_fillParts s m ([.ref (a 8)] : List Value).toArray below meth c H locs 0 0 (MQ below (va_Qv (fun T : ST => T = res) (PostW (wC a cI cZ) D cI cZ) (AC 24 a s.heap.size)) ([.ref (a 8)] : List Value).toArray s 0 0 (AC 24 a s.heap.size)) (F0 m 17 ls []) := by
        intro n
        induction n with
        | zero =>
          intro S_17 H locs v2_17 ls hP hS hl hm
          exact (noS (show (none : Option (ST)) = some res from hm)).elim
        | succ n ih =>
          intro S_17 H locs v2_17 ls hP hS hl hm
          exact kb17 _ _ ih kx17 S_17 H locs v2_17 ls hP hS hl hm
      exact lp17 FU S_2 H locs (v1_2 - (1 : Int32)) ls hP hS (lv_sub hl [1, 2, 0] rfl) hm
  have kx2 : ∀ (S_2 : ST) (H : Heap) (locs : List Loc) (v1_2 : Int32) (ls : Array Slot), va_P D vwCl (wC a cI cZ S_2) H → va_S (AC 24 a s.heap.size) s.heap H locs → lv_has ls 5 [(0, .ref (a 8)), (1, .int v1_2)] → mX5_fillParts_X2   S_2 v1_2 = some res → W p l e rmX5_fillParts s m ([.ref (a 8)] : List Value).toArray below meth c H locs 0 0 (MQ below (va_Qv (fun T : ST => T = res) (PostW (wC a cI cZ) D cI cZ) (AC 24 a s.heap.size)) ([.ref (a 8)] : List Value).toArray s 0 0 (AC 24 a s.heap.size)) (F0 m 82 ls []) := by
    intro S_2 H locs v1_2 ls hP hS hl hm
    unfold mX5_fillParts_X2 at hm
    exact endV X hK hr hlocks hm hP hS dX5_fillParts_82
  have lp2 : ∀ (n : Nat) (S_2 : ST) (H : Heap) (locs : List Loc) (v1_2 : Int32) (ls : Array Slot), va_P D vwCl (wC a cI cZ S_2) H → va_S (AC 24 a s.heap.size) s.heap H locs → lv_has ls 5 [(0, .ref (a 8)), (1, .int v1_2)] → LPf (κ := ST → Int32 → Option (ST)) (fun _ _ => none) (fun kk => mX5_fillParts_B2 kk (mX5_fillParts_X2  ) ) n S_2 v1_2 = some res → W p l e rmX5_fillParts s m ([.ref (a 8)] : List Value).toArray below meth c H locs 0 0 (MQ below (va_Qv (fun T : ST => T = res) (PostW (wC a cI cZ) D cI cZ) (AC 24 a s.heap.size)) ([.ref (a 8)] : List Value).toArray s 0 0 (AC 24 a s.heap.size)) (F0 m 2 ls []) := by
    intro n
    induction n with
    | zero =>
      intro S_2 H locs v1_2 ls hP hS hl hm
      exact (noS (show (none : Option (ST)) = some res from hm)).elim
    | succ n ih =>
      intro S_2 H locs v1_2 ls hP hS hl hm
      exact kb2 _ _ ih kx2 S_2 H locs v1_2 ls hP hS hl hm
  exact lp2 FU S H locs (1 : Int32) ls hP hS (lv_sub hl [1, 0] rfl) hm

def rmX5_makeReady : Room := { frames := 4, cells := 0, slots := 0, locals := 106 }
set_option maxHeartbeats 4000000 in
set_option maxRecDepth 100000 in
theorem kX5_makeReady (l : Launch) (D : va_G) (a : Nat → Nat) (cI cZ : ClassId) (hA : AP 24 a) (S : ST) (sz : Nat)  (res : ST) (hm : mX5_makeReady S  = some res) : Met l yX5_makeReady wsX5_makeReady rmX5_makeReady (va_Pc [.ref (a 8)] (PreW (wC a cI cZ S) D cI cZ sz)) (va_Qv (fun T : ST => T = res) (PostW (wC a cI cZ) D cI cZ) (AC 24 a sz)) 0 0 (AC 24 a sz) := by
  refine metB (cc := cX5_makeReady) (maxL := 1) (ret := none) (by decide) rfl (Nat.le_of_ble_eq_true rfl) ?_
  intro p e s m below meth c ls X hml hr hlocks hin hv hl
  replace X : CX p m c cX5_makeReady s ([.ref (a 8)] : List Value).toArray wsX5_makeReady RX5 := X
  obtain ⟨hsz, hP, hK, hNW⟩ := hv
  subst hsz
  have hS : va_S (AC 24 a s.heap.size) s.heap s.heap [] := va_S.rf
  have hx := X.1
  have hb := X.2.1
  replace hl : lv_has ls 1 [(0, .ref (a 8))] := hl
  have iX5 : ∀ w ∈ wsX50, w ∈ wsX5_makeReady := fun w h => List.mem_cons_of_mem _ (List.mem_append_left _ (List.mem_append_left _ (List.mem_append_right _ h)))
  have iX4 : ∀ w ∈ wsX40, w ∈ wsX5_makeReady := fun w h => List.mem_cons_of_mem _ (List.mem_append_left _ (List.mem_append_right _ h))
  have iX1 : ∀ w ∈ wsX10, w ∈ wsX5_makeReady := fun w h => List.mem_cons_of_mem _ (List.mem_append_right _ h)
  suffices kS : ∀ (H : Heap) (locs : List Loc), va_P D vwCl (wC a cI cZ S) H → va_S (AC 24 a s.heap.size) s.heap H locs → W p l e rmX5_makeReady s m ([.ref (a 8)] : List Value).toArray below meth c H locs 0 0 (MQ below (va_Qv (fun T : ST => T = res) (PostW (wC a cI cZ) D cI cZ) (AC 24 a s.heap.size)) ([.ref (a 8)] : List Value).toArray s 0 0 (AC 24 a s.heap.size)) (F0 m 0 ls []) by exact kS s.heap [] hP hS
  intro H locs hP hS
  unfold mX5_makeReady at hm
  refine lv_aload_n hx hb dX5_makeReady_0 rfl (lv_at hl 0 rfl) ?_
  refine gC_X5_stale X hK hP iX5 (List.mem_of_getElem? (i := 1) rfl) dX5_makeReady_1 ?_
  refine lv_if_ne (tgt := 8) hx hb dX5_makeReady_4 (by decide) (fun hc => ?_) (fun hc => ?_)
  · replace hm := (if_neg hc).symm.trans hm
    refine lv_aload_n hx hb dX5_makeReady_8 rfl (lv_at hl 0 rfl) ?_
    obtain ⟨r1, hr1, hm⟩ := bd_ok hm
    refine callWV (wf := wC a cI cZ) (rest := []) X hK hNW hml hP hS hl.1 (kX5_fillSizes l D a cI cZ hA S H.size  r1 hr1) (cwV 0 X.2.2.1 gX5_makeReady_X5_fillSizes rfl rfl rfl (by decide +kernel) ⟨Nat.le_of_ble_eq_true rfl, Nat.le_of_ble_eq_true rfl⟩) (vC_X5 hK hP) rfl rfl (Nat.le_of_ble_eq_true rfl) dX5_makeReady_9 ⟨Nat.zero_le _, Nat.zero_le _⟩ (fun H locs hP hS => ?_)
    refine lv_aload_n hx hb dX5_makeReady_12 rfl (lv_at hl 0 rfl) ?_
    refine gC_X5_sheet X hK hP iX5 (List.mem_of_getElem? (i := 2) rfl) dX5_makeReady_13 ?_
    refine gC_X4_defects X hK hP iX4 (List.mem_of_getElem? (i := 3) rfl) dX5_makeReady_16 ?_
    have kJ26 : ∀ (S_26 : ST) (H : Heap) (locs : List Loc)  (ls : Array Slot), va_P D vwCl (wC a cI cZ S_26) H → va_S (AC 24 a s.heap.size) s.heap H locs → lv_has ls 1 [(0, .ref (a 8))] → mX5_makeReady_J26  S_26 = some res → W p l e rmX5_makeReady s m ([.ref (a 8)] : List Value).toArray below meth c H locs 0 0 (MQ below (va_Qv (fun T : ST => T = res) (PostW (wC a cI cZ) D cI cZ) (AC 24 a s.heap.size)) ([.ref (a 8)] : List Value).toArray s 0 0 (AC 24 a s.heap.size)) (F0 m 26 ls []) := by
      intro S_26 H locs  ls hP hS hl hm
      unfold mX5_makeReady_J26 at hm
      refine lv_aload_n hx hb dX5_makeReady_26 rfl (lv_at hl 0 rfl) ?_
      refine lv_iconst (v := (0 : Int32)) hx hb dX5_makeReady_27 (by decide) ?_
      refine pC_X5_stale X hK hA hP hS iX5 (List.mem_of_getElem? (i := 1) rfl) ⟨rfl, rfl⟩ dX5_makeReady_28 (fun H locs hP hS => ?_)
      exact endV X hK hr hlocks hm hP hS dX5_makeReady_31
    refine lv_if_le (tgt := 26) hx hb dX5_makeReady_19 (by decide) (fun hc => ?_) (fun hc => ?_)
    · replace hm := (if_pos hc).symm.trans hm
      exact kJ26 r1 H locs  ls hP hS (lv_sub hl [0] rfl) hm
    · replace hm := (if_neg hc).symm.trans hm
      refine lv_aload_n hx hb dX5_makeReady_22 rfl (lv_at hl 0 rfl) ?_
      obtain ⟨r2, hr2, hm⟩ := bd_ok hm
      refine callWV (wf := wC a cI cZ) (rest := []) X hK hNW hml hP hS hl.1 (kX5_fillParts l D a cI cZ hA r1 H.size  r2 hr2) (cwV 0 X.2.2.1 gX5_makeReady_X5_fillParts rfl rfl rfl (by decide +kernel) ⟨Nat.le_of_ble_eq_true rfl, Nat.le_of_ble_eq_true rfl⟩) (vC_X5 hK hP) rfl rfl (Nat.le_of_ble_eq_true rfl) dX5_makeReady_23 ⟨Nat.zero_le _, Nat.zero_le _⟩ (fun H locs hP hS => ?_)
      exact kJ26 r2 H locs  ls hP hS (lv_sub hl [0] rfl) hm
  · replace hm := (if_pos hc).symm.trans hm
    exact endV X hK hr hlocks hm hP hS dX5_makeReady_7

def rmX5_of : Room := { frames := 2, cells := 0, slots := 0, locals := 46 }
set_option maxHeartbeats 4000000 in
set_option maxRecDepth 100000 in
theorem kX5_of (l : Launch) (D : va_G) (a : Nat → Nat) (cI cZ : ClassId) (S : ST) (p1 : Int32) (p2 : Int32) (p3 : Int32) (p4 : Int32) (p5 : Int32) (res : Int32) (hm : mX5_of S p1 p2 p3 p4 p5 = some res) : Met l yX5_of wsX5_of rmX5_of (va_Pc [.ref (a 8), .int p1, .int p2, .int p3, .int p4, .int p5] (PreR (wC a cI cZ S) D cI cZ)) (vp_Si (fun r => r = res)) 0 0 (fun _ => False) := by
  refine metB (cc := cX5_of) (maxL := 7) (ret := (some .int)) (by decide) rfl (Nat.le_of_ble_eq_true rfl) ?_
  intro p e s m below meth c ls X hml hr hlocks hin hv hl
  replace X : CX p m c cX5_of s ([.ref (a 8), .int p1, .int p2, .int p3, .int p4, .int p5] : List Value).toArray wsX5_of RX5 := X
  obtain ⟨hP, hK, hNW⟩ := hv
  have hx := X.1
  have hb := X.2.1
  replace hl : lv_has ls 7 [(0, .ref (a 8)), (1, .int p1), (2, .int p2), (3, .int p3), (4, .int p4), (5, .int p5)] := hl
  have iX5 : ∀ w ∈ wsX50, w ∈ wsX5_of := fun w h => List.mem_cons_of_mem _ (List.mem_append_left _ (List.mem_append_right _ h))
  have iX4 : ∀ w ∈ wsX40, w ∈ wsX5_of := fun w h => List.mem_cons_of_mem _ (List.mem_append_right _ h)
  unfold mX5_of at hm
  refine lv_aload_n hx hb dX5_of_0 rfl (lv_at hl 0 rfl) ?_
  refine gC_X5_sheet X hK hP iX5 (List.mem_of_getElem? (i := 1) rfl) dX5_of_1 ?_
  refine gC_X4_defects X hK hP iX4 (List.mem_of_getElem? (i := 2) rfl) dX5_of_4 ?_
  refine lv_if_ne (tgt := 20) hx hb dX5_of_7 (by decide) (fun hc => ?_) (fun hc => ?_)
  · replace hm := (if_neg hc).symm.trans hm
    refine lv_iload hx hb dX5_of_20 (lv_at hl 5 rfl) ?_
    refine lv_iload_n hx hb dX5_of_22 rfl (lv_at hl 1 rfl) ?_
    refine lv_iload_n hx hb dX5_of_23 rfl (lv_at hl 1 rfl) ?_
    refine lv_iload_n hx hb dX5_of_24 rfl (lv_at hl 3 rfl) ?_
    refine lv_iadd hx hb dX5_of_25 ?_
    obtain ⟨r1, hr1, hm⟩ := bd_ok hm
    refine callRS (rest := [.int p5]) X hml hl.1 (kX5_span l p1 (p1 + p3) r1 hr1) (va_cwS 2 X.2.2.1 gX5_of_X5_span rfl rfl rfl (by decide +kernel) ⟨Nat.le_of_ble_eq_true rfl, Nat.le_of_ble_eq_true rfl⟩) rfl rfl (Nat.le_of_ble_eq_true rfl) dX5_of_26 ⟨Nat.zero_le _, Nat.zero_le _⟩ ?_
    refine lv_iload_n hx hb dX5_of_29 rfl (lv_at hl 2 rfl) ?_
    refine lv_iload_n hx hb dX5_of_30 rfl (lv_at hl 2 rfl) ?_
    refine lv_iload hx hb dX5_of_31 (lv_at hl 4 rfl) ?_
    refine lv_iadd hx hb dX5_of_33 ?_
    obtain ⟨r2, hr2, hm⟩ := bd_ok hm
    refine callRS (rest := [.int r1, .int p5]) X hml hl.1 (kX5_span l p2 (p2 + p4) r2 hr2) (va_cwS 2 X.2.2.1 gX5_of_X5_span rfl rfl rfl (by decide +kernel) ⟨Nat.le_of_ble_eq_true rfl, Nat.le_of_ble_eq_true rfl⟩) rfl rfl (Nat.le_of_ble_eq_true rfl) dX5_of_34 ⟨Nat.zero_le _, Nat.zero_le _⟩ ?_
    obtain ⟨r3, hr3, hm⟩ := bd_ok hm
    refine callRS (rest := []) X hml hl.1 (kX5_partSlot l p5 r1 r2 r3 hr3) (va_cwS 3 X.2.2.1 gX5_of_X5_partSlot rfl rfl rfl (by decide +kernel) ⟨Nat.le_of_ble_eq_true rfl, Nat.le_of_ble_eq_true rfl⟩) rfl rfl (Nat.le_of_ble_eq_true rfl) dX5_of_37 ⟨Nat.zero_le _, Nat.zero_le _⟩ ?_
    refine lv_istore (lv' := [(6, .int r3), (0, .ref (a 8)), (1, .int p1), (2, .int p2), (3, .int p3), (4, .int p4), (5, .int p5)]) hx hb dX5_of_40 hl (by decide) rfl (fun ls hl => ?_)
    refine lv_iload hx hb dX5_of_42 (lv_at hl 0 rfl) ?_
    refine lv_iconst (v := (0 : Int32)) hx hb dX5_of_44 (by decide) ?_
    refine lv_aload_n hx hb dX5_of_45 rfl (lv_at hl 1 rfl) ?_
    refine gC_X5_ofParts X hK hP iX5 (List.mem_of_getElem? (i := 3) rfl) dX5_of_46 ?_
    refine nC_X5_ofParts X hK hP dX5_of_49 ?_
    refine lv_iconst (v := (1 : Int32)) hx hb dX5_of_50 (by decide) ?_
    refine lv_isub hx hb dX5_of_51 ?_
    obtain ⟨r4, hr4, hm⟩ := bd_ok hm
    refine callRN (rest := []) X hml hl.1 (kX6_within l r3 (0 : Int32) ((73984 : Int32) - (1 : Int32)) r4 hr4) ⟨va_cnB 3 X.2.2.1 gX5_of_X6_within_n54 rfl rfl rfl hNW.2.2 (X.2.2.1 (Cond.initialized RX6) (List.mem_of_getElem? (i := 15) rfl)) (by decide +kernel) ⟨Nat.le_of_ble_eq_true rfl, Nat.le_of_ble_eq_true rfl⟩, X.2.2.1 (Cond.static yX6_within) (List.mem_of_getElem? (i := 14) rfl), trivial⟩ rfl rfl (Nat.le_of_ble_eq_true rfl) dX5_of_52 ⟨Nat.zero_le _, Nat.zero_le _⟩ ?_
    refine lv_if_eq (tgt := 68) hx hb dX5_of_55 (by decide) (fun hc => ?_) (fun hc => ?_)
    · replace hm := (if_pos hc).symm.trans hm
      refine lv_iconst (v := (0 : Int32)) hx hb dX5_of_68 (by decide) ?_
      exact endR X hr rfl hlocks hm dX5_of_69
    · replace hm := (if_neg hc).symm.trans hm
      refine lv_aload_n hx hb dX5_of_58 rfl (lv_at hl 1 rfl) ?_
      refine gC_X5_ofParts X hK hP iX5 (List.mem_of_getElem? (i := 3) rfl) dX5_of_59 ?_
      refine lv_iload hx hb dX5_of_62 (lv_at hl 0 rfl) ?_
      obtain ⟨h1, hm⟩ := gd_ok hm
      refine rC_X5_ofParts X hK hP h1 dX5_of_64 ?_
      refine lv_goto (tgt := 69) hx hb dX5_of_65 (by decide) ?_
      exact endR X hr rfl hlocks hm dX5_of_69
  · replace hm := (if_pos hc).symm.trans hm
    refine lv_aload_n hx hb dX5_of_10 rfl (lv_at hl 0 rfl) ?_
    refine lv_iload_n hx hb dX5_of_11 rfl (lv_at hl 3 rfl) ?_
    refine lv_iload hx hb dX5_of_12 (lv_at hl 4 rfl) ?_
    refine lv_iload hx hb dX5_of_14 (lv_at hl 5 rfl) ?_
    obtain ⟨r5, hr5, hm⟩ := bd_ok hm
    refine callRV (rest := []) X hK hNW hml hP hl.1 (kX5_ofSize l D a cI cZ S p3 p4 p5 r5 hr5) (cwV 3 X.2.2.1 gX5_of_X5_ofSize rfl rfl rfl (by decide +kernel) ⟨Nat.le_of_ble_eq_true rfl, Nat.le_of_ble_eq_true rfl⟩) (vC_X5 hK hP) rfl rfl (Nat.le_of_ble_eq_true rfl) dX5_of_16 ⟨Nat.zero_le _, Nat.zero_le _⟩ ?_
    exact endR X hr rfl hlocks hm dX5_of_19
