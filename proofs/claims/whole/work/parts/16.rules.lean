/-! Mirrors and contracts. By walk.py. -/
def rmX6_plate : Room := { frames := 2, cells := 0, slots := 0, locals := 40 }
set_option maxHeartbeats 4000000 in
set_option maxRecDepth 100000 in
theorem kX6_plate (l : Launch) (D : va_G) (a : Nat → Nat) (cI cZ : ClassId) (hA : AP 24 a) (S : ST) (sz : Nat) (p1 : Int32) (p2 : Int32) (p3 : Int32) (p4 : Int32) (p5 : Int32) (res : Int32 × ST) (hm : mX6_plate S p1 p2 p3 p4 p5 = some res) : Met l yX6_plate wsX6_plate rmX6_plate (va_Pc [.ref (a 0), .int p1, .int p2, .int p3, .int p4, .int p5] (PreW (wC a cI cZ S) D cI cZ sz)) (va_Qi (fun (r : Int32) (T : ST) => (r, T) = res) (PostW (wC a cI cZ) D cI cZ) (AC 24 a sz)) 0 0 (AC 24 a sz) := by
  refine metB (cc := cX6_plate) (maxL := 6) (ret := (some .int)) (by decide) rfl (Nat.le_of_ble_eq_true rfl) ?_
  intro p e s m below meth c ls X hml hr hlocks hin hv hl
  replace X : CX p m c cX6_plate s ([.ref (a 0), .int p1, .int p2, .int p3, .int p4, .int p5] : List Value).toArray wsX6_plate RX6 := X
  obtain ⟨hsz, hP, hK, hNW⟩ := hv
  subst hsz
  have hS : va_S (AC 24 a s.heap.size) s.heap s.heap [] := va_S.rf
  have hx := X.1
  have hb := X.2.1
  replace hl : lv_has ls 6 [(0, .ref (a 0)), (1, .int p1), (2, .int p2), (3, .int p3), (4, .int p4), (5, .int p5)] := hl
  have iX6 : ∀ w ∈ wsX60, w ∈ wsX6_plate := fun w h => List.mem_cons_of_mem _ (List.mem_append_left _ (List.mem_append_left _ (List.mem_append_left _ (List.mem_append_right _ h))))
  have iX4 : ∀ w ∈ wsX40, w ∈ wsX6_plate := fun w h => List.mem_cons_of_mem _ (List.mem_append_left _ (List.mem_append_left _ (List.mem_append_right _ h)))
  have iX2 : ∀ w ∈ wsX20, w ∈ wsX6_plate := fun w h => List.mem_cons_of_mem _ (List.mem_append_left _ (List.mem_append_right _ h))
  have iX5 : ∀ w ∈ wsX50, w ∈ wsX6_plate := fun w h => List.mem_cons_of_mem _ (List.mem_append_right _ h)
  suffices kS : ∀ (H : Heap) (locs : List Loc), va_P D vwCl (wC a cI cZ S) H → va_S (AC 24 a s.heap.size) s.heap H locs → W p l e rmX6_plate s m ([.ref (a 0), .int p1, .int p2, .int p3, .int p4, .int p5] : List Value).toArray below meth c H locs 0 0 (MQ below (va_Qi (fun (r : Int32) (T : ST) => (r, T) = res) (PostW (wC a cI cZ) D cI cZ) (AC 24 a s.heap.size)) ([.ref (a 0), .int p1, .int p2, .int p3, .int p4, .int p5] : List Value).toArray s 0 0 (AC 24 a s.heap.size)) (F0 m 0 ls []) by exact kS s.heap [] hP hS
  intro H locs hP hS
  unfold mX6_plate at hm
  refine lv_iload_n hx hb dX6_plate_0 rfl (lv_at hl 1 rfl) ?_
  refine lv_iconst (v := (1 : Int32)) hx hb dX6_plate_1 (by decide) ?_
  refine lv_bipush (v := (16 : Int32)) hx hb dX6_plate_2 (by decide) ?_
  obtain ⟨r1, hr1, hm⟩ := bd_ok hm
  refine callRS (rest := []) X hml hl.1 (kX6_within l p1 (1 : Int32) (16 : Int32) r1 hr1) (va_cwS 3 X.2.2.1 gX6_plate_X6_within rfl rfl rfl (by decide +kernel) ⟨Nat.le_of_ble_eq_true rfl, Nat.le_of_ble_eq_true rfl⟩) rfl rfl (Nat.le_of_ble_eq_true rfl) dX6_plate_4 ⟨Nat.zero_le _, Nat.zero_le _⟩ ?_
  refine lv_if_eq (tgt := 49) hx hb dX6_plate_7 (by decide) (fun hc => ?_) (fun hc => ?_)
  · replace hm := (if_pos hc).symm.trans hm
    refine lv_bipush (v := (-3 : Int32)) hx hb dX6_plate_49 (by decide) ?_
    exact endI X hK hr rfl hlocks hm hP hS dX6_plate_51
  · replace hm := (if_neg hc).symm.trans hm
    refine lv_iload_n hx hb dX6_plate_10 rfl (lv_at hl 2 rfl) ?_
    refine lv_iconst (v := (1 : Int32)) hx hb dX6_plate_11 (by decide) ?_
    refine lv_bipush (v := (16 : Int32)) hx hb dX6_plate_12 (by decide) ?_
    obtain ⟨r2, hr2, hm⟩ := bd_ok hm
    refine callRS (rest := []) X hml hl.1 (kX6_within l p2 (1 : Int32) (16 : Int32) r2 hr2) (va_cwS 3 X.2.2.1 gX6_plate_X6_within rfl rfl rfl (by decide +kernel) ⟨Nat.le_of_ble_eq_true rfl, Nat.le_of_ble_eq_true rfl⟩) rfl rfl (Nat.le_of_ble_eq_true rfl) dX6_plate_14 ⟨Nat.zero_le _, Nat.zero_le _⟩ ?_
    refine lv_if_eq (tgt := 49) hx hb dX6_plate_17 (by decide) (fun hc => ?_) (fun hc => ?_)
    · replace hm := (if_pos hc).symm.trans hm
      refine lv_bipush (v := (-3 : Int32)) hx hb dX6_plate_49 (by decide) ?_
      exact endI X hK hr rfl hlocks hm hP hS dX6_plate_51
    · replace hm := (if_neg hc).symm.trans hm
      refine lv_iload_n hx hb dX6_plate_20 rfl (lv_at hl 3 rfl) ?_
      refine lv_iconst (v := (0 : Int32)) hx hb dX6_plate_21 (by decide) ?_
      refine lv_iconst (v := (2 : Int32)) hx hb dX6_plate_22 (by decide) ?_
      obtain ⟨r3, hr3, hm⟩ := bd_ok hm
      refine callRS (rest := []) X hml hl.1 (kX6_within l p3 (0 : Int32) (2 : Int32) r3 hr3) (va_cwS 3 X.2.2.1 gX6_plate_X6_within rfl rfl rfl (by decide +kernel) ⟨Nat.le_of_ble_eq_true rfl, Nat.le_of_ble_eq_true rfl⟩) rfl rfl (Nat.le_of_ble_eq_true rfl) dX6_plate_23 ⟨Nat.zero_le _, Nat.zero_le _⟩ ?_
      refine lv_if_eq (tgt := 49) hx hb dX6_plate_26 (by decide) (fun hc => ?_) (fun hc => ?_)
      · replace hm := (if_pos hc).symm.trans hm
        refine lv_bipush (v := (-3 : Int32)) hx hb dX6_plate_49 (by decide) ?_
        exact endI X hK hr rfl hlocks hm hP hS dX6_plate_51
      · replace hm := (if_neg hc).symm.trans hm
        refine lv_iload hx hb dX6_plate_29 (lv_at hl 4 rfl) ?_
        refine lv_iconst (v := (1 : Int32)) hx hb dX6_plate_31 (by decide) ?_
        refine lv_iconst (v := (4 : Int32)) hx hb dX6_plate_32 (by decide) ?_
        obtain ⟨r4, hr4, hm⟩ := bd_ok hm
        refine callRS (rest := []) X hml hl.1 (kX6_within l p4 (1 : Int32) (4 : Int32) r4 hr4) (va_cwS 3 X.2.2.1 gX6_plate_X6_within rfl rfl rfl (by decide +kernel) ⟨Nat.le_of_ble_eq_true rfl, Nat.le_of_ble_eq_true rfl⟩) rfl rfl (Nat.le_of_ble_eq_true rfl) dX6_plate_33 ⟨Nat.zero_le _, Nat.zero_le _⟩ ?_
        refine lv_if_eq (tgt := 49) hx hb dX6_plate_36 (by decide) (fun hc => ?_) (fun hc => ?_)
        · replace hm := (if_pos hc).symm.trans hm
          refine lv_bipush (v := (-3 : Int32)) hx hb dX6_plate_49 (by decide) ?_
          exact endI X hK hr rfl hlocks hm hP hS dX6_plate_51
        · replace hm := (if_neg hc).symm.trans hm
          refine lv_iload hx hb dX6_plate_39 (lv_at hl 5 rfl) ?_
          refine lv_iconst (v := (0 : Int32)) hx hb dX6_plate_41 (by decide) ?_
          refine lv_iconst (v := (1 : Int32)) hx hb dX6_plate_42 (by decide) ?_
          obtain ⟨r5, hr5, hm⟩ := bd_ok hm
          refine callRS (rest := []) X hml hl.1 (kX6_within l p5 (0 : Int32) (1 : Int32) r5 hr5) (va_cwS 3 X.2.2.1 gX6_plate_X6_within rfl rfl rfl (by decide +kernel) ⟨Nat.le_of_ble_eq_true rfl, Nat.le_of_ble_eq_true rfl⟩) rfl rfl (Nat.le_of_ble_eq_true rfl) dX6_plate_43 ⟨Nat.zero_le _, Nat.zero_le _⟩ ?_
          refine lv_if_ne (tgt := 52) hx hb dX6_plate_46 (by decide) (fun hc => ?_) (fun hc => ?_)
          · replace hm := (if_neg hc).symm.trans hm
            refine lv_aload_n hx hb dX6_plate_52 rfl (lv_at hl 0 rfl) ?_
            refine gC_X6_sheet X hK hP iX6 (List.mem_of_getElem? (i := 1) rfl) dX6_plate_53 ?_
            refine lv_iload_n hx hb dX6_plate_56 rfl (lv_at hl 1 rfl) ?_
            refine lv_iload_n hx hb dX6_plate_57 rfl (lv_at hl 2 rfl) ?_
            refine lv_iload_n hx hb dX6_plate_58 rfl (lv_at hl 3 rfl) ?_
            refine lv_iload hx hb dX6_plate_59 (lv_at hl 4 rfl) ?_
            refine lv_iload hx hb dX6_plate_61 (lv_at hl 5 rfl) ?_
            obtain ⟨r6, hr6, hm⟩ := bd_ok hm
            refine callWV (wf := wC a cI cZ) (rest := []) X hK hNW hml hP hS hl.1 (kX4_become l D a cI cZ hA S H.size p1 p2 p3 p4 p5 r6 hr6) (cwV 5 X.2.2.1 gX6_plate_X4_become rfl rfl rfl (by decide +kernel) ⟨Nat.le_of_ble_eq_true rfl, Nat.le_of_ble_eq_true rfl⟩) (vC_X4 hK hP) rfl rfl (Nat.le_of_ble_eq_true rfl) dX6_plate_63 ⟨Nat.zero_le _, Nat.zero_le _⟩ (fun H locs hP hS => ?_)
            refine lv_aload_n hx hb dX6_plate_66 rfl (lv_at hl 0 rfl) ?_
            refine gC_X6_plan X hK hP iX6 (List.mem_of_getElem? (i := 2) rfl) dX6_plate_67 ?_
            obtain ⟨r7, hr7, hm⟩ := bd_ok hm
            refine callWV (wf := wC a cI cZ) (rest := []) X hK hNW hml hP hS hl.1 (kX2_forget l D a cI cZ hA r6 H.size  r7 hr7) (cwV 0 X.2.2.1 gX6_plate_X2_forget rfl rfl rfl (by decide +kernel) ⟨Nat.le_of_ble_eq_true rfl, Nat.le_of_ble_eq_true rfl⟩) (vC_X2 hK hP) rfl rfl (Nat.le_of_ble_eq_true rfl) dX6_plate_70 ⟨Nat.zero_le _, Nat.zero_le _⟩ (fun H locs hP hS => ?_)
            refine lv_iconst (v := (1 : Int32)) hx hb dX6_plate_73 (by decide) ?_
            exact endI X hK hr rfl hlocks hm hP hS dX6_plate_74
          · replace hm := (if_pos hc).symm.trans hm
            refine lv_bipush (v := (-3 : Int32)) hx hb dX6_plate_49 (by decide) ?_
            exact endI X hK hr rfl hlocks hm hP hS dX6_plate_51

def rmX6_defect : Room := { frames := 2, cells := 0, slots := 0, locals := 46 }
set_option maxHeartbeats 4000000 in
set_option maxRecDepth 100000 in
theorem kX6_defect (l : Launch) (D : va_G) (a : Nat → Nat) (cI cZ : ClassId) (hA : AP 24 a) (S : ST) (sz : Nat) (p1 : Int32) (p2 : Int32) (p3 : Int32) (p4 : Int32) (res : Int32 × ST) (hm : mX6_defect S p1 p2 p3 p4 = some res) : Met l yX6_defect wsX6_defect rmX6_defect (va_Pc [.ref (a 0), .int p1, .int p2, .int p3, .int p4] (PreW (wC a cI cZ S) D cI cZ sz)) (va_Qi (fun (r : Int32) (T : ST) => (r, T) = res) (PostW (wC a cI cZ) D cI cZ) (AC 24 a sz)) 0 0 (AC 24 a sz) := by
  refine metB (cc := cX6_defect) (maxL := 5) (ret := (some .int)) (by decide) rfl (Nat.le_of_ble_eq_true rfl) ?_
  intro p e s m below meth c ls X hml hr hlocks hin hv hl
  replace X : CX p m c cX6_defect s ([.ref (a 0), .int p1, .int p2, .int p3, .int p4] : List Value).toArray wsX6_defect RX6 := X
  obtain ⟨hsz, hP, hK, hNW⟩ := hv
  subst hsz
  have hS : va_S (AC 24 a s.heap.size) s.heap s.heap [] := va_S.rf
  have hx := X.1
  have hb := X.2.1
  replace hl : lv_has ls 5 [(0, .ref (a 0)), (1, .int p1), (2, .int p2), (3, .int p3), (4, .int p4)] := hl
  have iX6 : ∀ w ∈ wsX60, w ∈ wsX6_defect := fun w h => List.mem_cons_of_mem _ (List.mem_append_left _ (List.mem_append_left _ (List.mem_append_left _ (List.mem_append_right _ h))))
  have iX4 : ∀ w ∈ wsX40, w ∈ wsX6_defect := fun w h => List.mem_cons_of_mem _ (List.mem_append_left _ (List.mem_append_left _ (List.mem_append_right _ h)))
  have iX2 : ∀ w ∈ wsX20, w ∈ wsX6_defect := fun w h => List.mem_cons_of_mem _ (List.mem_append_left _ (List.mem_append_right _ h))
  have iX5 : ∀ w ∈ wsX50, w ∈ wsX6_defect := fun w h => List.mem_cons_of_mem _ (List.mem_append_right _ h)
  suffices kS : ∀ (H : Heap) (locs : List Loc), va_P D vwCl (wC a cI cZ S) H → va_S (AC 24 a s.heap.size) s.heap H locs → W p l e rmX6_defect s m ([.ref (a 0), .int p1, .int p2, .int p3, .int p4] : List Value).toArray below meth c H locs 0 0 (MQ below (va_Qi (fun (r : Int32) (T : ST) => (r, T) = res) (PostW (wC a cI cZ) D cI cZ) (AC 24 a s.heap.size)) ([.ref (a 0), .int p1, .int p2, .int p3, .int p4] : List Value).toArray s 0 0 (AC 24 a s.heap.size)) (F0 m 0 ls []) by exact kS s.heap [] hP hS
  intro H locs hP hS
  unfold mX6_defect at hm
  refine lv_aload_n hx hb dX6_defect_0 rfl (lv_at hl 0 rfl) ?_
  refine gC_X6_sheet X hK hP iX6 (List.mem_of_getElem? (i := 1) rfl) dX6_defect_1 ?_
  refine lv_iload_n hx hb dX6_defect_4 rfl (lv_at hl 1 rfl) ?_
  refine lv_iload_n hx hb dX6_defect_5 rfl (lv_at hl 2 rfl) ?_
  refine lv_iload_n hx hb dX6_defect_6 rfl (lv_at hl 3 rfl) ?_
  refine lv_iload hx hb dX6_defect_7 (lv_at hl 4 rfl) ?_
  obtain ⟨r1, hr1, hm⟩ := bd_ok hm
  refine callRV (rest := []) X hK hNW hml hP hl.1 (kX4_holds l D a cI cZ S p1 p2 p3 p4 r1 hr1) (cwV 4 X.2.2.1 gX6_defect_X4_holds rfl rfl rfl (by decide +kernel) ⟨Nat.le_of_ble_eq_true rfl, Nat.le_of_ble_eq_true rfl⟩) (vC_X4 hK hP) rfl rfl (Nat.le_of_ble_eq_true rfl) dX6_defect_9 ⟨Nat.zero_le _, Nat.zero_le _⟩ ?_
  refine lv_if_ne (tgt := 18) hx hb dX6_defect_12 (by decide) (fun hc => ?_) (fun hc => ?_)
  · replace hm := (if_neg hc).symm.trans hm
    refine lv_aload_n hx hb dX6_defect_18 rfl (lv_at hl 0 rfl) ?_
    refine gC_X6_sheet X hK hP iX6 (List.mem_of_getElem? (i := 1) rfl) dX6_defect_19 ?_
    refine lv_iload_n hx hb dX6_defect_22 rfl (lv_at hl 1 rfl) ?_
    refine lv_iload_n hx hb dX6_defect_23 rfl (lv_at hl 2 rfl) ?_
    refine lv_iload_n hx hb dX6_defect_24 rfl (lv_at hl 3 rfl) ?_
    refine lv_iload hx hb dX6_defect_25 (lv_at hl 4 rfl) ?_
    obtain ⟨r2, hr2, hm⟩ := bd_ok hm
    refine callWI (wf := wC a cI cZ) (rest := []) X hK hNW hml hP hS hl.1 (kX4_spoil l D a cI cZ hA S H.size p1 p2 p3 p4 r2 hr2) (cwV 4 X.2.2.1 gX6_defect_X4_spoil rfl rfl rfl (by decide +kernel) ⟨Nat.le_of_ble_eq_true rfl, Nat.le_of_ble_eq_true rfl⟩) (vC_X4 hK hP) rfl rfl (Nat.le_of_ble_eq_true rfl) dX6_defect_27 ⟨Nat.zero_le _, Nat.zero_le _⟩ (fun H locs hP hS => ?_)
    refine lv_if_ne (tgt := 36) hx hb dX6_defect_30 (by decide) (fun hc => ?_) (fun hc => ?_)
    · replace hm := (if_neg hc).symm.trans hm
      refine lv_aload_n hx hb dX6_defect_36 rfl (lv_at hl 0 rfl) ?_
      refine gC_X6_plan X hK hP iX6 (List.mem_of_getElem? (i := 2) rfl) dX6_defect_37 ?_
      obtain ⟨r3, hr3, hm⟩ := bd_ok hm
      refine callWV (wf := wC a cI cZ) (rest := []) X hK hNW hml hP hS hl.1 (kX2_forget l D a cI cZ hA r2.2 H.size  r3 hr3) (cwV 0 X.2.2.1 gX6_defect_X2_forget rfl rfl rfl (by decide +kernel) ⟨Nat.le_of_ble_eq_true rfl, Nat.le_of_ble_eq_true rfl⟩) (vC_X2 hK hP) rfl rfl (Nat.le_of_ble_eq_true rfl) dX6_defect_40 ⟨Nat.zero_le _, Nat.zero_le _⟩ (fun H locs hP hS => ?_)
      refine lv_aload_n hx hb dX6_defect_43 rfl (lv_at hl 0 rfl) ?_
      refine gC_X6_sheet X hK hP iX6 (List.mem_of_getElem? (i := 1) rfl) dX6_defect_44 ?_
      refine gC_X4_defects X hK hP iX4 (List.mem_of_getElem? (i := 3) rfl) dX6_defect_47 ?_
      exact endI X hK hr rfl hlocks hm hP hS dX6_defect_50
    · replace hm := (if_pos hc).symm.trans hm
      refine lv_bipush (v := (-4 : Int32)) hx hb dX6_defect_33 (by decide) ?_
      exact endI X hK hr rfl hlocks hm hP hS dX6_defect_35
  · replace hm := (if_pos hc).symm.trans hm
    refine lv_bipush (v := (-3 : Int32)) hx hb dX6_defect_15 (by decide) ?_
    exact endI X hK hr rfl hlocks hm hP hS dX6_defect_17

def rmX6_kind : Room := { frames := 2, cells := 0, slots := 0, locals := 40 }
set_option maxHeartbeats 4000000 in
set_option maxRecDepth 100000 in
theorem kX6_kind (l : Launch) (D : va_G) (a : Nat → Nat) (cI cZ : ClassId) (hA : AP 24 a) (S : ST) (sz : Nat) (p1 : Int32) (p2 : Int32) (p3 : Int32) (p4 : Int32) (res : Int32 × ST) (hm : mX6_kind S p1 p2 p3 p4 = some res) : Met l yX6_kind wsX6_kind rmX6_kind (va_Pc [.ref (a 0), .int p1, .int p2, .int p3, .int p4] (PreW (wC a cI cZ S) D cI cZ sz)) (va_Qi (fun (r : Int32) (T : ST) => (r, T) = res) (PostW (wC a cI cZ) D cI cZ) (AC 24 a sz)) 0 0 (AC 24 a sz) := by
  refine metB (cc := cX6_kind) (maxL := 6) (ret := (some .int)) (by decide) rfl (Nat.le_of_ble_eq_true rfl) ?_
  intro p e s m below meth c ls X hml hr hlocks hin hv hl
  replace X : CX p m c cX6_kind s ([.ref (a 0), .int p1, .int p2, .int p3, .int p4] : List Value).toArray wsX6_kind RX6 := X
  obtain ⟨hsz, hP, hK, hNW⟩ := hv
  subst hsz
  have hS : va_S (AC 24 a s.heap.size) s.heap s.heap [] := va_S.rf
  have hx := X.1
  have hb := X.2.1
  replace hl : lv_has ls 6 [(0, .ref (a 0)), (1, .int p1), (2, .int p2), (3, .int p3), (4, .int p4)] := hl
  have iX6 : ∀ w ∈ wsX60, w ∈ wsX6_kind := fun w h => List.mem_cons_of_mem _ (List.mem_append_left _ (List.mem_append_left _ (List.mem_append_left _ (List.mem_append_right _ h))))
  have iX1 : ∀ w ∈ wsX10, w ∈ wsX6_kind := fun w h => List.mem_cons_of_mem _ (List.mem_append_left _ (List.mem_append_left _ (List.mem_append_right _ h)))
  have iX2 : ∀ w ∈ wsX20, w ∈ wsX6_kind := fun w h => List.mem_cons_of_mem _ (List.mem_append_left _ (List.mem_append_right _ h))
  have iX5 : ∀ w ∈ wsX50, w ∈ wsX6_kind := fun w h => List.mem_cons_of_mem _ (List.mem_append_right _ h)
  suffices kS : ∀ (H : Heap) (locs : List Loc), va_P D vwCl (wC a cI cZ S) H → va_S (AC 24 a s.heap.size) s.heap H locs → W p l e rmX6_kind s m ([.ref (a 0), .int p1, .int p2, .int p3, .int p4] : List Value).toArray below meth c H locs 0 0 (MQ below (va_Qi (fun (r : Int32) (T : ST) => (r, T) = res) (PostW (wC a cI cZ) D cI cZ) (AC 24 a s.heap.size)) ([.ref (a 0), .int p1, .int p2, .int p3, .int p4] : List Value).toArray s 0 0 (AC 24 a s.heap.size)) (F0 m 0 ls []) by exact kS s.heap [] hP hS
  intro H locs hP hS
  unfold mX6_kind at hm
  refine lv_iload_n hx hb dX6_kind_0 rfl (lv_at hl 1 rfl) ?_
  refine lv_iconst (v := (1 : Int32)) hx hb dX6_kind_1 (by decide) ?_
  refine lv_bipush (v := (16 : Int32)) hx hb dX6_kind_2 (by decide) ?_
  obtain ⟨r1, hr1, hm⟩ := bd_ok hm
  refine callRS (rest := []) X hml hl.1 (kX6_within l p1 (1 : Int32) (16 : Int32) r1 hr1) (va_cwS 3 X.2.2.1 gX6_kind_X6_within rfl rfl rfl (by decide +kernel) ⟨Nat.le_of_ble_eq_true rfl, Nat.le_of_ble_eq_true rfl⟩) rfl rfl (Nat.le_of_ble_eq_true rfl) dX6_kind_4 ⟨Nat.zero_le _, Nat.zero_le _⟩ ?_
  refine lv_if_eq (tgt := 31) hx hb dX6_kind_7 (by decide) (fun hc => ?_) (fun hc => ?_)
  · replace hm := (if_pos hc).symm.trans hm
    refine lv_bipush (v := (-3 : Int32)) hx hb dX6_kind_31 (by decide) ?_
    exact endI X hK hr rfl hlocks hm hP hS dX6_kind_33
  · replace hm := (if_neg hc).symm.trans hm
    refine lv_iload_n hx hb dX6_kind_10 rfl (lv_at hl 2 rfl) ?_
    refine lv_iconst (v := (1 : Int32)) hx hb dX6_kind_11 (by decide) ?_
    refine lv_bipush (v := (16 : Int32)) hx hb dX6_kind_12 (by decide) ?_
    obtain ⟨r2, hr2, hm⟩ := bd_ok hm
    refine callRS (rest := []) X hml hl.1 (kX6_within l p2 (1 : Int32) (16 : Int32) r2 hr2) (va_cwS 3 X.2.2.1 gX6_kind_X6_within rfl rfl rfl (by decide +kernel) ⟨Nat.le_of_ble_eq_true rfl, Nat.le_of_ble_eq_true rfl⟩) rfl rfl (Nat.le_of_ble_eq_true rfl) dX6_kind_14 ⟨Nat.zero_le _, Nat.zero_le _⟩ ?_
    refine lv_if_eq (tgt := 31) hx hb dX6_kind_17 (by decide) (fun hc => ?_) (fun hc => ?_)
    · replace hm := (if_pos hc).symm.trans hm
      refine lv_bipush (v := (-3 : Int32)) hx hb dX6_kind_31 (by decide) ?_
      exact endI X hK hr rfl hlocks hm hP hS dX6_kind_33
    · replace hm := (if_neg hc).symm.trans hm
      refine lv_iload_n hx hb dX6_kind_20 rfl (lv_at hl 3 rfl) ?_
      refine lv_iconst (v := (1 : Int32)) hx hb dX6_kind_21 (by decide) ?_
      refine lv_sipush (v := (1000 : Int32)) hx hb dX6_kind_22 (by decide) ?_
      obtain ⟨r3, hr3, hm⟩ := bd_ok hm
      refine callRS (rest := []) X hml hl.1 (kX6_within l p3 (1 : Int32) (1000 : Int32) r3 hr3) (va_cwS 3 X.2.2.1 gX6_kind_X6_within rfl rfl rfl (by decide +kernel) ⟨Nat.le_of_ble_eq_true rfl, Nat.le_of_ble_eq_true rfl⟩) rfl rfl (Nat.le_of_ble_eq_true rfl) dX6_kind_25 ⟨Nat.zero_le _, Nat.zero_le _⟩ ?_
      refine lv_if_ne (tgt := 34) hx hb dX6_kind_28 (by decide) (fun hc => ?_) (fun hc => ?_)
      · replace hm := (if_neg hc).symm.trans hm
        refine lv_aload_n hx hb dX6_kind_34 rfl (lv_at hl 0 rfl) ?_
        refine gC_X6_kinds X hK hP iX6 (List.mem_of_getElem? (i := 1) rfl) dX6_kind_35 ?_
        refine lv_iload_n hx hb dX6_kind_38 rfl (lv_at hl 1 rfl) ?_
        refine lv_iload_n hx hb dX6_kind_39 rfl (lv_at hl 2 rfl) ?_
        refine lv_iload_n hx hb dX6_kind_40 rfl (lv_at hl 3 rfl) ?_
        refine lv_iload hx hb dX6_kind_41 (lv_at hl 4 rfl) ?_
        obtain ⟨r4, hr4, hm⟩ := bd_ok hm
        refine callWI (wf := wC a cI cZ) (rest := []) X hK hNW hml hP hS hl.1 (kX1_add l D a cI cZ hA S H.size p1 p2 p3 p4 r4 hr4) (cwV 4 X.2.2.1 gX6_kind_X1_add rfl rfl rfl (by decide +kernel) ⟨Nat.le_of_ble_eq_true rfl, Nat.le_of_ble_eq_true rfl⟩) (vC_X1 hK hP) rfl rfl (Nat.le_of_ble_eq_true rfl) dX6_kind_43 ⟨Nat.zero_le _, Nat.zero_le _⟩ (fun H locs hP hS => ?_)
        refine lv_istore (lv' := [(5, .int r4.1), (0, .ref (a 0)), (1, .int p1), (2, .int p2), (3, .int p3), (4, .int p4)]) hx hb dX6_kind_46 hl (by decide) rfl (fun ls hl => ?_)
        refine lv_iload hx hb dX6_kind_48 (lv_at hl 0 rfl) ?_
        refine lv_bipush (v := (-4 : Int32)) hx hb dX6_kind_50 (by decide) ?_
        refine lv_icmp_eq (tgt := 62) hx hb dX6_kind_52 (by decide) (fun hc => ?_) (fun hc => ?_)
        · replace hm := (if_pos hc).symm.trans hm
          refine lv_iload hx hb dX6_kind_62 (lv_at hl 0 rfl) ?_
          exact endI X hK hr rfl hlocks hm hP hS dX6_kind_64
        · replace hm := (if_neg hc).symm.trans hm
          refine lv_aload_n hx hb dX6_kind_55 rfl (lv_at hl 1 rfl) ?_
          refine gC_X6_plan X hK hP iX6 (List.mem_of_getElem? (i := 2) rfl) dX6_kind_56 ?_
          obtain ⟨r5, hr5, hm⟩ := bd_ok hm
          refine callWV (wf := wC a cI cZ) (rest := []) X hK hNW hml hP hS hl.1 (kX2_forget l D a cI cZ hA r4.2 H.size  r5 hr5) (cwV 0 X.2.2.1 gX6_kind_X2_forget rfl rfl rfl (by decide +kernel) ⟨Nat.le_of_ble_eq_true rfl, Nat.le_of_ble_eq_true rfl⟩) (vC_X2 hK hP) rfl rfl (Nat.le_of_ble_eq_true rfl) dX6_kind_59 ⟨Nat.zero_le _, Nat.zero_le _⟩ (fun H locs hP hS => ?_)
          refine lv_iload hx hb dX6_kind_62 (lv_at hl 0 rfl) ?_
          exact endI X hK hr rfl hlocks hm hP hS dX6_kind_64
      · replace hm := (if_pos hc).symm.trans hm
        refine lv_bipush (v := (-3 : Int32)) hx hb dX6_kind_31 (by decide) ?_
        exact endI X hK hr rfl hlocks hm hP hS dX6_kind_33

def rmX6_value : Room := { frames := 2, cells := 0, slots := 0, locals := 40 }
set_option maxHeartbeats 4000000 in
set_option maxRecDepth 100000 in
theorem kX6_value (l : Launch) (D : va_G) (a : Nat → Nat) (cI cZ : ClassId) (hA : AP 24 a) (S : ST) (sz : Nat) (p1 : Int32) (p2 : Int32) (res : Int32 × ST) (hm : mX6_value S p1 p2 = some res) : Met l yX6_value wsX6_value rmX6_value (va_Pc [.ref (a 0), .int p1, .int p2] (PreW (wC a cI cZ S) D cI cZ sz)) (va_Qi (fun (r : Int32) (T : ST) => (r, T) = res) (PostW (wC a cI cZ) D cI cZ) (AC 24 a sz)) 0 0 (AC 24 a sz) := by
  refine metB (cc := cX6_value) (maxL := 4) (ret := (some .int)) (by decide) rfl (Nat.le_of_ble_eq_true rfl) ?_
  intro p e s m below meth c ls X hml hr hlocks hin hv hl
  replace X : CX p m c cX6_value s ([.ref (a 0), .int p1, .int p2] : List Value).toArray wsX6_value RX6 := X
  obtain ⟨hsz, hP, hK, hNW⟩ := hv
  subst hsz
  have hS : va_S (AC 24 a s.heap.size) s.heap s.heap [] := va_S.rf
  have hx := X.1
  have hb := X.2.1
  replace hl : lv_has ls 4 [(0, .ref (a 0)), (1, .int p1), (2, .int p2)] := hl
  have iX6 : ∀ w ∈ wsX60, w ∈ wsX6_value := fun w h => List.mem_cons_of_mem _ (List.mem_append_left _ (List.mem_append_left _ (List.mem_append_left _ (List.mem_append_right _ h))))
  have iX1 : ∀ w ∈ wsX10, w ∈ wsX6_value := fun w h => List.mem_cons_of_mem _ (List.mem_append_left _ (List.mem_append_left _ (List.mem_append_right _ h)))
  have iX2 : ∀ w ∈ wsX20, w ∈ wsX6_value := fun w h => List.mem_cons_of_mem _ (List.mem_append_left _ (List.mem_append_right _ h))
  have iX5 : ∀ w ∈ wsX50, w ∈ wsX6_value := fun w h => List.mem_cons_of_mem _ (List.mem_append_right _ h)
  suffices kS : ∀ (H : Heap) (locs : List Loc), va_P D vwCl (wC a cI cZ S) H → va_S (AC 24 a s.heap.size) s.heap H locs → W p l e rmX6_value s m ([.ref (a 0), .int p1, .int p2] : List Value).toArray below meth c H locs 0 0 (MQ below (va_Qi (fun (r : Int32) (T : ST) => (r, T) = res) (PostW (wC a cI cZ) D cI cZ) (AC 24 a s.heap.size)) ([.ref (a 0), .int p1, .int p2] : List Value).toArray s 0 0 (AC 24 a s.heap.size)) (F0 m 0 ls []) by exact kS s.heap [] hP hS
  intro H locs hP hS
  unfold mX6_value at hm
  refine lv_iload_n hx hb dX6_value_0 rfl (lv_at hl 1 rfl) ?_
  refine lv_iconst (v := (0 : Int32)) hx hb dX6_value_1 (by decide) ?_
  refine lv_aload_n hx hb dX6_value_2 rfl (lv_at hl 0 rfl) ?_
  refine gC_X6_kinds X hK hP iX6 (List.mem_of_getElem? (i := 1) rfl) dX6_value_3 ?_
  refine gC_X1_count X hK hP iX1 (List.mem_of_getElem? (i := 2) rfl) dX6_value_6 ?_
  refine lv_iconst (v := (1 : Int32)) hx hb dX6_value_9 (by decide) ?_
  refine lv_isub hx hb dX6_value_10 ?_
  obtain ⟨r1, hr1, hm⟩ := bd_ok hm
  refine callRS (rest := []) X hml hl.1 (kX6_within l p1 (0 : Int32) ((S.1 6) - (1 : Int32)) r1 hr1) (va_cwS 3 X.2.2.1 gX6_value_X6_within rfl rfl rfl (by decide +kernel) ⟨Nat.le_of_ble_eq_true rfl, Nat.le_of_ble_eq_true rfl⟩) rfl rfl (Nat.le_of_ble_eq_true rfl) dX6_value_11 ⟨Nat.zero_le _, Nat.zero_le _⟩ ?_
  refine lv_if_ne (tgt := 20) hx hb dX6_value_14 (by decide) (fun hc => ?_) (fun hc => ?_)
  · replace hm := (if_neg hc).symm.trans hm
    refine lv_iload_n hx hb dX6_value_20 rfl (lv_at hl 2 rfl) ?_
    refine lv_iconst (v := (1 : Int32)) hx hb dX6_value_21 (by decide) ?_
    refine lv_sipush (v := (1000 : Int32)) hx hb dX6_value_22 (by decide) ?_
    obtain ⟨r2, hr2, hm⟩ := bd_ok hm
    refine callRS (rest := []) X hml hl.1 (kX6_within l p2 (1 : Int32) (1000 : Int32) r2 hr2) (va_cwS 3 X.2.2.1 gX6_value_X6_within rfl rfl rfl (by decide +kernel) ⟨Nat.le_of_ble_eq_true rfl, Nat.le_of_ble_eq_true rfl⟩) rfl rfl (Nat.le_of_ble_eq_true rfl) dX6_value_25 ⟨Nat.zero_le _, Nat.zero_le _⟩ ?_
    refine lv_if_ne (tgt := 34) hx hb dX6_value_28 (by decide) (fun hc => ?_) (fun hc => ?_)
    · replace hm := (if_neg hc).symm.trans hm
      refine lv_aload_n hx hb dX6_value_34 rfl (lv_at hl 0 rfl) ?_
      refine gC_X6_kinds X hK hP iX6 (List.mem_of_getElem? (i := 1) rfl) dX6_value_35 ?_
      refine gC_X1_values X hK hP iX1 (List.mem_of_getElem? (i := 3) rfl) dX6_value_38 ?_
      refine lv_iload_n hx hb dX6_value_41 rfl (lv_at hl 1 rfl) ?_
      obtain ⟨h1, hm⟩ := gd_ok hm
      refine rC_X1_values X hK hP h1 dX6_value_42 ?_
      refine lv_istore_n (lv' := [(3, .int (S.2 3 p1.toNatClampNeg)), (0, .ref (a 0)), (1, .int p1), (2, .int p2)]) hx hb dX6_value_43 rfl hl (by decide) rfl (fun ls hl => ?_)
      refine lv_aload_n hx hb dX6_value_44 rfl (lv_at hl 1 rfl) ?_
      refine gC_X6_kinds X hK hP iX6 (List.mem_of_getElem? (i := 1) rfl) dX6_value_45 ?_
      refine gC_X1_values X hK hP iX1 (List.mem_of_getElem? (i := 3) rfl) dX6_value_48 ?_
      refine lv_iload_n hx hb dX6_value_51 rfl (lv_at hl 2 rfl) ?_
      refine lv_iload_n hx hb dX6_value_52 rfl (lv_at hl 3 rfl) ?_
      obtain ⟨h1, hm⟩ := gd_ok hm
      refine sC_X1_values X hK hA hP hS h1 dX6_value_53 (fun H locs hP hS => ?_)
      refine lv_aload_n hx hb dX6_value_54 rfl (lv_at hl 1 rfl) ?_
      refine gC_X6_plan X hK hP iX6 (List.mem_of_getElem? (i := 4) rfl) dX6_value_55 ?_
      obtain ⟨r3, hr3, hm⟩ := bd_ok hm
      refine callWV (wf := wC a cI cZ) (rest := []) X hK hNW hml hP hS hl.1 (kX2_forget l D a cI cZ hA (sG S 3 p1 p2) H.size  r3 hr3) (cwV 0 X.2.2.1 gX6_value_X2_forget rfl rfl rfl (by decide +kernel) ⟨Nat.le_of_ble_eq_true rfl, Nat.le_of_ble_eq_true rfl⟩) (vC_X2 hK hP) rfl rfl (Nat.le_of_ble_eq_true rfl) dX6_value_58 ⟨Nat.zero_le _, Nat.zero_le _⟩ (fun H locs hP hS => ?_)
      refine lv_iload_n hx hb dX6_value_61 rfl (lv_at hl 0 rfl) ?_
      exact endI X hK hr rfl hlocks hm hP hS dX6_value_62
    · replace hm := (if_pos hc).symm.trans hm
      refine lv_bipush (v := (-3 : Int32)) hx hb dX6_value_31 (by decide) ?_
      exact endI X hK hr rfl hlocks hm hP hS dX6_value_33
  · replace hm := (if_pos hc).symm.trans hm
    refine lv_bipush (v := (-2 : Int32)) hx hb dX6_value_17 (by decide) ?_
    exact endI X hK hr rfl hlocks hm hP hS dX6_value_19

def rmX6_worth : Room := { frames := 5, cells := 0, slots := 0, locals := 126 }
set_option maxHeartbeats 4000000 in
set_option maxRecDepth 100000 in
theorem kX6_worth (l : Launch) (D : va_G) (a : Nat → Nat) (cI cZ : ClassId) (hA : AP 24 a) (S : ST) (sz : Nat) (p1 : Int32) (p2 : Int32) (p3 : Int32) (p4 : Int32) (p5 : Int32) (res : Int32 × ST) (hm : mX6_worth S p1 p2 p3 p4 p5 = some res) : Met l yX6_worth wsX6_worth rmX6_worth (va_Pc [.ref (a 0), .int p1, .int p2, .int p3, .int p4, .int p5] (PreW (wC a cI cZ S) D cI cZ sz)) (va_Qi (fun (r : Int32) (T : ST) => (r, T) = res) (PostW (wC a cI cZ) D cI cZ) (AC 24 a sz)) 0 0 (AC 24 a sz) := by
  refine metB (cc := cX6_worth) (maxL := 6) (ret := (some .int)) (by decide) rfl (Nat.le_of_ble_eq_true rfl) ?_
  intro p e s m below meth c ls X hml hr hlocks hin hv hl
  replace X : CX p m c cX6_worth s ([.ref (a 0), .int p1, .int p2, .int p3, .int p4, .int p5] : List Value).toArray wsX6_worth RX6 := X
  obtain ⟨hsz, hP, hK, hNW⟩ := hv
  subst hsz
  have hS : va_S (AC 24 a s.heap.size) s.heap s.heap [] := va_S.rf
  have hx := X.1
  have hb := X.2.1
  replace hl : lv_has ls 6 [(0, .ref (a 0)), (1, .int p1), (2, .int p2), (3, .int p3), (4, .int p4), (5, .int p5)] := hl
  have iX6 : ∀ w ∈ wsX60, w ∈ wsX6_worth := fun w h => List.mem_cons_of_mem _ (List.mem_append_left _ (List.mem_append_left _ (List.mem_append_left _ (List.mem_append_right _ h))))
  have iX4 : ∀ w ∈ wsX40, w ∈ wsX6_worth := fun w h => List.mem_cons_of_mem _ (List.mem_append_left _ (List.mem_append_left _ (List.mem_append_right _ h)))
  have iX5 : ∀ w ∈ wsX50, w ∈ wsX6_worth := fun w h => List.mem_cons_of_mem _ (List.mem_append_left _ (List.mem_append_right _ h))
  have iX1 : ∀ w ∈ wsX10, w ∈ wsX6_worth := fun w h => List.mem_cons_of_mem _ (List.mem_append_right _ h)
  suffices kS : ∀ (H : Heap) (locs : List Loc), va_P D vwCl (wC a cI cZ S) H → va_S (AC 24 a s.heap.size) s.heap H locs → W p l e rmX6_worth s m ([.ref (a 0), .int p1, .int p2, .int p3, .int p4, .int p5] : List Value).toArray below meth c H locs 0 0 (MQ below (va_Qi (fun (r : Int32) (T : ST) => (r, T) = res) (PostW (wC a cI cZ) D cI cZ) (AC 24 a s.heap.size)) ([.ref (a 0), .int p1, .int p2, .int p3, .int p4, .int p5] : List Value).toArray s 0 0 (AC 24 a s.heap.size)) (F0 m 0 ls []) by exact kS s.heap [] hP hS
  intro H locs hP hS
  unfold mX6_worth at hm
  refine lv_aload_n hx hb dX6_worth_0 rfl (lv_at hl 0 rfl) ?_
  refine gC_X6_sheet X hK hP iX6 (List.mem_of_getElem? (i := 1) rfl) dX6_worth_1 ?_
  refine lv_iload_n hx hb dX6_worth_4 rfl (lv_at hl 1 rfl) ?_
  refine lv_iload_n hx hb dX6_worth_5 rfl (lv_at hl 2 rfl) ?_
  refine lv_iload_n hx hb dX6_worth_6 rfl (lv_at hl 3 rfl) ?_
  refine lv_iload hx hb dX6_worth_7 (lv_at hl 4 rfl) ?_
  obtain ⟨r1, hr1, hm⟩ := bd_ok hm
  refine callRV (rest := []) X hK hNW hml hP hl.1 (kX4_holds l D a cI cZ S p1 p2 p3 p4 r1 hr1) (cwV 4 X.2.2.1 gX6_worth_X4_holds rfl rfl rfl (by decide +kernel) ⟨Nat.le_of_ble_eq_true rfl, Nat.le_of_ble_eq_true rfl⟩) (vC_X4 hK hP) rfl rfl (Nat.le_of_ble_eq_true rfl) dX6_worth_9 ⟨Nat.zero_le _, Nat.zero_le _⟩ ?_
  refine lv_if_eq (tgt := 31) hx hb dX6_worth_12 (by decide) (fun hc => ?_) (fun hc => ?_)
  · replace hm := (if_pos hc).symm.trans hm
    refine lv_bipush (v := (-3 : Int32)) hx hb dX6_worth_31 (by decide) ?_
    exact endI X hK hr rfl hlocks hm hP hS dX6_worth_33
  · replace hm := (if_neg hc).symm.trans hm
    refine lv_iload hx hb dX6_worth_15 (lv_at hl 5 rfl) ?_
    refine lv_iconst (v := (1 : Int32)) hx hb dX6_worth_17 (by decide) ?_
    refine lv_aload_n hx hb dX6_worth_18 rfl (lv_at hl 0 rfl) ?_
    refine gC_X6_sheet X hK hP iX6 (List.mem_of_getElem? (i := 1) rfl) dX6_worth_19 ?_
    refine gC_X4_stages X hK hP iX4 (List.mem_of_getElem? (i := 2) rfl) dX6_worth_22 ?_
    obtain ⟨r2, hr2, hm⟩ := bd_ok hm
    refine callRS (rest := []) X hml hl.1 (kX6_within l p5 (1 : Int32) (S.1 3) r2 hr2) (va_cwS 3 X.2.2.1 gX6_worth_X6_within rfl rfl rfl (by decide +kernel) ⟨Nat.le_of_ble_eq_true rfl, Nat.le_of_ble_eq_true rfl⟩) rfl rfl (Nat.le_of_ble_eq_true rfl) dX6_worth_25 ⟨Nat.zero_le _, Nat.zero_le _⟩ ?_
    refine lv_if_ne (tgt := 34) hx hb dX6_worth_28 (by decide) (fun hc => ?_) (fun hc => ?_)
    · replace hm := (if_neg hc).symm.trans hm
      refine lv_aload_n hx hb dX6_worth_34 rfl (lv_at hl 0 rfl) ?_
      refine gC_X6_worths X hK hP iX6 (List.mem_of_getElem? (i := 3) rfl) dX6_worth_35 ?_
      obtain ⟨r3, hr3, hm⟩ := bd_ok hm
      refine callWV (wf := wC a cI cZ) (rest := []) X hK hNW hml hP hS hl.1 (kX5_makeReady l D a cI cZ hA S H.size  r3 hr3) (cwV 0 X.2.2.1 gX6_worth_X5_makeReady rfl rfl rfl (by decide +kernel) ⟨Nat.le_of_ble_eq_true rfl, Nat.le_of_ble_eq_true rfl⟩) (vC_X5 hK hP) rfl rfl (Nat.le_of_ble_eq_true rfl) dX6_worth_38 ⟨Nat.zero_le _, Nat.zero_le _⟩ (fun H locs hP hS => ?_)
      refine lv_aload_n hx hb dX6_worth_41 rfl (lv_at hl 0 rfl) ?_
      refine gC_X6_worths X hK hP iX6 (List.mem_of_getElem? (i := 3) rfl) dX6_worth_42 ?_
      refine lv_iload_n hx hb dX6_worth_45 rfl (lv_at hl 1 rfl) ?_
      refine lv_iload_n hx hb dX6_worth_46 rfl (lv_at hl 2 rfl) ?_
      refine lv_iload_n hx hb dX6_worth_47 rfl (lv_at hl 3 rfl) ?_
      refine lv_iload hx hb dX6_worth_48 (lv_at hl 4 rfl) ?_
      refine lv_iload hx hb dX6_worth_50 (lv_at hl 5 rfl) ?_
      obtain ⟨r4, hr4, hm⟩ := bd_ok hm
      refine callRV (rest := []) X hK hNW hml hP hl.1 (kX5_of l D a cI cZ r3 p1 p2 p3 p4 p5 r4 hr4) (cwV 5 X.2.2.1 gX6_worth_X5_of rfl rfl rfl (by decide +kernel) ⟨Nat.le_of_ble_eq_true rfl, Nat.le_of_ble_eq_true rfl⟩) (vC_X5 hK hP) rfl rfl (Nat.le_of_ble_eq_true rfl) dX6_worth_52 ⟨Nat.zero_le _, Nat.zero_le _⟩ ?_
      exact endI X hK hr rfl hlocks hm hP hS dX6_worth_55
    · replace hm := (if_pos hc).symm.trans hm
      refine lv_bipush (v := (-3 : Int32)) hx hb dX6_worth_31 (by decide) ?_
      exact endI X hK hr rfl hlocks hm hP hS dX6_worth_33

def rmX6_pieces : Room := { frames := 92, cells := 0, slots := 0, locals := 2649 }
set_option maxHeartbeats 4000000 in
set_option maxRecDepth 100000 in
theorem kX6_pieces (l : Launch) (D : va_G) (a : Nat → Nat) (cI cZ : ClassId) (hA : AP 24 a) (S : ST) (sz : Nat)  (res : Int32 × ST) (hm : mX6_pieces S  = some res) : Met l yX6_pieces wsX6_pieces rmX6_pieces (va_Pc [.ref (a 0)] (PreW (wC a cI cZ S) D cI cZ sz)) (va_Qi (fun (r : Int32) (T : ST) => (r, T) = res) (PostW (wC a cI cZ) D cI cZ) (AC 24 a sz)) 0 0 (AC 24 a sz) := by
  refine metB (cc := cX6_pieces) (maxL := 1) (ret := (some .int)) (by decide) rfl (Nat.le_of_ble_eq_true rfl) ?_
  intro p e s m below meth c ls X hml hr hlocks hin hv hl
  replace X : CX p m c cX6_pieces s ([.ref (a 0)] : List Value).toArray wsX6_pieces RX6 := X
  obtain ⟨hsz, hP, hK, hNW⟩ := hv
  subst hsz
  have hS : va_S (AC 24 a s.heap.size) s.heap s.heap [] := va_S.rf
  have hx := X.1
  have hb := X.2.1
  replace hl : lv_has ls 1 [(0, .ref (a 0))] := hl
  have iX6 : ∀ w ∈ wsX60, w ∈ wsX6_pieces := fun w h => List.mem_cons_of_mem _ (List.mem_append_left _ (List.mem_append_left _ (List.mem_append_left _ (List.mem_append_left _ (List.mem_append_right _ h)))))
  have iX2 : ∀ w ∈ wsX20, w ∈ wsX6_pieces := fun w h => List.mem_cons_of_mem _ (List.mem_append_left _ (List.mem_append_left _ (List.mem_append_left _ (List.mem_append_right _ h))))
  have iX4 : ∀ w ∈ wsX40, w ∈ wsX6_pieces := fun w h => List.mem_cons_of_mem _ (List.mem_append_left _ (List.mem_append_left _ (List.mem_append_right _ h)))
  have iX5 : ∀ w ∈ wsX50, w ∈ wsX6_pieces := fun w h => List.mem_cons_of_mem _ (List.mem_append_left _ (List.mem_append_right _ h))
  have iX1 : ∀ w ∈ wsX10, w ∈ wsX6_pieces := fun w h => List.mem_cons_of_mem _ (List.mem_append_right _ h)
  suffices kS : ∀ (H : Heap) (locs : List Loc), va_P D vwCl (wC a cI cZ S) H → va_S (AC 24 a s.heap.size) s.heap H locs → W p l e rmX6_pieces s m ([.ref (a 0)] : List Value).toArray below meth c H locs 0 0 (MQ below (va_Qi (fun (r : Int32) (T : ST) => (r, T) = res) (PostW (wC a cI cZ) D cI cZ) (AC 24 a s.heap.size)) ([.ref (a 0)] : List Value).toArray s 0 0 (AC 24 a s.heap.size)) (F0 m 0 ls []) by exact kS s.heap [] hP hS
  intro H locs hP hS
  unfold mX6_pieces at hm
  refine lv_aload_n hx hb dX6_pieces_0 rfl (lv_at hl 0 rfl) ?_
  refine gC_X6_plan X hK hP iX6 (List.mem_of_getElem? (i := 1) rfl) dX6_pieces_1 ?_
  obtain ⟨r1, hr1, hm⟩ := bd_ok hm
  refine callWV (wf := wC a cI cZ) (rest := []) X hK hNW hml hP hS hl.1 (kX2_makeReady l D a cI cZ hA S H.size  r1 hr1) (cwV 0 X.2.2.1 gX6_pieces_X2_makeReady rfl rfl rfl (by decide +kernel) ⟨Nat.le_of_ble_eq_true rfl, Nat.le_of_ble_eq_true rfl⟩) (vC_X2 hK hP) rfl rfl (Nat.le_of_ble_eq_true rfl) dX6_pieces_4 ⟨Nat.zero_le _, Nat.zero_le _⟩ (fun H locs hP hS => ?_)
  refine lv_aload_n hx hb dX6_pieces_7 rfl (lv_at hl 0 rfl) ?_
  refine gC_X6_plan X hK hP iX6 (List.mem_of_getElem? (i := 1) rfl) dX6_pieces_8 ?_
  refine gC_X2_pieceCount X hK hP iX2 (List.mem_of_getElem? (i := 2) rfl) dX6_pieces_11 ?_
  exact endI X hK hr rfl hlocks hm hP hS dX6_pieces_14

def rmX6_piece : Room := { frames := 92, cells := 0, slots := 0, locals := 2649 }
set_option maxHeartbeats 4000000 in
set_option maxRecDepth 100000 in
theorem kX6_piece (l : Launch) (D : va_G) (a : Nat → Nat) (cI cZ : ClassId) (hA : AP 24 a) (S : ST) (sz : Nat) (p1 : Int32) (p2 : Int32) (res : Int32 × ST) (hm : mX6_piece S p1 p2 = some res) : Met l yX6_piece wsX6_piece rmX6_piece (va_Pc [.ref (a 0), .int p1, .int p2] (PreW (wC a cI cZ S) D cI cZ sz)) (va_Qi (fun (r : Int32) (T : ST) => (r, T) = res) (PostW (wC a cI cZ) D cI cZ) (AC 24 a sz)) 0 0 (AC 24 a sz) := by
  refine metB (cc := cX6_piece) (maxL := 3) (ret := (some .int)) (by decide) rfl (Nat.le_of_ble_eq_true rfl) ?_
  intro p e s m below meth c ls X hml hr hlocks hin hv hl
  replace X : CX p m c cX6_piece s ([.ref (a 0), .int p1, .int p2] : List Value).toArray wsX6_piece RX6 := X
  obtain ⟨hsz, hP, hK, hNW⟩ := hv
  subst hsz
  have hS : va_S (AC 24 a s.heap.size) s.heap s.heap [] := va_S.rf
  have hx := X.1
  have hb := X.2.1
  replace hl : lv_has ls 3 [(0, .ref (a 0)), (1, .int p1), (2, .int p2)] := hl
  have iX6 : ∀ w ∈ wsX60, w ∈ wsX6_piece := fun w h => List.mem_cons_of_mem _ (List.mem_append_left _ (List.mem_append_left _ (List.mem_append_left _ (List.mem_append_left _ (List.mem_append_right _ h)))))
  have iX2 : ∀ w ∈ wsX20, w ∈ wsX6_piece := fun w h => List.mem_cons_of_mem _ (List.mem_append_left _ (List.mem_append_left _ (List.mem_append_left _ (List.mem_append_right _ h))))
  have iX4 : ∀ w ∈ wsX40, w ∈ wsX6_piece := fun w h => List.mem_cons_of_mem _ (List.mem_append_left _ (List.mem_append_left _ (List.mem_append_right _ h)))
  have iX5 : ∀ w ∈ wsX50, w ∈ wsX6_piece := fun w h => List.mem_cons_of_mem _ (List.mem_append_left _ (List.mem_append_right _ h))
  have iX1 : ∀ w ∈ wsX10, w ∈ wsX6_piece := fun w h => List.mem_cons_of_mem _ (List.mem_append_right _ h)
  suffices kS : ∀ (H : Heap) (locs : List Loc), va_P D vwCl (wC a cI cZ S) H → va_S (AC 24 a s.heap.size) s.heap H locs → W p l e rmX6_piece s m ([.ref (a 0), .int p1, .int p2] : List Value).toArray below meth c H locs 0 0 (MQ below (va_Qi (fun (r : Int32) (T : ST) => (r, T) = res) (PostW (wC a cI cZ) D cI cZ) (AC 24 a s.heap.size)) ([.ref (a 0), .int p1, .int p2] : List Value).toArray s 0 0 (AC 24 a s.heap.size)) (F0 m 0 ls []) by exact kS s.heap [] hP hS
  intro H locs hP hS
  unfold mX6_piece at hm
  refine lv_iload_n hx hb dX6_piece_0 rfl (lv_at hl 2 rfl) ?_
  refine lv_iconst (v := (0 : Int32)) hx hb dX6_piece_1 (by decide) ?_
  refine lv_iconst (v := (5 : Int32)) hx hb dX6_piece_2 (by decide) ?_
  obtain ⟨r1, hr1, hm⟩ := bd_ok hm
  refine callRS (rest := []) X hml hl.1 (kX6_within l p2 (0 : Int32) (5 : Int32) r1 hr1) (va_cwS 3 X.2.2.1 gX6_piece_X6_within rfl rfl rfl (by decide +kernel) ⟨Nat.le_of_ble_eq_true rfl, Nat.le_of_ble_eq_true rfl⟩) rfl rfl (Nat.le_of_ble_eq_true rfl) dX6_piece_3 ⟨Nat.zero_le _, Nat.zero_le _⟩ ?_
  refine lv_if_ne (tgt := 12) hx hb dX6_piece_6 (by decide) (fun hc => ?_) (fun hc => ?_)
  · replace hm := (if_neg hc).symm.trans hm
    refine lv_aload_n hx hb dX6_piece_12 rfl (lv_at hl 0 rfl) ?_
    refine gC_X6_plan X hK hP iX6 (List.mem_of_getElem? (i := 1) rfl) dX6_piece_13 ?_
    obtain ⟨r2, hr2, hm⟩ := bd_ok hm
    refine callWV (wf := wC a cI cZ) (rest := []) X hK hNW hml hP hS hl.1 (kX2_makeReady l D a cI cZ hA S H.size  r2 hr2) (cwV 0 X.2.2.1 gX6_piece_X2_makeReady rfl rfl rfl (by decide +kernel) ⟨Nat.le_of_ble_eq_true rfl, Nat.le_of_ble_eq_true rfl⟩) (vC_X2 hK hP) rfl rfl (Nat.le_of_ble_eq_true rfl) dX6_piece_16 ⟨Nat.zero_le _, Nat.zero_le _⟩ (fun H locs hP hS => ?_)
    refine lv_iload_n hx hb dX6_piece_19 rfl (lv_at hl 1 rfl) ?_
    refine lv_iconst (v := (0 : Int32)) hx hb dX6_piece_20 (by decide) ?_
    refine lv_aload_n hx hb dX6_piece_21 rfl (lv_at hl 0 rfl) ?_
    refine gC_X6_plan X hK hP iX6 (List.mem_of_getElem? (i := 1) rfl) dX6_piece_22 ?_
    refine gC_X2_pieceCount X hK hP iX2 (List.mem_of_getElem? (i := 2) rfl) dX6_piece_25 ?_
    refine lv_iconst (v := (1 : Int32)) hx hb dX6_piece_28 (by decide) ?_
    refine lv_isub hx hb dX6_piece_29 ?_
    obtain ⟨r3, hr3, hm⟩ := bd_ok hm
    refine callRS (rest := []) X hml hl.1 (kX6_within l p1 (0 : Int32) ((r2.1 8) - (1 : Int32)) r3 hr3) (va_cwS 3 X.2.2.1 gX6_piece_X6_within rfl rfl rfl (by decide +kernel) ⟨Nat.le_of_ble_eq_true rfl, Nat.le_of_ble_eq_true rfl⟩) rfl rfl (Nat.le_of_ble_eq_true rfl) dX6_piece_30 ⟨Nat.zero_le _, Nat.zero_le _⟩ ?_
    refine lv_if_eq (tgt := 53) hx hb dX6_piece_33 (by decide) (fun hc => ?_) (fun hc => ?_)
    · replace hm := (if_pos hc).symm.trans hm
      refine lv_iconst (v := (-1 : Int32)) hx hb dX6_piece_53 (by decide) ?_
      exact endI X hK hr rfl hlocks hm hP hS dX6_piece_54
    · replace hm := (if_neg hc).symm.trans hm
      refine lv_aload_n hx hb dX6_piece_36 rfl (lv_at hl 0 rfl) ?_
      refine gC_X6_plan X hK hP iX6 (List.mem_of_getElem? (i := 1) rfl) dX6_piece_37 ?_
      refine gC_X2_pieceFacts X hK hP iX2 (List.mem_of_getElem? (i := 3) rfl) dX6_piece_40 ?_
      refine lv_iload_n hx hb dX6_piece_43 rfl (lv_at hl 1 rfl) ?_
      refine lv_bipush (v := (6 : Int32)) hx hb dX6_piece_44 (by decide) ?_
      refine lv_imul hx hb dX6_piece_46 ?_
      refine lv_iload_n hx hb dX6_piece_47 rfl (lv_at hl 2 rfl) ?_
      refine lv_iadd hx hb dX6_piece_48 ?_
      obtain ⟨h1, hm⟩ := gd_ok hm
      refine rC_X2_pieceFacts X hK hP h1 dX6_piece_49 ?_
      refine lv_goto (tgt := 54) hx hb dX6_piece_50 (by decide) ?_
      exact endI X hK hr rfl hlocks hm hP hS dX6_piece_54
  · replace hm := (if_pos hc).symm.trans hm
    refine lv_bipush (v := (-3 : Int32)) hx hb dX6_piece_9 (by decide) ?_
    exact endI X hK hr rfl hlocks hm hP hS dX6_piece_11

def rmX6_cuts : Room := { frames := 92, cells := 0, slots := 0, locals := 2649 }
set_option maxHeartbeats 4000000 in
set_option maxRecDepth 100000 in
theorem kX6_cuts (l : Launch) (D : va_G) (a : Nat → Nat) (cI cZ : ClassId) (hA : AP 24 a) (S : ST) (sz : Nat)  (res : Int32 × ST) (hm : mX6_cuts S  = some res) : Met l yX6_cuts wsX6_cuts rmX6_cuts (va_Pc [.ref (a 0)] (PreW (wC a cI cZ S) D cI cZ sz)) (va_Qi (fun (r : Int32) (T : ST) => (r, T) = res) (PostW (wC a cI cZ) D cI cZ) (AC 24 a sz)) 0 0 (AC 24 a sz) := by
  refine metB (cc := cX6_cuts) (maxL := 1) (ret := (some .int)) (by decide) rfl (Nat.le_of_ble_eq_true rfl) ?_
  intro p e s m below meth c ls X hml hr hlocks hin hv hl
  replace X : CX p m c cX6_cuts s ([.ref (a 0)] : List Value).toArray wsX6_cuts RX6 := X
  obtain ⟨hsz, hP, hK, hNW⟩ := hv
  subst hsz
  have hS : va_S (AC 24 a s.heap.size) s.heap s.heap [] := va_S.rf
  have hx := X.1
  have hb := X.2.1
  replace hl : lv_has ls 1 [(0, .ref (a 0))] := hl
  have iX6 : ∀ w ∈ wsX60, w ∈ wsX6_cuts := fun w h => List.mem_cons_of_mem _ (List.mem_append_left _ (List.mem_append_left _ (List.mem_append_left _ (List.mem_append_left _ (List.mem_append_right _ h)))))
  have iX2 : ∀ w ∈ wsX20, w ∈ wsX6_cuts := fun w h => List.mem_cons_of_mem _ (List.mem_append_left _ (List.mem_append_left _ (List.mem_append_left _ (List.mem_append_right _ h))))
  have iX4 : ∀ w ∈ wsX40, w ∈ wsX6_cuts := fun w h => List.mem_cons_of_mem _ (List.mem_append_left _ (List.mem_append_left _ (List.mem_append_right _ h)))
  have iX5 : ∀ w ∈ wsX50, w ∈ wsX6_cuts := fun w h => List.mem_cons_of_mem _ (List.mem_append_left _ (List.mem_append_right _ h))
  have iX1 : ∀ w ∈ wsX10, w ∈ wsX6_cuts := fun w h => List.mem_cons_of_mem _ (List.mem_append_right _ h)
  suffices kS : ∀ (H : Heap) (locs : List Loc), va_P D vwCl (wC a cI cZ S) H → va_S (AC 24 a s.heap.size) s.heap H locs → W p l e rmX6_cuts s m ([.ref (a 0)] : List Value).toArray below meth c H locs 0 0 (MQ below (va_Qi (fun (r : Int32) (T : ST) => (r, T) = res) (PostW (wC a cI cZ) D cI cZ) (AC 24 a s.heap.size)) ([.ref (a 0)] : List Value).toArray s 0 0 (AC 24 a s.heap.size)) (F0 m 0 ls []) by exact kS s.heap [] hP hS
  intro H locs hP hS
  unfold mX6_cuts at hm
  refine lv_aload_n hx hb dX6_cuts_0 rfl (lv_at hl 0 rfl) ?_
  refine gC_X6_plan X hK hP iX6 (List.mem_of_getElem? (i := 1) rfl) dX6_cuts_1 ?_
  obtain ⟨r1, hr1, hm⟩ := bd_ok hm
  refine callWV (wf := wC a cI cZ) (rest := []) X hK hNW hml hP hS hl.1 (kX2_makeReady l D a cI cZ hA S H.size  r1 hr1) (cwV 0 X.2.2.1 gX6_cuts_X2_makeReady rfl rfl rfl (by decide +kernel) ⟨Nat.le_of_ble_eq_true rfl, Nat.le_of_ble_eq_true rfl⟩) (vC_X2 hK hP) rfl rfl (Nat.le_of_ble_eq_true rfl) dX6_cuts_4 ⟨Nat.zero_le _, Nat.zero_le _⟩ (fun H locs hP hS => ?_)
  refine lv_aload_n hx hb dX6_cuts_7 rfl (lv_at hl 0 rfl) ?_
  refine gC_X6_plan X hK hP iX6 (List.mem_of_getElem? (i := 1) rfl) dX6_cuts_8 ?_
  refine gC_X2_cutCount X hK hP iX2 (List.mem_of_getElem? (i := 2) rfl) dX6_cuts_11 ?_
  exact endI X hK hr rfl hlocks hm hP hS dX6_cuts_14

def rmX6_cut : Room := { frames := 92, cells := 0, slots := 0, locals := 2649 }
set_option maxHeartbeats 4000000 in
set_option maxRecDepth 100000 in
theorem kX6_cut (l : Launch) (D : va_G) (a : Nat → Nat) (cI cZ : ClassId) (hA : AP 24 a) (S : ST) (sz : Nat) (p1 : Int32) (p2 : Int32) (res : Int32 × ST) (hm : mX6_cut S p1 p2 = some res) : Met l yX6_cut wsX6_cut rmX6_cut (va_Pc [.ref (a 0), .int p1, .int p2] (PreW (wC a cI cZ S) D cI cZ sz)) (va_Qi (fun (r : Int32) (T : ST) => (r, T) = res) (PostW (wC a cI cZ) D cI cZ) (AC 24 a sz)) 0 0 (AC 24 a sz) := by
  refine metB (cc := cX6_cut) (maxL := 3) (ret := (some .int)) (by decide) rfl (Nat.le_of_ble_eq_true rfl) ?_
  intro p e s m below meth c ls X hml hr hlocks hin hv hl
  replace X : CX p m c cX6_cut s ([.ref (a 0), .int p1, .int p2] : List Value).toArray wsX6_cut RX6 := X
  obtain ⟨hsz, hP, hK, hNW⟩ := hv
  subst hsz
  have hS : va_S (AC 24 a s.heap.size) s.heap s.heap [] := va_S.rf
  have hx := X.1
  have hb := X.2.1
  replace hl : lv_has ls 3 [(0, .ref (a 0)), (1, .int p1), (2, .int p2)] := hl
  have iX6 : ∀ w ∈ wsX60, w ∈ wsX6_cut := fun w h => List.mem_cons_of_mem _ (List.mem_append_left _ (List.mem_append_left _ (List.mem_append_left _ (List.mem_append_left _ (List.mem_append_right _ h)))))
  have iX2 : ∀ w ∈ wsX20, w ∈ wsX6_cut := fun w h => List.mem_cons_of_mem _ (List.mem_append_left _ (List.mem_append_left _ (List.mem_append_left _ (List.mem_append_right _ h))))
  have iX4 : ∀ w ∈ wsX40, w ∈ wsX6_cut := fun w h => List.mem_cons_of_mem _ (List.mem_append_left _ (List.mem_append_left _ (List.mem_append_right _ h)))
  have iX5 : ∀ w ∈ wsX50, w ∈ wsX6_cut := fun w h => List.mem_cons_of_mem _ (List.mem_append_left _ (List.mem_append_right _ h))
  have iX1 : ∀ w ∈ wsX10, w ∈ wsX6_cut := fun w h => List.mem_cons_of_mem _ (List.mem_append_right _ h)
  suffices kS : ∀ (H : Heap) (locs : List Loc), va_P D vwCl (wC a cI cZ S) H → va_S (AC 24 a s.heap.size) s.heap H locs → W p l e rmX6_cut s m ([.ref (a 0), .int p1, .int p2] : List Value).toArray below meth c H locs 0 0 (MQ below (va_Qi (fun (r : Int32) (T : ST) => (r, T) = res) (PostW (wC a cI cZ) D cI cZ) (AC 24 a s.heap.size)) ([.ref (a 0), .int p1, .int p2] : List Value).toArray s 0 0 (AC 24 a s.heap.size)) (F0 m 0 ls []) by exact kS s.heap [] hP hS
  intro H locs hP hS
  unfold mX6_cut at hm
  refine lv_iload_n hx hb dX6_cut_0 rfl (lv_at hl 2 rfl) ?_
  refine lv_iconst (v := (0 : Int32)) hx hb dX6_cut_1 (by decide) ?_
  refine lv_bipush (v := (6 : Int32)) hx hb dX6_cut_2 (by decide) ?_
  obtain ⟨r1, hr1, hm⟩ := bd_ok hm
  refine callRS (rest := []) X hml hl.1 (kX6_within l p2 (0 : Int32) (6 : Int32) r1 hr1) (va_cwS 3 X.2.2.1 gX6_cut_X6_within rfl rfl rfl (by decide +kernel) ⟨Nat.le_of_ble_eq_true rfl, Nat.le_of_ble_eq_true rfl⟩) rfl rfl (Nat.le_of_ble_eq_true rfl) dX6_cut_4 ⟨Nat.zero_le _, Nat.zero_le _⟩ ?_
  refine lv_if_ne (tgt := 13) hx hb dX6_cut_7 (by decide) (fun hc => ?_) (fun hc => ?_)
  · replace hm := (if_neg hc).symm.trans hm
    refine lv_aload_n hx hb dX6_cut_13 rfl (lv_at hl 0 rfl) ?_
    refine gC_X6_plan X hK hP iX6 (List.mem_of_getElem? (i := 1) rfl) dX6_cut_14 ?_
    obtain ⟨r2, hr2, hm⟩ := bd_ok hm
    refine callWV (wf := wC a cI cZ) (rest := []) X hK hNW hml hP hS hl.1 (kX2_makeReady l D a cI cZ hA S H.size  r2 hr2) (cwV 0 X.2.2.1 gX6_cut_X2_makeReady rfl rfl rfl (by decide +kernel) ⟨Nat.le_of_ble_eq_true rfl, Nat.le_of_ble_eq_true rfl⟩) (vC_X2 hK hP) rfl rfl (Nat.le_of_ble_eq_true rfl) dX6_cut_17 ⟨Nat.zero_le _, Nat.zero_le _⟩ (fun H locs hP hS => ?_)
    refine lv_iload_n hx hb dX6_cut_20 rfl (lv_at hl 1 rfl) ?_
    refine lv_iconst (v := (0 : Int32)) hx hb dX6_cut_21 (by decide) ?_
    refine lv_aload_n hx hb dX6_cut_22 rfl (lv_at hl 0 rfl) ?_
    refine gC_X6_plan X hK hP iX6 (List.mem_of_getElem? (i := 1) rfl) dX6_cut_23 ?_
    refine gC_X2_cutCount X hK hP iX2 (List.mem_of_getElem? (i := 2) rfl) dX6_cut_26 ?_
    refine lv_iconst (v := (1 : Int32)) hx hb dX6_cut_29 (by decide) ?_
    refine lv_isub hx hb dX6_cut_30 ?_
    obtain ⟨r3, hr3, hm⟩ := bd_ok hm
    refine callRS (rest := []) X hml hl.1 (kX6_within l p1 (0 : Int32) ((r2.1 9) - (1 : Int32)) r3 hr3) (va_cwS 3 X.2.2.1 gX6_cut_X6_within rfl rfl rfl (by decide +kernel) ⟨Nat.le_of_ble_eq_true rfl, Nat.le_of_ble_eq_true rfl⟩) rfl rfl (Nat.le_of_ble_eq_true rfl) dX6_cut_31 ⟨Nat.zero_le _, Nat.zero_le _⟩ ?_
    refine lv_if_eq (tgt := 54) hx hb dX6_cut_34 (by decide) (fun hc => ?_) (fun hc => ?_)
    · replace hm := (if_pos hc).symm.trans hm
      refine lv_iconst (v := (-1 : Int32)) hx hb dX6_cut_54 (by decide) ?_
      exact endI X hK hr rfl hlocks hm hP hS dX6_cut_55
    · replace hm := (if_neg hc).symm.trans hm
      refine lv_aload_n hx hb dX6_cut_37 rfl (lv_at hl 0 rfl) ?_
      refine gC_X6_plan X hK hP iX6 (List.mem_of_getElem? (i := 1) rfl) dX6_cut_38 ?_
      refine gC_X2_cutFacts X hK hP iX2 (List.mem_of_getElem? (i := 3) rfl) dX6_cut_41 ?_
      refine lv_iload_n hx hb dX6_cut_44 rfl (lv_at hl 1 rfl) ?_
      refine lv_bipush (v := (7 : Int32)) hx hb dX6_cut_45 (by decide) ?_
      refine lv_imul hx hb dX6_cut_47 ?_
      refine lv_iload_n hx hb dX6_cut_48 rfl (lv_at hl 2 rfl) ?_
      refine lv_iadd hx hb dX6_cut_49 ?_
      obtain ⟨h1, hm⟩ := gd_ok hm
      refine rC_X2_cutFacts X hK hP h1 dX6_cut_50 ?_
      refine lv_goto (tgt := 55) hx hb dX6_cut_51 (by decide) ?_
      exact endI X hK hr rfl hlocks hm hP hS dX6_cut_55
  · replace hm := (if_pos hc).symm.trans hm
    refine lv_bipush (v := (-3 : Int32)) hx hb dX6_cut_10 (by decide) ?_
    exact endI X hK hr rfl hlocks hm hP hS dX6_cut_12

def rmX6_waste : Room := { frames := 92, cells := 0, slots := 0, locals := 2649 }
set_option maxHeartbeats 4000000 in
set_option maxRecDepth 100000 in
theorem kX6_waste (l : Launch) (D : va_G) (a : Nat → Nat) (cI cZ : ClassId) (hA : AP 24 a) (S : ST) (sz : Nat)  (res : Int32 × ST) (hm : mX6_waste S  = some res) : Met l yX6_waste wsX6_waste rmX6_waste (va_Pc [.ref (a 0)] (PreW (wC a cI cZ S) D cI cZ sz)) (va_Qi (fun (r : Int32) (T : ST) => (r, T) = res) (PostW (wC a cI cZ) D cI cZ) (AC 24 a sz)) 0 0 (AC 24 a sz) := by
  refine metB (cc := cX6_waste) (maxL := 1) (ret := (some .int)) (by decide) rfl (Nat.le_of_ble_eq_true rfl) ?_
  intro p e s m below meth c ls X hml hr hlocks hin hv hl
  replace X : CX p m c cX6_waste s ([.ref (a 0)] : List Value).toArray wsX6_waste RX6 := X
  obtain ⟨hsz, hP, hK, hNW⟩ := hv
  subst hsz
  have hS : va_S (AC 24 a s.heap.size) s.heap s.heap [] := va_S.rf
  have hx := X.1
  have hb := X.2.1
  replace hl : lv_has ls 1 [(0, .ref (a 0))] := hl
  have iX6 : ∀ w ∈ wsX60, w ∈ wsX6_waste := fun w h => List.mem_cons_of_mem _ (List.mem_append_left _ (List.mem_append_left _ (List.mem_append_left _ (List.mem_append_left _ (List.mem_append_right _ h)))))
  have iX2 : ∀ w ∈ wsX20, w ∈ wsX6_waste := fun w h => List.mem_cons_of_mem _ (List.mem_append_left _ (List.mem_append_left _ (List.mem_append_left _ (List.mem_append_right _ h))))
  have iX4 : ∀ w ∈ wsX40, w ∈ wsX6_waste := fun w h => List.mem_cons_of_mem _ (List.mem_append_left _ (List.mem_append_left _ (List.mem_append_right _ h)))
  have iX5 : ∀ w ∈ wsX50, w ∈ wsX6_waste := fun w h => List.mem_cons_of_mem _ (List.mem_append_left _ (List.mem_append_right _ h))
  have iX1 : ∀ w ∈ wsX10, w ∈ wsX6_waste := fun w h => List.mem_cons_of_mem _ (List.mem_append_right _ h)
  suffices kS : ∀ (H : Heap) (locs : List Loc), va_P D vwCl (wC a cI cZ S) H → va_S (AC 24 a s.heap.size) s.heap H locs → W p l e rmX6_waste s m ([.ref (a 0)] : List Value).toArray below meth c H locs 0 0 (MQ below (va_Qi (fun (r : Int32) (T : ST) => (r, T) = res) (PostW (wC a cI cZ) D cI cZ) (AC 24 a s.heap.size)) ([.ref (a 0)] : List Value).toArray s 0 0 (AC 24 a s.heap.size)) (F0 m 0 ls []) by exact kS s.heap [] hP hS
  intro H locs hP hS
  unfold mX6_waste at hm
  refine lv_aload_n hx hb dX6_waste_0 rfl (lv_at hl 0 rfl) ?_
  refine gC_X6_plan X hK hP iX6 (List.mem_of_getElem? (i := 1) rfl) dX6_waste_1 ?_
  obtain ⟨r1, hr1, hm⟩ := bd_ok hm
  refine callWV (wf := wC a cI cZ) (rest := []) X hK hNW hml hP hS hl.1 (kX2_makeReady l D a cI cZ hA S H.size  r1 hr1) (cwV 0 X.2.2.1 gX6_waste_X2_makeReady rfl rfl rfl (by decide +kernel) ⟨Nat.le_of_ble_eq_true rfl, Nat.le_of_ble_eq_true rfl⟩) (vC_X2 hK hP) rfl rfl (Nat.le_of_ble_eq_true rfl) dX6_waste_4 ⟨Nat.zero_le _, Nat.zero_le _⟩ (fun H locs hP hS => ?_)
  refine lv_aload_n hx hb dX6_waste_7 rfl (lv_at hl 0 rfl) ?_
  refine gC_X6_plan X hK hP iX6 (List.mem_of_getElem? (i := 1) rfl) dX6_waste_8 ?_
  refine gC_X2_unused X hK hP iX2 (List.mem_of_getElem? (i := 2) rfl) dX6_waste_11 ?_
  exact endI X hK hr rfl hlocks hm hP hS dX6_waste_14

def rmX6_stock : Room := { frames := 1, cells := 0, slots := 0, locals := 22 }
set_option maxHeartbeats 4000000 in
set_option maxRecDepth 100000 in
theorem kX6_stock (l : Launch) (D : va_G) (a : Nat → Nat) (cI cZ : ClassId) (hA : AP 24 a) (S : ST) (sz : Nat) (p1 : Int32) (p2 : Int32) (res : Int32 × ST) (hm : mX6_stock S p1 p2 = some res) : Met l yX6_stock wsX6_stock rmX6_stock (va_Pc [.ref (a 0), .int p1, .int p2] (PreW (wC a cI cZ S) D cI cZ sz)) (va_Qi (fun (r : Int32) (T : ST) => (r, T) = res) (PostW (wC a cI cZ) D cI cZ) (AC 24 a sz)) 0 0 (AC 24 a sz) := by
  refine metB (cc := cX6_stock) (maxL := 4) (ret := (some .int)) (by decide) rfl (Nat.le_of_ble_eq_true rfl) ?_
  intro p e s m below meth c ls X hml hr hlocks hin hv hl
  replace X : CX p m c cX6_stock s ([.ref (a 0), .int p1, .int p2] : List Value).toArray wsX6_stock RX6 := X
  obtain ⟨hsz, hP, hK, hNW⟩ := hv
  subst hsz
  have hS : va_S (AC 24 a s.heap.size) s.heap s.heap [] := va_S.rf
  have hx := X.1
  have hb := X.2.1
  replace hl : lv_has ls 4 [(0, .ref (a 0)), (1, .int p1), (2, .int p2)] := hl
  have iX6 : ∀ w ∈ wsX60, w ∈ wsX6_stock := fun w h => List.mem_cons_of_mem _ (List.mem_append_left _ (List.mem_append_left _ (List.mem_append_right _ h)))
  have iX3 : ∀ w ∈ wsX30, w ∈ wsX6_stock := fun w h => List.mem_cons_of_mem _ (List.mem_append_left _ (List.mem_append_right _ h))
  have iX0 : ∀ w ∈ wsX00, w ∈ wsX6_stock := fun w h => List.mem_cons_of_mem _ (List.mem_append_right _ h)
  suffices kS : ∀ (H : Heap) (locs : List Loc), va_P D vwCl (wC a cI cZ S) H → va_S (AC 24 a s.heap.size) s.heap H locs → W p l e rmX6_stock s m ([.ref (a 0), .int p1, .int p2] : List Value).toArray below meth c H locs 0 0 (MQ below (va_Qi (fun (r : Int32) (T : ST) => (r, T) = res) (PostW (wC a cI cZ) D cI cZ) (AC 24 a s.heap.size)) ([.ref (a 0), .int p1, .int p2] : List Value).toArray s 0 0 (AC 24 a s.heap.size)) (F0 m 0 ls []) by exact kS s.heap [] hP hS
  intro H locs hP hS
  unfold mX6_stock at hm
  refine lv_iload_n hx hb dX6_stock_0 rfl (lv_at hl 1 rfl) ?_
  refine lv_iconst (v := (1 : Int32)) hx hb dX6_stock_1 (by decide) ?_
  refine lv_bipush (v := (99 : Int32)) hx hb dX6_stock_2 (by decide) ?_
  obtain ⟨r1, hr1, hm⟩ := bd_ok hm
  refine callRS (rest := []) X hml hl.1 (kX6_within l p1 (1 : Int32) (99 : Int32) r1 hr1) (va_cwS 3 X.2.2.1 gX6_stock_X6_within rfl rfl rfl (by decide +kernel) ⟨Nat.le_of_ble_eq_true rfl, Nat.le_of_ble_eq_true rfl⟩) rfl rfl (Nat.le_of_ble_eq_true rfl) dX6_stock_4 ⟨Nat.zero_le _, Nat.zero_le _⟩ ?_
  refine lv_if_eq (tgt := 20) hx hb dX6_stock_7 (by decide) (fun hc => ?_) (fun hc => ?_)
  · replace hm := (if_pos hc).symm.trans hm
    refine lv_bipush (v := (-3 : Int32)) hx hb dX6_stock_20 (by decide) ?_
    exact endI X hK hr rfl hlocks hm hP hS dX6_stock_22
  · replace hm := (if_neg hc).symm.trans hm
    refine lv_iload_n hx hb dX6_stock_10 rfl (lv_at hl 2 rfl) ?_
    refine lv_iconst (v := (1 : Int32)) hx hb dX6_stock_11 (by decide) ?_
    refine lv_bipush (v := (100 : Int32)) hx hb dX6_stock_12 (by decide) ?_
    obtain ⟨r2, hr2, hm⟩ := bd_ok hm
    refine callRS (rest := []) X hml hl.1 (kX6_within l p2 (1 : Int32) (100 : Int32) r2 hr2) (va_cwS 3 X.2.2.1 gX6_stock_X6_within rfl rfl rfl (by decide +kernel) ⟨Nat.le_of_ble_eq_true rfl, Nat.le_of_ble_eq_true rfl⟩) rfl rfl (Nat.le_of_ble_eq_true rfl) dX6_stock_14 ⟨Nat.zero_le _, Nat.zero_le _⟩ ?_
    refine lv_if_ne (tgt := 23) hx hb dX6_stock_17 (by decide) (fun hc => ?_) (fun hc => ?_)
    · replace hm := (if_neg hc).symm.trans hm
      refine lv_aload_n hx hb dX6_stock_23 rfl (lv_at hl 0 rfl) ?_
      refine gC_X6_rack X hK hP iX6 (List.mem_of_getElem? (i := 1) rfl) dX6_stock_24 ?_
      refine lv_iload_n hx hb dX6_stock_27 rfl (lv_at hl 1 rfl) ?_
      refine lv_iload_n hx hb dX6_stock_28 rfl (lv_at hl 2 rfl) ?_
      obtain ⟨r3, hr3, hm⟩ := bd_ok hm
      refine callWI (wf := wC a cI cZ) (rest := []) X hK hNW hml hP hS hl.1 (kX3_addStock l D a cI cZ hA S H.size p1 p2 r3 hr3) (cwV 2 X.2.2.1 gX6_stock_X3_addStock rfl rfl rfl (by decide +kernel) ⟨Nat.le_of_ble_eq_true rfl, Nat.le_of_ble_eq_true rfl⟩) (vC_X3 hK hP) rfl rfl (Nat.le_of_ble_eq_true rfl) dX6_stock_29 ⟨Nat.zero_le _, Nat.zero_le _⟩ (fun H locs hP hS => ?_)
      refine lv_istore_n (lv' := [(3, .int r3.1), (0, .ref (a 0)), (1, .int p1), (2, .int p2)]) hx hb dX6_stock_32 rfl hl (by decide) rfl (fun ls hl => ?_)
      refine lv_iload_n hx hb dX6_stock_33 rfl (lv_at hl 0 rfl) ?_
      refine lv_bipush (v := (-4 : Int32)) hx hb dX6_stock_34 (by decide) ?_
      refine lv_icmp_eq (tgt := 46) hx hb dX6_stock_36 (by decide) (fun hc => ?_) (fun hc => ?_)
      · replace hm := (if_pos hc).symm.trans hm
        refine lv_iload_n hx hb dX6_stock_46 rfl (lv_at hl 0 rfl) ?_
        exact endI X hK hr rfl hlocks hm hP hS dX6_stock_47
      · replace hm := (if_neg hc).symm.trans hm
        refine lv_aload_n hx hb dX6_stock_39 rfl (lv_at hl 1 rfl) ?_
        refine gC_X6_list X hK hP iX6 (List.mem_of_getElem? (i := 2) rfl) dX6_stock_40 ?_
        obtain ⟨r4, hr4, hm⟩ := bd_ok hm
        refine callWV (wf := wC a cI cZ) (rest := []) X hK hNW hml hP hS hl.1 (kX0_forgetCosts l D a cI cZ hA r3.2 H.size  r4 hr4) (cwV 0 X.2.2.1 gX6_stock_X0_forgetCosts rfl rfl rfl (by decide +kernel) ⟨Nat.le_of_ble_eq_true rfl, Nat.le_of_ble_eq_true rfl⟩) (vC_X0 hK hP) rfl rfl (Nat.le_of_ble_eq_true rfl) dX6_stock_43 ⟨Nat.zero_le _, Nat.zero_le _⟩ (fun H locs hP hS => ?_)
        refine lv_iload_n hx hb dX6_stock_46 rfl (lv_at hl 0 rfl) ?_
        exact endI X hK hr rfl hlocks hm hP hS dX6_stock_47
    · replace hm := (if_pos hc).symm.trans hm
      refine lv_bipush (v := (-3 : Int32)) hx hb dX6_stock_20 (by decide) ?_
      exact endI X hK hr rfl hlocks hm hP hS dX6_stock_22

def rmX6_order : Room := { frames := 1, cells := 0, slots := 0, locals := 22 }
set_option maxHeartbeats 4000000 in
set_option maxRecDepth 100000 in
theorem kX6_order (l : Launch) (D : va_G) (a : Nat → Nat) (cI cZ : ClassId) (hA : AP 24 a) (S : ST) (sz : Nat) (p1 : Int32) (p2 : Int32) (res : Int32 × ST) (hm : mX6_order S p1 p2 = some res) : Met l yX6_order wsX6_order rmX6_order (va_Pc [.ref (a 0), .int p1, .int p2] (PreW (wC a cI cZ S) D cI cZ sz)) (va_Qi (fun (r : Int32) (T : ST) => (r, T) = res) (PostW (wC a cI cZ) D cI cZ) (AC 24 a sz)) 0 0 (AC 24 a sz) := by
  refine metB (cc := cX6_order) (maxL := 4) (ret := (some .int)) (by decide) rfl (Nat.le_of_ble_eq_true rfl) ?_
  intro p e s m below meth c ls X hml hr hlocks hin hv hl
  replace X : CX p m c cX6_order s ([.ref (a 0), .int p1, .int p2] : List Value).toArray wsX6_order RX6 := X
  obtain ⟨hsz, hP, hK, hNW⟩ := hv
  subst hsz
  have hS : va_S (AC 24 a s.heap.size) s.heap s.heap [] := va_S.rf
  have hx := X.1
  have hb := X.2.1
  replace hl : lv_has ls 4 [(0, .ref (a 0)), (1, .int p1), (2, .int p2)] := hl
  have iX6 : ∀ w ∈ wsX60, w ∈ wsX6_order := fun w h => List.mem_cons_of_mem _ (List.mem_append_left _ (List.mem_append_left _ (List.mem_append_right _ h)))
  have iX3 : ∀ w ∈ wsX30, w ∈ wsX6_order := fun w h => List.mem_cons_of_mem _ (List.mem_append_left _ (List.mem_append_right _ h))
  have iX0 : ∀ w ∈ wsX00, w ∈ wsX6_order := fun w h => List.mem_cons_of_mem _ (List.mem_append_right _ h)
  suffices kS : ∀ (H : Heap) (locs : List Loc), va_P D vwCl (wC a cI cZ S) H → va_S (AC 24 a s.heap.size) s.heap H locs → W p l e rmX6_order s m ([.ref (a 0), .int p1, .int p2] : List Value).toArray below meth c H locs 0 0 (MQ below (va_Qi (fun (r : Int32) (T : ST) => (r, T) = res) (PostW (wC a cI cZ) D cI cZ) (AC 24 a s.heap.size)) ([.ref (a 0), .int p1, .int p2] : List Value).toArray s 0 0 (AC 24 a s.heap.size)) (F0 m 0 ls []) by exact kS s.heap [] hP hS
  intro H locs hP hS
  unfold mX6_order at hm
  refine lv_iload_n hx hb dX6_order_0 rfl (lv_at hl 1 rfl) ?_
  refine lv_iconst (v := (1 : Int32)) hx hb dX6_order_1 (by decide) ?_
  refine lv_bipush (v := (99 : Int32)) hx hb dX6_order_2 (by decide) ?_
  obtain ⟨r1, hr1, hm⟩ := bd_ok hm
  refine callRS (rest := []) X hml hl.1 (kX6_within l p1 (1 : Int32) (99 : Int32) r1 hr1) (va_cwS 3 X.2.2.1 gX6_order_X6_within rfl rfl rfl (by decide +kernel) ⟨Nat.le_of_ble_eq_true rfl, Nat.le_of_ble_eq_true rfl⟩) rfl rfl (Nat.le_of_ble_eq_true rfl) dX6_order_4 ⟨Nat.zero_le _, Nat.zero_le _⟩ ?_
  refine lv_if_eq (tgt := 19) hx hb dX6_order_7 (by decide) (fun hc => ?_) (fun hc => ?_)
  · replace hm := (if_pos hc).symm.trans hm
    refine lv_bipush (v := (-3 : Int32)) hx hb dX6_order_19 (by decide) ?_
    exact endI X hK hr rfl hlocks hm hP hS dX6_order_21
  · replace hm := (if_neg hc).symm.trans hm
    refine lv_iload_n hx hb dX6_order_10 rfl (lv_at hl 2 rfl) ?_
    refine lv_iconst (v := (0 : Int32)) hx hb dX6_order_11 (by decide) ?_
    refine lv_iconst (v := (5 : Int32)) hx hb dX6_order_12 (by decide) ?_
    obtain ⟨r2, hr2, hm⟩ := bd_ok hm
    refine callRS (rest := []) X hml hl.1 (kX6_within l p2 (0 : Int32) (5 : Int32) r2 hr2) (va_cwS 3 X.2.2.1 gX6_order_X6_within rfl rfl rfl (by decide +kernel) ⟨Nat.le_of_ble_eq_true rfl, Nat.le_of_ble_eq_true rfl⟩) rfl rfl (Nat.le_of_ble_eq_true rfl) dX6_order_13 ⟨Nat.zero_le _, Nat.zero_le _⟩ ?_
    refine lv_if_ne (tgt := 22) hx hb dX6_order_16 (by decide) (fun hc => ?_) (fun hc => ?_)
    · replace hm := (if_neg hc).symm.trans hm
      refine lv_aload_n hx hb dX6_order_22 rfl (lv_at hl 0 rfl) ?_
      refine gC_X6_rack X hK hP iX6 (List.mem_of_getElem? (i := 1) rfl) dX6_order_23 ?_
      refine lv_iload_n hx hb dX6_order_26 rfl (lv_at hl 1 rfl) ?_
      refine lv_iload_n hx hb dX6_order_27 rfl (lv_at hl 2 rfl) ?_
      obtain ⟨r3, hr3, hm⟩ := bd_ok hm
      refine callWI (wf := wC a cI cZ) (rest := []) X hK hNW hml hP hS hl.1 (kX3_addOrder l D a cI cZ hA S H.size p1 p2 r3 hr3) (cwV 2 X.2.2.1 gX6_order_X3_addOrder rfl rfl rfl (by decide +kernel) ⟨Nat.le_of_ble_eq_true rfl, Nat.le_of_ble_eq_true rfl⟩) (vC_X3 hK hP) rfl rfl (Nat.le_of_ble_eq_true rfl) dX6_order_28 ⟨Nat.zero_le _, Nat.zero_le _⟩ (fun H locs hP hS => ?_)
      refine lv_istore_n (lv' := [(3, .int r3.1), (0, .ref (a 0)), (1, .int p1), (2, .int p2)]) hx hb dX6_order_31 rfl hl (by decide) rfl (fun ls hl => ?_)
      refine lv_iload_n hx hb dX6_order_32 rfl (lv_at hl 0 rfl) ?_
      refine lv_bipush (v := (-4 : Int32)) hx hb dX6_order_33 (by decide) ?_
      refine lv_icmp_eq (tgt := 45) hx hb dX6_order_35 (by decide) (fun hc => ?_) (fun hc => ?_)
      · replace hm := (if_pos hc).symm.trans hm
        refine lv_iload_n hx hb dX6_order_45 rfl (lv_at hl 0 rfl) ?_
        exact endI X hK hr rfl hlocks hm hP hS dX6_order_46
      · replace hm := (if_neg hc).symm.trans hm
        refine lv_aload_n hx hb dX6_order_38 rfl (lv_at hl 1 rfl) ?_
        refine gC_X6_list X hK hP iX6 (List.mem_of_getElem? (i := 2) rfl) dX6_order_39 ?_
        obtain ⟨r4, hr4, hm⟩ := bd_ok hm
        refine callWV (wf := wC a cI cZ) (rest := []) X hK hNW hml hP hS hl.1 (kX0_forgetCosts l D a cI cZ hA r3.2 H.size  r4 hr4) (cwV 0 X.2.2.1 gX6_order_X0_forgetCosts rfl rfl rfl (by decide +kernel) ⟨Nat.le_of_ble_eq_true rfl, Nat.le_of_ble_eq_true rfl⟩) (vC_X0 hK hP) rfl rfl (Nat.le_of_ble_eq_true rfl) dX6_order_42 ⟨Nat.zero_le _, Nat.zero_le _⟩ (fun H locs hP hS => ?_)
        refine lv_iload_n hx hb dX6_order_45 rfl (lv_at hl 0 rfl) ?_
        exact endI X hK hr rfl hlocks hm hP hS dX6_order_46
    · replace hm := (if_pos hc).symm.trans hm
      refine lv_bipush (v := (-3 : Int32)) hx hb dX6_order_19 (by decide) ?_
      exact endI X hK hr rfl hlocks hm hP hS dX6_order_21

def rmX6_demand : Room := { frames := 1, cells := 0, slots := 0, locals := 22 }
set_option maxHeartbeats 4000000 in
set_option maxRecDepth 100000 in
theorem kX6_demand (l : Launch) (D : va_G) (a : Nat → Nat) (cI cZ : ClassId) (hA : AP 24 a) (S : ST) (sz : Nat) (p1 : Int32) (p2 : Int32) (res : Int32 × ST) (hm : mX6_demand S p1 p2 = some res) : Met l yX6_demand wsX6_demand rmX6_demand (va_Pc [.ref (a 0), .int p1, .int p2] (PreW (wC a cI cZ S) D cI cZ sz)) (va_Qi (fun (r : Int32) (T : ST) => (r, T) = res) (PostW (wC a cI cZ) D cI cZ) (AC 24 a sz)) 0 0 (AC 24 a sz) := by
  refine metB (cc := cX6_demand) (maxL := 4) (ret := (some .int)) (by decide) rfl (Nat.le_of_ble_eq_true rfl) ?_
  intro p e s m below meth c ls X hml hr hlocks hin hv hl
  replace X : CX p m c cX6_demand s ([.ref (a 0), .int p1, .int p2] : List Value).toArray wsX6_demand RX6 := X
  obtain ⟨hsz, hP, hK, hNW⟩ := hv
  subst hsz
  have hS : va_S (AC 24 a s.heap.size) s.heap s.heap [] := va_S.rf
  have hx := X.1
  have hb := X.2.1
  replace hl : lv_has ls 4 [(0, .ref (a 0)), (1, .int p1), (2, .int p2)] := hl
  have iX6 : ∀ w ∈ wsX60, w ∈ wsX6_demand := fun w h => List.mem_cons_of_mem _ (List.mem_append_left _ (List.mem_append_left _ (List.mem_append_right _ h)))
  have iX3 : ∀ w ∈ wsX30, w ∈ wsX6_demand := fun w h => List.mem_cons_of_mem _ (List.mem_append_left _ (List.mem_append_right _ h))
  have iX0 : ∀ w ∈ wsX00, w ∈ wsX6_demand := fun w h => List.mem_cons_of_mem _ (List.mem_append_right _ h)
  suffices kS : ∀ (H : Heap) (locs : List Loc), va_P D vwCl (wC a cI cZ S) H → va_S (AC 24 a s.heap.size) s.heap H locs → W p l e rmX6_demand s m ([.ref (a 0), .int p1, .int p2] : List Value).toArray below meth c H locs 0 0 (MQ below (va_Qi (fun (r : Int32) (T : ST) => (r, T) = res) (PostW (wC a cI cZ) D cI cZ) (AC 24 a s.heap.size)) ([.ref (a 0), .int p1, .int p2] : List Value).toArray s 0 0 (AC 24 a s.heap.size)) (F0 m 0 ls []) by exact kS s.heap [] hP hS
  intro H locs hP hS
  unfold mX6_demand at hm
  refine lv_iload_n hx hb dX6_demand_0 rfl (lv_at hl 1 rfl) ?_
  refine lv_iconst (v := (0 : Int32)) hx hb dX6_demand_1 (by decide) ?_
  refine lv_aload_n hx hb dX6_demand_2 rfl (lv_at hl 0 rfl) ?_
  refine gC_X6_rack X hK hP iX6 (List.mem_of_getElem? (i := 1) rfl) dX6_demand_3 ?_
  refine gC_X3_orders X hK hP iX3 (List.mem_of_getElem? (i := 2) rfl) dX6_demand_6 ?_
  refine lv_iconst (v := (1 : Int32)) hx hb dX6_demand_9 (by decide) ?_
  refine lv_isub hx hb dX6_demand_10 ?_
  obtain ⟨r1, hr1, hm⟩ := bd_ok hm
  refine callRS (rest := []) X hml hl.1 (kX6_within l p1 (0 : Int32) ((S.1 13) - (1 : Int32)) r1 hr1) (va_cwS 3 X.2.2.1 gX6_demand_X6_within rfl rfl rfl (by decide +kernel) ⟨Nat.le_of_ble_eq_true rfl, Nat.le_of_ble_eq_true rfl⟩) rfl rfl (Nat.le_of_ble_eq_true rfl) dX6_demand_11 ⟨Nat.zero_le _, Nat.zero_le _⟩ ?_
  refine lv_if_ne (tgt := 20) hx hb dX6_demand_14 (by decide) (fun hc => ?_) (fun hc => ?_)
  · replace hm := (if_neg hc).symm.trans hm
    refine lv_iload_n hx hb dX6_demand_20 rfl (lv_at hl 2 rfl) ?_
    refine lv_iconst (v := (0 : Int32)) hx hb dX6_demand_21 (by decide) ?_
    refine lv_iconst (v := (5 : Int32)) hx hb dX6_demand_22 (by decide) ?_
    obtain ⟨r2, hr2, hm⟩ := bd_ok hm
    refine callRS (rest := []) X hml hl.1 (kX6_within l p2 (0 : Int32) (5 : Int32) r2 hr2) (va_cwS 3 X.2.2.1 gX6_demand_X6_within rfl rfl rfl (by decide +kernel) ⟨Nat.le_of_ble_eq_true rfl, Nat.le_of_ble_eq_true rfl⟩) rfl rfl (Nat.le_of_ble_eq_true rfl) dX6_demand_23 ⟨Nat.zero_le _, Nat.zero_le _⟩ ?_
    refine lv_if_ne (tgt := 32) hx hb dX6_demand_26 (by decide) (fun hc => ?_) (fun hc => ?_)
    · replace hm := (if_neg hc).symm.trans hm
      refine lv_aload_n hx hb dX6_demand_32 rfl (lv_at hl 0 rfl) ?_
      refine gC_X6_rack X hK hP iX6 (List.mem_of_getElem? (i := 1) rfl) dX6_demand_33 ?_
      refine gC_X3_demands X hK hP iX3 (List.mem_of_getElem? (i := 3) rfl) dX6_demand_36 ?_
      refine lv_iload_n hx hb dX6_demand_39 rfl (lv_at hl 1 rfl) ?_
      obtain ⟨h1, hm⟩ := gd_ok hm
      refine rC_X3_demands X hK hP h1 dX6_demand_40 ?_
      refine lv_istore_n (lv' := [(3, .int (S.2 12 p1.toNatClampNeg)), (0, .ref (a 0)), (1, .int p1), (2, .int p2)]) hx hb dX6_demand_41 rfl hl (by decide) rfl (fun ls hl => ?_)
      refine lv_aload_n hx hb dX6_demand_42 rfl (lv_at hl 1 rfl) ?_
      refine gC_X6_rack X hK hP iX6 (List.mem_of_getElem? (i := 1) rfl) dX6_demand_43 ?_
      refine gC_X3_demands X hK hP iX3 (List.mem_of_getElem? (i := 3) rfl) dX6_demand_46 ?_
      refine lv_iload_n hx hb dX6_demand_49 rfl (lv_at hl 2 rfl) ?_
      refine lv_iload_n hx hb dX6_demand_50 rfl (lv_at hl 3 rfl) ?_
      obtain ⟨h1, hm⟩ := gd_ok hm
      refine sC_X3_demands X hK hA hP hS h1 dX6_demand_51 (fun H locs hP hS => ?_)
      refine lv_aload_n hx hb dX6_demand_52 rfl (lv_at hl 1 rfl) ?_
      refine gC_X6_list X hK hP iX6 (List.mem_of_getElem? (i := 4) rfl) dX6_demand_53 ?_
      obtain ⟨r3, hr3, hm⟩ := bd_ok hm
      refine callWV (wf := wC a cI cZ) (rest := []) X hK hNW hml hP hS hl.1 (kX0_forgetBars l D a cI cZ hA (sG S 12 p1 p2) H.size  r3 hr3) (cwV 0 X.2.2.1 gX6_demand_X0_forgetBars rfl rfl rfl (by decide +kernel) ⟨Nat.le_of_ble_eq_true rfl, Nat.le_of_ble_eq_true rfl⟩) (vC_X0 hK hP) rfl rfl (Nat.le_of_ble_eq_true rfl) dX6_demand_56 ⟨Nat.zero_le _, Nat.zero_le _⟩ (fun H locs hP hS => ?_)
      refine lv_iload_n hx hb dX6_demand_59 rfl (lv_at hl 0 rfl) ?_
      exact endI X hK hr rfl hlocks hm hP hS dX6_demand_60
    · replace hm := (if_pos hc).symm.trans hm
      refine lv_bipush (v := (-3 : Int32)) hx hb dX6_demand_29 (by decide) ?_
      exact endI X hK hr rfl hlocks hm hP hS dX6_demand_31
  · replace hm := (if_pos hc).symm.trans hm
    refine lv_bipush (v := (-2 : Int32)) hx hb dX6_demand_17 (by decide) ?_
    exact endI X hK hr rfl hlocks hm hP hS dX6_demand_19

def rmX6_blade : Room := { frames := 1, cells := 0, slots := 0, locals := 22 }
set_option maxHeartbeats 4000000 in
set_option maxRecDepth 100000 in
theorem kX6_blade (l : Launch) (D : va_G) (a : Nat → Nat) (cI cZ : ClassId) (hA : AP 24 a) (S : ST) (sz : Nat) (p1 : Int32) (res : Int32 × ST) (hm : mX6_blade S p1 = some res) : Met l yX6_blade wsX6_blade rmX6_blade (va_Pc [.ref (a 0), .int p1] (PreW (wC a cI cZ S) D cI cZ sz)) (va_Qi (fun (r : Int32) (T : ST) => (r, T) = res) (PostW (wC a cI cZ) D cI cZ) (AC 24 a sz)) 0 0 (AC 24 a sz) := by
  refine metB (cc := cX6_blade) (maxL := 3) (ret := (some .int)) (by decide) rfl (Nat.le_of_ble_eq_true rfl) ?_
  intro p e s m below meth c ls X hml hr hlocks hin hv hl
  replace X : CX p m c cX6_blade s ([.ref (a 0), .int p1] : List Value).toArray wsX6_blade RX6 := X
  obtain ⟨hsz, hP, hK, hNW⟩ := hv
  subst hsz
  have hS : va_S (AC 24 a s.heap.size) s.heap s.heap [] := va_S.rf
  have hx := X.1
  have hb := X.2.1
  replace hl : lv_has ls 3 [(0, .ref (a 0)), (1, .int p1)] := hl
  have iX6 : ∀ w ∈ wsX60, w ∈ wsX6_blade := fun w h => List.mem_cons_of_mem _ (List.mem_append_left _ (List.mem_append_left _ (List.mem_append_right _ h)))
  have iX3 : ∀ w ∈ wsX30, w ∈ wsX6_blade := fun w h => List.mem_cons_of_mem _ (List.mem_append_left _ (List.mem_append_right _ h))
  have iX0 : ∀ w ∈ wsX00, w ∈ wsX6_blade := fun w h => List.mem_cons_of_mem _ (List.mem_append_right _ h)
  suffices kS : ∀ (H : Heap) (locs : List Loc), va_P D vwCl (wC a cI cZ S) H → va_S (AC 24 a s.heap.size) s.heap H locs → W p l e rmX6_blade s m ([.ref (a 0), .int p1] : List Value).toArray below meth c H locs 0 0 (MQ below (va_Qi (fun (r : Int32) (T : ST) => (r, T) = res) (PostW (wC a cI cZ) D cI cZ) (AC 24 a s.heap.size)) ([.ref (a 0), .int p1] : List Value).toArray s 0 0 (AC 24 a s.heap.size)) (F0 m 0 ls []) by exact kS s.heap [] hP hS
  intro H locs hP hS
  unfold mX6_blade at hm
  refine lv_iload_n hx hb dX6_blade_0 rfl (lv_at hl 1 rfl) ?_
  refine lv_iconst (v := (0 : Int32)) hx hb dX6_blade_1 (by decide) ?_
  refine lv_iconst (v := (3 : Int32)) hx hb dX6_blade_2 (by decide) ?_
  obtain ⟨r1, hr1, hm⟩ := bd_ok hm
  refine callRS (rest := []) X hml hl.1 (kX6_within l p1 (0 : Int32) (3 : Int32) r1 hr1) (va_cwS 3 X.2.2.1 gX6_blade_X6_within rfl rfl rfl (by decide +kernel) ⟨Nat.le_of_ble_eq_true rfl, Nat.le_of_ble_eq_true rfl⟩) rfl rfl (Nat.le_of_ble_eq_true rfl) dX6_blade_3 ⟨Nat.zero_le _, Nat.zero_le _⟩ ?_
  refine lv_if_ne (tgt := 12) hx hb dX6_blade_6 (by decide) (fun hc => ?_) (fun hc => ?_)
  · replace hm := (if_neg hc).symm.trans hm
    refine lv_aload_n hx hb dX6_blade_12 rfl (lv_at hl 0 rfl) ?_
    refine gC_X6_rack X hK hP iX6 (List.mem_of_getElem? (i := 1) rfl) dX6_blade_13 ?_
    refine gC_X3_blade X hK hP iX3 (List.mem_of_getElem? (i := 2) rfl) dX6_blade_16 ?_
    refine lv_istore_n (lv' := [(2, .int (S.1 14)), (0, .ref (a 0)), (1, .int p1)]) hx hb dX6_blade_19 rfl hl (by decide) rfl (fun ls hl => ?_)
    refine lv_aload_n hx hb dX6_blade_20 rfl (lv_at hl 1 rfl) ?_
    refine gC_X6_rack X hK hP iX6 (List.mem_of_getElem? (i := 1) rfl) dX6_blade_21 ?_
    refine lv_iload_n hx hb dX6_blade_24 rfl (lv_at hl 2 rfl) ?_
    refine pC_X3_blade X hK hA hP hS iX3 (List.mem_of_getElem? (i := 2) rfl) dX6_blade_25 (fun H locs hP hS => ?_)
    refine lv_aload_n hx hb dX6_blade_28 rfl (lv_at hl 1 rfl) ?_
    refine gC_X6_list X hK hP iX6 (List.mem_of_getElem? (i := 3) rfl) dX6_blade_29 ?_
    obtain ⟨r2, hr2, hm⟩ := bd_ok hm
    refine callWV (wf := wC a cI cZ) (rest := []) X hK hNW hml hP hS hl.1 (kX0_forgetCosts l D a cI cZ hA (sI S 14 p1) H.size  r2 hr2) (cwV 0 X.2.2.1 gX6_blade_X0_forgetCosts rfl rfl rfl (by decide +kernel) ⟨Nat.le_of_ble_eq_true rfl, Nat.le_of_ble_eq_true rfl⟩) (vC_X0 hK hP) rfl rfl (Nat.le_of_ble_eq_true rfl) dX6_blade_32 ⟨Nat.zero_le _, Nat.zero_le _⟩ (fun H locs hP hS => ?_)
    refine lv_iload_n hx hb dX6_blade_35 rfl (lv_at hl 0 rfl) ?_
    exact endI X hK hr rfl hlocks hm hP hS dX6_blade_36
  · replace hm := (if_pos hc).symm.trans hm
    refine lv_bipush (v := (-3 : Int32)) hx hb dX6_blade_9 (by decide) ?_
    exact endI X hK hr rfl hlocks hm hP hS dX6_blade_11

def rmX6_price : Room := { frames := 6, cells := 0, slots := 0, locals := 138 }
set_option maxHeartbeats 4000000 in
set_option maxRecDepth 100000 in
theorem kX6_price (l : Launch) (D : va_G) (a : Nat → Nat) (cI cZ : ClassId) (hA : AP 24 a) (S : ST) (sz : Nat)  (res : Int32 × ST) (hm : mX6_price S  = some res) : Met l yX6_price wsX6_price rmX6_price (va_Pc [.ref (a 0)] (PreW (wC a cI cZ S) D cI cZ sz)) (va_Qi (fun (r : Int32) (T : ST) => (r, T) = res) (PostW (wC a cI cZ) D cI cZ) (AC 24 a sz)) 0 0 (AC 24 a sz) := by
  refine metB (cc := cX6_price) (maxL := 1) (ret := (some .int)) (by decide) rfl (Nat.le_of_ble_eq_true rfl) ?_
  intro p e s m below meth c ls X hml hr hlocks hin hv hl
  replace X : CX p m c cX6_price s ([.ref (a 0)] : List Value).toArray wsX6_price RX6 := X
  obtain ⟨hsz, hP, hK, hNW⟩ := hv
  subst hsz
  have hS : va_S (AC 24 a s.heap.size) s.heap s.heap [] := va_S.rf
  have hx := X.1
  have hb := X.2.1
  replace hl : lv_has ls 1 [(0, .ref (a 0))] := hl
  have iX6 : ∀ w ∈ wsX60, w ∈ wsX6_price := fun w h => List.mem_cons_of_mem _ (List.mem_append_left _ (List.mem_append_left _ (List.mem_append_right _ h)))
  have iX0 : ∀ w ∈ wsX00, w ∈ wsX6_price := fun w h => List.mem_cons_of_mem _ (List.mem_append_left _ (List.mem_append_right _ h))
  have iX3 : ∀ w ∈ wsX30, w ∈ wsX6_price := fun w h => List.mem_cons_of_mem _ (List.mem_append_right _ h)
  suffices kS : ∀ (H : Heap) (locs : List Loc), va_P D vwCl (wC a cI cZ S) H → va_S (AC 24 a s.heap.size) s.heap H locs → W p l e rmX6_price s m ([.ref (a 0)] : List Value).toArray below meth c H locs 0 0 (MQ below (va_Qi (fun (r : Int32) (T : ST) => (r, T) = res) (PostW (wC a cI cZ) D cI cZ) (AC 24 a s.heap.size)) ([.ref (a 0)] : List Value).toArray s 0 0 (AC 24 a s.heap.size)) (F0 m 0 ls []) by exact kS s.heap [] hP hS
  intro H locs hP hS
  unfold mX6_price at hm
  refine lv_aload_n hx hb dX6_price_0 rfl (lv_at hl 0 rfl) ?_
  refine gC_X6_list X hK hP iX6 (List.mem_of_getElem? (i := 1) rfl) dX6_price_1 ?_
  obtain ⟨r1, hr1, hm⟩ := bd_ok hm
  refine callWV (wf := wC a cI cZ) (rest := []) X hK hNW hml hP hS hl.1 (kX0_makeReady l D a cI cZ hA S H.size  r1 hr1) (cwV 0 X.2.2.1 gX6_price_X0_makeReady rfl rfl rfl (by decide +kernel) ⟨Nat.le_of_ble_eq_true rfl, Nat.le_of_ble_eq_true rfl⟩) (vC_X0 hK hP) rfl rfl (Nat.le_of_ble_eq_true rfl) dX6_price_4 ⟨Nat.zero_le _, Nat.zero_le _⟩ (fun H locs hP hS => ?_)
  refine lv_aload_n hx hb dX6_price_7 rfl (lv_at hl 0 rfl) ?_
  refine gC_X6_list X hK hP iX6 (List.mem_of_getElem? (i := 1) rfl) dX6_price_8 ?_
  refine gC_X0_isShort X hK hP iX0 (List.mem_of_getElem? (i := 2) rfl) dX6_price_11 ?_
  refine lv_if_eq (tgt := 21) hx hb dX6_price_14 (by decide) (fun hc => ?_) (fun hc => ?_)
  · replace hm := (if_pos hc).symm.trans hm
    refine lv_aload_n hx hb dX6_price_21 rfl (lv_at hl 0 rfl) ?_
    refine gC_X6_list X hK hP iX6 (List.mem_of_getElem? (i := 1) rfl) dX6_price_22 ?_
    refine gC_X0_priceTogether X hK hP iX0 (List.mem_of_getElem? (i := 3) rfl) dX6_price_25 ?_
    exact endI X hK hr rfl hlocks hm hP hS dX6_price_28
  · replace hm := (if_neg hc).symm.trans hm
    refine lv_iconst (v := (-1 : Int32)) hx hb dX6_price_17 (by decide) ?_
    refine lv_goto (tgt := 28) hx hb dX6_price_18 (by decide) ?_
    exact endI X hK hr rfl hlocks hm hP hS dX6_price_28

def rmX6_bars : Room := { frames := 6, cells := 0, slots := 0, locals := 138 }
set_option maxHeartbeats 4000000 in
set_option maxRecDepth 100000 in
theorem kX6_bars (l : Launch) (D : va_G) (a : Nat → Nat) (cI cZ : ClassId) (hA : AP 24 a) (S : ST) (sz : Nat)  (res : Int32 × ST) (hm : mX6_bars S  = some res) : Met l yX6_bars wsX6_bars rmX6_bars (va_Pc [.ref (a 0)] (PreW (wC a cI cZ S) D cI cZ sz)) (va_Qi (fun (r : Int32) (T : ST) => (r, T) = res) (PostW (wC a cI cZ) D cI cZ) (AC 24 a sz)) 0 0 (AC 24 a sz) := by
  refine metB (cc := cX6_bars) (maxL := 1) (ret := (some .int)) (by decide) rfl (Nat.le_of_ble_eq_true rfl) ?_
  intro p e s m below meth c ls X hml hr hlocks hin hv hl
  replace X : CX p m c cX6_bars s ([.ref (a 0)] : List Value).toArray wsX6_bars RX6 := X
  obtain ⟨hsz, hP, hK, hNW⟩ := hv
  subst hsz
  have hS : va_S (AC 24 a s.heap.size) s.heap s.heap [] := va_S.rf
  have hx := X.1
  have hb := X.2.1
  replace hl : lv_has ls 1 [(0, .ref (a 0))] := hl
  have iX6 : ∀ w ∈ wsX60, w ∈ wsX6_bars := fun w h => List.mem_cons_of_mem _ (List.mem_append_left _ (List.mem_append_left _ (List.mem_append_right _ h)))
  have iX0 : ∀ w ∈ wsX00, w ∈ wsX6_bars := fun w h => List.mem_cons_of_mem _ (List.mem_append_left _ (List.mem_append_right _ h))
  have iX3 : ∀ w ∈ wsX30, w ∈ wsX6_bars := fun w h => List.mem_cons_of_mem _ (List.mem_append_right _ h)
  suffices kS : ∀ (H : Heap) (locs : List Loc), va_P D vwCl (wC a cI cZ S) H → va_S (AC 24 a s.heap.size) s.heap H locs → W p l e rmX6_bars s m ([.ref (a 0)] : List Value).toArray below meth c H locs 0 0 (MQ below (va_Qi (fun (r : Int32) (T : ST) => (r, T) = res) (PostW (wC a cI cZ) D cI cZ) (AC 24 a s.heap.size)) ([.ref (a 0)] : List Value).toArray s 0 0 (AC 24 a s.heap.size)) (F0 m 0 ls []) by exact kS s.heap [] hP hS
  intro H locs hP hS
  unfold mX6_bars at hm
  refine lv_aload_n hx hb dX6_bars_0 rfl (lv_at hl 0 rfl) ?_
  refine gC_X6_list X hK hP iX6 (List.mem_of_getElem? (i := 1) rfl) dX6_bars_1 ?_
  obtain ⟨r1, hr1, hm⟩ := bd_ok hm
  refine callWV (wf := wC a cI cZ) (rest := []) X hK hNW hml hP hS hl.1 (kX0_makeReady l D a cI cZ hA S H.size  r1 hr1) (cwV 0 X.2.2.1 gX6_bars_X0_makeReady rfl rfl rfl (by decide +kernel) ⟨Nat.le_of_ble_eq_true rfl, Nat.le_of_ble_eq_true rfl⟩) (vC_X0 hK hP) rfl rfl (Nat.le_of_ble_eq_true rfl) dX6_bars_4 ⟨Nat.zero_le _, Nat.zero_le _⟩ (fun H locs hP hS => ?_)
  refine lv_aload_n hx hb dX6_bars_7 rfl (lv_at hl 0 rfl) ?_
  refine gC_X6_list X hK hP iX6 (List.mem_of_getElem? (i := 1) rfl) dX6_bars_8 ?_
  refine gC_X0_isShort X hK hP iX0 (List.mem_of_getElem? (i := 2) rfl) dX6_bars_11 ?_
  refine lv_if_eq (tgt := 21) hx hb dX6_bars_14 (by decide) (fun hc => ?_) (fun hc => ?_)
  · replace hm := (if_pos hc).symm.trans hm
    refine lv_aload_n hx hb dX6_bars_21 rfl (lv_at hl 0 rfl) ?_
    refine gC_X6_list X hK hP iX6 (List.mem_of_getElem? (i := 1) rfl) dX6_bars_22 ?_
    refine gC_X0_count X hK hP iX0 (List.mem_of_getElem? (i := 3) rfl) dX6_bars_25 ?_
    exact endI X hK hr rfl hlocks hm hP hS dX6_bars_28
  · replace hm := (if_neg hc).symm.trans hm
    refine lv_iconst (v := (-1 : Int32)) hx hb dX6_bars_17 (by decide) ?_
    refine lv_goto (tgt := 28) hx hb dX6_bars_18 (by decide) ?_
    exact endI X hK hr rfl hlocks hm hP hS dX6_bars_28

def rmX6_bar : Room := { frames := 6, cells := 0, slots := 0, locals := 138 }
set_option maxHeartbeats 4000000 in
set_option maxRecDepth 100000 in
theorem kX6_bar (l : Launch) (D : va_G) (a : Nat → Nat) (cI cZ : ClassId) (hA : AP 24 a) (S : ST) (sz : Nat) (p1 : Int32) (p2 : Int32) (res : Int32 × ST) (hm : mX6_bar S p1 p2 = some res) : Met l yX6_bar wsX6_bar rmX6_bar (va_Pc [.ref (a 0), .int p1, .int p2] (PreW (wC a cI cZ S) D cI cZ sz)) (va_Qi (fun (r : Int32) (T : ST) => (r, T) = res) (PostW (wC a cI cZ) D cI cZ) (AC 24 a sz)) 0 0 (AC 24 a sz) := by
  refine metB (cc := cX6_bar) (maxL := 3) (ret := (some .int)) (by decide) rfl (Nat.le_of_ble_eq_true rfl) ?_
  intro p e s m below meth c ls X hml hr hlocks hin hv hl
  replace X : CX p m c cX6_bar s ([.ref (a 0), .int p1, .int p2] : List Value).toArray wsX6_bar RX6 := X
  obtain ⟨hsz, hP, hK, hNW⟩ := hv
  subst hsz
  have hS : va_S (AC 24 a s.heap.size) s.heap s.heap [] := va_S.rf
  have hx := X.1
  have hb := X.2.1
  replace hl : lv_has ls 3 [(0, .ref (a 0)), (1, .int p1), (2, .int p2)] := hl
  have iX6 : ∀ w ∈ wsX60, w ∈ wsX6_bar := fun w h => List.mem_cons_of_mem _ (List.mem_append_left _ (List.mem_append_left _ (List.mem_append_right _ h)))
  have iX0 : ∀ w ∈ wsX00, w ∈ wsX6_bar := fun w h => List.mem_cons_of_mem _ (List.mem_append_left _ (List.mem_append_right _ h))
  have iX3 : ∀ w ∈ wsX30, w ∈ wsX6_bar := fun w h => List.mem_cons_of_mem _ (List.mem_append_right _ h)
  suffices kS : ∀ (H : Heap) (locs : List Loc), va_P D vwCl (wC a cI cZ S) H → va_S (AC 24 a s.heap.size) s.heap H locs → W p l e rmX6_bar s m ([.ref (a 0), .int p1, .int p2] : List Value).toArray below meth c H locs 0 0 (MQ below (va_Qi (fun (r : Int32) (T : ST) => (r, T) = res) (PostW (wC a cI cZ) D cI cZ) (AC 24 a s.heap.size)) ([.ref (a 0), .int p1, .int p2] : List Value).toArray s 0 0 (AC 24 a s.heap.size)) (F0 m 0 ls []) by exact kS s.heap [] hP hS
  intro H locs hP hS
  unfold mX6_bar at hm
  refine lv_iload_n hx hb dX6_bar_0 rfl (lv_at hl 2 rfl) ?_
  refine lv_iconst (v := (0 : Int32)) hx hb dX6_bar_1 (by decide) ?_
  refine lv_iconst (v := (5 : Int32)) hx hb dX6_bar_2 (by decide) ?_
  obtain ⟨r1, hr1, hm⟩ := bd_ok hm
  refine callRS (rest := []) X hml hl.1 (kX6_within l p2 (0 : Int32) (5 : Int32) r1 hr1) (va_cwS 3 X.2.2.1 gX6_bar_X6_within rfl rfl rfl (by decide +kernel) ⟨Nat.le_of_ble_eq_true rfl, Nat.le_of_ble_eq_true rfl⟩) rfl rfl (Nat.le_of_ble_eq_true rfl) dX6_bar_3 ⟨Nat.zero_le _, Nat.zero_le _⟩ ?_
  refine lv_if_ne (tgt := 12) hx hb dX6_bar_6 (by decide) (fun hc => ?_) (fun hc => ?_)
  · replace hm := (if_neg hc).symm.trans hm
    refine lv_aload_n hx hb dX6_bar_12 rfl (lv_at hl 0 rfl) ?_
    refine gC_X6_list X hK hP iX6 (List.mem_of_getElem? (i := 1) rfl) dX6_bar_13 ?_
    obtain ⟨r2, hr2, hm⟩ := bd_ok hm
    refine callWV (wf := wC a cI cZ) (rest := []) X hK hNW hml hP hS hl.1 (kX0_makeReady l D a cI cZ hA S H.size  r2 hr2) (cwV 0 X.2.2.1 gX6_bar_X0_makeReady rfl rfl rfl (by decide +kernel) ⟨Nat.le_of_ble_eq_true rfl, Nat.le_of_ble_eq_true rfl⟩) (vC_X0 hK hP) rfl rfl (Nat.le_of_ble_eq_true rfl) dX6_bar_16 ⟨Nat.zero_le _, Nat.zero_le _⟩ (fun H locs hP hS => ?_)
    refine lv_iload_n hx hb dX6_bar_19 rfl (lv_at hl 1 rfl) ?_
    refine lv_iconst (v := (0 : Int32)) hx hb dX6_bar_20 (by decide) ?_
    refine lv_aload_n hx hb dX6_bar_21 rfl (lv_at hl 0 rfl) ?_
    refine gC_X6_list X hK hP iX6 (List.mem_of_getElem? (i := 1) rfl) dX6_bar_22 ?_
    refine gC_X0_count X hK hP iX0 (List.mem_of_getElem? (i := 2) rfl) dX6_bar_25 ?_
    refine lv_iconst (v := (1 : Int32)) hx hb dX6_bar_28 (by decide) ?_
    refine lv_isub hx hb dX6_bar_29 ?_
    obtain ⟨r3, hr3, hm⟩ := bd_ok hm
    refine callRS (rest := []) X hml hl.1 (kX6_within l p1 (0 : Int32) ((r2.1 15) - (1 : Int32)) r3 hr3) (va_cwS 3 X.2.2.1 gX6_bar_X6_within rfl rfl rfl (by decide +kernel) ⟨Nat.le_of_ble_eq_true rfl, Nat.le_of_ble_eq_true rfl⟩) rfl rfl (Nat.le_of_ble_eq_true rfl) dX6_bar_30 ⟨Nat.zero_le _, Nat.zero_le _⟩ ?_
    refine lv_if_eq (tgt := 56) hx hb dX6_bar_33 (by decide) (fun hc => ?_) (fun hc => ?_)
    · replace hm := (if_pos hc).symm.trans hm
      refine lv_iconst (v := (-1 : Int32)) hx hb dX6_bar_56 (by decide) ?_
      exact endI X hK hr rfl hlocks hm hP hS dX6_bar_57
    · replace hm := (if_neg hc).symm.trans hm
      refine lv_aload_n hx hb dX6_bar_36 rfl (lv_at hl 0 rfl) ?_
      refine gC_X6_list X hK hP iX6 (List.mem_of_getElem? (i := 1) rfl) dX6_bar_37 ?_
      refine lv_aload_n hx hb dX6_bar_40 rfl (lv_at hl 0 rfl) ?_
      refine gC_X6_list X hK hP iX6 (List.mem_of_getElem? (i := 1) rfl) dX6_bar_41 ?_
      refine gC_X0_patterns X hK hP iX0 (List.mem_of_getElem? (i := 3) rfl) dX6_bar_44 ?_
      refine lv_iload_n hx hb dX6_bar_47 rfl (lv_at hl 1 rfl) ?_
      obtain ⟨h1, hm⟩ := gd_ok hm
      refine rC_X0_patterns X hK hP h1 dX6_bar_48 ?_
      refine lv_iload_n hx hb dX6_bar_49 rfl (lv_at hl 2 rfl) ?_
      obtain ⟨r4, hr4, hm⟩ := bd_ok hm
      refine callRV (rest := []) X hK hNW hml hP hl.1 (kX0_fact l D a cI cZ r2 (r2.2 16 p1.toNatClampNeg) p2 r4 hr4) (cwV 2 X.2.2.1 gX6_bar_X0_fact rfl rfl rfl (by decide +kernel) ⟨Nat.le_of_ble_eq_true rfl, Nat.le_of_ble_eq_true rfl⟩) (vC_X0 hK hP) rfl rfl (Nat.le_of_ble_eq_true rfl) dX6_bar_50 ⟨Nat.zero_le _, Nat.zero_le _⟩ ?_
      refine lv_goto (tgt := 57) hx hb dX6_bar_53 (by decide) ?_
      exact endI X hK hr rfl hlocks hm hP hS dX6_bar_57
  · replace hm := (if_pos hc).symm.trans hm
    refine lv_bipush (v := (-3 : Int32)) hx hb dX6_bar_9 (by decide) ?_
    exact endI X hK hr rfl hlocks hm hP hS dX6_bar_11

def rmX6_told : Room := { frames := 0, cells := 0, slots := 0, locals := 0 }
set_option maxHeartbeats 4000000 in
set_option maxRecDepth 100000 in
theorem kX6_told (l : Launch) (D : va_G) (a : Nat → Nat) (cI cZ : ClassId) (S : ST) (p1 : Int32) (res : Int32) (hm : mX6_told S p1 = some res) : Met l yX6_told wsX6_told rmX6_told (va_Pc [.ref (a 0), .int p1] (PreR (wC a cI cZ S) D cI cZ)) (vp_Si (fun r => r = res)) 0 0 (fun _ => False) := by
  refine metB (cc := cX6_told) (maxL := 2) (ret := (some .int)) (by decide) rfl (Nat.le_of_ble_eq_true rfl) ?_
  intro p e s m below meth c ls X hml hr hlocks hin hv hl
  replace X : CX p m c cX6_told s ([.ref (a 0), .int p1] : List Value).toArray wsX6_told RX6 := X
  obtain ⟨hP, hK, hNW⟩ := hv
  have hx := X.1
  have hb := X.2.1
  replace hl : lv_has ls 2 [(0, .ref (a 0)), (1, .int p1)] := hl
  have iX6 : ∀ w ∈ wsX60, w ∈ wsX6_told := fun w h => List.mem_cons_of_mem _ (List.mem_append_left _ (List.mem_append_left _ (List.mem_append_left _ (List.mem_append_right _ h))))
  have iX4 : ∀ w ∈ wsX40, w ∈ wsX6_told := fun w h => List.mem_cons_of_mem _ (List.mem_append_left _ (List.mem_append_left _ (List.mem_append_right _ h)))
  have iX1 : ∀ w ∈ wsX10, w ∈ wsX6_told := fun w h => List.mem_cons_of_mem _ (List.mem_append_left _ (List.mem_append_right _ h))
  have iX3 : ∀ w ∈ wsX30, w ∈ wsX6_told := fun w h => List.mem_cons_of_mem _ (List.mem_append_right _ h)
  unfold mX6_told at hm
  refine lv_iload_n hx hb dX6_told_0 rfl (lv_at hl 1 rfl) ?_
  by_cases hq0 : p1 = (0 : Int32)
  · replace hm := (if_pos hq0).symm.trans hm
    refine lv_tableIn (off := 55) (tgt := 56) hx hb dX6_told_1 (by rw [hq0]; decide) (by rw [hq0]; decide) (by rw [hq0]; rfl) (by decide) ?_
    refine lv_aload_n hx hb dX6_told_56 rfl (lv_at hl 0 rfl) ?_
    refine gC_X6_sheet X hK hP iX6 (List.mem_of_getElem? (i := 1) rfl) dX6_told_57 ?_
    refine gC_X4_width X hK hP iX4 (List.mem_of_getElem? (i := 2) rfl) dX6_told_60 ?_
    exact endR X hr rfl hlocks hm dX6_told_63
  · replace hm := (if_neg hq0).symm.trans hm
    by_cases hq1 : p1 = (1 : Int32)
    · replace hm := (if_pos hq1).symm.trans hm
      refine lv_tableIn (off := 63) (tgt := 64) hx hb dX6_told_1 (by rw [hq1]; decide) (by rw [hq1]; decide) (by rw [hq1]; rfl) (by decide) ?_
      refine lv_aload_n hx hb dX6_told_64 rfl (lv_at hl 0 rfl) ?_
      refine gC_X6_sheet X hK hP iX6 (List.mem_of_getElem? (i := 1) rfl) dX6_told_65 ?_
      refine gC_X4_height X hK hP iX4 (List.mem_of_getElem? (i := 3) rfl) dX6_told_68 ?_
      exact endR X hr rfl hlocks hm dX6_told_71
    · replace hm := (if_neg hq1).symm.trans hm
      by_cases hq2 : p1 = (2 : Int32)
      · replace hm := (if_pos hq2).symm.trans hm
        refine lv_tableIn (off := 71) (tgt := 72) hx hb dX6_told_1 (by rw [hq2]; decide) (by rw [hq2]; decide) (by rw [hq2]; rfl) (by decide) ?_
        refine lv_aload_n hx hb dX6_told_72 rfl (lv_at hl 0 rfl) ?_
        refine gC_X6_sheet X hK hP iX6 (List.mem_of_getElem? (i := 1) rfl) dX6_told_73 ?_
        refine gC_X4_kerf X hK hP iX4 (List.mem_of_getElem? (i := 4) rfl) dX6_told_76 ?_
        exact endR X hr rfl hlocks hm dX6_told_79
      · replace hm := (if_neg hq2).symm.trans hm
        by_cases hq3 : p1 = (3 : Int32)
        · replace hm := (if_pos hq3).symm.trans hm
          refine lv_tableIn (off := 79) (tgt := 80) hx hb dX6_told_1 (by rw [hq3]; decide) (by rw [hq3]; decide) (by rw [hq3]; rfl) (by decide) ?_
          refine lv_aload_n hx hb dX6_told_80 rfl (lv_at hl 0 rfl) ?_
          refine gC_X6_sheet X hK hP iX6 (List.mem_of_getElem? (i := 1) rfl) dX6_told_81 ?_
          refine gC_X4_stages X hK hP iX4 (List.mem_of_getElem? (i := 5) rfl) dX6_told_84 ?_
          exact endR X hr rfl hlocks hm dX6_told_87
        · replace hm := (if_neg hq3).symm.trans hm
          by_cases hq4 : p1 = (4 : Int32)
          · replace hm := (if_pos hq4).symm.trans hm
            refine lv_tableIn (off := 87) (tgt := 88) hx hb dX6_told_1 (by rw [hq4]; decide) (by rw [hq4]; decide) (by rw [hq4]; rfl) (by decide) ?_
            refine lv_aload_n hx hb dX6_told_88 rfl (lv_at hl 0 rfl) ?_
            refine gC_X6_sheet X hK hP iX6 (List.mem_of_getElem? (i := 1) rfl) dX6_told_89 ?_
            refine gC_X4_first X hK hP iX4 (List.mem_of_getElem? (i := 6) rfl) dX6_told_92 ?_
            exact endR X hr rfl hlocks hm dX6_told_95
          · replace hm := (if_neg hq4).symm.trans hm
            by_cases hq5 : p1 = (5 : Int32)
            · replace hm := (if_pos hq5).symm.trans hm
              refine lv_tableIn (off := 95) (tgt := 96) hx hb dX6_told_1 (by rw [hq5]; decide) (by rw [hq5]; decide) (by rw [hq5]; rfl) (by decide) ?_
              refine lv_aload_n hx hb dX6_told_96 rfl (lv_at hl 0 rfl) ?_
              refine gC_X6_sheet X hK hP iX6 (List.mem_of_getElem? (i := 1) rfl) dX6_told_97 ?_
              refine gC_X4_defects X hK hP iX4 (List.mem_of_getElem? (i := 7) rfl) dX6_told_100 ?_
              exact endR X hr rfl hlocks hm dX6_told_103
            · replace hm := (if_neg hq5).symm.trans hm
              by_cases hq6 : p1 = (6 : Int32)
              · replace hm := (if_pos hq6).symm.trans hm
                refine lv_tableIn (off := 103) (tgt := 104) hx hb dX6_told_1 (by rw [hq6]; decide) (by rw [hq6]; decide) (by rw [hq6]; rfl) (by decide) ?_
                refine lv_aload_n hx hb dX6_told_104 rfl (lv_at hl 0 rfl) ?_
                refine gC_X6_kinds X hK hP iX6 (List.mem_of_getElem? (i := 8) rfl) dX6_told_105 ?_
                refine gC_X1_count X hK hP iX1 (List.mem_of_getElem? (i := 9) rfl) dX6_told_108 ?_
                exact endR X hr rfl hlocks hm dX6_told_111
              · replace hm := (if_neg hq6).symm.trans hm
                by_cases hq7 : p1 = (7 : Int32)
                · replace hm := (if_pos hq7).symm.trans hm
                  refine lv_tableIn (off := 111) (tgt := 112) hx hb dX6_told_1 (by rw [hq7]; decide) (by rw [hq7]; decide) (by rw [hq7]; rfl) (by decide) ?_
                  refine lv_aload_n hx hb dX6_told_112 rfl (lv_at hl 0 rfl) ?_
                  refine gC_X6_rack X hK hP iX6 (List.mem_of_getElem? (i := 10) rfl) dX6_told_113 ?_
                  refine gC_X3_stocks X hK hP iX3 (List.mem_of_getElem? (i := 11) rfl) dX6_told_116 ?_
                  exact endR X hr rfl hlocks hm dX6_told_119
                · replace hm := (if_neg hq7).symm.trans hm
                  by_cases hq8 : p1 = (8 : Int32)
                  · replace hm := (if_pos hq8).symm.trans hm
                    refine lv_tableIn (off := 119) (tgt := 120) hx hb dX6_told_1 (by rw [hq8]; decide) (by rw [hq8]; decide) (by rw [hq8]; rfl) (by decide) ?_
                    refine lv_aload_n hx hb dX6_told_120 rfl (lv_at hl 0 rfl) ?_
                    refine gC_X6_rack X hK hP iX6 (List.mem_of_getElem? (i := 10) rfl) dX6_told_121 ?_
                    refine gC_X3_orders X hK hP iX3 (List.mem_of_getElem? (i := 12) rfl) dX6_told_124 ?_
                    exact endR X hr rfl hlocks hm dX6_told_127
                  · replace hm := (if_neg hq8).symm.trans hm
                    by_cases hq9 : p1 = (9 : Int32)
                    · replace hm := (if_pos hq9).symm.trans hm
                      refine lv_tableIn (off := 127) (tgt := 128) hx hb dX6_told_1 (by rw [hq9]; decide) (by rw [hq9]; decide) (by rw [hq9]; rfl) (by decide) ?_
                      refine lv_aload_n hx hb dX6_told_128 rfl (lv_at hl 0 rfl) ?_
                      refine gC_X6_rack X hK hP iX6 (List.mem_of_getElem? (i := 10) rfl) dX6_told_129 ?_
                      refine gC_X3_blade X hK hP iX3 (List.mem_of_getElem? (i := 13) rfl) dX6_told_132 ?_
                      exact endR X hr rfl hlocks hm dX6_told_135
                    · replace hm := (if_neg hq9).symm.trans hm
                      refine lv_tableOut (tgt := 136) hx hb dX6_told_1 (tbOut (n := 9) rfl (fun k hk => ?_)) (by decide) ?_
                      · match k, hk with
                        | 0, _ => exact hq0
                        | 1, _ => exact hq1
                        | 2, _ => exact hq2
                        | 3, _ => exact hq3
                        | 4, _ => exact hq4
                        | 5, _ => exact hq5
                        | 6, _ => exact hq6
                        | 7, _ => exact hq7
                        | 8, _ => exact hq8
                        | 9, _ => exact hq9
                        | k + 10, hk => exact absurd hk (by omega)
                      · refine lv_bipush (v := (-3 : Int32)) hx hb dX6_told_136 (by decide) ?_
                        exact endR X hr rfl hlocks hm dX6_told_138

def rmX6_noKinds : Room := { frames := 2, cells := 0, slots := 0, locals := 40 }
set_option maxHeartbeats 4000000 in
set_option maxRecDepth 100000 in
theorem kX6_noKinds (l : Launch) (D : va_G) (a : Nat → Nat) (cI cZ : ClassId) (hA : AP 24 a) (S : ST) (sz : Nat)  (res : Int32 × ST) (hm : mX6_noKinds S  = some res) : Met l yX6_noKinds wsX6_noKinds rmX6_noKinds (va_Pc [.ref (a 0)] (PreW (wC a cI cZ S) D cI cZ sz)) (va_Qi (fun (r : Int32) (T : ST) => (r, T) = res) (PostW (wC a cI cZ) D cI cZ) (AC 24 a sz)) 0 0 (AC 24 a sz) := by
  refine metB (cc := cX6_noKinds) (maxL := 2) (ret := (some .int)) (by decide) rfl (Nat.le_of_ble_eq_true rfl) ?_
  intro p e s m below meth c ls X hml hr hlocks hin hv hl
  replace X : CX p m c cX6_noKinds s ([.ref (a 0)] : List Value).toArray wsX6_noKinds RX6 := X
  obtain ⟨hsz, hP, hK, hNW⟩ := hv
  subst hsz
  have hS : va_S (AC 24 a s.heap.size) s.heap s.heap [] := va_S.rf
  have hx := X.1
  have hb := X.2.1
  replace hl : lv_has ls 2 [(0, .ref (a 0))] := hl
  have iX6 : ∀ w ∈ wsX60, w ∈ wsX6_noKinds := fun w h => List.mem_cons_of_mem _ (List.mem_append_left _ (List.mem_append_left _ (List.mem_append_left _ (List.mem_append_right _ h))))
  have iX1 : ∀ w ∈ wsX10, w ∈ wsX6_noKinds := fun w h => List.mem_cons_of_mem _ (List.mem_append_left _ (List.mem_append_left _ (List.mem_append_right _ h)))
  have iX2 : ∀ w ∈ wsX20, w ∈ wsX6_noKinds := fun w h => List.mem_cons_of_mem _ (List.mem_append_left _ (List.mem_append_right _ h))
  have iX5 : ∀ w ∈ wsX50, w ∈ wsX6_noKinds := fun w h => List.mem_cons_of_mem _ (List.mem_append_right _ h)
  suffices kS : ∀ (H : Heap) (locs : List Loc), va_P D vwCl (wC a cI cZ S) H → va_S (AC 24 a s.heap.size) s.heap H locs → W p l e rmX6_noKinds s m ([.ref (a 0)] : List Value).toArray below meth c H locs 0 0 (MQ below (va_Qi (fun (r : Int32) (T : ST) => (r, T) = res) (PostW (wC a cI cZ) D cI cZ) (AC 24 a s.heap.size)) ([.ref (a 0)] : List Value).toArray s 0 0 (AC 24 a s.heap.size)) (F0 m 0 ls []) by exact kS s.heap [] hP hS
  intro H locs hP hS
  unfold mX6_noKinds at hm
  refine lv_aload_n hx hb dX6_noKinds_0 rfl (lv_at hl 0 rfl) ?_
  refine gC_X6_kinds X hK hP iX6 (List.mem_of_getElem? (i := 1) rfl) dX6_noKinds_1 ?_
  refine gC_X1_count X hK hP iX1 (List.mem_of_getElem? (i := 2) rfl) dX6_noKinds_4 ?_
  refine lv_istore_n (lv' := [(1, .int (S.1 6)), (0, .ref (a 0))]) hx hb dX6_noKinds_7 rfl hl (by decide) rfl (fun ls hl => ?_)
  refine lv_aload_n hx hb dX6_noKinds_8 rfl (lv_at hl 1 rfl) ?_
  refine gC_X6_kinds X hK hP iX6 (List.mem_of_getElem? (i := 1) rfl) dX6_noKinds_9 ?_
  refine lv_iconst (v := (0 : Int32)) hx hb dX6_noKinds_12 (by decide) ?_
  refine pC_X1_count X hK hA hP hS iX1 (List.mem_of_getElem? (i := 2) rfl) dX6_noKinds_13 (fun H locs hP hS => ?_)
  refine lv_aload_n hx hb dX6_noKinds_16 rfl (lv_at hl 1 rfl) ?_
  refine gC_X6_plan X hK hP iX6 (List.mem_of_getElem? (i := 3) rfl) dX6_noKinds_17 ?_
  obtain ⟨r1, hr1, hm⟩ := bd_ok hm
  refine callWV (wf := wC a cI cZ) (rest := []) X hK hNW hml hP hS hl.1 (kX2_forget l D a cI cZ hA (sI S 6 (0 : Int32)) H.size  r1 hr1) (cwV 0 X.2.2.1 gX6_noKinds_X2_forget rfl rfl rfl (by decide +kernel) ⟨Nat.le_of_ble_eq_true rfl, Nat.le_of_ble_eq_true rfl⟩) (vC_X2 hK hP) rfl rfl (Nat.le_of_ble_eq_true rfl) dX6_noKinds_20 ⟨Nat.zero_le _, Nat.zero_le _⟩ (fun H locs hP hS => ?_)
  refine lv_iload_n hx hb dX6_noKinds_23 rfl (lv_at hl 0 rfl) ?_
  exact endI X hK hr rfl hlocks hm hP hS dX6_noKinds_24

def rmX6_noBars : Room := { frames := 1, cells := 0, slots := 0, locals := 20 }
set_option maxHeartbeats 4000000 in
set_option maxRecDepth 100000 in
theorem kX6_noBars (l : Launch) (D : va_G) (a : Nat → Nat) (cI cZ : ClassId) (hA : AP 24 a) (S : ST) (sz : Nat)  (res : Int32 × ST) (hm : mX6_noBars S  = some res) : Met l yX6_noBars wsX6_noBars rmX6_noBars (va_Pc [.ref (a 0)] (PreW (wC a cI cZ S) D cI cZ sz)) (va_Qi (fun (r : Int32) (T : ST) => (r, T) = res) (PostW (wC a cI cZ) D cI cZ) (AC 24 a sz)) 0 0 (AC 24 a sz) := by
  refine metB (cc := cX6_noBars) (maxL := 2) (ret := (some .int)) (by decide) rfl (Nat.le_of_ble_eq_true rfl) ?_
  intro p e s m below meth c ls X hml hr hlocks hin hv hl
  replace X : CX p m c cX6_noBars s ([.ref (a 0)] : List Value).toArray wsX6_noBars RX6 := X
  obtain ⟨hsz, hP, hK, hNW⟩ := hv
  subst hsz
  have hS : va_S (AC 24 a s.heap.size) s.heap s.heap [] := va_S.rf
  have hx := X.1
  have hb := X.2.1
  replace hl : lv_has ls 2 [(0, .ref (a 0))] := hl
  have iX6 : ∀ w ∈ wsX60, w ∈ wsX6_noBars := fun w h => List.mem_cons_of_mem _ (List.mem_append_left _ (List.mem_append_left _ (List.mem_append_right _ h)))
  have iX3 : ∀ w ∈ wsX30, w ∈ wsX6_noBars := fun w h => List.mem_cons_of_mem _ (List.mem_append_left _ (List.mem_append_right _ h))
  have iX0 : ∀ w ∈ wsX00, w ∈ wsX6_noBars := fun w h => List.mem_cons_of_mem _ (List.mem_append_right _ h)
  suffices kS : ∀ (H : Heap) (locs : List Loc), va_P D vwCl (wC a cI cZ S) H → va_S (AC 24 a s.heap.size) s.heap H locs → W p l e rmX6_noBars s m ([.ref (a 0)] : List Value).toArray below meth c H locs 0 0 (MQ below (va_Qi (fun (r : Int32) (T : ST) => (r, T) = res) (PostW (wC a cI cZ) D cI cZ) (AC 24 a s.heap.size)) ([.ref (a 0)] : List Value).toArray s 0 0 (AC 24 a s.heap.size)) (F0 m 0 ls []) by exact kS s.heap [] hP hS
  intro H locs hP hS
  unfold mX6_noBars at hm
  refine lv_aload_n hx hb dX6_noBars_0 rfl (lv_at hl 0 rfl) ?_
  refine gC_X6_rack X hK hP iX6 (List.mem_of_getElem? (i := 1) rfl) dX6_noBars_1 ?_
  refine gC_X3_stocks X hK hP iX3 (List.mem_of_getElem? (i := 2) rfl) dX6_noBars_4 ?_
  refine lv_aload_n hx hb dX6_noBars_7 rfl (lv_at hl 0 rfl) ?_
  refine gC_X6_rack X hK hP iX6 (List.mem_of_getElem? (i := 1) rfl) dX6_noBars_8 ?_
  refine gC_X3_orders X hK hP iX3 (List.mem_of_getElem? (i := 3) rfl) dX6_noBars_11 ?_
  refine lv_iadd hx hb dX6_noBars_14 ?_
  refine lv_istore_n (lv' := [(1, .int ((S.1 12) + (S.1 13))), (0, .ref (a 0))]) hx hb dX6_noBars_15 rfl hl (by decide) rfl (fun ls hl => ?_)
  refine lv_aload_n hx hb dX6_noBars_16 rfl (lv_at hl 1 rfl) ?_
  refine gC_X6_rack X hK hP iX6 (List.mem_of_getElem? (i := 1) rfl) dX6_noBars_17 ?_
  refine lv_iconst (v := (0 : Int32)) hx hb dX6_noBars_20 (by decide) ?_
  refine pC_X3_stocks X hK hA hP hS iX3 (List.mem_of_getElem? (i := 2) rfl) dX6_noBars_21 (fun H locs hP hS => ?_)
  refine lv_aload_n hx hb dX6_noBars_24 rfl (lv_at hl 1 rfl) ?_
  refine gC_X6_rack X hK hP iX6 (List.mem_of_getElem? (i := 1) rfl) dX6_noBars_25 ?_
  refine lv_iconst (v := (0 : Int32)) hx hb dX6_noBars_28 (by decide) ?_
  refine pC_X3_orders X hK hA hP hS iX3 (List.mem_of_getElem? (i := 3) rfl) dX6_noBars_29 (fun H locs hP hS => ?_)
  refine lv_aload_n hx hb dX6_noBars_32 rfl (lv_at hl 1 rfl) ?_
  refine gC_X6_list X hK hP iX6 (List.mem_of_getElem? (i := 4) rfl) dX6_noBars_33 ?_
  obtain ⟨r1, hr1, hm⟩ := bd_ok hm
  refine callWV (wf := wC a cI cZ) (rest := []) X hK hNW hml hP hS hl.1 (kX0_forgetCosts l D a cI cZ hA (sI (sI S 12 (0 : Int32)) 13 (0 : Int32)) H.size  r1 hr1) (cwV 0 X.2.2.1 gX6_noBars_X0_forgetCosts rfl rfl rfl (by decide +kernel) ⟨Nat.le_of_ble_eq_true rfl, Nat.le_of_ble_eq_true rfl⟩) (vC_X0 hK hP) rfl rfl (Nat.le_of_ble_eq_true rfl) dX6_noBars_36 ⟨Nat.zero_le _, Nat.zero_le _⟩ (fun H locs hP hS => ?_)
  refine lv_iload_n hx hb dX6_noBars_39 rfl (lv_at hl 0 rfl) ?_
  exact endI X hK hr rfl hlocks hm hP hS dX6_noBars_40
