/-! Mirrors and contracts. By walk.py. -/
def rmX7_within : Room := { frames := 0, cells := 0, slots := 0, locals := 0 }
set_option maxHeartbeats 4000000 in
set_option maxRecDepth 100000 in
theorem kX7_within (l : Launch) (p0 : Int32) (p1 : Int32) (p2 : Int32) (res : Int32) (hm : mX7_within  p0 p1 p2 = some res) : Met l yX7_within wsX7_within rmX7_within (va_Pc [.int p0, .int p1, .int p2] (fun _ => True)) (vp_Si (fun r => r = res)) 0 0 (fun _ => False) := by
  refine metB (cc := cX7_within) (maxL := 3) (ret := (some .boolean)) (by decide) rfl (Nat.le_of_ble_eq_true rfl) ?_
  intro p e s m below meth c ls X hml hr hlocks hin hv hl
  replace X : CX p m c cX7_within s ([.int p0, .int p1, .int p2] : List Value).toArray wsX7_within RX7 := X
  have hx := X.1
  have hb := X.2.1
  replace hl : lv_has ls 3 [(0, .int p0), (1, .int p1), (2, .int p2)] := hl
  unfold mX7_within at hm
  refine lv_iload_n hx hb dX7_within_0 rfl (lv_at hl 0 rfl) ?_
  refine lv_iload_n hx hb dX7_within_1 rfl (lv_at hl 1 rfl) ?_
  refine lv_icmp_lt (tgt := 14) hx hb dX7_within_2 (by decide) (fun hc => ?_) (fun hc => ?_)
  · replace hm := (if_pos hc).symm.trans hm
    refine lv_iconst (v := (0 : Int32)) hx hb dX7_within_14 (by decide) ?_
    exact endR X hr rfl hlocks hm dX7_within_15
  · replace hm := (if_neg hc).symm.trans hm
    refine lv_iload_n hx hb dX7_within_5 rfl (lv_at hl 0 rfl) ?_
    refine lv_iload_n hx hb dX7_within_6 rfl (lv_at hl 2 rfl) ?_
    refine lv_icmp_gt (tgt := 14) hx hb dX7_within_7 (by decide) (fun hc => ?_) (fun hc => ?_)
    · replace hm := (if_pos hc).symm.trans hm
      refine lv_iconst (v := (0 : Int32)) hx hb dX7_within_14 (by decide) ?_
      exact endR X hr rfl hlocks hm dX7_within_15
    · replace hm := (if_neg hc).symm.trans hm
      refine lv_iconst (v := (1 : Int32)) hx hb dX7_within_10 (by decide) ?_
      refine lv_goto (tgt := 15) hx hb dX7_within_11 (by decide) ?_
      exact endR X hr rfl hlocks hm dX7_within_15

def rmX7_plate : Room := { frames := 1, cells := 0, slots := 0, locals := 22 }
set_option maxHeartbeats 4000000 in
set_option maxRecDepth 100000 in
theorem kX7_plate (l : Launch) (D : va_G) (a : Nat → Nat) (cI cZ : ClassId) (hA : AP 31 a) (S : ST) (sz : Nat) (p1 : Int32) (p2 : Int32) (p3 : Int32) (p4 : Int32) (p5 : Int32) (res : Int32 × ST) (hm : mX7_plate S p1 p2 p3 p4 p5 = some res) : Met l yX7_plate wsX7_plate rmX7_plate (va_Pc [.ref (a 0), .int p1, .int p2, .int p3, .int p4, .int p5] (PreW (wM a cI cZ S) D cI cZ sz)) (va_Qi (fun (r : Int32) (T : ST) => (r, T) = res) (PostW (wM a cI cZ) D cI cZ) (AC 31 a sz)) 0 0 (AC 31 a sz) := by
  refine metB (cc := cX7_plate) (maxL := 6) (ret := (some .int)) (by decide) rfl (Nat.le_of_ble_eq_true rfl) ?_
  intro p e s m below meth c ls X hml hr hlocks hin hv hl
  replace X : CX p m c cX7_plate s ([.ref (a 0), .int p1, .int p2, .int p3, .int p4, .int p5] : List Value).toArray wsX7_plate RX7 := X
  obtain ⟨hsz, hP, hK, hNW⟩ := hv
  subst hsz
  have hS : va_S (AC 31 a s.heap.size) s.heap s.heap [] := va_S.rf
  have hx := X.1
  have hb := X.2.1
  replace hl : lv_has ls 6 [(0, .ref (a 0)), (1, .int p1), (2, .int p2), (3, .int p3), (4, .int p4), (5, .int p5)] := hl
  have iX7 : ∀ w ∈ wsX70, w ∈ wsX7_plate := fun w h => List.mem_cons_of_mem _ (List.mem_append_right _ h)
  suffices kS : ∀ (H : Heap) (locs : List Loc), va_P D vwCl (wM a cI cZ S) H → va_S (AC 31 a s.heap.size) s.heap H locs → W p l e rmX7_plate s m ([.ref (a 0), .int p1, .int p2, .int p3, .int p4, .int p5] : List Value).toArray below meth c H locs 0 0 (MQ below (va_Qi (fun (r : Int32) (T : ST) => (r, T) = res) (PostW (wM a cI cZ) D cI cZ) (AC 31 a s.heap.size)) ([.ref (a 0), .int p1, .int p2, .int p3, .int p4, .int p5] : List Value).toArray s 0 0 (AC 31 a s.heap.size)) (F0 m 0 ls []) by exact kS s.heap [] hP hS
  intro H locs hP hS
  unfold mX7_plate at hm
  refine lv_iload_n hx hb dX7_plate_0 rfl (lv_at hl 1 rfl) ?_
  refine lv_iconst (v := (1 : Int32)) hx hb dX7_plate_1 (by decide) ?_
  refine lv_bipush (v := (16 : Int32)) hx hb dX7_plate_2 (by decide) ?_
  obtain ⟨r1, hr1, hm⟩ := bd_ok hm
  refine callRS (rest := []) X hml hl.1 (kX7_within l p1 (1 : Int32) (16 : Int32) r1 hr1) (va_cwS 3 X.2.2.1 gX7_plate_X7_within rfl rfl rfl (by decide +kernel) ⟨Nat.le_of_ble_eq_true rfl, Nat.le_of_ble_eq_true rfl⟩) rfl rfl (Nat.le_of_ble_eq_true rfl) dX7_plate_4 ⟨Nat.zero_le _, Nat.zero_le _⟩ ?_
  refine lv_if_eq (tgt := 49) hx hb dX7_plate_7 (by decide) (fun hc => ?_) (fun hc => ?_)
  · replace hm := (if_pos hc).symm.trans hm
    refine lv_bipush (v := (-3 : Int32)) hx hb dX7_plate_49 (by decide) ?_
    exact endI X hK hr rfl hlocks hm hP hS dX7_plate_51
  · replace hm := (if_neg hc).symm.trans hm
    refine lv_iload_n hx hb dX7_plate_10 rfl (lv_at hl 2 rfl) ?_
    refine lv_iconst (v := (1 : Int32)) hx hb dX7_plate_11 (by decide) ?_
    refine lv_bipush (v := (16 : Int32)) hx hb dX7_plate_12 (by decide) ?_
    obtain ⟨r2, hr2, hm⟩ := bd_ok hm
    refine callRS (rest := []) X hml hl.1 (kX7_within l p2 (1 : Int32) (16 : Int32) r2 hr2) (va_cwS 3 X.2.2.1 gX7_plate_X7_within rfl rfl rfl (by decide +kernel) ⟨Nat.le_of_ble_eq_true rfl, Nat.le_of_ble_eq_true rfl⟩) rfl rfl (Nat.le_of_ble_eq_true rfl) dX7_plate_14 ⟨Nat.zero_le _, Nat.zero_le _⟩ ?_
    refine lv_if_eq (tgt := 49) hx hb dX7_plate_17 (by decide) (fun hc => ?_) (fun hc => ?_)
    · replace hm := (if_pos hc).symm.trans hm
      refine lv_bipush (v := (-3 : Int32)) hx hb dX7_plate_49 (by decide) ?_
      exact endI X hK hr rfl hlocks hm hP hS dX7_plate_51
    · replace hm := (if_neg hc).symm.trans hm
      refine lv_iload_n hx hb dX7_plate_20 rfl (lv_at hl 3 rfl) ?_
      refine lv_iconst (v := (0 : Int32)) hx hb dX7_plate_21 (by decide) ?_
      refine lv_iconst (v := (2 : Int32)) hx hb dX7_plate_22 (by decide) ?_
      obtain ⟨r3, hr3, hm⟩ := bd_ok hm
      refine callRS (rest := []) X hml hl.1 (kX7_within l p3 (0 : Int32) (2 : Int32) r3 hr3) (va_cwS 3 X.2.2.1 gX7_plate_X7_within rfl rfl rfl (by decide +kernel) ⟨Nat.le_of_ble_eq_true rfl, Nat.le_of_ble_eq_true rfl⟩) rfl rfl (Nat.le_of_ble_eq_true rfl) dX7_plate_23 ⟨Nat.zero_le _, Nat.zero_le _⟩ ?_
      refine lv_if_eq (tgt := 49) hx hb dX7_plate_26 (by decide) (fun hc => ?_) (fun hc => ?_)
      · replace hm := (if_pos hc).symm.trans hm
        refine lv_bipush (v := (-3 : Int32)) hx hb dX7_plate_49 (by decide) ?_
        exact endI X hK hr rfl hlocks hm hP hS dX7_plate_51
      · replace hm := (if_neg hc).symm.trans hm
        refine lv_iload hx hb dX7_plate_29 (lv_at hl 4 rfl) ?_
        refine lv_iconst (v := (1 : Int32)) hx hb dX7_plate_31 (by decide) ?_
        refine lv_iconst (v := (4 : Int32)) hx hb dX7_plate_32 (by decide) ?_
        obtain ⟨r4, hr4, hm⟩ := bd_ok hm
        refine callRS (rest := []) X hml hl.1 (kX7_within l p4 (1 : Int32) (4 : Int32) r4 hr4) (va_cwS 3 X.2.2.1 gX7_plate_X7_within rfl rfl rfl (by decide +kernel) ⟨Nat.le_of_ble_eq_true rfl, Nat.le_of_ble_eq_true rfl⟩) rfl rfl (Nat.le_of_ble_eq_true rfl) dX7_plate_33 ⟨Nat.zero_le _, Nat.zero_le _⟩ ?_
        refine lv_if_eq (tgt := 49) hx hb dX7_plate_36 (by decide) (fun hc => ?_) (fun hc => ?_)
        · replace hm := (if_pos hc).symm.trans hm
          refine lv_bipush (v := (-3 : Int32)) hx hb dX7_plate_49 (by decide) ?_
          exact endI X hK hr rfl hlocks hm hP hS dX7_plate_51
        · replace hm := (if_neg hc).symm.trans hm
          refine lv_iload hx hb dX7_plate_39 (lv_at hl 5 rfl) ?_
          refine lv_iconst (v := (0 : Int32)) hx hb dX7_plate_41 (by decide) ?_
          refine lv_iconst (v := (1 : Int32)) hx hb dX7_plate_42 (by decide) ?_
          obtain ⟨r5, hr5, hm⟩ := bd_ok hm
          refine callRS (rest := []) X hml hl.1 (kX7_within l p5 (0 : Int32) (1 : Int32) r5 hr5) (va_cwS 3 X.2.2.1 gX7_plate_X7_within rfl rfl rfl (by decide +kernel) ⟨Nat.le_of_ble_eq_true rfl, Nat.le_of_ble_eq_true rfl⟩) rfl rfl (Nat.le_of_ble_eq_true rfl) dX7_plate_43 ⟨Nat.zero_le _, Nat.zero_le _⟩ ?_
          refine lv_if_ne (tgt := 52) hx hb dX7_plate_46 (by decide) (fun hc => ?_) (fun hc => ?_)
          · replace hm := (if_neg hc).symm.trans hm
            refine lv_aload_n hx hb dX7_plate_52 rfl (lv_at hl 0 rfl) ?_
            refine lv_iload_n hx hb dX7_plate_53 rfl (lv_at hl 1 rfl) ?_
            refine pM_X7_wide X hK hA hP hS iX7 (List.mem_of_getElem? (i := 1) rfl) dX7_plate_54 (fun H locs hP hS => ?_)
            refine lv_aload_n hx hb dX7_plate_57 rfl (lv_at hl 0 rfl) ?_
            refine lv_iload_n hx hb dX7_plate_58 rfl (lv_at hl 2 rfl) ?_
            refine pM_X7_high X hK hA hP hS iX7 (List.mem_of_getElem? (i := 2) rfl) dX7_plate_59 (fun H locs hP hS => ?_)
            refine lv_aload_n hx hb dX7_plate_62 rfl (lv_at hl 0 rfl) ?_
            refine lv_iload_n hx hb dX7_plate_63 rfl (lv_at hl 3 rfl) ?_
            refine pM_X7_kerf X hK hA hP hS iX7 (List.mem_of_getElem? (i := 3) rfl) dX7_plate_64 (fun H locs hP hS => ?_)
            refine lv_aload_n hx hb dX7_plate_67 rfl (lv_at hl 0 rfl) ?_
            refine lv_iload hx hb dX7_plate_68 (lv_at hl 4 rfl) ?_
            refine pM_X7_stages X hK hA hP hS iX7 (List.mem_of_getElem? (i := 4) rfl) dX7_plate_70 (fun H locs hP hS => ?_)
            refine lv_aload_n hx hb dX7_plate_73 rfl (lv_at hl 0 rfl) ?_
            refine lv_iload hx hb dX7_plate_74 (lv_at hl 5 rfl) ?_
            refine pM_X7_firstWay X hK hA hP hS iX7 (List.mem_of_getElem? (i := 5) rfl) dX7_plate_76 (fun H locs hP hS => ?_)
            refine lv_aload_n hx hb dX7_plate_79 rfl (lv_at hl 0 rfl) ?_
            refine lv_iconst (v := (0 : Int32)) hx hb dX7_plate_80 (by decide) ?_
            refine pM_X7_defects X hK hA hP hS iX7 (List.mem_of_getElem? (i := 6) rfl) dX7_plate_81 (fun H locs hP hS => ?_)
            refine lv_aload_n hx hb dX7_plate_84 rfl (lv_at hl 0 rfl) ?_
            refine lv_iconst (v := (0 : Int32)) hx hb dX7_plate_85 (by decide) ?_
            refine pM_X7_isWorked X hK hA hP hS iX7 (List.mem_of_getElem? (i := 7) rfl) ⟨rfl, rfl⟩ dX7_plate_86 (fun H locs hP hS => ?_)
            refine lv_iconst (v := (1 : Int32)) hx hb dX7_plate_89 (by decide) ?_
            exact endI X hK hr rfl hlocks hm hP hS dX7_plate_90
          · replace hm := (if_pos hc).symm.trans hm
            refine lv_bipush (v := (-3 : Int32)) hx hb dX7_plate_49 (by decide) ?_
            exact endI X hK hr rfl hlocks hm hP hS dX7_plate_51

def rmX7_lies : Room := { frames := 1, cells := 0, slots := 0, locals := 22 }
set_option maxHeartbeats 4000000 in
set_option maxRecDepth 100000 in
theorem kX7_lies (l : Launch) (D : va_G) (a : Nat → Nat) (cI cZ : ClassId) (S : ST) (p1 : Int32) (p2 : Int32) (p3 : Int32) (p4 : Int32) (res : Int32) (hm : mX7_lies S p1 p2 p3 p4 = some res) : Met l yX7_lies wsX7_lies rmX7_lies (va_Pc [.ref (a 0), .int p1, .int p2, .int p3, .int p4] (PreR (wM a cI cZ S) D cI cZ)) (vp_Si (fun r => r = res)) 0 0 (fun _ => False) := by
  refine metB (cc := cX7_lies) (maxL := 5) (ret := (some .boolean)) (by decide) rfl (Nat.le_of_ble_eq_true rfl) ?_
  intro p e s m below meth c ls X hml hr hlocks hin hv hl
  replace X : CX p m c cX7_lies s ([.ref (a 0), .int p1, .int p2, .int p3, .int p4] : List Value).toArray wsX7_lies RX7 := X
  obtain ⟨hP, hK, hNW⟩ := hv
  have hx := X.1
  have hb := X.2.1
  replace hl : lv_has ls 5 [(0, .ref (a 0)), (1, .int p1), (2, .int p2), (3, .int p3), (4, .int p4)] := hl
  have iX7 : ∀ w ∈ wsX70, w ∈ wsX7_lies := fun w h => List.mem_cons_of_mem _ (List.mem_append_right _ h)
  unfold mX7_lies at hm
  refine lv_iload_n hx hb dX7_lies_0 rfl (lv_at hl 1 rfl) ?_
  refine lv_iconst (v := (0 : Int32)) hx hb dX7_lies_1 (by decide) ?_
  refine lv_aload_n hx hb dX7_lies_2 rfl (lv_at hl 0 rfl) ?_
  refine gM_X7_wide X hK hP iX7 (List.mem_of_getElem? (i := 1) rfl) dX7_lies_3 ?_
  refine lv_iconst (v := (1 : Int32)) hx hb dX7_lies_6 (by decide) ?_
  refine lv_isub hx hb dX7_lies_7 ?_
  obtain ⟨r1, hr1, hm⟩ := bd_ok hm
  refine callRS (rest := []) X hml hl.1 (kX7_within l p1 (0 : Int32) ((S.1 0) - (1 : Int32)) r1 hr1) (va_cwS 3 X.2.2.1 gX7_lies_X7_within rfl rfl rfl (by decide +kernel) ⟨Nat.le_of_ble_eq_true rfl, Nat.le_of_ble_eq_true rfl⟩) rfl rfl (Nat.le_of_ble_eq_true rfl) dX7_lies_8 ⟨Nat.zero_le _, Nat.zero_le _⟩ ?_
  refine lv_if_eq (tgt := 61) hx hb dX7_lies_11 (by decide) (fun hc => ?_) (fun hc => ?_)
  · replace hm := (if_pos hc).symm.trans hm
    refine lv_iconst (v := (0 : Int32)) hx hb dX7_lies_61 (by decide) ?_
    exact endR X hr rfl hlocks hm dX7_lies_62
  · replace hm := (if_neg hc).symm.trans hm
    refine lv_iload_n hx hb dX7_lies_14 rfl (lv_at hl 2 rfl) ?_
    refine lv_iconst (v := (0 : Int32)) hx hb dX7_lies_15 (by decide) ?_
    refine lv_aload_n hx hb dX7_lies_16 rfl (lv_at hl 0 rfl) ?_
    refine gM_X7_high X hK hP iX7 (List.mem_of_getElem? (i := 2) rfl) dX7_lies_17 ?_
    refine lv_iconst (v := (1 : Int32)) hx hb dX7_lies_20 (by decide) ?_
    refine lv_isub hx hb dX7_lies_21 ?_
    obtain ⟨r2, hr2, hm⟩ := bd_ok hm
    refine callRS (rest := []) X hml hl.1 (kX7_within l p2 (0 : Int32) ((S.1 1) - (1 : Int32)) r2 hr2) (va_cwS 3 X.2.2.1 gX7_lies_X7_within rfl rfl rfl (by decide +kernel) ⟨Nat.le_of_ble_eq_true rfl, Nat.le_of_ble_eq_true rfl⟩) rfl rfl (Nat.le_of_ble_eq_true rfl) dX7_lies_22 ⟨Nat.zero_le _, Nat.zero_le _⟩ ?_
    refine lv_if_eq (tgt := 61) hx hb dX7_lies_25 (by decide) (fun hc => ?_) (fun hc => ?_)
    · replace hm := (if_pos hc).symm.trans hm
      refine lv_iconst (v := (0 : Int32)) hx hb dX7_lies_61 (by decide) ?_
      exact endR X hr rfl hlocks hm dX7_lies_62
    · replace hm := (if_neg hc).symm.trans hm
      refine lv_iload_n hx hb dX7_lies_28 rfl (lv_at hl 3 rfl) ?_
      refine lv_iconst (v := (1 : Int32)) hx hb dX7_lies_29 (by decide) ?_
      refine lv_aload_n hx hb dX7_lies_30 rfl (lv_at hl 0 rfl) ?_
      refine gM_X7_wide X hK hP iX7 (List.mem_of_getElem? (i := 1) rfl) dX7_lies_31 ?_
      refine lv_iload_n hx hb dX7_lies_34 rfl (lv_at hl 1 rfl) ?_
      refine lv_isub hx hb dX7_lies_35 ?_
      obtain ⟨r3, hr3, hm⟩ := bd_ok hm
      refine callRS (rest := []) X hml hl.1 (kX7_within l p3 (1 : Int32) ((S.1 0) - p1) r3 hr3) (va_cwS 3 X.2.2.1 gX7_lies_X7_within rfl rfl rfl (by decide +kernel) ⟨Nat.le_of_ble_eq_true rfl, Nat.le_of_ble_eq_true rfl⟩) rfl rfl (Nat.le_of_ble_eq_true rfl) dX7_lies_36 ⟨Nat.zero_le _, Nat.zero_le _⟩ ?_
      refine lv_if_eq (tgt := 61) hx hb dX7_lies_39 (by decide) (fun hc => ?_) (fun hc => ?_)
      · replace hm := (if_pos hc).symm.trans hm
        refine lv_iconst (v := (0 : Int32)) hx hb dX7_lies_61 (by decide) ?_
        exact endR X hr rfl hlocks hm dX7_lies_62
      · replace hm := (if_neg hc).symm.trans hm
        refine lv_iload hx hb dX7_lies_42 (lv_at hl 4 rfl) ?_
        refine lv_iconst (v := (1 : Int32)) hx hb dX7_lies_44 (by decide) ?_
        refine lv_aload_n hx hb dX7_lies_45 rfl (lv_at hl 0 rfl) ?_
        refine gM_X7_high X hK hP iX7 (List.mem_of_getElem? (i := 2) rfl) dX7_lies_46 ?_
        refine lv_iload_n hx hb dX7_lies_49 rfl (lv_at hl 2 rfl) ?_
        refine lv_isub hx hb dX7_lies_50 ?_
        obtain ⟨r4, hr4, hm⟩ := bd_ok hm
        refine callRS (rest := []) X hml hl.1 (kX7_within l p4 (1 : Int32) ((S.1 1) - p2) r4 hr4) (va_cwS 3 X.2.2.1 gX7_lies_X7_within rfl rfl rfl (by decide +kernel) ⟨Nat.le_of_ble_eq_true rfl, Nat.le_of_ble_eq_true rfl⟩) rfl rfl (Nat.le_of_ble_eq_true rfl) dX7_lies_51 ⟨Nat.zero_le _, Nat.zero_le _⟩ ?_
        refine lv_if_eq (tgt := 61) hx hb dX7_lies_54 (by decide) (fun hc => ?_) (fun hc => ?_)
        · replace hm := (if_pos hc).symm.trans hm
          refine lv_iconst (v := (0 : Int32)) hx hb dX7_lies_61 (by decide) ?_
          exact endR X hr rfl hlocks hm dX7_lies_62
        · replace hm := (if_neg hc).symm.trans hm
          refine lv_iconst (v := (1 : Int32)) hx hb dX7_lies_57 (by decide) ?_
          refine lv_goto (tgt := 62) hx hb dX7_lies_58 (by decide) ?_
          exact endR X hr rfl hlocks hm dX7_lies_62

def rmX7_defect : Room := { frames := 2, cells := 0, slots := 0, locals := 46 }
set_option maxHeartbeats 4000000 in
set_option maxRecDepth 100000 in
theorem kX7_defect (l : Launch) (D : va_G) (a : Nat → Nat) (cI cZ : ClassId) (hA : AP 31 a) (S : ST) (sz : Nat) (p1 : Int32) (p2 : Int32) (p3 : Int32) (p4 : Int32) (res : Int32 × ST) (hm : mX7_defect S p1 p2 p3 p4 = some res) : Met l yX7_defect wsX7_defect rmX7_defect (va_Pc [.ref (a 0), .int p1, .int p2, .int p3, .int p4] (PreW (wM a cI cZ S) D cI cZ sz)) (va_Qi (fun (r : Int32) (T : ST) => (r, T) = res) (PostW (wM a cI cZ) D cI cZ) (AC 31 a sz)) 0 0 (AC 31 a sz) := by
  refine metB (cc := cX7_defect) (maxL := 5) (ret := (some .int)) (by decide) rfl (Nat.le_of_ble_eq_true rfl) ?_
  intro p e s m below meth c ls X hml hr hlocks hin hv hl
  replace X : CX p m c cX7_defect s ([.ref (a 0), .int p1, .int p2, .int p3, .int p4] : List Value).toArray wsX7_defect RX7 := X
  obtain ⟨hsz, hP, hK, hNW⟩ := hv
  subst hsz
  have hS : va_S (AC 31 a s.heap.size) s.heap s.heap [] := va_S.rf
  have hx := X.1
  have hb := X.2.1
  replace hl : lv_has ls 5 [(0, .ref (a 0)), (1, .int p1), (2, .int p2), (3, .int p3), (4, .int p4)] := hl
  have iX7 : ∀ w ∈ wsX70, w ∈ wsX7_defect := fun w h => List.mem_cons_of_mem _ (List.mem_append_right _ h)
  suffices kS : ∀ (H : Heap) (locs : List Loc), va_P D vwCl (wM a cI cZ S) H → va_S (AC 31 a s.heap.size) s.heap H locs → W p l e rmX7_defect s m ([.ref (a 0), .int p1, .int p2, .int p3, .int p4] : List Value).toArray below meth c H locs 0 0 (MQ below (va_Qi (fun (r : Int32) (T : ST) => (r, T) = res) (PostW (wM a cI cZ) D cI cZ) (AC 31 a s.heap.size)) ([.ref (a 0), .int p1, .int p2, .int p3, .int p4] : List Value).toArray s 0 0 (AC 31 a s.heap.size)) (F0 m 0 ls []) by exact kS s.heap [] hP hS
  intro H locs hP hS
  unfold mX7_defect at hm
  refine lv_aload_n hx hb dX7_defect_0 rfl (lv_at hl 0 rfl) ?_
  refine lv_iload_n hx hb dX7_defect_1 rfl (lv_at hl 1 rfl) ?_
  refine lv_iload_n hx hb dX7_defect_2 rfl (lv_at hl 2 rfl) ?_
  refine lv_iload_n hx hb dX7_defect_3 rfl (lv_at hl 3 rfl) ?_
  refine lv_iload hx hb dX7_defect_4 (lv_at hl 4 rfl) ?_
  obtain ⟨r1, hr1, hm⟩ := bd_ok hm
  refine callRV (rest := []) X hK hNW hml hP hl.1 (kX7_lies l D a cI cZ S p1 p2 p3 p4 r1 hr1) (cwV 4 X.2.2.1 gX7_defect_X7_lies rfl rfl rfl (by decide +kernel) ⟨Nat.le_of_ble_eq_true rfl, Nat.le_of_ble_eq_true rfl⟩) (vM_X7 hK hP) rfl rfl (Nat.le_of_ble_eq_true rfl) dX7_defect_6 ⟨Nat.zero_le _, Nat.zero_le _⟩ ?_
  refine lv_if_ne (tgt := 15) hx hb dX7_defect_9 (by decide) (fun hc => ?_) (fun hc => ?_)
  · replace hm := (if_neg hc).symm.trans hm
    refine lv_aload_n hx hb dX7_defect_15 rfl (lv_at hl 0 rfl) ?_
    refine gM_X7_defects X hK hP iX7 (List.mem_of_getElem? (i := 1) rfl) dX7_defect_16 ?_
    refine lv_bipush (v := (6 : Int32)) hx hb dX7_defect_19 (by decide) ?_
    refine lv_icmp_ne (tgt := 27) hx hb dX7_defect_21 (by decide) (fun hc => ?_) (fun hc => ?_)
    · replace hm := (if_neg hc).symm.trans hm
      refine lv_aload_n hx hb dX7_defect_27 rfl (lv_at hl 0 rfl) ?_
      refine gM_X7_defectX X hK hP iX7 (List.mem_of_getElem? (i := 2) rfl) dX7_defect_28 ?_
      refine lv_aload_n hx hb dX7_defect_31 rfl (lv_at hl 0 rfl) ?_
      refine gM_X7_defects X hK hP iX7 (List.mem_of_getElem? (i := 1) rfl) dX7_defect_32 ?_
      refine lv_iload_n hx hb dX7_defect_35 rfl (lv_at hl 1 rfl) ?_
      obtain ⟨h1, hm⟩ := gd_ok hm
      refine sM_X7_defectX X hK hA hP hS h1 dX7_defect_36 (fun H locs hP hS => ?_)
      refine lv_aload_n hx hb dX7_defect_37 rfl (lv_at hl 0 rfl) ?_
      refine gM_X7_defectY X hK hP iX7 (List.mem_of_getElem? (i := 3) rfl) dX7_defect_38 ?_
      refine lv_aload_n hx hb dX7_defect_41 rfl (lv_at hl 0 rfl) ?_
      refine gM_X7_defects X hK hP iX7 (List.mem_of_getElem? (i := 1) rfl) dX7_defect_42 ?_
      refine lv_iload_n hx hb dX7_defect_45 rfl (lv_at hl 2 rfl) ?_
      obtain ⟨h1, hm⟩ := gd_ok hm
      refine sM_X7_defectY X hK hA hP hS h1 dX7_defect_46 (fun H locs hP hS => ?_)
      refine lv_aload_n hx hb dX7_defect_47 rfl (lv_at hl 0 rfl) ?_
      refine gM_X7_defectW X hK hP iX7 (List.mem_of_getElem? (i := 4) rfl) dX7_defect_48 ?_
      refine lv_aload_n hx hb dX7_defect_51 rfl (lv_at hl 0 rfl) ?_
      refine gM_X7_defects X hK hP iX7 (List.mem_of_getElem? (i := 1) rfl) dX7_defect_52 ?_
      refine lv_iload_n hx hb dX7_defect_55 rfl (lv_at hl 3 rfl) ?_
      obtain ⟨h1, hm⟩ := gd_ok hm
      refine sM_X7_defectW X hK hA hP hS h1 dX7_defect_56 (fun H locs hP hS => ?_)
      refine lv_aload_n hx hb dX7_defect_57 rfl (lv_at hl 0 rfl) ?_
      refine gM_X7_defectH X hK hP iX7 (List.mem_of_getElem? (i := 5) rfl) dX7_defect_58 ?_
      refine lv_aload_n hx hb dX7_defect_61 rfl (lv_at hl 0 rfl) ?_
      refine gM_X7_defects X hK hP iX7 (List.mem_of_getElem? (i := 1) rfl) dX7_defect_62 ?_
      refine lv_iload hx hb dX7_defect_65 (lv_at hl 4 rfl) ?_
      obtain ⟨h1, hm⟩ := gd_ok hm
      refine sM_X7_defectH X hK hA hP hS h1 dX7_defect_67 (fun H locs hP hS => ?_)
      refine lv_aload_n hx hb dX7_defect_68 rfl (lv_at hl 0 rfl) ?_
      refine lv_dup hx hb dX7_defect_69 rfl ?_
      refine gM_X7_defects X hK hP iX7 (List.mem_of_getElem? (i := 1) rfl) dX7_defect_70 ?_
      refine lv_iconst (v := (1 : Int32)) hx hb dX7_defect_73 (by decide) ?_
      refine lv_iadd hx hb dX7_defect_74 ?_
      refine pM_X7_defects X hK hA hP hS iX7 (List.mem_of_getElem? (i := 1) rfl) dX7_defect_75 (fun H locs hP hS => ?_)
      refine lv_aload_n hx hb dX7_defect_78 rfl (lv_at hl 0 rfl) ?_
      refine lv_iconst (v := (0 : Int32)) hx hb dX7_defect_79 (by decide) ?_
      refine pM_X7_isWorked X hK hA hP hS iX7 (List.mem_of_getElem? (i := 6) rfl) ⟨rfl, rfl⟩ dX7_defect_80 (fun H locs hP hS => ?_)
      refine lv_aload_n hx hb dX7_defect_83 rfl (lv_at hl 0 rfl) ?_
      refine gM_X7_defects X hK hP iX7 (List.mem_of_getElem? (i := 1) rfl) dX7_defect_84 ?_
      exact endI X hK hr rfl hlocks hm hP hS dX7_defect_87
    · replace hm := (if_pos hc).symm.trans hm
      refine lv_bipush (v := (-4 : Int32)) hx hb dX7_defect_24 (by decide) ?_
      exact endI X hK hr rfl hlocks hm hP hS dX7_defect_26
  · replace hm := (if_pos hc).symm.trans hm
    refine lv_bipush (v := (-3 : Int32)) hx hb dX7_defect_12 (by decide) ?_
    exact endI X hK hr rfl hlocks hm hP hS dX7_defect_14

def rmX7_kind : Room := { frames := 1, cells := 0, slots := 0, locals := 22 }
set_option maxHeartbeats 4000000 in
set_option maxRecDepth 100000 in
theorem kX7_kind (l : Launch) (D : va_G) (a : Nat → Nat) (cI cZ : ClassId) (hA : AP 31 a) (S : ST) (sz : Nat) (p1 : Int32) (p2 : Int32) (p3 : Int32) (p4 : Int32) (res : Int32 × ST) (hm : mX7_kind S p1 p2 p3 p4 = some res) : Met l yX7_kind wsX7_kind rmX7_kind (va_Pc [.ref (a 0), .int p1, .int p2, .int p3, .int p4] (PreW (wM a cI cZ S) D cI cZ sz)) (va_Qi (fun (r : Int32) (T : ST) => (r, T) = res) (PostW (wM a cI cZ) D cI cZ) (AC 31 a sz)) 0 0 (AC 31 a sz) := by
  refine metB (cc := cX7_kind) (maxL := 5) (ret := (some .int)) (by decide) rfl (Nat.le_of_ble_eq_true rfl) ?_
  intro p e s m below meth c ls X hml hr hlocks hin hv hl
  replace X : CX p m c cX7_kind s ([.ref (a 0), .int p1, .int p2, .int p3, .int p4] : List Value).toArray wsX7_kind RX7 := X
  obtain ⟨hsz, hP, hK, hNW⟩ := hv
  subst hsz
  have hS : va_S (AC 31 a s.heap.size) s.heap s.heap [] := va_S.rf
  have hx := X.1
  have hb := X.2.1
  replace hl : lv_has ls 5 [(0, .ref (a 0)), (1, .int p1), (2, .int p2), (3, .int p3), (4, .int p4)] := hl
  have iX7 : ∀ w ∈ wsX70, w ∈ wsX7_kind := fun w h => List.mem_cons_of_mem _ (List.mem_append_right _ h)
  suffices kS : ∀ (H : Heap) (locs : List Loc), va_P D vwCl (wM a cI cZ S) H → va_S (AC 31 a s.heap.size) s.heap H locs → W p l e rmX7_kind s m ([.ref (a 0), .int p1, .int p2, .int p3, .int p4] : List Value).toArray below meth c H locs 0 0 (MQ below (va_Qi (fun (r : Int32) (T : ST) => (r, T) = res) (PostW (wM a cI cZ) D cI cZ) (AC 31 a s.heap.size)) ([.ref (a 0), .int p1, .int p2, .int p3, .int p4] : List Value).toArray s 0 0 (AC 31 a s.heap.size)) (F0 m 0 ls []) by exact kS s.heap [] hP hS
  intro H locs hP hS
  unfold mX7_kind at hm
  refine lv_iload_n hx hb dX7_kind_0 rfl (lv_at hl 1 rfl) ?_
  refine lv_iconst (v := (1 : Int32)) hx hb dX7_kind_1 (by decide) ?_
  refine lv_bipush (v := (16 : Int32)) hx hb dX7_kind_2 (by decide) ?_
  obtain ⟨r1, hr1, hm⟩ := bd_ok hm
  refine callRS (rest := []) X hml hl.1 (kX7_within l p1 (1 : Int32) (16 : Int32) r1 hr1) (va_cwS 3 X.2.2.1 gX7_kind_X7_within rfl rfl rfl (by decide +kernel) ⟨Nat.le_of_ble_eq_true rfl, Nat.le_of_ble_eq_true rfl⟩) rfl rfl (Nat.le_of_ble_eq_true rfl) dX7_kind_4 ⟨Nat.zero_le _, Nat.zero_le _⟩ ?_
  refine lv_if_eq (tgt := 31) hx hb dX7_kind_7 (by decide) (fun hc => ?_) (fun hc => ?_)
  · replace hm := (if_pos hc).symm.trans hm
    refine lv_bipush (v := (-3 : Int32)) hx hb dX7_kind_31 (by decide) ?_
    exact endI X hK hr rfl hlocks hm hP hS dX7_kind_33
  · replace hm := (if_neg hc).symm.trans hm
    refine lv_iload_n hx hb dX7_kind_10 rfl (lv_at hl 2 rfl) ?_
    refine lv_iconst (v := (1 : Int32)) hx hb dX7_kind_11 (by decide) ?_
    refine lv_bipush (v := (16 : Int32)) hx hb dX7_kind_12 (by decide) ?_
    obtain ⟨r2, hr2, hm⟩ := bd_ok hm
    refine callRS (rest := []) X hml hl.1 (kX7_within l p2 (1 : Int32) (16 : Int32) r2 hr2) (va_cwS 3 X.2.2.1 gX7_kind_X7_within rfl rfl rfl (by decide +kernel) ⟨Nat.le_of_ble_eq_true rfl, Nat.le_of_ble_eq_true rfl⟩) rfl rfl (Nat.le_of_ble_eq_true rfl) dX7_kind_14 ⟨Nat.zero_le _, Nat.zero_le _⟩ ?_
    refine lv_if_eq (tgt := 31) hx hb dX7_kind_17 (by decide) (fun hc => ?_) (fun hc => ?_)
    · replace hm := (if_pos hc).symm.trans hm
      refine lv_bipush (v := (-3 : Int32)) hx hb dX7_kind_31 (by decide) ?_
      exact endI X hK hr rfl hlocks hm hP hS dX7_kind_33
    · replace hm := (if_neg hc).symm.trans hm
      refine lv_iload_n hx hb dX7_kind_20 rfl (lv_at hl 3 rfl) ?_
      refine lv_iconst (v := (1 : Int32)) hx hb dX7_kind_21 (by decide) ?_
      refine lv_sipush (v := (1000 : Int32)) hx hb dX7_kind_22 (by decide) ?_
      obtain ⟨r3, hr3, hm⟩ := bd_ok hm
      refine callRS (rest := []) X hml hl.1 (kX7_within l p3 (1 : Int32) (1000 : Int32) r3 hr3) (va_cwS 3 X.2.2.1 gX7_kind_X7_within rfl rfl rfl (by decide +kernel) ⟨Nat.le_of_ble_eq_true rfl, Nat.le_of_ble_eq_true rfl⟩) rfl rfl (Nat.le_of_ble_eq_true rfl) dX7_kind_25 ⟨Nat.zero_le _, Nat.zero_le _⟩ ?_
      refine lv_if_ne (tgt := 34) hx hb dX7_kind_28 (by decide) (fun hc => ?_) (fun hc => ?_)
      · replace hm := (if_neg hc).symm.trans hm
        refine lv_aload_n hx hb dX7_kind_34 rfl (lv_at hl 0 rfl) ?_
        refine gM_X7_kinds X hK hP iX7 (List.mem_of_getElem? (i := 1) rfl) dX7_kind_35 ?_
        refine lv_bipush (v := (8 : Int32)) hx hb dX7_kind_38 (by decide) ?_
        refine lv_icmp_ne (tgt := 46) hx hb dX7_kind_40 (by decide) (fun hc => ?_) (fun hc => ?_)
        · replace hm := (if_neg hc).symm.trans hm
          refine lv_aload_n hx hb dX7_kind_46 rfl (lv_at hl 0 rfl) ?_
          refine gM_X7_kindW X hK hP iX7 (List.mem_of_getElem? (i := 2) rfl) dX7_kind_47 ?_
          refine lv_aload_n hx hb dX7_kind_50 rfl (lv_at hl 0 rfl) ?_
          refine gM_X7_kinds X hK hP iX7 (List.mem_of_getElem? (i := 1) rfl) dX7_kind_51 ?_
          refine lv_iload_n hx hb dX7_kind_54 rfl (lv_at hl 1 rfl) ?_
          obtain ⟨h1, hm⟩ := gd_ok hm
          refine sM_X7_kindW X hK hA hP hS h1 dX7_kind_55 (fun H locs hP hS => ?_)
          refine lv_aload_n hx hb dX7_kind_56 rfl (lv_at hl 0 rfl) ?_
          refine gM_X7_kindH X hK hP iX7 (List.mem_of_getElem? (i := 3) rfl) dX7_kind_57 ?_
          refine lv_aload_n hx hb dX7_kind_60 rfl (lv_at hl 0 rfl) ?_
          refine gM_X7_kinds X hK hP iX7 (List.mem_of_getElem? (i := 1) rfl) dX7_kind_61 ?_
          refine lv_iload_n hx hb dX7_kind_64 rfl (lv_at hl 2 rfl) ?_
          obtain ⟨h1, hm⟩ := gd_ok hm
          refine sM_X7_kindH X hK hA hP hS h1 dX7_kind_65 (fun H locs hP hS => ?_)
          refine lv_aload_n hx hb dX7_kind_66 rfl (lv_at hl 0 rfl) ?_
          refine gM_X7_kindValue X hK hP iX7 (List.mem_of_getElem? (i := 4) rfl) dX7_kind_67 ?_
          refine lv_aload_n hx hb dX7_kind_70 rfl (lv_at hl 0 rfl) ?_
          refine gM_X7_kinds X hK hP iX7 (List.mem_of_getElem? (i := 1) rfl) dX7_kind_71 ?_
          refine lv_iload_n hx hb dX7_kind_74 rfl (lv_at hl 3 rfl) ?_
          obtain ⟨h1, hm⟩ := gd_ok hm
          refine sM_X7_kindValue X hK hA hP hS h1 dX7_kind_75 (fun H locs hP hS => ?_)
          refine lv_aload_n hx hb dX7_kind_76 rfl (lv_at hl 0 rfl) ?_
          refine gM_X7_kindTurns X hK hP iX7 (List.mem_of_getElem? (i := 5) rfl) dX7_kind_77 ?_
          refine lv_aload_n hx hb dX7_kind_80 rfl (lv_at hl 0 rfl) ?_
          refine gM_X7_kinds X hK hP iX7 (List.mem_of_getElem? (i := 1) rfl) dX7_kind_81 ?_
          refine lv_iload hx hb dX7_kind_84 (lv_at hl 4 rfl) ?_
          obtain ⟨h1, hm⟩ := gd_ok hm
          refine sM_X7_kindTurns X hK hA hP hS h1 dX7_kind_86 (fun H locs hP hS => ?_)
          refine lv_aload_n hx hb dX7_kind_87 rfl (lv_at hl 0 rfl) ?_
          refine lv_dup hx hb dX7_kind_88 rfl ?_
          refine gM_X7_kinds X hK hP iX7 (List.mem_of_getElem? (i := 1) rfl) dX7_kind_89 ?_
          refine lv_iconst (v := (1 : Int32)) hx hb dX7_kind_92 (by decide) ?_
          refine lv_iadd hx hb dX7_kind_93 ?_
          refine pM_X7_kinds X hK hA hP hS iX7 (List.mem_of_getElem? (i := 1) rfl) dX7_kind_94 (fun H locs hP hS => ?_)
          refine lv_aload_n hx hb dX7_kind_97 rfl (lv_at hl 0 rfl) ?_
          refine lv_iconst (v := (0 : Int32)) hx hb dX7_kind_98 (by decide) ?_
          refine pM_X7_isWorked X hK hA hP hS iX7 (List.mem_of_getElem? (i := 6) rfl) ⟨rfl, rfl⟩ dX7_kind_99 (fun H locs hP hS => ?_)
          refine lv_aload_n hx hb dX7_kind_102 rfl (lv_at hl 0 rfl) ?_
          refine gM_X7_kinds X hK hP iX7 (List.mem_of_getElem? (i := 1) rfl) dX7_kind_103 ?_
          refine lv_iconst (v := (1 : Int32)) hx hb dX7_kind_106 (by decide) ?_
          refine lv_isub hx hb dX7_kind_107 ?_
          exact endI X hK hr rfl hlocks hm hP hS dX7_kind_108
        · replace hm := (if_pos hc).symm.trans hm
          refine lv_bipush (v := (-4 : Int32)) hx hb dX7_kind_43 (by decide) ?_
          exact endI X hK hr rfl hlocks hm hP hS dX7_kind_45
      · replace hm := (if_pos hc).symm.trans hm
        refine lv_bipush (v := (-3 : Int32)) hx hb dX7_kind_31 (by decide) ?_
        exact endI X hK hr rfl hlocks hm hP hS dX7_kind_33

def rmX7_value : Room := { frames := 1, cells := 0, slots := 0, locals := 22 }
set_option maxHeartbeats 4000000 in
set_option maxRecDepth 100000 in
theorem kX7_value (l : Launch) (D : va_G) (a : Nat → Nat) (cI cZ : ClassId) (hA : AP 31 a) (S : ST) (sz : Nat) (p1 : Int32) (p2 : Int32) (res : Int32 × ST) (hm : mX7_value S p1 p2 = some res) : Met l yX7_value wsX7_value rmX7_value (va_Pc [.ref (a 0), .int p1, .int p2] (PreW (wM a cI cZ S) D cI cZ sz)) (va_Qi (fun (r : Int32) (T : ST) => (r, T) = res) (PostW (wM a cI cZ) D cI cZ) (AC 31 a sz)) 0 0 (AC 31 a sz) := by
  refine metB (cc := cX7_value) (maxL := 4) (ret := (some .int)) (by decide) rfl (Nat.le_of_ble_eq_true rfl) ?_
  intro p e s m below meth c ls X hml hr hlocks hin hv hl
  replace X : CX p m c cX7_value s ([.ref (a 0), .int p1, .int p2] : List Value).toArray wsX7_value RX7 := X
  obtain ⟨hsz, hP, hK, hNW⟩ := hv
  subst hsz
  have hS : va_S (AC 31 a s.heap.size) s.heap s.heap [] := va_S.rf
  have hx := X.1
  have hb := X.2.1
  replace hl : lv_has ls 4 [(0, .ref (a 0)), (1, .int p1), (2, .int p2)] := hl
  have iX7 : ∀ w ∈ wsX70, w ∈ wsX7_value := fun w h => List.mem_cons_of_mem _ (List.mem_append_right _ h)
  suffices kS : ∀ (H : Heap) (locs : List Loc), va_P D vwCl (wM a cI cZ S) H → va_S (AC 31 a s.heap.size) s.heap H locs → W p l e rmX7_value s m ([.ref (a 0), .int p1, .int p2] : List Value).toArray below meth c H locs 0 0 (MQ below (va_Qi (fun (r : Int32) (T : ST) => (r, T) = res) (PostW (wM a cI cZ) D cI cZ) (AC 31 a s.heap.size)) ([.ref (a 0), .int p1, .int p2] : List Value).toArray s 0 0 (AC 31 a s.heap.size)) (F0 m 0 ls []) by exact kS s.heap [] hP hS
  intro H locs hP hS
  unfold mX7_value at hm
  refine lv_iload_n hx hb dX7_value_0 rfl (lv_at hl 1 rfl) ?_
  refine lv_iconst (v := (0 : Int32)) hx hb dX7_value_1 (by decide) ?_
  refine lv_aload_n hx hb dX7_value_2 rfl (lv_at hl 0 rfl) ?_
  refine gM_X7_kinds X hK hP iX7 (List.mem_of_getElem? (i := 1) rfl) dX7_value_3 ?_
  refine lv_iconst (v := (1 : Int32)) hx hb dX7_value_6 (by decide) ?_
  refine lv_isub hx hb dX7_value_7 ?_
  obtain ⟨r1, hr1, hm⟩ := bd_ok hm
  refine callRS (rest := []) X hml hl.1 (kX7_within l p1 (0 : Int32) ((S.1 6) - (1 : Int32)) r1 hr1) (va_cwS 3 X.2.2.1 gX7_value_X7_within rfl rfl rfl (by decide +kernel) ⟨Nat.le_of_ble_eq_true rfl, Nat.le_of_ble_eq_true rfl⟩) rfl rfl (Nat.le_of_ble_eq_true rfl) dX7_value_8 ⟨Nat.zero_le _, Nat.zero_le _⟩ ?_
  refine lv_if_ne (tgt := 17) hx hb dX7_value_11 (by decide) (fun hc => ?_) (fun hc => ?_)
  · replace hm := (if_neg hc).symm.trans hm
    refine lv_iload_n hx hb dX7_value_17 rfl (lv_at hl 2 rfl) ?_
    refine lv_iconst (v := (1 : Int32)) hx hb dX7_value_18 (by decide) ?_
    refine lv_sipush (v := (1000 : Int32)) hx hb dX7_value_19 (by decide) ?_
    obtain ⟨r2, hr2, hm⟩ := bd_ok hm
    refine callRS (rest := []) X hml hl.1 (kX7_within l p2 (1 : Int32) (1000 : Int32) r2 hr2) (va_cwS 3 X.2.2.1 gX7_value_X7_within rfl rfl rfl (by decide +kernel) ⟨Nat.le_of_ble_eq_true rfl, Nat.le_of_ble_eq_true rfl⟩) rfl rfl (Nat.le_of_ble_eq_true rfl) dX7_value_22 ⟨Nat.zero_le _, Nat.zero_le _⟩ ?_
    refine lv_if_ne (tgt := 31) hx hb dX7_value_25 (by decide) (fun hc => ?_) (fun hc => ?_)
    · replace hm := (if_neg hc).symm.trans hm
      refine lv_aload_n hx hb dX7_value_31 rfl (lv_at hl 0 rfl) ?_
      refine gM_X7_kindValue X hK hP iX7 (List.mem_of_getElem? (i := 2) rfl) dX7_value_32 ?_
      refine lv_iload_n hx hb dX7_value_35 rfl (lv_at hl 1 rfl) ?_
      obtain ⟨h1, hm⟩ := gd_ok hm
      refine rM_X7_kindValue X hK hP h1 dX7_value_36 ?_
      refine lv_istore_n (lv' := [(3, .int (S.2 6 p1.toNatClampNeg)), (0, .ref (a 0)), (1, .int p1), (2, .int p2)]) hx hb dX7_value_37 rfl hl (by decide) rfl (fun ls hl => ?_)
      refine lv_aload_n hx hb dX7_value_38 rfl (lv_at hl 1 rfl) ?_
      refine gM_X7_kindValue X hK hP iX7 (List.mem_of_getElem? (i := 2) rfl) dX7_value_39 ?_
      refine lv_iload_n hx hb dX7_value_42 rfl (lv_at hl 2 rfl) ?_
      refine lv_iload_n hx hb dX7_value_43 rfl (lv_at hl 3 rfl) ?_
      obtain ⟨h1, hm⟩ := gd_ok hm
      refine sM_X7_kindValue X hK hA hP hS h1 dX7_value_44 (fun H locs hP hS => ?_)
      refine lv_aload_n hx hb dX7_value_45 rfl (lv_at hl 1 rfl) ?_
      refine lv_iconst (v := (0 : Int32)) hx hb dX7_value_46 (by decide) ?_
      refine pM_X7_isWorked X hK hA hP hS iX7 (List.mem_of_getElem? (i := 3) rfl) ⟨rfl, rfl⟩ dX7_value_47 (fun H locs hP hS => ?_)
      refine lv_iload_n hx hb dX7_value_50 rfl (lv_at hl 0 rfl) ?_
      exact endI X hK hr rfl hlocks hm hP hS dX7_value_51
    · replace hm := (if_pos hc).symm.trans hm
      refine lv_bipush (v := (-3 : Int32)) hx hb dX7_value_28 (by decide) ?_
      exact endI X hK hr rfl hlocks hm hP hS dX7_value_30
  · replace hm := (if_pos hc).symm.trans hm
    refine lv_bipush (v := (-2 : Int32)) hx hb dX7_value_14 (by decide) ?_
    exact endI X hK hr rfl hlocks hm hP hS dX7_value_16

def rmX7_at : Room := { frames := 0, cells := 0, slots := 0, locals := 0 }
set_option maxHeartbeats 4000000 in
set_option maxRecDepth 100000 in
theorem kX7_at (l : Launch) (D : va_G) (a : Nat → Nat) (cI cZ : ClassId) (S : ST) (p1 : Int32) (p2 : Int32) (p3 : Int32) (p4 : Int32) (p5 : Int32) (res : Int32) (hm : mX7_at S p1 p2 p3 p4 p5 = some res) : Met l yX7_at wsX7_at rmX7_at (va_Pc [.ref (a 0), .int p1, .int p2, .int p3, .int p4, .int p5] (PreR (wM a cI cZ S) D cI cZ)) (vp_Si (fun r => r = res)) 0 0 (fun _ => False) := by
  refine metB (cc := cX7_at) (maxL := 6) (ret := (some .int)) (by decide) rfl (Nat.le_of_ble_eq_true rfl) ?_
  intro p e s m below meth c ls X hml hr hlocks hin hv hl
  replace X : CX p m c cX7_at s ([.ref (a 0), .int p1, .int p2, .int p3, .int p4, .int p5] : List Value).toArray wsX7_at RX7 := X
  obtain ⟨hP, hK, hNW⟩ := hv
  have hx := X.1
  have hb := X.2.1
  replace hl : lv_has ls 6 [(0, .ref (a 0)), (1, .int p1), (2, .int p2), (3, .int p3), (4, .int p4), (5, .int p5)] := hl
  have iX7 : ∀ w ∈ wsX70, w ∈ wsX7_at := fun w h => List.mem_cons_of_mem _ (List.mem_append_right _ h)
  unfold mX7_at at hm
  refine lv_sipush (v := (136 : Int32)) hx hb dX7_at_0 (by decide) ?_
  refine lv_iload_n hx hb dX7_at_3 rfl (lv_at hl 1 rfl) ?_
  refine lv_iconst (v := (1 : Int32)) hx hb dX7_at_4 (by decide) ?_
  refine lv_isub hx hb dX7_at_5 ?_
  refine lv_imul hx hb dX7_at_6 ?_
  refine lv_aload_n hx hb dX7_at_7 rfl (lv_at hl 0 rfl) ?_
  refine gM_X7_spanAt X hK hP iX7 (List.mem_of_getElem? (i := 1) rfl) dX7_at_8 ?_
  refine lv_bipush (v := (16 : Int32)) hx hb dX7_at_11 (by decide) ?_
  refine lv_iload_n hx hb dX7_at_13 rfl (lv_at hl 2 rfl) ?_
  refine lv_imul hx hb dX7_at_14 ?_
  refine lv_iload hx hb dX7_at_15 (lv_at hl 4 rfl) ?_
  refine lv_iadd hx hb dX7_at_17 ?_
  refine lv_iconst (v := (1 : Int32)) hx hb dX7_at_18 (by decide) ?_
  refine lv_isub hx hb dX7_at_19 ?_
  obtain ⟨h1, hm⟩ := gd_ok hm
  refine rM_X7_spanAt X hK hP h1 dX7_at_20 ?_
  refine lv_iadd hx hb dX7_at_21 ?_
  refine lv_sipush (v := (136 : Int32)) hx hb dX7_at_22 (by decide) ?_
  refine lv_imul hx hb dX7_at_25 ?_
  refine lv_aload_n hx hb dX7_at_26 rfl (lv_at hl 0 rfl) ?_
  refine gM_X7_spanAt X hK hP iX7 (List.mem_of_getElem? (i := 1) rfl) dX7_at_27 ?_
  refine lv_bipush (v := (16 : Int32)) hx hb dX7_at_30 (by decide) ?_
  refine lv_iload_n hx hb dX7_at_32 rfl (lv_at hl 3 rfl) ?_
  refine lv_imul hx hb dX7_at_33 ?_
  refine lv_iload hx hb dX7_at_34 (lv_at hl 5 rfl) ?_
  refine lv_iadd hx hb dX7_at_36 ?_
  refine lv_iconst (v := (1 : Int32)) hx hb dX7_at_37 (by decide) ?_
  refine lv_isub hx hb dX7_at_38 ?_
  obtain ⟨h1, hm⟩ := gd_ok hm
  refine rM_X7_spanAt X hK hP h1 dX7_at_39 ?_
  refine lv_iadd hx hb dX7_at_40 ?_
  exact endR X hr rfl hlocks hm dX7_at_41

def rmX7_isSpoiled : Room := { frames := 0, cells := 0, slots := 0, locals := 0 }
set_option maxHeartbeats 4000000 in
set_option maxRecDepth 100000 in
theorem kX7_isSpoiled (l : Launch) (D : va_G) (a : Nat → Nat) (cI cZ : ClassId) (S : ST) (p1 : Int32) (p2 : Int32) (p3 : Int32) (p4 : Int32) (res : Int32) (hm : mX7_isSpoiled S p1 p2 p3 p4 = some res) : Met l yX7_isSpoiled wsX7_isSpoiled rmX7_isSpoiled (va_Pc [.ref (a 0), .int p1, .int p2, .int p3, .int p4] (PreR (wM a cI cZ S) D cI cZ)) (vp_Si (fun r => r = res)) 0 0 (fun _ => False) := by
  refine metB (cc := cX7_isSpoiled) (maxL := 8) (ret := (some .boolean)) (by decide) rfl (Nat.le_of_ble_eq_true rfl) ?_
  intro p e s m below meth c ls X hml hr hlocks hin hv hl
  replace X : CX p m c cX7_isSpoiled s ([.ref (a 0), .int p1, .int p2, .int p3, .int p4] : List Value).toArray wsX7_isSpoiled RX7 := X
  obtain ⟨hP, hK, hNW⟩ := hv
  have hx := X.1
  have hb := X.2.1
  replace hl : lv_has ls 8 [(0, .ref (a 0)), (1, .int p1), (2, .int p2), (3, .int p3), (4, .int p4)] := hl
  have iX7 : ∀ w ∈ wsX70, w ∈ wsX7_isSpoiled := fun w h => List.mem_cons_of_mem _ (List.mem_append_right _ h)
  unfold mX7_isSpoiled at hm
  refine lv_iconst (v := (0 : Int32)) hx hb dX7_isSpoiled_0 (by decide) ?_
  refine lv_istore (lv' := [(5, .int (0 : Int32)), (0, .ref (a 0)), (1, .int p1), (2, .int p2), (3, .int p3), (4, .int p4)]) hx hb dX7_isSpoiled_1 hl (by decide) rfl (fun ls hl => ?_)
  refine lv_iconst (v := (0 : Int32)) hx hb dX7_isSpoiled_3 (by decide) ?_
  refine lv_istore (lv' := [(6, .int (0 : Int32)), (5, .int (0 : Int32)), (0, .ref (a 0)), (1, .int p1), (2, .int p2), (3, .int p3), (4, .int p4)]) hx hb dX7_isSpoiled_4 hl (by decide) rfl (fun ls hl => ?_)
  have kb6 : ∀ (k x : Int32 → Int32 → Option (Int32)), (∀ (v5_6 : Int32) (v6_6 : Int32) (ls : Array Slot), lv_has ls 8 [(0, .ref (a 0)), (1, .int p1), (2, .int p2), (3, .int p3), (4, .int p4), (5, .int v5_6), (6, .int v6_6)] → k v5_6 v6_6 = some res → W p l e rmX7_isSpoiled s m ([.ref (a 0), .int p1, .int p2, .int p3, .int p4] : List Value).toArray below meth c s.heap [] 0 0 (MQ below (vp_Si (fun r => r = res)) ([.ref (a 0), .int p1, .int p2, .int p3, .int p4] : List Value).toArray s 0 0 (fun _ => False)) (F0 m 6 ls [])) → (∀ (v5_6 : Int32) (v6_6 : Int32) (ls : Array Slot), lv_has ls 8 [(0, .ref (a 0)), (1, .int p1), (2, .int p2), (3, .int p3), (4, .int p4), (5, .int v5_6), (6, .int v6_6)] → x v5_6 v6_6 = some res → W p l e rmX7_isSpoiled s m ([.ref (a 0), .int p1, .int p2, .int p3, .int p4] : List Value).toArray below meth c s.heap [] 0 0 (MQ below (vp_Si (fun r => r = res)) ([.ref (a 0), .int p1, .int p2, .int p3, .int p4] : List Value).toArray s 0 0 (fun _ => False)) (F0 m 110 ls [])) → ∀ (v5_6 : Int32) (v6_6 : Int32) (ls : Array Slot), lv_has ls 8 [(0, .ref (a 0)), (1, .int p1), (2, .int p2), (3, .int p3), (4, .int p4), (5, .int v5_6), (6, .int v6_6)] → mX7_isSpoiled_B6 k x S p1 p2 p3 p4 v5_6 v6_6 = some res → W p l e rmX7_isSpoiled s m ([.ref (a 0), .int p1, .int p2, .int p3, .int p4] : List Value).toArray below meth c s.heap [] 0 0 (MQ below (vp_Si (fun r => r = res)) ([.ref (a 0), .int p1, .int p2, .int p3, .int p4] : List Value).toArray s 0 0 (fun _ => False)) (F0 m 6 ls []) := by
    intro k x ih kxh v5_6 v6_6 ls hl hm
    unfold mX7_isSpoiled_B6 at hm
    refine lv_iload hx hb dX7_isSpoiled_6 (lv_at hl 6 rfl) ?_
    refine lv_aload_n hx hb dX7_isSpoiled_8 rfl (lv_at hl 0 rfl) ?_
    refine gM_X7_defects X hK hP iX7 (List.mem_of_getElem? (i := 1) rfl) dX7_isSpoiled_9 ?_
    refine lv_icmp_ge (tgt := 110) hx hb dX7_isSpoiled_12 (by decide) (fun hc => ?_) (fun hc => ?_)
    · replace hm := (if_pos hc).symm.trans hm
      exact kxh v5_6 v6_6 ls (lv_sub hl [0, 1, 2, 3, 4, 5, 6] rfl) hm
    · replace hm := (if_neg hc).symm.trans hm
      refine lv_aload_n hx hb dX7_isSpoiled_15 rfl (lv_at hl 0 rfl) ?_
      refine gM_X7_defectX X hK hP iX7 (List.mem_of_getElem? (i := 2) rfl) dX7_isSpoiled_16 ?_
      refine lv_iload hx hb dX7_isSpoiled_19 (lv_at hl 6 rfl) ?_
      obtain ⟨h1, hm⟩ := gd_ok hm
      refine rM_X7_defectX X hK hP h1 dX7_isSpoiled_21 ?_
      refine lv_iload_n hx hb dX7_isSpoiled_22 rfl (lv_at hl 1 rfl) ?_
      refine lv_iload_n hx hb dX7_isSpoiled_23 rfl (lv_at hl 3 rfl) ?_
      refine lv_iadd hx hb dX7_isSpoiled_24 ?_
      have kJ85 : ∀ (t0_85 : Int32) (ls : Array Slot), lv_has ls 8 [(0, .ref (a 0)), (1, .int p1), (2, .int p2), (3, .int p3), (4, .int p4), (5, .int v5_6), (6, .int v6_6)] → mX7_isSpoiled_J85 k x S p1 p2 p3 p4 v5_6 v6_6 t0_85 = some res → W p l e rmX7_isSpoiled s m ([.ref (a 0), .int p1, .int p2, .int p3, .int p4] : List Value).toArray below meth c s.heap [] 0 0 (MQ below (vp_Si (fun r => r = res)) ([.ref (a 0), .int p1, .int p2, .int p3, .int p4] : List Value).toArray s 0 0 (fun _ => False)) (F0 m 85 ls [.int t0_85]) := by
        intro t0_85 ls hl hm
        unfold mX7_isSpoiled_J85 at hm
        refine lv_istore (lv' := [(7, .int t0_85), (0, .ref (a 0)), (1, .int p1), (2, .int p2), (3, .int p3), (4, .int p4), (5, .int v5_6), (6, .int v6_6)]) hx hb dX7_isSpoiled_85 hl (by decide) rfl (fun ls hl => ?_)
        refine lv_iload hx hb dX7_isSpoiled_87 (lv_at hl 6 rfl) ?_
        refine lv_if_ne (tgt := 97) hx hb dX7_isSpoiled_89 (by decide) (fun hc => ?_) (fun hc => ?_)
        · replace hm := (if_neg hc).symm.trans hm
          refine lv_iconst (v := (1 : Int32)) hx hb dX7_isSpoiled_97 (by decide) ?_
          refine lv_goto (tgt := 102) hx hb dX7_isSpoiled_98 (by decide) ?_
          refine lv_istore (lv' := [(5, .int (1 : Int32)), (7, .int t0_85), (0, .ref (a 0)), (1, .int p1), (2, .int p2), (3, .int p3), (4, .int p4), (6, .int v6_6)]) hx hb dX7_isSpoiled_102 hl (by decide) rfl (fun ls hl => ?_)
          refine lv_iinc (v := (v6_6 + (1 : Int32))) (lv' := [(6, .int (v6_6 + (1 : Int32))), (5, .int (1 : Int32)), (7, .int t0_85), (0, .ref (a 0)), (1, .int p1), (2, .int p2), (3, .int p3), (4, .int p4)]) hx hb dX7_isSpoiled_104 hl (k := 7) rfl rfl (by decide) rfl (fun ls hl => ?_)
          refine lv_goto (tgt := 6) hx hb dX7_isSpoiled_107 (by decide) ?_
          exact ih (1 : Int32) (v6_6 + (1 : Int32)) ls (lv_sub hl [3, 4, 5, 6, 7, 1, 0] rfl) hm
        · replace hm := (if_pos hc).symm.trans hm
          refine lv_iload hx hb dX7_isSpoiled_92 (lv_at hl 0 rfl) ?_
          refine lv_if_ne (tgt := 101) hx hb dX7_isSpoiled_94 (by decide) (fun hc => ?_) (fun hc => ?_)
          · replace hm := (if_neg hc).symm.trans hm
            refine lv_iconst (v := (0 : Int32)) hx hb dX7_isSpoiled_101 (by decide) ?_
            refine lv_istore (lv' := [(5, .int (0 : Int32)), (7, .int t0_85), (0, .ref (a 0)), (1, .int p1), (2, .int p2), (3, .int p3), (4, .int p4), (6, .int v6_6)]) hx hb dX7_isSpoiled_102 hl (by decide) rfl (fun ls hl => ?_)
            refine lv_iinc (v := (v6_6 + (1 : Int32))) (lv' := [(6, .int (v6_6 + (1 : Int32))), (5, .int (0 : Int32)), (7, .int t0_85), (0, .ref (a 0)), (1, .int p1), (2, .int p2), (3, .int p3), (4, .int p4)]) hx hb dX7_isSpoiled_104 hl (k := 7) rfl rfl (by decide) rfl (fun ls hl => ?_)
            refine lv_goto (tgt := 6) hx hb dX7_isSpoiled_107 (by decide) ?_
            exact ih (0 : Int32) (v6_6 + (1 : Int32)) ls (lv_sub hl [3, 4, 5, 6, 7, 1, 0] rfl) hm
          · replace hm := (if_pos hc).symm.trans hm
            refine lv_iconst (v := (1 : Int32)) hx hb dX7_isSpoiled_97 (by decide) ?_
            refine lv_goto (tgt := 102) hx hb dX7_isSpoiled_98 (by decide) ?_
            refine lv_istore (lv' := [(5, .int (1 : Int32)), (7, .int t0_85), (0, .ref (a 0)), (1, .int p1), (2, .int p2), (3, .int p3), (4, .int p4), (6, .int v6_6)]) hx hb dX7_isSpoiled_102 hl (by decide) rfl (fun ls hl => ?_)
            refine lv_iinc (v := (v6_6 + (1 : Int32))) (lv' := [(6, .int (v6_6 + (1 : Int32))), (5, .int (1 : Int32)), (7, .int t0_85), (0, .ref (a 0)), (1, .int p1), (2, .int p2), (3, .int p3), (4, .int p4)]) hx hb dX7_isSpoiled_104 hl (k := 7) rfl rfl (by decide) rfl (fun ls hl => ?_)
            refine lv_goto (tgt := 6) hx hb dX7_isSpoiled_107 (by decide) ?_
            exact ih (1 : Int32) (v6_6 + (1 : Int32)) ls (lv_sub hl [3, 4, 5, 6, 7, 1, 0] rfl) hm
      refine lv_icmp_ge (tgt := 80) hx hb dX7_isSpoiled_25 (by decide) (fun hc => ?_) (fun hc => ?_)
      · replace hm := (if_pos hc).symm.trans hm
        refine lv_iconst (v := (1 : Int32)) hx hb dX7_isSpoiled_80 (by decide) ?_
        refine lv_goto (tgt := 85) hx hb dX7_isSpoiled_81 (by decide) ?_
        exact kJ85 (1 : Int32) ls (lv_sub hl [0, 1, 2, 3, 4, 5, 6] rfl) hm
      · replace hm := (if_neg hc).symm.trans hm
        refine lv_aload_n hx hb dX7_isSpoiled_28 rfl (lv_at hl 0 rfl) ?_
        refine gM_X7_defectX X hK hP iX7 (List.mem_of_getElem? (i := 2) rfl) dX7_isSpoiled_29 ?_
        refine lv_iload hx hb dX7_isSpoiled_32 (lv_at hl 6 rfl) ?_
        obtain ⟨h1, hm⟩ := gd_ok hm
        refine rM_X7_defectX X hK hP h1 dX7_isSpoiled_34 ?_
        refine lv_aload_n hx hb dX7_isSpoiled_35 rfl (lv_at hl 0 rfl) ?_
        refine gM_X7_defectW X hK hP iX7 (List.mem_of_getElem? (i := 3) rfl) dX7_isSpoiled_36 ?_
        refine lv_iload hx hb dX7_isSpoiled_39 (lv_at hl 6 rfl) ?_
        obtain ⟨h1, hm⟩ := gd_ok hm
        refine rM_X7_defectW X hK hP h1 dX7_isSpoiled_41 ?_
        refine lv_iadd hx hb dX7_isSpoiled_42 ?_
        refine lv_iload_n hx hb dX7_isSpoiled_43 rfl (lv_at hl 1 rfl) ?_
        refine lv_icmp_le (tgt := 80) hx hb dX7_isSpoiled_44 (by decide) (fun hc => ?_) (fun hc => ?_)
        · replace hm := (if_pos hc).symm.trans hm
          refine lv_iconst (v := (1 : Int32)) hx hb dX7_isSpoiled_80 (by decide) ?_
          refine lv_goto (tgt := 85) hx hb dX7_isSpoiled_81 (by decide) ?_
          exact kJ85 (1 : Int32) ls (lv_sub hl [0, 1, 2, 3, 4, 5, 6] rfl) hm
        · replace hm := (if_neg hc).symm.trans hm
          refine lv_aload_n hx hb dX7_isSpoiled_47 rfl (lv_at hl 0 rfl) ?_
          refine gM_X7_defectY X hK hP iX7 (List.mem_of_getElem? (i := 4) rfl) dX7_isSpoiled_48 ?_
          refine lv_iload hx hb dX7_isSpoiled_51 (lv_at hl 6 rfl) ?_
          obtain ⟨h1, hm⟩ := gd_ok hm
          refine rM_X7_defectY X hK hP h1 dX7_isSpoiled_53 ?_
          refine lv_iload_n hx hb dX7_isSpoiled_54 rfl (lv_at hl 2 rfl) ?_
          refine lv_iload hx hb dX7_isSpoiled_55 (lv_at hl 4 rfl) ?_
          refine lv_iadd hx hb dX7_isSpoiled_57 ?_
          refine lv_icmp_ge (tgt := 80) hx hb dX7_isSpoiled_58 (by decide) (fun hc => ?_) (fun hc => ?_)
          · replace hm := (if_pos hc).symm.trans hm
            refine lv_iconst (v := (1 : Int32)) hx hb dX7_isSpoiled_80 (by decide) ?_
            refine lv_goto (tgt := 85) hx hb dX7_isSpoiled_81 (by decide) ?_
            exact kJ85 (1 : Int32) ls (lv_sub hl [0, 1, 2, 3, 4, 5, 6] rfl) hm
          · replace hm := (if_neg hc).symm.trans hm
            refine lv_aload_n hx hb dX7_isSpoiled_61 rfl (lv_at hl 0 rfl) ?_
            refine gM_X7_defectY X hK hP iX7 (List.mem_of_getElem? (i := 4) rfl) dX7_isSpoiled_62 ?_
            refine lv_iload hx hb dX7_isSpoiled_65 (lv_at hl 6 rfl) ?_
            obtain ⟨h1, hm⟩ := gd_ok hm
            refine rM_X7_defectY X hK hP h1 dX7_isSpoiled_67 ?_
            refine lv_aload_n hx hb dX7_isSpoiled_68 rfl (lv_at hl 0 rfl) ?_
            refine gM_X7_defectH X hK hP iX7 (List.mem_of_getElem? (i := 5) rfl) dX7_isSpoiled_69 ?_
            refine lv_iload hx hb dX7_isSpoiled_72 (lv_at hl 6 rfl) ?_
            obtain ⟨h1, hm⟩ := gd_ok hm
            refine rM_X7_defectH X hK hP h1 dX7_isSpoiled_74 ?_
            refine lv_iadd hx hb dX7_isSpoiled_75 ?_
            refine lv_iload_n hx hb dX7_isSpoiled_76 rfl (lv_at hl 2 rfl) ?_
            refine lv_icmp_gt (tgt := 84) hx hb dX7_isSpoiled_77 (by decide) (fun hc => ?_) (fun hc => ?_)
            · replace hm := (if_pos hc).symm.trans hm
              refine lv_iconst (v := (0 : Int32)) hx hb dX7_isSpoiled_84 (by decide) ?_
              exact kJ85 (0 : Int32) ls (lv_sub hl [0, 1, 2, 3, 4, 5, 6] rfl) hm
            · replace hm := (if_neg hc).symm.trans hm
              refine lv_iconst (v := (1 : Int32)) hx hb dX7_isSpoiled_80 (by decide) ?_
              refine lv_goto (tgt := 85) hx hb dX7_isSpoiled_81 (by decide) ?_
              exact kJ85 (1 : Int32) ls (lv_sub hl [0, 1, 2, 3, 4, 5, 6] rfl) hm
  have kx6 : ∀ (v5_6 : Int32) (v6_6 : Int32) (ls : Array Slot), lv_has ls 8 [(0, .ref (a 0)), (1, .int p1), (2, .int p2), (3, .int p3), (4, .int p4), (5, .int v5_6), (6, .int v6_6)] → mX7_isSpoiled_X6  S p1 p2 p3 p4 v5_6 v6_6 = some res → W p l e rmX7_isSpoiled s m ([.ref (a 0), .int p1, .int p2, .int p3, .int p4] : List Value).toArray below meth c s.heap [] 0 0 (MQ below (vp_Si (fun r => r = res)) ([.ref (a 0), .int p1, .int p2, .int p3, .int p4] : List Value).toArray s 0 0 (fun _ => False)) (F0 m 110 ls []) := by
    intro v5_6 v6_6 ls hl hm
    unfold mX7_isSpoiled_X6 at hm
    refine lv_iload hx hb dX7_isSpoiled_110 (lv_at hl 5 rfl) ?_
    obtain ⟨h1, hm⟩ := gd_ok hm
    exact endR X hr (zB_ok h1).1 hlocks hm dX7_isSpoiled_112
  have lp6 : ∀ (n : Nat) (v5_6 : Int32) (v6_6 : Int32) (ls : Array Slot), lv_has ls 8 [(0, .ref (a 0)), (1, .int p1), (2, .int p2), (3, .int p3), (4, .int p4), (5, .int v5_6), (6, .int v6_6)] → LPf (κ := Int32 → Int32 → Option (Int32)) (fun _ _ => none) (fun kk => mX7_isSpoiled_B6 kk (mX7_isSpoiled_X6  S p1 p2 p3 p4) S p1 p2 p3 p4) n v5_6 v6_6 = some res → W p l e rmX7_isSpoiled s m ([.ref (a 0), .int p1, .int p2, .int p3, .int p4] : List Value).toArray below meth c s.heap [] 0 0 (MQ below (vp_Si (fun r => r = res)) ([.ref (a 0), .int p1, .int p2, .int p3, .int p4] : List Value).toArray s 0 0 (fun _ => False)) (F0 m 6 ls []) := by
    intro n
    induction n with
    | zero =>
      intro v5_6 v6_6 ls hl hm
      exact (noS (show (none : Option (Int32)) = some res from hm)).elim
    | succ n ih =>
      intro v5_6 v6_6 ls hl hm
      exact kb6 _ _ ih kx6 v5_6 v6_6 ls hl hm
  exact lp6 FU (0 : Int32) (0 : Int32) ls (lv_sub hl [2, 3, 4, 5, 6, 1, 0] rfl) hm

def rmX7_isLike : Room := { frames := 0, cells := 0, slots := 0, locals := 0 }
set_option maxHeartbeats 4000000 in
set_option maxRecDepth 100000 in
theorem kX7_isLike (l : Launch) (D : va_G) (a : Nat → Nat) (cI cZ : ClassId) (S : ST) (p1 : Int32) (p2 : Int32) (p3 : Int32) (p4 : Int32) (res : Int32) (hm : mX7_isLike S p1 p2 p3 p4 = some res) : Met l yX7_isLike wsX7_isLike rmX7_isLike (va_Pc [.ref (a 0), .int p1, .int p2, .int p3, .int p4] (PreR (wM a cI cZ S) D cI cZ)) (vp_Si (fun r => r = res)) 0 0 (fun _ => False) := by
  refine metB (cc := cX7_isLike) (maxL := 5) (ret := (some .boolean)) (by decide) rfl (Nat.le_of_ble_eq_true rfl) ?_
  intro p e s m below meth c ls X hml hr hlocks hin hv hl
  replace X : CX p m c cX7_isLike s ([.ref (a 0), .int p1, .int p2, .int p3, .int p4] : List Value).toArray wsX7_isLike RX7 := X
  obtain ⟨hP, hK, hNW⟩ := hv
  have hx := X.1
  have hb := X.2.1
  replace hl : lv_has ls 5 [(0, .ref (a 0)), (1, .int p1), (2, .int p2), (3, .int p3), (4, .int p4)] := hl
  have iX7 : ∀ w ∈ wsX70, w ∈ wsX7_isLike := fun w h => List.mem_cons_of_mem _ (List.mem_append_right _ h)
  unfold mX7_isLike at hm
  refine lv_iload_n hx hb dX7_isLike_0 rfl (lv_at hl 2 rfl) ?_
  refine lv_if_ne (tgt := 33) hx hb dX7_isLike_1 (by decide) (fun hc => ?_) (fun hc => ?_)
  · replace hm := (if_neg hc).symm.trans hm
    refine lv_aload_n hx hb dX7_isLike_33 rfl (lv_at hl 0 rfl) ?_
    refine gM_X7_kindTurns X hK hP iX7 (List.mem_of_getElem? (i := 3) rfl) dX7_isLike_34 ?_
    refine lv_iload_n hx hb dX7_isLike_37 rfl (lv_at hl 1 rfl) ?_
    obtain ⟨h1, hm⟩ := gd_ok hm
    refine rM_X7_kindTurns X hK hP h1 dX7_isLike_38 ?_
    refine lv_if_eq (tgt := 67) hx hb dX7_isLike_39 (by decide) (fun hc => ?_) (fun hc => ?_)
    · replace hm := (if_pos hc).symm.trans hm
      refine lv_iconst (v := (0 : Int32)) hx hb dX7_isLike_67 (by decide) ?_
      exact endR X hr rfl hlocks hm dX7_isLike_68
    · replace hm := (if_neg hc).symm.trans hm
      refine lv_aload_n hx hb dX7_isLike_42 rfl (lv_at hl 0 rfl) ?_
      refine gM_X7_kindH X hK hP iX7 (List.mem_of_getElem? (i := 2) rfl) dX7_isLike_43 ?_
      refine lv_iload_n hx hb dX7_isLike_46 rfl (lv_at hl 1 rfl) ?_
      obtain ⟨h1, hm⟩ := gd_ok hm
      refine rM_X7_kindH X hK hP h1 dX7_isLike_47 ?_
      refine lv_iload_n hx hb dX7_isLike_48 rfl (lv_at hl 3 rfl) ?_
      refine lv_icmp_ne (tgt := 67) hx hb dX7_isLike_49 (by decide) (fun hc => ?_) (fun hc => ?_)
      · replace hm := (if_neg hc).symm.trans hm
        refine lv_iconst (v := (0 : Int32)) hx hb dX7_isLike_67 (by decide) ?_
        exact endR X hr rfl hlocks hm dX7_isLike_68
      · replace hm := (if_pos hc).symm.trans hm
        refine lv_aload_n hx hb dX7_isLike_52 rfl (lv_at hl 0 rfl) ?_
        refine gM_X7_kindW X hK hP iX7 (List.mem_of_getElem? (i := 1) rfl) dX7_isLike_53 ?_
        refine lv_iload_n hx hb dX7_isLike_56 rfl (lv_at hl 1 rfl) ?_
        obtain ⟨h1, hm⟩ := gd_ok hm
        refine rM_X7_kindW X hK hP h1 dX7_isLike_57 ?_
        refine lv_iload hx hb dX7_isLike_58 (lv_at hl 4 rfl) ?_
        refine lv_icmp_ne (tgt := 67) hx hb dX7_isLike_60 (by decide) (fun hc => ?_) (fun hc => ?_)
        · replace hm := (if_neg hc).symm.trans hm
          refine lv_iconst (v := (0 : Int32)) hx hb dX7_isLike_67 (by decide) ?_
          exact endR X hr rfl hlocks hm dX7_isLike_68
        · replace hm := (if_pos hc).symm.trans hm
          refine lv_iconst (v := (1 : Int32)) hx hb dX7_isLike_63 (by decide) ?_
          refine lv_goto (tgt := 68) hx hb dX7_isLike_64 (by decide) ?_
          exact endR X hr rfl hlocks hm dX7_isLike_68
  · replace hm := (if_pos hc).symm.trans hm
    refine lv_aload_n hx hb dX7_isLike_4 rfl (lv_at hl 0 rfl) ?_
    refine gM_X7_kindW X hK hP iX7 (List.mem_of_getElem? (i := 1) rfl) dX7_isLike_5 ?_
    refine lv_iload_n hx hb dX7_isLike_8 rfl (lv_at hl 1 rfl) ?_
    obtain ⟨h1, hm⟩ := gd_ok hm
    refine rM_X7_kindW X hK hP h1 dX7_isLike_9 ?_
    refine lv_iload_n hx hb dX7_isLike_10 rfl (lv_at hl 3 rfl) ?_
    refine lv_icmp_ne (tgt := 29) hx hb dX7_isLike_11 (by decide) (fun hc => ?_) (fun hc => ?_)
    · replace hm := (if_neg hc).symm.trans hm
      refine lv_iconst (v := (0 : Int32)) hx hb dX7_isLike_29 (by decide) ?_
      refine lv_goto (tgt := 68) hx hb dX7_isLike_30 (by decide) ?_
      exact endR X hr rfl hlocks hm dX7_isLike_68
    · replace hm := (if_pos hc).symm.trans hm
      refine lv_aload_n hx hb dX7_isLike_14 rfl (lv_at hl 0 rfl) ?_
      refine gM_X7_kindH X hK hP iX7 (List.mem_of_getElem? (i := 2) rfl) dX7_isLike_15 ?_
      refine lv_iload_n hx hb dX7_isLike_18 rfl (lv_at hl 1 rfl) ?_
      obtain ⟨h1, hm⟩ := gd_ok hm
      refine rM_X7_kindH X hK hP h1 dX7_isLike_19 ?_
      refine lv_iload hx hb dX7_isLike_20 (lv_at hl 4 rfl) ?_
      refine lv_icmp_ne (tgt := 29) hx hb dX7_isLike_22 (by decide) (fun hc => ?_) (fun hc => ?_)
      · replace hm := (if_neg hc).symm.trans hm
        refine lv_iconst (v := (0 : Int32)) hx hb dX7_isLike_29 (by decide) ?_
        refine lv_goto (tgt := 68) hx hb dX7_isLike_30 (by decide) ?_
        exact endR X hr rfl hlocks hm dX7_isLike_68
      · replace hm := (if_pos hc).symm.trans hm
        refine lv_iconst (v := (1 : Int32)) hx hb dX7_isLike_25 (by decide) ?_
        refine lv_goto (tgt := 68) hx hb dX7_isLike_26 (by decide) ?_
        exact endR X hr rfl hlocks hm dX7_isLike_68

def rmX7_bestPiece : Room := { frames := 1, cells := 0, slots := 0, locals := 27 }
set_option maxHeartbeats 4000000 in
set_option maxRecDepth 100000 in
theorem kX7_bestPiece (l : Launch) (D : va_G) (a : Nat → Nat) (cI cZ : ClassId) (S : ST) (p1 : Int32) (p2 : Int32) (p3 : Int32) (p4 : Int32) (res : Int32) (hm : mX7_bestPiece S p1 p2 p3 p4 = some res) : Met l yX7_bestPiece wsX7_bestPiece rmX7_bestPiece (va_Pc [.ref (a 0), .int p1, .int p2, .int p3, .int p4] (PreR (wM a cI cZ S) D cI cZ)) (vp_Si (fun r => r = res)) 0 0 (fun _ => False) := by
  refine metB (cc := cX7_bestPiece) (maxL := 7) (ret := (some .int)) (by decide) rfl (Nat.le_of_ble_eq_true rfl) ?_
  intro p e s m below meth c ls X hml hr hlocks hin hv hl
  replace X : CX p m c cX7_bestPiece s ([.ref (a 0), .int p1, .int p2, .int p3, .int p4] : List Value).toArray wsX7_bestPiece RX7 := X
  obtain ⟨hP, hK, hNW⟩ := hv
  have hx := X.1
  have hb := X.2.1
  replace hl : lv_has ls 7 [(0, .ref (a 0)), (1, .int p1), (2, .int p2), (3, .int p3), (4, .int p4)] := hl
  have iX7 : ∀ w ∈ wsX70, w ∈ wsX7_bestPiece := fun w h => List.mem_cons_of_mem _ (List.mem_append_right _ h)
  unfold mX7_bestPiece at hm
  refine lv_iconst (v := (0 : Int32)) hx hb dX7_bestPiece_0 (by decide) ?_
  refine lv_istore (lv' := [(5, .int (0 : Int32)), (0, .ref (a 0)), (1, .int p1), (2, .int p2), (3, .int p3), (4, .int p4)]) hx hb dX7_bestPiece_1 hl (by decide) rfl (fun ls hl => ?_)
  refine lv_iconst (v := (0 : Int32)) hx hb dX7_bestPiece_3 (by decide) ?_
  refine lv_istore (lv' := [(6, .int (0 : Int32)), (5, .int (0 : Int32)), (0, .ref (a 0)), (1, .int p1), (2, .int p2), (3, .int p3), (4, .int p4)]) hx hb dX7_bestPiece_4 hl (by decide) rfl (fun ls hl => ?_)
  have kb6 : ∀ (k x : Int32 → Int32 → Option (Int32)), (∀ (v5_6 : Int32) (v6_6 : Int32) (ls : Array Slot), lv_has ls 7 [(0, .ref (a 0)), (1, .int p1), (2, .int p2), (3, .int p3), (4, .int p4), (5, .int v5_6), (6, .int v6_6)] → k v5_6 v6_6 = some res → W p l e rmX7_bestPiece s m ([.ref (a 0), .int p1, .int p2, .int p3, .int p4] : List Value).toArray below meth c s.heap [] 0 0 (MQ below (vp_Si (fun r => r = res)) ([.ref (a 0), .int p1, .int p2, .int p3, .int p4] : List Value).toArray s 0 0 (fun _ => False)) (F0 m 6 ls [])) → (∀ (v5_6 : Int32) (v6_6 : Int32) (ls : Array Slot), lv_has ls 7 [(0, .ref (a 0)), (1, .int p1), (2, .int p2), (3, .int p3), (4, .int p4), (5, .int v5_6), (6, .int v6_6)] → x v5_6 v6_6 = some res → W p l e rmX7_bestPiece s m ([.ref (a 0), .int p1, .int p2, .int p3, .int p4] : List Value).toArray below meth c s.heap [] 0 0 (MQ below (vp_Si (fun r => r = res)) ([.ref (a 0), .int p1, .int p2, .int p3, .int p4] : List Value).toArray s 0 0 (fun _ => False)) (F0 m 68 ls [])) → ∀ (v5_6 : Int32) (v6_6 : Int32) (ls : Array Slot), lv_has ls 7 [(0, .ref (a 0)), (1, .int p1), (2, .int p2), (3, .int p3), (4, .int p4), (5, .int v5_6), (6, .int v6_6)] → mX7_bestPiece_B6 k x S p1 p2 p3 p4 v5_6 v6_6 = some res → W p l e rmX7_bestPiece s m ([.ref (a 0), .int p1, .int p2, .int p3, .int p4] : List Value).toArray below meth c s.heap [] 0 0 (MQ below (vp_Si (fun r => r = res)) ([.ref (a 0), .int p1, .int p2, .int p3, .int p4] : List Value).toArray s 0 0 (fun _ => False)) (F0 m 6 ls []) := by
    intro k x ih kxh v5_6 v6_6 ls hl hm
    unfold mX7_bestPiece_B6 at hm
    refine lv_iload hx hb dX7_bestPiece_6 (lv_at hl 6 rfl) ?_
    refine lv_aload_n hx hb dX7_bestPiece_8 rfl (lv_at hl 0 rfl) ?_
    refine gM_X7_kinds X hK hP iX7 (List.mem_of_getElem? (i := 1) rfl) dX7_bestPiece_9 ?_
    refine lv_icmp_ge (tgt := 68) hx hb dX7_bestPiece_12 (by decide) (fun hc => ?_) (fun hc => ?_)
    · replace hm := (if_pos hc).symm.trans hm
      exact kxh v5_6 v6_6 ls (lv_sub hl [0, 1, 2, 3, 4, 5, 6] rfl) hm
    · replace hm := (if_neg hc).symm.trans hm
      refine lv_aload_n hx hb dX7_bestPiece_15 rfl (lv_at hl 0 rfl) ?_
      refine lv_iload hx hb dX7_bestPiece_16 (lv_at hl 6 rfl) ?_
      refine lv_iconst (v := (0 : Int32)) hx hb dX7_bestPiece_18 (by decide) ?_
      refine lv_iload_n hx hb dX7_bestPiece_19 rfl (lv_at hl 3 rfl) ?_
      refine lv_iload hx hb dX7_bestPiece_20 (lv_at hl 4 rfl) ?_
      obtain ⟨r2, hr2, hm⟩ := bd_ok hm
      refine callRV (rest := []) X hK hNW hml hP hl.1 (kX7_isLike l D a cI cZ S v6_6 (0 : Int32) p3 p4 r2 hr2) (cwV 4 X.2.2.1 gX7_bestPiece_X7_isLike rfl rfl rfl (by decide +kernel) ⟨Nat.le_of_ble_eq_true rfl, Nat.le_of_ble_eq_true rfl⟩) (vM_X7 hK hP) rfl rfl (Nat.le_of_ble_eq_true rfl) dX7_bestPiece_22 ⟨Nat.zero_le _, Nat.zero_le _⟩ ?_
      refine lv_if_ne (tgt := 41) hx hb dX7_bestPiece_25 (by decide) (fun hc => ?_) (fun hc => ?_)
      · replace hm := (if_neg hc).symm.trans hm
        refine lv_aload_n hx hb dX7_bestPiece_41 rfl (lv_at hl 0 rfl) ?_
        refine gM_X7_kindValue X hK hP iX7 (List.mem_of_getElem? (i := 2) rfl) dX7_bestPiece_42 ?_
        refine lv_iload hx hb dX7_bestPiece_45 (lv_at hl 6 rfl) ?_
        obtain ⟨h1, hm⟩ := gd_ok hm
        refine rM_X7_kindValue X hK hP h1 dX7_bestPiece_47 ?_
        refine lv_iload hx hb dX7_bestPiece_48 (lv_at hl 5 rfl) ?_
        refine lv_icmp_le (tgt := 62) hx hb dX7_bestPiece_50 (by decide) (fun hc => ?_) (fun hc => ?_)
        · replace hm := (if_pos hc).symm.trans hm
          refine lv_iinc (v := (v6_6 + (1 : Int32))) (lv' := [(6, .int (v6_6 + (1 : Int32))), (0, .ref (a 0)), (1, .int p1), (2, .int p2), (3, .int p3), (4, .int p4), (5, .int v5_6)]) hx hb dX7_bestPiece_62 hl (k := 6) rfl rfl (by decide) rfl (fun ls hl => ?_)
          refine lv_goto (tgt := 6) hx hb dX7_bestPiece_65 (by decide) ?_
          exact ih v5_6 (v6_6 + (1 : Int32)) ls (lv_sub hl [1, 2, 3, 4, 5, 6, 0] rfl) hm
        · replace hm := (if_neg hc).symm.trans hm
          refine lv_aload_n hx hb dX7_bestPiece_53 rfl (lv_at hl 0 rfl) ?_
          refine gM_X7_kindValue X hK hP iX7 (List.mem_of_getElem? (i := 2) rfl) dX7_bestPiece_54 ?_
          refine lv_iload hx hb dX7_bestPiece_57 (lv_at hl 6 rfl) ?_
          obtain ⟨h1, hm⟩ := gd_ok hm
          refine rM_X7_kindValue X hK hP h1 dX7_bestPiece_59 ?_
          refine lv_istore (lv' := [(5, .int (S.2 6 v6_6.toNatClampNeg)), (0, .ref (a 0)), (1, .int p1), (2, .int p2), (3, .int p3), (4, .int p4), (6, .int v6_6)]) hx hb dX7_bestPiece_60 hl (by decide) rfl (fun ls hl => ?_)
          refine lv_iinc (v := (v6_6 + (1 : Int32))) (lv' := [(6, .int (v6_6 + (1 : Int32))), (5, .int (S.2 6 v6_6.toNatClampNeg)), (0, .ref (a 0)), (1, .int p1), (2, .int p2), (3, .int p3), (4, .int p4)]) hx hb dX7_bestPiece_62 hl (k := 6) rfl rfl (by decide) rfl (fun ls hl => ?_)
          refine lv_goto (tgt := 6) hx hb dX7_bestPiece_65 (by decide) ?_
          exact ih (S.2 6 v6_6.toNatClampNeg) (v6_6 + (1 : Int32)) ls (lv_sub hl [2, 3, 4, 5, 6, 1, 0] rfl) hm
      · replace hm := (if_pos hc).symm.trans hm
        refine lv_aload_n hx hb dX7_bestPiece_28 rfl (lv_at hl 0 rfl) ?_
        refine lv_iload hx hb dX7_bestPiece_29 (lv_at hl 6 rfl) ?_
        refine lv_iconst (v := (1 : Int32)) hx hb dX7_bestPiece_31 (by decide) ?_
        refine lv_iload_n hx hb dX7_bestPiece_32 rfl (lv_at hl 3 rfl) ?_
        refine lv_iload hx hb dX7_bestPiece_33 (lv_at hl 4 rfl) ?_
        obtain ⟨r3, hr3, hm⟩ := bd_ok hm
        refine callRV (rest := []) X hK hNW hml hP hl.1 (kX7_isLike l D a cI cZ S v6_6 (1 : Int32) p3 p4 r3 hr3) (cwV 4 X.2.2.1 gX7_bestPiece_X7_isLike rfl rfl rfl (by decide +kernel) ⟨Nat.le_of_ble_eq_true rfl, Nat.le_of_ble_eq_true rfl⟩) (vM_X7 hK hP) rfl rfl (Nat.le_of_ble_eq_true rfl) dX7_bestPiece_35 ⟨Nat.zero_le _, Nat.zero_le _⟩ ?_
        refine lv_if_eq (tgt := 62) hx hb dX7_bestPiece_38 (by decide) (fun hc => ?_) (fun hc => ?_)
        · replace hm := (if_pos hc).symm.trans hm
          refine lv_iinc (v := (v6_6 + (1 : Int32))) (lv' := [(6, .int (v6_6 + (1 : Int32))), (0, .ref (a 0)), (1, .int p1), (2, .int p2), (3, .int p3), (4, .int p4), (5, .int v5_6)]) hx hb dX7_bestPiece_62 hl (k := 6) rfl rfl (by decide) rfl (fun ls hl => ?_)
          refine lv_goto (tgt := 6) hx hb dX7_bestPiece_65 (by decide) ?_
          exact ih v5_6 (v6_6 + (1 : Int32)) ls (lv_sub hl [1, 2, 3, 4, 5, 6, 0] rfl) hm
        · replace hm := (if_neg hc).symm.trans hm
          refine lv_aload_n hx hb dX7_bestPiece_41 rfl (lv_at hl 0 rfl) ?_
          refine gM_X7_kindValue X hK hP iX7 (List.mem_of_getElem? (i := 2) rfl) dX7_bestPiece_42 ?_
          refine lv_iload hx hb dX7_bestPiece_45 (lv_at hl 6 rfl) ?_
          obtain ⟨h1, hm⟩ := gd_ok hm
          refine rM_X7_kindValue X hK hP h1 dX7_bestPiece_47 ?_
          refine lv_iload hx hb dX7_bestPiece_48 (lv_at hl 5 rfl) ?_
          refine lv_icmp_le (tgt := 62) hx hb dX7_bestPiece_50 (by decide) (fun hc => ?_) (fun hc => ?_)
          · replace hm := (if_pos hc).symm.trans hm
            refine lv_iinc (v := (v6_6 + (1 : Int32))) (lv' := [(6, .int (v6_6 + (1 : Int32))), (0, .ref (a 0)), (1, .int p1), (2, .int p2), (3, .int p3), (4, .int p4), (5, .int v5_6)]) hx hb dX7_bestPiece_62 hl (k := 6) rfl rfl (by decide) rfl (fun ls hl => ?_)
            refine lv_goto (tgt := 6) hx hb dX7_bestPiece_65 (by decide) ?_
            exact ih v5_6 (v6_6 + (1 : Int32)) ls (lv_sub hl [1, 2, 3, 4, 5, 6, 0] rfl) hm
          · replace hm := (if_neg hc).symm.trans hm
            refine lv_aload_n hx hb dX7_bestPiece_53 rfl (lv_at hl 0 rfl) ?_
            refine gM_X7_kindValue X hK hP iX7 (List.mem_of_getElem? (i := 2) rfl) dX7_bestPiece_54 ?_
            refine lv_iload hx hb dX7_bestPiece_57 (lv_at hl 6 rfl) ?_
            obtain ⟨h1, hm⟩ := gd_ok hm
            refine rM_X7_kindValue X hK hP h1 dX7_bestPiece_59 ?_
            refine lv_istore (lv' := [(5, .int (S.2 6 v6_6.toNatClampNeg)), (0, .ref (a 0)), (1, .int p1), (2, .int p2), (3, .int p3), (4, .int p4), (6, .int v6_6)]) hx hb dX7_bestPiece_60 hl (by decide) rfl (fun ls hl => ?_)
            refine lv_iinc (v := (v6_6 + (1 : Int32))) (lv' := [(6, .int (v6_6 + (1 : Int32))), (5, .int (S.2 6 v6_6.toNatClampNeg)), (0, .ref (a 0)), (1, .int p1), (2, .int p2), (3, .int p3), (4, .int p4)]) hx hb dX7_bestPiece_62 hl (k := 6) rfl rfl (by decide) rfl (fun ls hl => ?_)
            refine lv_goto (tgt := 6) hx hb dX7_bestPiece_65 (by decide) ?_
            exact ih (S.2 6 v6_6.toNatClampNeg) (v6_6 + (1 : Int32)) ls (lv_sub hl [2, 3, 4, 5, 6, 1, 0] rfl) hm
  have kx6 : ∀ (v5_6 : Int32) (v6_6 : Int32) (ls : Array Slot), lv_has ls 7 [(0, .ref (a 0)), (1, .int p1), (2, .int p2), (3, .int p3), (4, .int p4), (5, .int v5_6), (6, .int v6_6)] → mX7_bestPiece_X6  S p1 p2 p3 p4 v5_6 v6_6 = some res → W p l e rmX7_bestPiece s m ([.ref (a 0), .int p1, .int p2, .int p3, .int p4] : List Value).toArray below meth c s.heap [] 0 0 (MQ below (vp_Si (fun r => r = res)) ([.ref (a 0), .int p1, .int p2, .int p3, .int p4] : List Value).toArray s 0 0 (fun _ => False)) (F0 m 68 ls []) := by
    intro v5_6 v6_6 ls hl hm
    unfold mX7_bestPiece_X6 at hm
    refine lv_iload hx hb dX7_bestPiece_68 (lv_at hl 5 rfl) ?_
    refine lv_if_le (tgt := 89) hx hb dX7_bestPiece_70 (by decide) (fun hc => ?_) (fun hc => ?_)
    · replace hm := (if_pos hc).symm.trans hm
      refine lv_iload hx hb dX7_bestPiece_89 (lv_at hl 5 rfl) ?_
      exact endR X hr rfl hlocks hm dX7_bestPiece_91
    · replace hm := (if_neg hc).symm.trans hm
      refine lv_aload_n hx hb dX7_bestPiece_73 rfl (lv_at hl 0 rfl) ?_
      refine lv_iload_n hx hb dX7_bestPiece_74 rfl (lv_at hl 1 rfl) ?_
      refine lv_iload_n hx hb dX7_bestPiece_75 rfl (lv_at hl 2 rfl) ?_
      refine lv_iload_n hx hb dX7_bestPiece_76 rfl (lv_at hl 3 rfl) ?_
      refine lv_iload hx hb dX7_bestPiece_77 (lv_at hl 4 rfl) ?_
      obtain ⟨r1, hr1, hm⟩ := bd_ok hm
      refine callRV (rest := []) X hK hNW hml hP hl.1 (kX7_isSpoiled l D a cI cZ S p1 p2 p3 p4 r1 hr1) (cwV 4 X.2.2.1 gX7_bestPiece_X7_isSpoiled rfl rfl rfl (by decide +kernel) ⟨Nat.le_of_ble_eq_true rfl, Nat.le_of_ble_eq_true rfl⟩) (vM_X7 hK hP) rfl rfl (Nat.le_of_ble_eq_true rfl) dX7_bestPiece_79 ⟨Nat.zero_le _, Nat.zero_le _⟩ ?_
      refine lv_if_eq (tgt := 89) hx hb dX7_bestPiece_82 (by decide) (fun hc => ?_) (fun hc => ?_)
      · replace hm := (if_pos hc).symm.trans hm
        refine lv_iload hx hb dX7_bestPiece_89 (lv_at hl 5 rfl) ?_
        exact endR X hr rfl hlocks hm dX7_bestPiece_91
      · replace hm := (if_neg hc).symm.trans hm
        refine lv_iconst (v := (0 : Int32)) hx hb dX7_bestPiece_85 (by decide) ?_
        refine lv_goto (tgt := 91) hx hb dX7_bestPiece_86 (by decide) ?_
        exact endR X hr rfl hlocks hm dX7_bestPiece_91
  have lp6 : ∀ (n : Nat) (v5_6 : Int32) (v6_6 : Int32) (ls : Array Slot), lv_has ls 7 [(0, .ref (a 0)), (1, .int p1), (2, .int p2), (3, .int p3), (4, .int p4), (5, .int v5_6), (6, .int v6_6)] → LPf (κ := Int32 → Int32 → Option (Int32)) (fun _ _ => none) (fun kk => mX7_bestPiece_B6 kk (mX7_bestPiece_X6  S p1 p2 p3 p4) S p1 p2 p3 p4) n v5_6 v6_6 = some res → W p l e rmX7_bestPiece s m ([.ref (a 0), .int p1, .int p2, .int p3, .int p4] : List Value).toArray below meth c s.heap [] 0 0 (MQ below (vp_Si (fun r => r = res)) ([.ref (a 0), .int p1, .int p2, .int p3, .int p4] : List Value).toArray s 0 0 (fun _ => False)) (F0 m 6 ls []) := by
    intro n
    induction n with
    | zero =>
      intro v5_6 v6_6 ls hl hm
      exact (noS (show (none : Option (Int32)) = some res from hm)).elim
    | succ n ih =>
      intro v5_6 v6_6 ls hl hm
      exact kb6 _ _ ih kx6 v5_6 v6_6 ls hl hm
  exact lp6 FU (0 : Int32) (0 : Int32) ls (lv_sub hl [2, 3, 4, 5, 6, 1, 0] rfl) hm

def rmX7_wayOf : Room := { frames := 0, cells := 0, slots := 0, locals := 0 }
set_option maxHeartbeats 4000000 in
set_option maxRecDepth 100000 in
theorem kX7_wayOf (l : Launch) (D : va_G) (a : Nat → Nat) (cI cZ : ClassId) (S : ST) (p1 : Int32) (res : Int32) (hm : mX7_wayOf S p1 = some res) : Met l yX7_wayOf wsX7_wayOf rmX7_wayOf (va_Pc [.ref (a 0), .int p1] (PreR (wM a cI cZ S) D cI cZ)) (vp_Si (fun r => r = res)) 0 0 (fun _ => False) := by
  refine metB (cc := cX7_wayOf) (maxL := 2) (ret := (some .int)) (by decide) rfl (Nat.le_of_ble_eq_true rfl) ?_
  intro p e s m below meth c ls X hml hr hlocks hin hv hl
  replace X : CX p m c cX7_wayOf s ([.ref (a 0), .int p1] : List Value).toArray wsX7_wayOf RX7 := X
  obtain ⟨hP, hK, hNW⟩ := hv
  have hx := X.1
  have hb := X.2.1
  replace hl : lv_has ls 2 [(0, .ref (a 0)), (1, .int p1)] := hl
  have iX7 : ∀ w ∈ wsX70, w ∈ wsX7_wayOf := fun w h => List.mem_cons_of_mem _ (List.mem_append_right _ h)
  unfold mX7_wayOf at hm
  refine lv_iload_n hx hb dX7_wayOf_0 rfl (lv_at hl 1 rfl) ?_
  refine lv_iconst (v := (2 : Int32)) hx hb dX7_wayOf_1 (by decide) ?_
  refine lv_irem hx hb dX7_wayOf_2 (by decide) ?_
  refine lv_iconst (v := (1 : Int32)) hx hb dX7_wayOf_3 (by decide) ?_
  refine lv_icmp_ne (tgt := 14) hx hb dX7_wayOf_4 (by decide) (fun hc => ?_) (fun hc => ?_)
  · replace hm := (if_neg hc).symm.trans hm
    refine lv_iconst (v := (1 : Int32)) hx hb dX7_wayOf_14 (by decide) ?_
    refine lv_aload_n hx hb dX7_wayOf_15 rfl (lv_at hl 0 rfl) ?_
    refine gM_X7_firstWay X hK hP iX7 (List.mem_of_getElem? (i := 1) rfl) dX7_wayOf_16 ?_
    refine lv_isub hx hb dX7_wayOf_19 ?_
    exact endR X hr rfl hlocks hm dX7_wayOf_20
  · replace hm := (if_pos hc).symm.trans hm
    refine lv_aload_n hx hb dX7_wayOf_7 rfl (lv_at hl 0 rfl) ?_
    refine gM_X7_firstWay X hK hP iX7 (List.mem_of_getElem? (i := 1) rfl) dX7_wayOf_8 ?_
    refine lv_goto (tgt := 20) hx hb dX7_wayOf_11 (by decide) ?_
    exact endR X hr rfl hlocks hm dX7_wayOf_20

def rmX7_both : Room := { frames := 1, cells := 0, slots := 0, locals := 25 }
set_option maxHeartbeats 4000000 in
set_option maxRecDepth 100000 in
theorem kX7_both (l : Launch) (D : va_G) (a : Nat → Nat) (cI cZ : ClassId) (S : ST) (p1 : Int32) (p2 : Int32) (p3 : Int32) (p4 : Int32) (p5 : Int32) (p6 : Int32) (res : Int32) (hm : mX7_both S p1 p2 p3 p4 p5 p6 = some res) : Met l yX7_both wsX7_both rmX7_both (va_Pc [.ref (a 0), .int p1, .int p2, .int p3, .int p4, .int p5, .int p6] (PreR (wM a cI cZ S) D cI cZ)) (vp_Si (fun r => r = res)) 0 0 (fun _ => False) := by
  refine metB (cc := cX7_both) (maxL := 7) (ret := (some .int)) (by decide) rfl (Nat.le_of_ble_eq_true rfl) ?_
  intro p e s m below meth c ls X hml hr hlocks hin hv hl
  replace X : CX p m c cX7_both s ([.ref (a 0), .int p1, .int p2, .int p3, .int p4, .int p5, .int p6] : List Value).toArray wsX7_both RX7 := X
  obtain ⟨hP, hK, hNW⟩ := hv
  have hx := X.1
  have hb := X.2.1
  replace hl : lv_has ls 7 [(0, .ref (a 0)), (1, .int p1), (2, .int p2), (3, .int p3), (4, .int p4), (5, .int p5), (6, .int p6)] := hl
  have iX7 : ∀ w ∈ wsX70, w ∈ wsX7_both := fun w h => List.mem_cons_of_mem _ (List.mem_append_right _ h)
  unfold mX7_both at hm
  refine lv_aload_n hx hb dX7_both_0 rfl (lv_at hl 0 rfl) ?_
  refine lv_iload_n hx hb dX7_both_1 rfl (lv_at hl 1 rfl) ?_
  obtain ⟨r1, hr1, hm⟩ := bd_ok hm
  refine callRV (rest := []) X hK hNW hml hP hl.1 (kX7_wayOf l D a cI cZ S p1 r1 hr1) (cwV 1 X.2.2.1 gX7_both_X7_wayOf rfl rfl rfl (by decide +kernel) ⟨Nat.le_of_ble_eq_true rfl, Nat.le_of_ble_eq_true rfl⟩) (vM_X7 hK hP) rfl rfl (Nat.le_of_ble_eq_true rfl) dX7_both_2 ⟨Nat.zero_le _, Nat.zero_le _⟩ ?_
  refine lv_if_ne (tgt := 58) hx hb dX7_both_5 (by decide) (fun hc => ?_) (fun hc => ?_)
  · replace hm := (if_neg hc).symm.trans hm
    refine lv_aload_n hx hb dX7_both_58 rfl (lv_at hl 0 rfl) ?_
    refine gM_X7_worths X hK hP iX7 (List.mem_of_getElem? (i := 1) rfl) dX7_both_59 ?_
    refine lv_aload_n hx hb dX7_both_62 rfl (lv_at hl 0 rfl) ?_
    refine lv_iload_n hx hb dX7_both_63 rfl (lv_at hl 1 rfl) ?_
    refine lv_iload_n hx hb dX7_both_64 rfl (lv_at hl 2 rfl) ?_
    refine lv_iload_n hx hb dX7_both_65 rfl (lv_at hl 3 rfl) ?_
    refine lv_iload hx hb dX7_both_66 (lv_at hl 4 rfl) ?_
    refine lv_iload hx hb dX7_both_68 (lv_at hl 6 rfl) ?_
    obtain ⟨r2, hr2, hm⟩ := bd_ok hm
    refine callRV (rest := [.ref (a 10)]) X hK hNW hml hP hl.1 (kX7_at l D a cI cZ S p1 p2 p3 p4 p6 r2 hr2) (cwV 5 X.2.2.1 gX7_both_X7_at rfl rfl rfl (by decide +kernel) ⟨Nat.le_of_ble_eq_true rfl, Nat.le_of_ble_eq_true rfl⟩) (vM_X7 hK hP) rfl rfl (Nat.le_of_ble_eq_true rfl) dX7_both_70 ⟨Nat.zero_le _, Nat.zero_le _⟩ ?_
    obtain ⟨h1, hm⟩ := gd_ok hm
    refine rM_X7_worths X hK hP h1 dX7_both_73 ?_
    refine lv_aload_n hx hb dX7_both_74 rfl (lv_at hl 0 rfl) ?_
    refine gM_X7_worths X hK hP iX7 (List.mem_of_getElem? (i := 1) rfl) dX7_both_75 ?_
    refine lv_aload_n hx hb dX7_both_78 rfl (lv_at hl 0 rfl) ?_
    refine lv_iload_n hx hb dX7_both_79 rfl (lv_at hl 1 rfl) ?_
    refine lv_iload_n hx hb dX7_both_80 rfl (lv_at hl 2 rfl) ?_
    refine lv_iload_n hx hb dX7_both_81 rfl (lv_at hl 3 rfl) ?_
    refine lv_iload hx hb dX7_both_82 (lv_at hl 6 rfl) ?_
    refine lv_iadd hx hb dX7_both_84 ?_
    refine lv_aload_n hx hb dX7_both_85 rfl (lv_at hl 0 rfl) ?_
    refine gM_X7_kerf X hK hP iX7 (List.mem_of_getElem? (i := 2) rfl) dX7_both_86 ?_
    refine lv_iadd hx hb dX7_both_89 ?_
    refine lv_iload hx hb dX7_both_90 (lv_at hl 4 rfl) ?_
    refine lv_iload hx hb dX7_both_92 (lv_at hl 5 rfl) ?_
    refine lv_iload hx hb dX7_both_94 (lv_at hl 6 rfl) ?_
    refine lv_isub hx hb dX7_both_96 ?_
    refine lv_aload_n hx hb dX7_both_97 rfl (lv_at hl 0 rfl) ?_
    refine gM_X7_kerf X hK hP iX7 (List.mem_of_getElem? (i := 2) rfl) dX7_both_98 ?_
    refine lv_isub hx hb dX7_both_101 ?_
    obtain ⟨r3, hr3, hm⟩ := bd_ok hm
    refine callRV (rest := [.ref (a 10), .int (S.2 9 r2.toNatClampNeg)]) X hK hNW hml hP hl.1 (kX7_at l D a cI cZ S p1 p2 ((p3 + p6) + (S.1 2)) p4 ((p5 - p6) - (S.1 2)) r3 hr3) (cwV 5 X.2.2.1 gX7_both_X7_at rfl rfl rfl (by decide +kernel) ⟨Nat.le_of_ble_eq_true rfl, Nat.le_of_ble_eq_true rfl⟩) (vM_X7 hK hP) rfl rfl (Nat.le_of_ble_eq_true rfl) dX7_both_102 ⟨Nat.zero_le _, Nat.zero_le _⟩ ?_
    obtain ⟨h1, hm⟩ := gd_ok hm
    refine rM_X7_worths X hK hP h1 dX7_both_105 ?_
    refine lv_iadd hx hb dX7_both_106 ?_
    exact endR X hr rfl hlocks hm dX7_both_107
  · replace hm := (if_pos hc).symm.trans hm
    refine lv_aload_n hx hb dX7_both_8 rfl (lv_at hl 0 rfl) ?_
    refine gM_X7_worths X hK hP iX7 (List.mem_of_getElem? (i := 1) rfl) dX7_both_9 ?_
    refine lv_aload_n hx hb dX7_both_12 rfl (lv_at hl 0 rfl) ?_
    refine lv_iload_n hx hb dX7_both_13 rfl (lv_at hl 1 rfl) ?_
    refine lv_iload_n hx hb dX7_both_14 rfl (lv_at hl 2 rfl) ?_
    refine lv_iload_n hx hb dX7_both_15 rfl (lv_at hl 3 rfl) ?_
    refine lv_iload hx hb dX7_both_16 (lv_at hl 6 rfl) ?_
    refine lv_iload hx hb dX7_both_18 (lv_at hl 5 rfl) ?_
    obtain ⟨r4, hr4, hm⟩ := bd_ok hm
    refine callRV (rest := [.ref (a 10)]) X hK hNW hml hP hl.1 (kX7_at l D a cI cZ S p1 p2 p3 p6 p5 r4 hr4) (cwV 5 X.2.2.1 gX7_both_X7_at rfl rfl rfl (by decide +kernel) ⟨Nat.le_of_ble_eq_true rfl, Nat.le_of_ble_eq_true rfl⟩) (vM_X7 hK hP) rfl rfl (Nat.le_of_ble_eq_true rfl) dX7_both_20 ⟨Nat.zero_le _, Nat.zero_le _⟩ ?_
    obtain ⟨h1, hm⟩ := gd_ok hm
    refine rM_X7_worths X hK hP h1 dX7_both_23 ?_
    refine lv_aload_n hx hb dX7_both_24 rfl (lv_at hl 0 rfl) ?_
    refine gM_X7_worths X hK hP iX7 (List.mem_of_getElem? (i := 1) rfl) dX7_both_25 ?_
    refine lv_aload_n hx hb dX7_both_28 rfl (lv_at hl 0 rfl) ?_
    refine lv_iload_n hx hb dX7_both_29 rfl (lv_at hl 1 rfl) ?_
    refine lv_iload_n hx hb dX7_both_30 rfl (lv_at hl 2 rfl) ?_
    refine lv_iload hx hb dX7_both_31 (lv_at hl 6 rfl) ?_
    refine lv_iadd hx hb dX7_both_33 ?_
    refine lv_aload_n hx hb dX7_both_34 rfl (lv_at hl 0 rfl) ?_
    refine gM_X7_kerf X hK hP iX7 (List.mem_of_getElem? (i := 2) rfl) dX7_both_35 ?_
    refine lv_iadd hx hb dX7_both_38 ?_
    refine lv_iload_n hx hb dX7_both_39 rfl (lv_at hl 3 rfl) ?_
    refine lv_iload hx hb dX7_both_40 (lv_at hl 4 rfl) ?_
    refine lv_iload hx hb dX7_both_42 (lv_at hl 6 rfl) ?_
    refine lv_isub hx hb dX7_both_44 ?_
    refine lv_aload_n hx hb dX7_both_45 rfl (lv_at hl 0 rfl) ?_
    refine gM_X7_kerf X hK hP iX7 (List.mem_of_getElem? (i := 2) rfl) dX7_both_46 ?_
    refine lv_isub hx hb dX7_both_49 ?_
    refine lv_iload hx hb dX7_both_50 (lv_at hl 5 rfl) ?_
    obtain ⟨r5, hr5, hm⟩ := bd_ok hm
    refine callRV (rest := [.ref (a 10), .int (S.2 9 r4.toNatClampNeg)]) X hK hNW hml hP hl.1 (kX7_at l D a cI cZ S p1 ((p2 + p6) + (S.1 2)) p3 ((p4 - p6) - (S.1 2)) p5 r5 hr5) (cwV 5 X.2.2.1 gX7_both_X7_at rfl rfl rfl (by decide +kernel) ⟨Nat.le_of_ble_eq_true rfl, Nat.le_of_ble_eq_true rfl⟩) (vM_X7 hK hP) rfl rfl (Nat.le_of_ble_eq_true rfl) dX7_both_52 ⟨Nat.zero_le _, Nat.zero_le _⟩ ?_
    obtain ⟨h1, hm⟩ := gd_ok hm
    refine rM_X7_worths X hK hP h1 dX7_both_55 ?_
    refine lv_iadd hx hb dX7_both_56 ?_
    exact endR X hr rfl hlocks hm dX7_both_57

def rmX7_workPart : Room := { frames := 2, cells := 0, slots := 0, locals := 53 }
set_option maxHeartbeats 4000000 in
set_option maxRecDepth 100000 in
theorem kX7_workPart (l : Launch) (D : va_G) (a : Nat → Nat) (cI cZ : ClassId) (hA : AP 31 a) (S : ST) (sz : Nat) (p1 : Int32) (p2 : Int32) (p3 : Int32) (p4 : Int32) (res : ST) (hm : mX7_workPart S p1 p2 p3 p4 = some res) : Met l yX7_workPart wsX7_workPart rmX7_workPart (va_Pc [.ref (a 0), .int p1, .int p2, .int p3, .int p4] (PreW (wM a cI cZ S) D cI cZ sz)) (va_Qv (fun T : ST => T = res) (PostW (wM a cI cZ) D cI cZ) (AC 31 a sz)) 0 0 (AC 31 a sz) := by
  refine metB (cc := cX7_workPart) (maxL := 11) (ret := none) (by decide) rfl (Nat.le_of_ble_eq_true rfl) ?_
  intro p e s m below meth c ls X hml hr hlocks hin hv hl
  replace X : CX p m c cX7_workPart s ([.ref (a 0), .int p1, .int p2, .int p3, .int p4] : List Value).toArray wsX7_workPart RX7 := X
  obtain ⟨hsz, hP, hK, hNW⟩ := hv
  subst hsz
  have hS : va_S (AC 31 a s.heap.size) s.heap s.heap [] := va_S.rf
  have hx := X.1
  have hb := X.2.1
  replace hl : lv_has ls 11 [(0, .ref (a 0)), (1, .int p1), (2, .int p2), (3, .int p3), (4, .int p4)] := hl
  have iX7 : ∀ w ∈ wsX70, w ∈ wsX7_workPart := fun w h => List.mem_cons_of_mem _ (List.mem_append_right _ h)
  suffices kS : ∀ (H : Heap) (locs : List Loc), va_P D vwCl (wM a cI cZ S) H → va_S (AC 31 a s.heap.size) s.heap H locs → W p l e rmX7_workPart s m ([.ref (a 0), .int p1, .int p2, .int p3, .int p4] : List Value).toArray below meth c H locs 0 0 (MQ below (va_Qv (fun T : ST => T = res) (PostW (wM a cI cZ) D cI cZ) (AC 31 a s.heap.size)) ([.ref (a 0), .int p1, .int p2, .int p3, .int p4] : List Value).toArray s 0 0 (AC 31 a s.heap.size)) (F0 m 0 ls []) by exact kS s.heap [] hP hS
  intro H locs hP hS
  unfold mX7_workPart at hm
  refine lv_aload_n hx hb dX7_workPart_0 rfl (lv_at hl 0 rfl) ?_
  refine lv_iload_n hx hb dX7_workPart_1 rfl (lv_at hl 1 rfl) ?_
  refine lv_iload_n hx hb dX7_workPart_2 rfl (lv_at hl 2 rfl) ?_
  refine lv_iload_n hx hb dX7_workPart_3 rfl (lv_at hl 3 rfl) ?_
  refine lv_iload hx hb dX7_workPart_4 (lv_at hl 4 rfl) ?_
  obtain ⟨r1, hr1, hm⟩ := bd_ok hm
  refine callRV (rest := []) X hK hNW hml hP hl.1 (kX7_bestPiece l D a cI cZ S p1 p2 p3 p4 r1 hr1) (cwV 4 X.2.2.1 gX7_workPart_X7_bestPiece rfl rfl rfl (by decide +kernel) ⟨Nat.le_of_ble_eq_true rfl, Nat.le_of_ble_eq_true rfl⟩) (vM_X7 hK hP) rfl rfl (Nat.le_of_ble_eq_true rfl) dX7_workPart_6 ⟨Nat.zero_le _, Nat.zero_le _⟩ ?_
  refine lv_istore (lv' := [(5, .int r1), (0, .ref (a 0)), (1, .int p1), (2, .int p2), (3, .int p3), (4, .int p4)]) hx hb dX7_workPart_9 hl (by decide) rfl (fun ls hl => ?_)
  refine lv_aload_n hx hb dX7_workPart_11 rfl (lv_at hl 1 rfl) ?_
  refine gM_X7_stages X hK hP iX7 (List.mem_of_getElem? (i := 1) rfl) dX7_workPart_12 ?_
  refine lv_istore (lv' := [(6, .int (S.1 3)), (5, .int r1), (0, .ref (a 0)), (1, .int p1), (2, .int p2), (3, .int p3), (4, .int p4)]) hx hb dX7_workPart_15 hl (by decide) rfl (fun ls hl => ?_)
  have kb17 : ∀ (k x : ST → Int32 → Option (ST)), (∀ (S_17 : ST) (H : Heap) (locs : List Loc) (v6_17 : Int32) (ls : Array Slot), va_P D vwCl (wM a cI cZ S_17) H → va_S (AC 31 a s.heap.size) s.heap H locs → lv_has ls 11 [(0, .ref (a 0)), (1, .int p1), (2, .int p2), (3, .int p3), (4, .int p4), (5, .int r1), (6, .int v6_17)] → k S_17 v6_17 = some res → W p l e rmX7_workPart s m ([.ref (a 0), .int p1, .int p2, .int p3, .int p4] : List Value).toArray below meth c H locs 0 0 (MQ below (va_Qv (fun T : ST => T = res) (PostW (wM a cI cZ) D cI cZ) (AC 31 a s.heap.size)) ([.ref (a 0), .int p1, .int p2, .int p3, .int p4] : List Value).toArray s 0 0 (AC 31 a s.heap.size)) (F0 m 17 ls [])) → (∀ (S_17 : ST) (H : Heap) (locs : List Loc) (v6_17 : Int32) (ls : Array Slot), va_P D vwCl (wM a cI cZ S_17) H → va_S (AC 31 a s.heap.size) s.heap H locs → lv_has ls 11 [(0, .ref (a 0)), (1, .int p1), (2, .int p2), (3, .int p3), (4, .int p4), (5, .int r1), (6, .int v6_17)] → x S_17 v6_17 = some res → W p l e rmX7_workPart s m ([.ref (a 0), .int p1, .int p2, .int p3, .int p4] : List Value).toArray below meth c H locs 0 0 (MQ below (va_Qv (fun T : ST => T = res) (PostW (wM a cI cZ) D cI cZ) (AC 31 a s.heap.size)) ([.ref (a 0), .int p1, .int p2, .int p3, .int p4] : List Value).toArray s 0 0 (AC 31 a s.heap.size)) (F0 m 164 ls [])) → ∀ (S_17 : ST) (H : Heap) (locs : List Loc) (v6_17 : Int32) (ls : Array Slot), va_P D vwCl (wM a cI cZ S_17) H → va_S (AC 31 a s.heap.size) s.heap H locs → lv_has ls 11 [(0, .ref (a 0)), (1, .int p1), (2, .int p2), (3, .int p3), (4, .int p4), (5, .int r1), (6, .int v6_17)] → mX7_workPart_B17 k x p1 p2 p3 p4 r1 S_17 v6_17 = some res → W p l e rmX7_workPart s m ([.ref (a 0), .int p1, .int p2, .int p3, .int p4] : List Value).toArray below meth c H locs 0 0 (MQ below (va_Qv (fun T : ST => T = res) (PostW (wM a cI cZ) D cI cZ) (AC 31 a s.heap.size)) ([.ref (a 0), .int p1, .int p2, .int p3, .int p4] : List Value).toArray s 0 0 (AC 31 a s.heap.size)) (F0 m 17 ls []) := by
    intro k x ih kxh S_17 H locs v6_17 ls hP hS hl hm
    unfold mX7_workPart_B17 at hm
    refine lv_iload hx hb dX7_workPart_17 (lv_at hl 6 rfl) ?_
    refine lv_if_le (tgt := 164) hx hb dX7_workPart_19 (by decide) (fun hc => ?_) (fun hc => ?_)
    · replace hm := (if_pos hc).symm.trans hm
      exact kxh S_17 H locs v6_17 ls hP hS (lv_sub hl [0, 1, 2, 3, 4, 5, 6] rfl) hm
    · replace hm := (if_neg hc).symm.trans hm
      refine lv_iload hx hb dX7_workPart_22 (lv_at hl 5 rfl) ?_
      refine lv_istore (lv' := [(7, .int r1), (0, .ref (a 0)), (1, .int p1), (2, .int p2), (3, .int p3), (4, .int p4), (5, .int r1), (6, .int v6_17)]) hx hb dX7_workPart_24 hl (by decide) rfl (fun ls hl => ?_)
      refine lv_aload_n hx hb dX7_workPart_26 rfl (lv_at hl 1 rfl) ?_
      refine lv_iload hx hb dX7_workPart_27 (lv_at hl 7 rfl) ?_
      obtain ⟨r2, hr2, hm⟩ := bd_ok hm
      refine callRV (rest := []) X hK hNW hml hP hl.1 (kX7_wayOf l D a cI cZ S_17 v6_17 r2 hr2) (cwV 1 X.2.2.1 gX7_workPart_X7_wayOf rfl rfl rfl (by decide +kernel) ⟨Nat.le_of_ble_eq_true rfl, Nat.le_of_ble_eq_true rfl⟩) (vM_X7 hK hP) rfl rfl (Nat.le_of_ble_eq_true rfl) dX7_workPart_29 ⟨Nat.zero_le _, Nat.zero_le _⟩ ?_
      have kJ41 : ∀ (t0_41 : Int32) (ls : Array Slot), lv_has ls 11 [(0, .ref (a 0)), (1, .int p1), (2, .int p2), (3, .int p3), (4, .int p4), (5, .int r1), (6, .int v6_17), (7, .int r1)] → mX7_workPart_J41 k x S_17 p1 p2 p3 p4 r1 v6_17 r1 t0_41 = some res → W p l e rmX7_workPart s m ([.ref (a 0), .int p1, .int p2, .int p3, .int p4] : List Value).toArray below meth c H locs 0 0 (MQ below (va_Qv (fun T : ST => T = res) (PostW (wM a cI cZ) D cI cZ) (AC 31 a s.heap.size)) ([.ref (a 0), .int p1, .int p2, .int p3, .int p4] : List Value).toArray s 0 0 (AC 31 a s.heap.size)) (F0 m 41 ls [.int t0_41]) := by
        intro t0_41 ls hl hm
        unfold mX7_workPart_J41 at hm
        refine lv_istore (lv' := [(8, .int t0_41), (0, .ref (a 0)), (1, .int p1), (2, .int p2), (3, .int p3), (4, .int p4), (5, .int r1), (6, .int v6_17), (7, .int r1)]) hx hb dX7_workPart_41 hl (by decide) rfl (fun ls hl => ?_)
        refine lv_iconst (v := (1 : Int32)) hx hb dX7_workPart_43 (by decide) ?_
        refine lv_istore (lv' := [(9, .int (1 : Int32)), (8, .int t0_41), (0, .ref (a 0)), (1, .int p1), (2, .int p2), (3, .int p3), (4, .int p4), (5, .int r1), (6, .int v6_17), (7, .int r1)]) hx hb dX7_workPart_44 hl (by decide) rfl (fun ls hl => ?_)
        have kb46 : ∀ (k x : Int32 → Int32 → Option (ST)), (∀ (v7_46 : Int32) (v9_46 : Int32) (ls : Array Slot), lv_has ls 11 [(0, .ref (a 0)), (1, .int p1), (2, .int p2), (3, .int p3), (4, .int p4), (5, .int r1), (6, .int v6_17), (7, .int v7_46), (8, .int t0_41), (9, .int v9_46)] → k v7_46 v9_46 = some res → W p l e rmX7_workPart s m ([.ref (a 0), .int p1, .int p2, .int p3, .int p4] : List Value).toArray below meth c H locs 0 0 (MQ below (va_Qv (fun T : ST => T = res) (PostW (wM a cI cZ) D cI cZ) (AC 31 a s.heap.size)) ([.ref (a 0), .int p1, .int p2, .int p3, .int p4] : List Value).toArray s 0 0 (AC 31 a s.heap.size)) (F0 m 46 ls [])) → (∀ (v7_46 : Int32) (v9_46 : Int32) (ls : Array Slot), lv_has ls 11 [(0, .ref (a 0)), (1, .int p1), (2, .int p2), (3, .int p3), (4, .int p4), (5, .int r1), (6, .int v6_17), (7, .int v7_46), (8, .int t0_41), (9, .int v9_46)] → x v7_46 v9_46 = some res → W p l e rmX7_workPart s m ([.ref (a 0), .int p1, .int p2, .int p3, .int p4] : List Value).toArray below meth c H locs 0 0 (MQ below (va_Qv (fun T : ST => T = res) (PostW (wM a cI cZ) D cI cZ) (AC 31 a s.heap.size)) ([.ref (a 0), .int p1, .int p2, .int p3, .int p4] : List Value).toArray s 0 0 (AC 31 a s.heap.size)) (F0 m 95 ls [])) → ∀ (v7_46 : Int32) (v9_46 : Int32) (ls : Array Slot), lv_has ls 11 [(0, .ref (a 0)), (1, .int p1), (2, .int p2), (3, .int p3), (4, .int p4), (5, .int r1), (6, .int v6_17), (7, .int v7_46), (8, .int t0_41), (9, .int v9_46)] → mX7_workPart_B46 k x S_17 p1 p2 p3 p4 r1 v6_17 t0_41 v7_46 v9_46 = some res → W p l e rmX7_workPart s m ([.ref (a 0), .int p1, .int p2, .int p3, .int p4] : List Value).toArray below meth c H locs 0 0 (MQ below (va_Qv (fun T : ST => T = res) (PostW (wM a cI cZ) D cI cZ) (AC 31 a s.heap.size)) ([.ref (a 0), .int p1, .int p2, .int p3, .int p4] : List Value).toArray s 0 0 (AC 31 a s.heap.size)) (F0 m 46 ls []) := by
          intro k x ih kxh v7_46 v9_46 ls hl hm
          unfold mX7_workPart_B46 at hm
          refine lv_iload hx hb dX7_workPart_46 (lv_at hl 9 rfl) ?_
          refine lv_aload_n hx hb dX7_workPart_48 rfl (lv_at hl 0 rfl) ?_
          refine gM_X7_kerf X hK hP iX7 (List.mem_of_getElem? (i := 2) rfl) dX7_workPart_49 ?_
          refine lv_iadd hx hb dX7_workPart_52 ?_
          refine lv_iload hx hb dX7_workPart_53 (lv_at hl 8 rfl) ?_
          refine lv_icmp_ge (tgt := 95) hx hb dX7_workPart_55 (by decide) (fun hc => ?_) (fun hc => ?_)
          · replace hm := (if_pos hc).symm.trans hm
            exact kxh v7_46 v9_46 ls (lv_sub hl [0, 1, 2, 3, 4, 5, 6, 7, 8, 9] rfl) hm
          · replace hm := (if_neg hc).symm.trans hm
            refine lv_aload_n hx hb dX7_workPart_58 rfl (lv_at hl 0 rfl) ?_
            refine lv_iload hx hb dX7_workPart_59 (lv_at hl 6 rfl) ?_
            refine lv_iload_n hx hb dX7_workPart_61 rfl (lv_at hl 1 rfl) ?_
            refine lv_iload_n hx hb dX7_workPart_62 rfl (lv_at hl 2 rfl) ?_
            refine lv_iload_n hx hb dX7_workPart_63 rfl (lv_at hl 3 rfl) ?_
            refine lv_iload hx hb dX7_workPart_64 (lv_at hl 4 rfl) ?_
            refine lv_iload hx hb dX7_workPart_66 (lv_at hl 9 rfl) ?_
            obtain ⟨r5, hr5, hm⟩ := bd_ok hm
            refine callRV (rest := []) X hK hNW hml hP hl.1 (kX7_both l D a cI cZ S_17 v6_17 p1 p2 p3 p4 v9_46 r5 hr5) (cwV 6 X.2.2.1 gX7_workPart_X7_both rfl rfl rfl (by decide +kernel) ⟨Nat.le_of_ble_eq_true rfl, Nat.le_of_ble_eq_true rfl⟩) (vM_X7 hK hP) rfl rfl (Nat.le_of_ble_eq_true rfl) dX7_workPart_68 ⟨Nat.zero_le _, Nat.zero_le _⟩ ?_
            refine lv_istore (lv' := [(10, .int r5), (0, .ref (a 0)), (1, .int p1), (2, .int p2), (3, .int p3), (4, .int p4), (5, .int r1), (6, .int v6_17), (7, .int v7_46), (8, .int t0_41), (9, .int v9_46)]) hx hb dX7_workPart_71 hl (by decide) rfl (fun ls hl => ?_)
            refine lv_iload hx hb dX7_workPart_73 (lv_at hl 0 rfl) ?_
            refine lv_iload hx hb dX7_workPart_75 (lv_at hl 8 rfl) ?_
            refine lv_icmp_le (tgt := 85) hx hb dX7_workPart_77 (by decide) (fun hc => ?_) (fun hc => ?_)
            · replace hm := (if_pos hc).symm.trans hm
              refine lv_iload hx hb dX7_workPart_85 (lv_at hl 8 rfl) ?_
              refine lv_istore (lv' := [(7, .int v7_46), (10, .int r5), (0, .ref (a 0)), (1, .int p1), (2, .int p2), (3, .int p3), (4, .int p4), (5, .int r1), (6, .int v6_17), (8, .int t0_41), (9, .int v9_46)]) hx hb dX7_workPart_87 hl (by decide) rfl (fun ls hl => ?_)
              refine lv_iinc (v := (v9_46 + (1 : Int32))) (lv' := [(9, .int (v9_46 + (1 : Int32))), (7, .int v7_46), (10, .int r5), (0, .ref (a 0)), (1, .int p1), (2, .int p2), (3, .int p3), (4, .int p4), (5, .int r1), (6, .int v6_17), (8, .int t0_41)]) hx hb dX7_workPart_89 hl (k := 10) rfl rfl (by decide) rfl (fun ls hl => ?_)
              refine lv_goto (tgt := 46) hx hb dX7_workPart_92 (by decide) ?_
              exact ih v7_46 (v9_46 + (1 : Int32)) ls (lv_sub hl [3, 4, 5, 6, 7, 8, 9, 1, 10, 0] rfl) hm
            · replace hm := (if_neg hc).symm.trans hm
              refine lv_iload hx hb dX7_workPart_80 (lv_at hl 0 rfl) ?_
              refine lv_goto (tgt := 87) hx hb dX7_workPart_82 (by decide) ?_
              refine lv_istore (lv' := [(7, .int r5), (10, .int r5), (0, .ref (a 0)), (1, .int p1), (2, .int p2), (3, .int p3), (4, .int p4), (5, .int r1), (6, .int v6_17), (8, .int t0_41), (9, .int v9_46)]) hx hb dX7_workPart_87 hl (by decide) rfl (fun ls hl => ?_)
              refine lv_iinc (v := (v9_46 + (1 : Int32))) (lv' := [(9, .int (v9_46 + (1 : Int32))), (7, .int r5), (10, .int r5), (0, .ref (a 0)), (1, .int p1), (2, .int p2), (3, .int p3), (4, .int p4), (5, .int r1), (6, .int v6_17), (8, .int t0_41)]) hx hb dX7_workPart_89 hl (k := 10) rfl rfl (by decide) rfl (fun ls hl => ?_)
              refine lv_goto (tgt := 46) hx hb dX7_workPart_92 (by decide) ?_
              exact ih r5 (v9_46 + (1 : Int32)) ls (lv_sub hl [3, 4, 5, 6, 7, 8, 9, 1, 10, 0] rfl) hm
        have kx46 : ∀ (v7_46 : Int32) (v9_46 : Int32) (ls : Array Slot), lv_has ls 11 [(0, .ref (a 0)), (1, .int p1), (2, .int p2), (3, .int p3), (4, .int p4), (5, .int r1), (6, .int v6_17), (7, .int v7_46), (8, .int t0_41), (9, .int v9_46)] → mX7_workPart_X46 k x S_17 p1 p2 p3 p4 r1 v6_17 t0_41 v7_46 v9_46 = some res → W p l e rmX7_workPart s m ([.ref (a 0), .int p1, .int p2, .int p3, .int p4] : List Value).toArray below meth c H locs 0 0 (MQ below (va_Qv (fun T : ST => T = res) (PostW (wM a cI cZ) D cI cZ) (AC 31 a s.heap.size)) ([.ref (a 0), .int p1, .int p2, .int p3, .int p4] : List Value).toArray s 0 0 (AC 31 a s.heap.size)) (F0 m 95 ls []) := by
          intro v7_46 v9_46 ls hl hm
          unfold mX7_workPart_X46 at hm
          refine lv_iload hx hb dX7_workPart_95 (lv_at hl 6 rfl) ?_
          refine lv_aload_n hx hb dX7_workPart_97 rfl (lv_at hl 0 rfl) ?_
          refine gM_X7_stages X hK hP iX7 (List.mem_of_getElem? (i := 1) rfl) dX7_workPart_98 ?_
          have kJ140 : ∀ (v7_140 : Int32) (v9_140 : Int32) (ls : Array Slot), lv_has ls 11 [(0, .ref (a 0)), (1, .int p1), (2, .int p2), (3, .int p3), (4, .int p4), (5, .int r1), (6, .int v6_17), (7, .int v7_140), (8, .int t0_41), (9, .int v9_140)] → mX7_workPart_J140 k x S_17 p1 p2 p3 p4 r1 v6_17 v7_140 t0_41 v9_140 = some res → W p l e rmX7_workPart s m ([.ref (a 0), .int p1, .int p2, .int p3, .int p4] : List Value).toArray below meth c H locs 0 0 (MQ below (va_Qv (fun T : ST => T = res) (PostW (wM a cI cZ) D cI cZ) (AC 31 a s.heap.size)) ([.ref (a 0), .int p1, .int p2, .int p3, .int p4] : List Value).toArray s 0 0 (AC 31 a s.heap.size)) (F0 m 140 ls []) := by
            intro v7_140 v9_140 ls hl hm
            unfold mX7_workPart_J140 at hm
            refine lv_aload_n hx hb dX7_workPart_140 rfl (lv_at hl 0 rfl) ?_
            refine gM_X7_worths X hK hP iX7 (List.mem_of_getElem? (i := 3) rfl) dX7_workPart_141 ?_
            refine lv_aload_n hx hb dX7_workPart_144 rfl (lv_at hl 0 rfl) ?_
            refine lv_iload hx hb dX7_workPart_145 (lv_at hl 6 rfl) ?_
            refine lv_iload_n hx hb dX7_workPart_147 rfl (lv_at hl 1 rfl) ?_
            refine lv_iload_n hx hb dX7_workPart_148 rfl (lv_at hl 2 rfl) ?_
            refine lv_iload_n hx hb dX7_workPart_149 rfl (lv_at hl 3 rfl) ?_
            refine lv_iload hx hb dX7_workPart_150 (lv_at hl 4 rfl) ?_
            obtain ⟨r3, hr3, hm⟩ := bd_ok hm
            refine callRV (rest := [.ref (a 10)]) X hK hNW hml hP hl.1 (kX7_at l D a cI cZ S_17 v6_17 p1 p2 p3 p4 r3 hr3) (cwV 5 X.2.2.1 gX7_workPart_X7_at rfl rfl rfl (by decide +kernel) ⟨Nat.le_of_ble_eq_true rfl, Nat.le_of_ble_eq_true rfl⟩) (vM_X7 hK hP) rfl rfl (Nat.le_of_ble_eq_true rfl) dX7_workPart_152 ⟨Nat.zero_le _, Nat.zero_le _⟩ ?_
            refine lv_iload hx hb dX7_workPart_155 (lv_at hl 7 rfl) ?_
            obtain ⟨h1, hm⟩ := gd_ok hm
            refine sM_X7_worths X hK hA hP hS h1 dX7_workPart_157 (fun H locs hP hS => ?_)
            refine lv_iinc (v := (v6_17 + (-1 : Int32))) (lv' := [(6, .int (v6_17 + (-1 : Int32))), (0, .ref (a 0)), (1, .int p1), (2, .int p2), (3, .int p3), (4, .int p4), (5, .int r1), (7, .int v7_140), (8, .int t0_41), (9, .int v9_140)]) hx hb dX7_workPart_158 hl (k := 6) rfl rfl (by decide) rfl (fun ls hl => ?_)
            refine lv_goto (tgt := 17) hx hb dX7_workPart_161 (by decide) ?_
            exact ih (sG S_17 9 r3 v7_140) H locs (v6_17 + (-1 : Int32)) ls hP hS (lv_sub hl [1, 2, 3, 4, 5, 6, 0] rfl) hm
          refine lv_icmp_ge (tgt := 140) hx hb dX7_workPart_101 (by decide) (fun hc => ?_) (fun hc => ?_)
          · replace hm := (if_pos hc).symm.trans hm
            exact kJ140 v7_46 v9_46 ls (lv_sub hl [0, 1, 2, 3, 4, 5, 6, 7, 8, 9] rfl) hm
          · replace hm := (if_neg hc).symm.trans hm
            refine lv_aload_n hx hb dX7_workPart_104 rfl (lv_at hl 0 rfl) ?_
            refine gM_X7_worths X hK hP iX7 (List.mem_of_getElem? (i := 3) rfl) dX7_workPart_105 ?_
            refine lv_aload_n hx hb dX7_workPart_108 rfl (lv_at hl 0 rfl) ?_
            refine lv_iload hx hb dX7_workPart_109 (lv_at hl 6 rfl) ?_
            refine lv_iconst (v := (1 : Int32)) hx hb dX7_workPart_111 (by decide) ?_
            refine lv_iadd hx hb dX7_workPart_112 ?_
            refine lv_iload_n hx hb dX7_workPart_113 rfl (lv_at hl 1 rfl) ?_
            refine lv_iload_n hx hb dX7_workPart_114 rfl (lv_at hl 2 rfl) ?_
            refine lv_iload_n hx hb dX7_workPart_115 rfl (lv_at hl 3 rfl) ?_
            refine lv_iload hx hb dX7_workPart_116 (lv_at hl 4 rfl) ?_
            obtain ⟨r4, hr4, hm⟩ := bd_ok hm
            refine callRV (rest := [.ref (a 10)]) X hK hNW hml hP hl.1 (kX7_at l D a cI cZ S_17 (v6_17 + (1 : Int32)) p1 p2 p3 p4 r4 hr4) (cwV 5 X.2.2.1 gX7_workPart_X7_at rfl rfl rfl (by decide +kernel) ⟨Nat.le_of_ble_eq_true rfl, Nat.le_of_ble_eq_true rfl⟩) (vM_X7 hK hP) rfl rfl (Nat.le_of_ble_eq_true rfl) dX7_workPart_118 ⟨Nat.zero_le _, Nat.zero_le _⟩ ?_
            obtain ⟨h1, hm⟩ := gd_ok hm
            refine rM_X7_worths X hK hP h1 dX7_workPart_121 ?_
            refine lv_istore (lv' := [(9, .int (S_17.2 9 r4.toNatClampNeg)), (0, .ref (a 0)), (1, .int p1), (2, .int p2), (3, .int p3), (4, .int p4), (5, .int r1), (6, .int v6_17), (7, .int v7_46), (8, .int t0_41)]) hx hb dX7_workPart_122 hl (by decide) rfl (fun ls hl => ?_)
            refine lv_iload hx hb dX7_workPart_124 (lv_at hl 0 rfl) ?_
            refine lv_iload hx hb dX7_workPart_126 (lv_at hl 8 rfl) ?_
            refine lv_icmp_le (tgt := 136) hx hb dX7_workPart_128 (by decide) (fun hc => ?_) (fun hc => ?_)
            · replace hm := (if_pos hc).symm.trans hm
              refine lv_iload hx hb dX7_workPart_136 (lv_at hl 8 rfl) ?_
              refine lv_istore (lv' := [(7, .int v7_46), (9, .int (S_17.2 9 r4.toNatClampNeg)), (0, .ref (a 0)), (1, .int p1), (2, .int p2), (3, .int p3), (4, .int p4), (5, .int r1), (6, .int v6_17), (8, .int t0_41)]) hx hb dX7_workPart_138 hl (by decide) rfl (fun ls hl => ?_)
              exact kJ140 v7_46 (S_17.2 9 r4.toNatClampNeg) ls (lv_sub hl [2, 3, 4, 5, 6, 7, 8, 0, 9, 1] rfl) hm
            · replace hm := (if_neg hc).symm.trans hm
              refine lv_iload hx hb dX7_workPart_131 (lv_at hl 0 rfl) ?_
              refine lv_goto (tgt := 138) hx hb dX7_workPart_133 (by decide) ?_
              refine lv_istore (lv' := [(7, .int (S_17.2 9 r4.toNatClampNeg)), (9, .int (S_17.2 9 r4.toNatClampNeg)), (0, .ref (a 0)), (1, .int p1), (2, .int p2), (3, .int p3), (4, .int p4), (5, .int r1), (6, .int v6_17), (8, .int t0_41)]) hx hb dX7_workPart_138 hl (by decide) rfl (fun ls hl => ?_)
              exact kJ140 (S_17.2 9 r4.toNatClampNeg) (S_17.2 9 r4.toNatClampNeg) ls (lv_sub hl [2, 3, 4, 5, 6, 7, 8, 0, 9, 1] rfl) hm
        have lp46 : ∀ (n : Nat) (v7_46 : Int32) (v9_46 : Int32) (ls : Array Slot), lv_has ls 11 [(0, .ref (a 0)), (1, .int p1), (2, .int p2), (3, .int p3), (4, .int p4), (5, .int r1), (6, .int v6_17), (7, .int v7_46), (8, .int t0_41), (9, .int v9_46)] → LPf (κ := Int32 → Int32 → Option (ST)) (fun _ _ => none) (fun kk => mX7_workPart_B46 kk (mX7_workPart_X46 k x S_17 p1 p2 p3 p4 r1 v6_17 t0_41) S_17 p1 p2 p3 p4 r1 v6_17 t0_41) n v7_46 v9_46 = some res → W p l e rmX7_workPart s m ([.ref (a 0), .int p1, .int p2, .int p3, .int p4] : List Value).toArray below meth c H locs 0 0 (MQ below (va_Qv (fun T : ST => T = res) (PostW (wM a cI cZ) D cI cZ) (AC 31 a s.heap.size)) ([.ref (a 0), .int p1, .int p2, .int p3, .int p4] : List Value).toArray s 0 0 (AC 31 a s.heap.size)) (F0 m 46 ls []) := by
          intro n
          induction n with
          | zero =>
            intro v7_46 v9_46 ls hl hm
            exact (noS (show (none : Option (ST)) = some res from hm)).elim
          | succ n ih =>
            intro v7_46 v9_46 ls hl hm
            exact kb46 _ _ ih kx46 v7_46 v9_46 ls hl hm
        exact lp46 FU r1 (1 : Int32) ls (lv_sub hl [2, 3, 4, 5, 6, 7, 8, 9, 1, 0] rfl) hm
      refine lv_if_ne (tgt := 39) hx hb dX7_workPart_32 (by decide) (fun hc => ?_) (fun hc => ?_)
      · replace hm := (if_neg hc).symm.trans hm
        refine lv_iload hx hb dX7_workPart_39 (lv_at hl 5 rfl) ?_
        exact kJ41 p4 ls (lv_sub hl [1, 2, 3, 4, 5, 6, 7, 0] rfl) hm
      · replace hm := (if_pos hc).symm.trans hm
        refine lv_iload_n hx hb dX7_workPart_35 rfl (lv_at hl 4 rfl) ?_
        refine lv_goto (tgt := 41) hx hb dX7_workPart_36 (by decide) ?_
        exact kJ41 p3 ls (lv_sub hl [1, 2, 3, 4, 5, 6, 7, 0] rfl) hm
  have kx17 : ∀ (S_17 : ST) (H : Heap) (locs : List Loc) (v6_17 : Int32) (ls : Array Slot), va_P D vwCl (wM a cI cZ S_17) H → va_S (AC 31 a s.heap.size) s.heap H locs → lv_has ls 11 [(0, .ref (a 0)), (1, .int p1), (2, .int p2), (3, .int p3), (4, .int p4), (5, .int r1), (6, .int v6_17)] → mX7_workPart_X17  p1 p2 p3 p4 r1 S_17 v6_17 = some res → W p l e rmX7_workPart s m ([.ref (a 0), .int p1, .int p2, .int p3, .int p4] : List Value).toArray below meth c H locs 0 0 (MQ below (va_Qv (fun T : ST => T = res) (PostW (wM a cI cZ) D cI cZ) (AC 31 a s.heap.size)) ([.ref (a 0), .int p1, .int p2, .int p3, .int p4] : List Value).toArray s 0 0 (AC 31 a s.heap.size)) (F0 m 164 ls []) := by
    intro S_17 H locs v6_17 ls hP hS hl hm
    unfold mX7_workPart_X17 at hm
    exact endV X hK hr hlocks hm hP hS dX7_workPart_164
  have lp17 : ∀ (n : Nat) (S_17 : ST) (H : Heap) (locs : List Loc) (v6_17 : Int32) (ls : Array Slot), va_P D vwCl (wM a cI cZ S_17) H → va_S (AC 31 a s.heap.size) s.heap H locs → lv_has ls 11 [(0, .ref (a 0)), (1, .int p1), (2, .int p2), (3, .int p3), (4, .int p4), (5, .int r1), (6, .int v6_17)] → LPf (κ := ST → Int32 → Option (ST)) (fun _ _ => none) (fun kk => mX7_workPart_B17 kk (mX7_workPart_X17  p1 p2 p3 p4 r1) p1 p2 p3 p4 r1) n S_17 v6_17 = some res → W p l e rmX7_workPart s m ([.ref (a 0), .int p1, .int p2, .int p3, .int p4] : List Value).toArray below meth c H locs 0 0 (MQ below (va_Qv (fun T : ST => T = res) (PostW (wM a cI cZ) D cI cZ) (AC 31 a s.heap.size)) ([.ref (a 0), .int p1, .int p2, .int p3, .int p4] : List Value).toArray s 0 0 (AC 31 a s.heap.size)) (F0 m 17 ls []) := by
    intro n
    induction n with
    | zero =>
      intro S_17 H locs v6_17 ls hP hS hl hm
      exact (noS (show (none : Option (ST)) = some res from hm)).elim
    | succ n ih =>
      intro S_17 H locs v6_17 ls hP hS hl hm
      exact kb17 _ _ ih kx17 S_17 H locs v6_17 ls hP hS hl hm
  exact lp17 FU S H locs (S.1 3) ls hP hS (lv_sub hl [2, 3, 4, 5, 6, 1, 0] rfl) hm

def rmX7_lay : Room := { frames := 0, cells := 0, slots := 0, locals := 0 }
set_option maxHeartbeats 4000000 in
set_option maxRecDepth 100000 in
theorem kX7_lay (l : Launch) (D : va_G) (a : Nat → Nat) (cI cZ : ClassId) (hA : AP 31 a) (S : ST) (sz : Nat) (p1 : Int32) (p2 : Int32) (p3 : Int32) (p4 : Int32) (p5 : Int32) (res : ST) (hm : mX7_lay S p1 p2 p3 p4 p5 = some res) : Met l yX7_lay wsX7_lay rmX7_lay (va_Pc [.ref (a 0), .int p1, .int p2, .int p3, .int p4, .int p5] (PreW (wM a cI cZ S) D cI cZ sz)) (va_Qv (fun T : ST => T = res) (PostW (wM a cI cZ) D cI cZ) (AC 31 a sz)) 0 0 (AC 31 a sz) := by
  refine metB (cc := cX7_lay) (maxL := 6) (ret := none) (by decide) rfl (Nat.le_of_ble_eq_true rfl) ?_
  intro p e s m below meth c ls X hml hr hlocks hin hv hl
  replace X : CX p m c cX7_lay s ([.ref (a 0), .int p1, .int p2, .int p3, .int p4, .int p5] : List Value).toArray wsX7_lay RX7 := X
  obtain ⟨hsz, hP, hK, hNW⟩ := hv
  subst hsz
  have hS : va_S (AC 31 a s.heap.size) s.heap s.heap [] := va_S.rf
  have hx := X.1
  have hb := X.2.1
  replace hl : lv_has ls 6 [(0, .ref (a 0)), (1, .int p1), (2, .int p2), (3, .int p3), (4, .int p4), (5, .int p5)] := hl
  have iX7 : ∀ w ∈ wsX70, w ∈ wsX7_lay := fun w h => List.mem_cons_of_mem _ (List.mem_append_right _ h)
  suffices kS : ∀ (H : Heap) (locs : List Loc), va_P D vwCl (wM a cI cZ S) H → va_S (AC 31 a s.heap.size) s.heap H locs → W p l e rmX7_lay s m ([.ref (a 0), .int p1, .int p2, .int p3, .int p4, .int p5] : List Value).toArray below meth c H locs 0 0 (MQ below (va_Qv (fun T : ST => T = res) (PostW (wM a cI cZ) D cI cZ) (AC 31 a s.heap.size)) ([.ref (a 0), .int p1, .int p2, .int p3, .int p4, .int p5] : List Value).toArray s 0 0 (AC 31 a s.heap.size)) (F0 m 0 ls []) by exact kS s.heap [] hP hS
  intro H locs hP hS
  unfold mX7_lay at hm
  refine lv_aload_n hx hb dX7_lay_0 rfl (lv_at hl 0 rfl) ?_
  refine gM_X7_pile X hK hP iX7 (List.mem_of_getElem? (i := 1) rfl) dX7_lay_1 ?_
  refine lv_aload_n hx hb dX7_lay_4 rfl (lv_at hl 0 rfl) ?_
  refine gM_X7_piled X hK hP iX7 (List.mem_of_getElem? (i := 2) rfl) dX7_lay_5 ?_
  refine lv_iload_n hx hb dX7_lay_8 rfl (lv_at hl 1 rfl) ?_
  obtain ⟨h1, hm⟩ := gd_ok hm
  refine sM_X7_pile X hK hA hP hS h1 dX7_lay_9 (fun H locs hP hS => ?_)
  refine lv_aload_n hx hb dX7_lay_10 rfl (lv_at hl 0 rfl) ?_
  refine gM_X7_pile X hK hP iX7 (List.mem_of_getElem? (i := 1) rfl) dX7_lay_11 ?_
  refine lv_aload_n hx hb dX7_lay_14 rfl (lv_at hl 0 rfl) ?_
  refine gM_X7_piled X hK hP iX7 (List.mem_of_getElem? (i := 2) rfl) dX7_lay_15 ?_
  refine lv_iconst (v := (1 : Int32)) hx hb dX7_lay_18 (by decide) ?_
  refine lv_iadd hx hb dX7_lay_19 ?_
  refine lv_iload_n hx hb dX7_lay_20 rfl (lv_at hl 2 rfl) ?_
  obtain ⟨h1, hm⟩ := gd_ok hm
  refine sM_X7_pile X hK hA hP hS h1 dX7_lay_21 (fun H locs hP hS => ?_)
  refine lv_aload_n hx hb dX7_lay_22 rfl (lv_at hl 0 rfl) ?_
  refine gM_X7_pile X hK hP iX7 (List.mem_of_getElem? (i := 1) rfl) dX7_lay_23 ?_
  refine lv_aload_n hx hb dX7_lay_26 rfl (lv_at hl 0 rfl) ?_
  refine gM_X7_piled X hK hP iX7 (List.mem_of_getElem? (i := 2) rfl) dX7_lay_27 ?_
  refine lv_iconst (v := (2 : Int32)) hx hb dX7_lay_30 (by decide) ?_
  refine lv_iadd hx hb dX7_lay_31 ?_
  refine lv_iload_n hx hb dX7_lay_32 rfl (lv_at hl 3 rfl) ?_
  obtain ⟨h1, hm⟩ := gd_ok hm
  refine sM_X7_pile X hK hA hP hS h1 dX7_lay_33 (fun H locs hP hS => ?_)
  refine lv_aload_n hx hb dX7_lay_34 rfl (lv_at hl 0 rfl) ?_
  refine gM_X7_pile X hK hP iX7 (List.mem_of_getElem? (i := 1) rfl) dX7_lay_35 ?_
  refine lv_aload_n hx hb dX7_lay_38 rfl (lv_at hl 0 rfl) ?_
  refine gM_X7_piled X hK hP iX7 (List.mem_of_getElem? (i := 2) rfl) dX7_lay_39 ?_
  refine lv_iconst (v := (3 : Int32)) hx hb dX7_lay_42 (by decide) ?_
  refine lv_iadd hx hb dX7_lay_43 ?_
  refine lv_iload hx hb dX7_lay_44 (lv_at hl 4 rfl) ?_
  obtain ⟨h1, hm⟩ := gd_ok hm
  refine sM_X7_pile X hK hA hP hS h1 dX7_lay_46 (fun H locs hP hS => ?_)
  refine lv_aload_n hx hb dX7_lay_47 rfl (lv_at hl 0 rfl) ?_
  refine gM_X7_pile X hK hP iX7 (List.mem_of_getElem? (i := 1) rfl) dX7_lay_48 ?_
  refine lv_aload_n hx hb dX7_lay_51 rfl (lv_at hl 0 rfl) ?_
  refine gM_X7_piled X hK hP iX7 (List.mem_of_getElem? (i := 2) rfl) dX7_lay_52 ?_
  refine lv_iconst (v := (4 : Int32)) hx hb dX7_lay_55 (by decide) ?_
  refine lv_iadd hx hb dX7_lay_56 ?_
  refine lv_iload hx hb dX7_lay_57 (lv_at hl 5 rfl) ?_
  obtain ⟨h1, hm⟩ := gd_ok hm
  refine sM_X7_pile X hK hA hP hS h1 dX7_lay_59 (fun H locs hP hS => ?_)
  refine lv_aload_n hx hb dX7_lay_60 rfl (lv_at hl 0 rfl) ?_
  refine lv_dup hx hb dX7_lay_61 rfl ?_
  refine gM_X7_piled X hK hP iX7 (List.mem_of_getElem? (i := 2) rfl) dX7_lay_62 ?_
  refine lv_iconst (v := (5 : Int32)) hx hb dX7_lay_65 (by decide) ?_
  refine lv_iadd hx hb dX7_lay_66 ?_
  refine pM_X7_piled X hK hA hP hS iX7 (List.mem_of_getElem? (i := 2) rfl) dX7_lay_67 (fun H locs hP hS => ?_)
  exact endV X hK hr hlocks hm hP hS dX7_lay_70

def rmX7_isPiece : Room := { frames := 1, cells := 0, slots := 0, locals := 27 }
set_option maxHeartbeats 4000000 in
set_option maxRecDepth 100000 in
theorem kX7_isPiece (l : Launch) (D : va_G) (a : Nat → Nat) (cI cZ : ClassId) (hA : AP 31 a) (S : ST) (sz : Nat) (p1 : Int32) (p2 : Int32) (p3 : Int32) (p4 : Int32) (p5 : Int32) (res : Int32 × ST) (hm : mX7_isPiece S p1 p2 p3 p4 p5 = some res) : Met l yX7_isPiece wsX7_isPiece rmX7_isPiece (va_Pc [.ref (a 0), .int p1, .int p2, .int p3, .int p4, .int p5] (PreW (wM a cI cZ S) D cI cZ sz)) (va_Qi (fun (r : Int32) (T : ST) => (r, T) = res) (PostW (wM a cI cZ) D cI cZ) (AC 31 a sz)) 0 0 (AC 31 a sz) := by
  refine metB (cc := cX7_isPiece) (maxL := 8) (ret := (some .boolean)) (by decide) rfl (Nat.le_of_ble_eq_true rfl) ?_
  intro p e s m below meth c ls X hml hr hlocks hin hv hl
  replace X : CX p m c cX7_isPiece s ([.ref (a 0), .int p1, .int p2, .int p3, .int p4, .int p5] : List Value).toArray wsX7_isPiece RX7 := X
  obtain ⟨hsz, hP, hK, hNW⟩ := hv
  subst hsz
  have hS : va_S (AC 31 a s.heap.size) s.heap s.heap [] := va_S.rf
  have hx := X.1
  have hb := X.2.1
  replace hl : lv_has ls 8 [(0, .ref (a 0)), (1, .int p1), (2, .int p2), (3, .int p3), (4, .int p4), (5, .int p5)] := hl
  have iX7 : ∀ w ∈ wsX70, w ∈ wsX7_isPiece := fun w h => List.mem_cons_of_mem _ (List.mem_append_right _ h)
  suffices kS : ∀ (H : Heap) (locs : List Loc), va_P D vwCl (wM a cI cZ S) H → va_S (AC 31 a s.heap.size) s.heap H locs → W p l e rmX7_isPiece s m ([.ref (a 0), .int p1, .int p2, .int p3, .int p4, .int p5] : List Value).toArray below meth c H locs 0 0 (MQ below (va_Qi (fun (r : Int32) (T : ST) => (r, T) = res) (PostW (wM a cI cZ) D cI cZ) (AC 31 a s.heap.size)) ([.ref (a 0), .int p1, .int p2, .int p3, .int p4, .int p5] : List Value).toArray s 0 0 (AC 31 a s.heap.size)) (F0 m 0 ls []) by exact kS s.heap [] hP hS
  intro H locs hP hS
  unfold mX7_isPiece at hm
  refine lv_aload_n hx hb dX7_isPiece_0 rfl (lv_at hl 0 rfl) ?_
  refine lv_iload_n hx hb dX7_isPiece_1 rfl (lv_at hl 1 rfl) ?_
  refine lv_iload_n hx hb dX7_isPiece_2 rfl (lv_at hl 2 rfl) ?_
  refine lv_iload_n hx hb dX7_isPiece_3 rfl (lv_at hl 3 rfl) ?_
  refine lv_iload hx hb dX7_isPiece_4 (lv_at hl 4 rfl) ?_
  obtain ⟨r1, hr1, hm⟩ := bd_ok hm
  refine callRV (rest := []) X hK hNW hml hP hl.1 (kX7_isSpoiled l D a cI cZ S p1 p2 p3 p4 r1 hr1) (cwV 4 X.2.2.1 gX7_isPiece_X7_isSpoiled rfl rfl rfl (by decide +kernel) ⟨Nat.le_of_ble_eq_true rfl, Nat.le_of_ble_eq_true rfl⟩) (vM_X7 hK hP) rfl rfl (Nat.le_of_ble_eq_true rfl) dX7_isPiece_6 ⟨Nat.zero_le _, Nat.zero_le _⟩ ?_
  refine lv_if_eq (tgt := 14) hx hb dX7_isPiece_9 (by decide) (fun hc => ?_) (fun hc => ?_)
  · replace hm := (if_pos hc).symm.trans hm
    refine lv_iconst (v := (0 : Int32)) hx hb dX7_isPiece_14 (by decide) ?_
    refine lv_istore (lv' := [(6, .int (0 : Int32)), (0, .ref (a 0)), (1, .int p1), (2, .int p2), (3, .int p3), (4, .int p4), (5, .int p5)]) hx hb dX7_isPiece_15 hl (by decide) rfl (fun ls hl => ?_)
    have kb17 : ∀ (k x : Int32 → Option (Int32 × ST)), (∀ (v6_17 : Int32) (ls : Array Slot), lv_has ls 8 [(0, .ref (a 0)), (1, .int p1), (2, .int p2), (3, .int p3), (4, .int p4), (5, .int p5), (6, .int v6_17)] → k v6_17 = some res → W p l e rmX7_isPiece s m ([.ref (a 0), .int p1, .int p2, .int p3, .int p4, .int p5] : List Value).toArray below meth c H locs 0 0 (MQ below (va_Qi (fun (r : Int32) (T : ST) => (r, T) = res) (PostW (wM a cI cZ) D cI cZ) (AC 31 a s.heap.size)) ([.ref (a 0), .int p1, .int p2, .int p3, .int p4, .int p5] : List Value).toArray s 0 0 (AC 31 a s.heap.size)) (F0 m 17 ls [])) → (∀ (v6_17 : Int32) (ls : Array Slot), lv_has ls 8 [(0, .ref (a 0)), (1, .int p1), (2, .int p2), (3, .int p3), (4, .int p4), (5, .int p5), (6, .int v6_17)] → x v6_17 = some res → W p l e rmX7_isPiece s m ([.ref (a 0), .int p1, .int p2, .int p3, .int p4, .int p5] : List Value).toArray below meth c H locs 0 0 (MQ below (va_Qi (fun (r : Int32) (T : ST) => (r, T) = res) (PostW (wM a cI cZ) D cI cZ) (AC 31 a s.heap.size)) ([.ref (a 0), .int p1, .int p2, .int p3, .int p4, .int p5] : List Value).toArray s 0 0 (AC 31 a s.heap.size)) (F0 m 127 ls [])) → ∀ (v6_17 : Int32) (ls : Array Slot), lv_has ls 8 [(0, .ref (a 0)), (1, .int p1), (2, .int p2), (3, .int p3), (4, .int p4), (5, .int p5), (6, .int v6_17)] → mX7_isPiece_B17 k x S p1 p2 p3 p4 p5 v6_17 = some res → W p l e rmX7_isPiece s m ([.ref (a 0), .int p1, .int p2, .int p3, .int p4, .int p5] : List Value).toArray below meth c H locs 0 0 (MQ below (va_Qi (fun (r : Int32) (T : ST) => (r, T) = res) (PostW (wM a cI cZ) D cI cZ) (AC 31 a s.heap.size)) ([.ref (a 0), .int p1, .int p2, .int p3, .int p4, .int p5] : List Value).toArray s 0 0 (AC 31 a s.heap.size)) (F0 m 17 ls []) := by
      intro k x ih kxh v6_17 ls hl hm
      unfold mX7_isPiece_B17 at hm
      refine lv_iload hx hb dX7_isPiece_17 (lv_at hl 6 rfl) ?_
      refine lv_aload_n hx hb dX7_isPiece_19 rfl (lv_at hl 0 rfl) ?_
      refine gM_X7_kinds X hK hP iX7 (List.mem_of_getElem? (i := 1) rfl) dX7_isPiece_20 ?_
      refine lv_icmp_ge (tgt := 127) hx hb dX7_isPiece_23 (by decide) (fun hc => ?_) (fun hc => ?_)
      · replace hm := (if_pos hc).symm.trans hm
        exact kxh v6_17 ls (lv_sub hl [0, 1, 2, 3, 4, 5, 6] rfl) hm
      · replace hm := (if_neg hc).symm.trans hm
        refine lv_iconst (v := (0 : Int32)) hx hb dX7_isPiece_26 (by decide) ?_
        refine lv_istore (lv' := [(7, .int (0 : Int32)), (0, .ref (a 0)), (1, .int p1), (2, .int p2), (3, .int p3), (4, .int p4), (5, .int p5), (6, .int v6_17)]) hx hb dX7_isPiece_27 hl (by decide) rfl (fun ls hl => ?_)
        have kb29 : ∀ (k x : Int32 → Option (Int32 × ST)), (∀ (v7_29 : Int32) (ls : Array Slot), lv_has ls 8 [(0, .ref (a 0)), (1, .int p1), (2, .int p2), (3, .int p3), (4, .int p4), (5, .int p5), (6, .int v6_17), (7, .int v7_29)] → k v7_29 = some res → W p l e rmX7_isPiece s m ([.ref (a 0), .int p1, .int p2, .int p3, .int p4, .int p5] : List Value).toArray below meth c H locs 0 0 (MQ below (va_Qi (fun (r : Int32) (T : ST) => (r, T) = res) (PostW (wM a cI cZ) D cI cZ) (AC 31 a s.heap.size)) ([.ref (a 0), .int p1, .int p2, .int p3, .int p4, .int p5] : List Value).toArray s 0 0 (AC 31 a s.heap.size)) (F0 m 29 ls [])) → (∀ (v7_29 : Int32) (ls : Array Slot), lv_has ls 8 [(0, .ref (a 0)), (1, .int p1), (2, .int p2), (3, .int p3), (4, .int p4), (5, .int p5), (6, .int v6_17), (7, .int v7_29)] → x v7_29 = some res → W p l e rmX7_isPiece s m ([.ref (a 0), .int p1, .int p2, .int p3, .int p4, .int p5] : List Value).toArray below meth c H locs 0 0 (MQ below (va_Qi (fun (r : Int32) (T : ST) => (r, T) = res) (PostW (wM a cI cZ) D cI cZ) (AC 31 a s.heap.size)) ([.ref (a 0), .int p1, .int p2, .int p3, .int p4, .int p5] : List Value).toArray s 0 0 (AC 31 a s.heap.size)) (F0 m 121 ls [])) → ∀ (v7_29 : Int32) (ls : Array Slot), lv_has ls 8 [(0, .ref (a 0)), (1, .int p1), (2, .int p2), (3, .int p3), (4, .int p4), (5, .int p5), (6, .int v6_17), (7, .int v7_29)] → mX7_isPiece_B29 k x S p1 p2 p3 p4 p5 v6_17 v7_29 = some res → W p l e rmX7_isPiece s m ([.ref (a 0), .int p1, .int p2, .int p3, .int p4, .int p5] : List Value).toArray below meth c H locs 0 0 (MQ below (va_Qi (fun (r : Int32) (T : ST) => (r, T) = res) (PostW (wM a cI cZ) D cI cZ) (AC 31 a s.heap.size)) ([.ref (a 0), .int p1, .int p2, .int p3, .int p4, .int p5] : List Value).toArray s 0 0 (AC 31 a s.heap.size)) (F0 m 29 ls []) := by
          intro k x ih kxh v7_29 ls hl hm
          unfold mX7_isPiece_B29 at hm
          refine lv_iload hx hb dX7_isPiece_29 (lv_at hl 7 rfl) ?_
          refine lv_iconst (v := (2 : Int32)) hx hb dX7_isPiece_31 (by decide) ?_
          refine lv_icmp_ge (tgt := 121) hx hb dX7_isPiece_32 (by decide) (fun hc => ?_) (fun hc => ?_)
          · replace hm := (if_pos hc).symm.trans hm
            exact kxh v7_29 ls (lv_sub hl [0, 1, 2, 3, 4, 5, 6, 7] rfl) hm
          · replace hm := (if_neg hc).symm.trans hm
            refine lv_aload_n hx hb dX7_isPiece_35 rfl (lv_at hl 0 rfl) ?_
            refine gM_X7_kindValue X hK hP iX7 (List.mem_of_getElem? (i := 2) rfl) dX7_isPiece_36 ?_
            refine lv_iload hx hb dX7_isPiece_39 (lv_at hl 6 rfl) ?_
            obtain ⟨h1, hm⟩ := gd_ok hm
            refine rM_X7_kindValue X hK hP h1 dX7_isPiece_41 ?_
            refine lv_iload hx hb dX7_isPiece_42 (lv_at hl 5 rfl) ?_
            refine lv_icmp_ne (tgt := 115) hx hb dX7_isPiece_44 (by decide) (fun hc => ?_) (fun hc => ?_)
            · replace hm := (if_neg hc).symm.trans hm
              refine lv_iinc (v := (v7_29 + (1 : Int32))) (lv' := [(7, .int (v7_29 + (1 : Int32))), (0, .ref (a 0)), (1, .int p1), (2, .int p2), (3, .int p3), (4, .int p4), (5, .int p5), (6, .int v6_17)]) hx hb dX7_isPiece_115 hl (k := 7) rfl rfl (by decide) rfl (fun ls hl => ?_)
              refine lv_goto (tgt := 29) hx hb dX7_isPiece_118 (by decide) ?_
              exact ih (v7_29 + (1 : Int32)) ls (lv_sub hl [1, 2, 3, 4, 5, 6, 7, 0] rfl) hm
            · replace hm := (if_pos hc).symm.trans hm
              refine lv_aload_n hx hb dX7_isPiece_47 rfl (lv_at hl 0 rfl) ?_
              refine lv_iload hx hb dX7_isPiece_48 (lv_at hl 6 rfl) ?_
              refine lv_iload hx hb dX7_isPiece_50 (lv_at hl 7 rfl) ?_
              refine lv_iload_n hx hb dX7_isPiece_52 rfl (lv_at hl 3 rfl) ?_
              refine lv_iload hx hb dX7_isPiece_53 (lv_at hl 4 rfl) ?_
              obtain ⟨r2, hr2, hm⟩ := bd_ok hm
              refine callRV (rest := []) X hK hNW hml hP hl.1 (kX7_isLike l D a cI cZ S v6_17 v7_29 p3 p4 r2 hr2) (cwV 4 X.2.2.1 gX7_isPiece_X7_isLike rfl rfl rfl (by decide +kernel) ⟨Nat.le_of_ble_eq_true rfl, Nat.le_of_ble_eq_true rfl⟩) (vM_X7 hK hP) rfl rfl (Nat.le_of_ble_eq_true rfl) dX7_isPiece_55 ⟨Nat.zero_le _, Nat.zero_le _⟩ ?_
              refine lv_if_eq (tgt := 115) hx hb dX7_isPiece_58 (by decide) (fun hc => ?_) (fun hc => ?_)
              · replace hm := (if_pos hc).symm.trans hm
                refine lv_iinc (v := (v7_29 + (1 : Int32))) (lv' := [(7, .int (v7_29 + (1 : Int32))), (0, .ref (a 0)), (1, .int p1), (2, .int p2), (3, .int p3), (4, .int p4), (5, .int p5), (6, .int v6_17)]) hx hb dX7_isPiece_115 hl (k := 7) rfl rfl (by decide) rfl (fun ls hl => ?_)
                refine lv_goto (tgt := 29) hx hb dX7_isPiece_118 (by decide) ?_
                exact ih (v7_29 + (1 : Int32)) ls (lv_sub hl [1, 2, 3, 4, 5, 6, 7, 0] rfl) hm
              · replace hm := (if_neg hc).symm.trans hm
                refine lv_aload_n hx hb dX7_isPiece_61 rfl (lv_at hl 0 rfl) ?_
                refine gM_X7_pieceKind X hK hP iX7 (List.mem_of_getElem? (i := 3) rfl) dX7_isPiece_62 ?_
                refine lv_aload_n hx hb dX7_isPiece_65 rfl (lv_at hl 0 rfl) ?_
                refine gM_X7_pieceMany X hK hP iX7 (List.mem_of_getElem? (i := 4) rfl) dX7_isPiece_66 ?_
                refine lv_iload hx hb dX7_isPiece_69 (lv_at hl 6 rfl) ?_
                obtain ⟨h1, hm⟩ := gd_ok hm
                refine sM_X7_pieceKind X hK hA hP hS h1 dX7_isPiece_71 (fun H locs hP hS => ?_)
                refine lv_aload_n hx hb dX7_isPiece_72 rfl (lv_at hl 0 rfl) ?_
                refine gM_X7_pieceX X hK hP iX7 (List.mem_of_getElem? (i := 5) rfl) dX7_isPiece_73 ?_
                refine lv_aload_n hx hb dX7_isPiece_76 rfl (lv_at hl 0 rfl) ?_
                refine gM_X7_pieceMany X hK hP iX7 (List.mem_of_getElem? (i := 4) rfl) dX7_isPiece_77 ?_
                refine lv_iload_n hx hb dX7_isPiece_80 rfl (lv_at hl 1 rfl) ?_
                obtain ⟨h1, hm⟩ := gd_ok hm
                refine sM_X7_pieceX X hK hA hP hS h1 dX7_isPiece_81 (fun H locs hP hS => ?_)
                refine lv_aload_n hx hb dX7_isPiece_82 rfl (lv_at hl 0 rfl) ?_
                refine gM_X7_pieceY X hK hP iX7 (List.mem_of_getElem? (i := 6) rfl) dX7_isPiece_83 ?_
                refine lv_aload_n hx hb dX7_isPiece_86 rfl (lv_at hl 0 rfl) ?_
                refine gM_X7_pieceMany X hK hP iX7 (List.mem_of_getElem? (i := 4) rfl) dX7_isPiece_87 ?_
                refine lv_iload_n hx hb dX7_isPiece_90 rfl (lv_at hl 2 rfl) ?_
                obtain ⟨h1, hm⟩ := gd_ok hm
                refine sM_X7_pieceY X hK hA hP hS h1 dX7_isPiece_91 (fun H locs hP hS => ?_)
                refine lv_aload_n hx hb dX7_isPiece_92 rfl (lv_at hl 0 rfl) ?_
                refine gM_X7_pieceTurned X hK hP iX7 (List.mem_of_getElem? (i := 7) rfl) dX7_isPiece_93 ?_
                refine lv_aload_n hx hb dX7_isPiece_96 rfl (lv_at hl 0 rfl) ?_
                refine gM_X7_pieceMany X hK hP iX7 (List.mem_of_getElem? (i := 4) rfl) dX7_isPiece_97 ?_
                refine lv_iload hx hb dX7_isPiece_100 (lv_at hl 7 rfl) ?_
                obtain ⟨h1, hm⟩ := gd_ok hm
                refine sM_X7_pieceTurned X hK hA hP hS h1 dX7_isPiece_102 (fun H locs hP hS => ?_)
                refine lv_aload_n hx hb dX7_isPiece_103 rfl (lv_at hl 0 rfl) ?_
                refine lv_dup hx hb dX7_isPiece_104 rfl ?_
                refine gM_X7_pieceMany X hK hP iX7 (List.mem_of_getElem? (i := 4) rfl) dX7_isPiece_105 ?_
                refine lv_iconst (v := (1 : Int32)) hx hb dX7_isPiece_108 (by decide) ?_
                refine lv_iadd hx hb dX7_isPiece_109 ?_
                refine pM_X7_pieceMany X hK hA hP hS iX7 (List.mem_of_getElem? (i := 4) rfl) dX7_isPiece_110 (fun H locs hP hS => ?_)
                refine lv_iconst (v := (1 : Int32)) hx hb dX7_isPiece_113 (by decide) ?_
                exact endI X hK hr rfl hlocks hm hP hS dX7_isPiece_114
        have kx29 : ∀ (v7_29 : Int32) (ls : Array Slot), lv_has ls 8 [(0, .ref (a 0)), (1, .int p1), (2, .int p2), (3, .int p3), (4, .int p4), (5, .int p5), (6, .int v6_17), (7, .int v7_29)] → mX7_isPiece_X29 k x S p1 p2 p3 p4 p5 v6_17 v7_29 = some res → W p l e rmX7_isPiece s m ([.ref (a 0), .int p1, .int p2, .int p3, .int p4, .int p5] : List Value).toArray below meth c H locs 0 0 (MQ below (va_Qi (fun (r : Int32) (T : ST) => (r, T) = res) (PostW (wM a cI cZ) D cI cZ) (AC 31 a s.heap.size)) ([.ref (a 0), .int p1, .int p2, .int p3, .int p4, .int p5] : List Value).toArray s 0 0 (AC 31 a s.heap.size)) (F0 m 121 ls []) := by
          intro v7_29 ls hl hm
          unfold mX7_isPiece_X29 at hm
          refine lv_iinc (v := (v6_17 + (1 : Int32))) (lv' := [(6, .int (v6_17 + (1 : Int32))), (0, .ref (a 0)), (1, .int p1), (2, .int p2), (3, .int p3), (4, .int p4), (5, .int p5), (7, .int v7_29)]) hx hb dX7_isPiece_121 hl (k := 6) rfl rfl (by decide) rfl (fun ls hl => ?_)
          refine lv_goto (tgt := 17) hx hb dX7_isPiece_124 (by decide) ?_
          exact ih (v6_17 + (1 : Int32)) ls (lv_sub hl [1, 2, 3, 4, 5, 6, 0] rfl) hm
        have lp29 : ∀ (n : Nat) (v7_29 : Int32) (ls : Array Slot), lv_has ls 8 [(0, .ref (a 0)), (1, .int p1), (2, .int p2), (3, .int p3), (4, .int p4), (5, .int p5), (6, .int v6_17), (7, .int v7_29)] → LPf (κ := Int32 → Option (Int32 × ST)) (fun _ => none) (fun kk => mX7_isPiece_B29 kk (mX7_isPiece_X29 k x S p1 p2 p3 p4 p5 v6_17) S p1 p2 p3 p4 p5 v6_17) n v7_29 = some res → W p l e rmX7_isPiece s m ([.ref (a 0), .int p1, .int p2, .int p3, .int p4, .int p5] : List Value).toArray below meth c H locs 0 0 (MQ below (va_Qi (fun (r : Int32) (T : ST) => (r, T) = res) (PostW (wM a cI cZ) D cI cZ) (AC 31 a s.heap.size)) ([.ref (a 0), .int p1, .int p2, .int p3, .int p4, .int p5] : List Value).toArray s 0 0 (AC 31 a s.heap.size)) (F0 m 29 ls []) := by
          intro n
          induction n with
          | zero =>
            intro v7_29 ls hl hm
            exact (noS (show (none : Option (Int32 × ST)) = some res from hm)).elim
          | succ n ih =>
            intro v7_29 ls hl hm
            exact kb29 _ _ ih kx29 v7_29 ls hl hm
        exact lp29 FU (0 : Int32) ls (lv_sub hl [1, 2, 3, 4, 5, 6, 7, 0] rfl) hm
    have kx17 : ∀ (v6_17 : Int32) (ls : Array Slot), lv_has ls 8 [(0, .ref (a 0)), (1, .int p1), (2, .int p2), (3, .int p3), (4, .int p4), (5, .int p5), (6, .int v6_17)] → mX7_isPiece_X17  S p1 p2 p3 p4 p5 v6_17 = some res → W p l e rmX7_isPiece s m ([.ref (a 0), .int p1, .int p2, .int p3, .int p4, .int p5] : List Value).toArray below meth c H locs 0 0 (MQ below (va_Qi (fun (r : Int32) (T : ST) => (r, T) = res) (PostW (wM a cI cZ) D cI cZ) (AC 31 a s.heap.size)) ([.ref (a 0), .int p1, .int p2, .int p3, .int p4, .int p5] : List Value).toArray s 0 0 (AC 31 a s.heap.size)) (F0 m 127 ls []) := by
      intro v6_17 ls hl hm
      unfold mX7_isPiece_X17 at hm
      refine lv_iconst (v := (0 : Int32)) hx hb dX7_isPiece_127 (by decide) ?_
      exact endI X hK hr rfl hlocks hm hP hS dX7_isPiece_128
    have lp17 : ∀ (n : Nat) (v6_17 : Int32) (ls : Array Slot), lv_has ls 8 [(0, .ref (a 0)), (1, .int p1), (2, .int p2), (3, .int p3), (4, .int p4), (5, .int p5), (6, .int v6_17)] → LPf (κ := Int32 → Option (Int32 × ST)) (fun _ => none) (fun kk => mX7_isPiece_B17 kk (mX7_isPiece_X17  S p1 p2 p3 p4 p5) S p1 p2 p3 p4 p5) n v6_17 = some res → W p l e rmX7_isPiece s m ([.ref (a 0), .int p1, .int p2, .int p3, .int p4, .int p5] : List Value).toArray below meth c H locs 0 0 (MQ below (va_Qi (fun (r : Int32) (T : ST) => (r, T) = res) (PostW (wM a cI cZ) D cI cZ) (AC 31 a s.heap.size)) ([.ref (a 0), .int p1, .int p2, .int p3, .int p4, .int p5] : List Value).toArray s 0 0 (AC 31 a s.heap.size)) (F0 m 17 ls []) := by
      intro n
      induction n with
      | zero =>
        intro v6_17 ls hl hm
        exact (noS (show (none : Option (Int32 × ST)) = some res from hm)).elim
      | succ n ih =>
        intro v6_17 ls hl hm
        exact kb17 _ _ ih kx17 v6_17 ls hl hm
    exact lp17 FU (0 : Int32) ls (lv_sub hl [1, 2, 3, 4, 5, 6, 0] rfl) hm
  · replace hm := (if_neg hc).symm.trans hm
    refine lv_iconst (v := (0 : Int32)) hx hb dX7_isPiece_12 (by decide) ?_
    exact endI X hK hr rfl hlocks hm hP hS dX7_isPiece_13

def rmX7_layPart : Room := { frames := 2, cells := 0, slots := 0, locals := 54 }
set_option maxHeartbeats 4000000 in
set_option maxRecDepth 100000 in
theorem kX7_layPart (l : Launch) (D : va_G) (a : Nat → Nat) (cI cZ : ClassId) (hA : AP 31 a) (S : ST) (sz : Nat) (p1 : Int32) (p2 : Int32) (p3 : Int32) (p4 : Int32) (p5 : Int32) (res : ST) (hm : mX7_layPart S p1 p2 p3 p4 p5 = some res) : Met l yX7_layPart wsX7_layPart rmX7_layPart (va_Pc [.ref (a 0), .int p1, .int p2, .int p3, .int p4, .int p5] (PreW (wM a cI cZ S) D cI cZ sz)) (va_Qv (fun T : ST => T = res) (PostW (wM a cI cZ) D cI cZ) (AC 31 a sz)) 0 0 (AC 31 a sz) := by
  refine metB (cc := cX7_layPart) (maxL := 10) (ret := none) (by decide) rfl (Nat.le_of_ble_eq_true rfl) ?_
  intro p e s m below meth c ls X hml hr hlocks hin hv hl
  replace X : CX p m c cX7_layPart s ([.ref (a 0), .int p1, .int p2, .int p3, .int p4, .int p5] : List Value).toArray wsX7_layPart RX7 := X
  obtain ⟨hsz, hP, hK, hNW⟩ := hv
  subst hsz
  have hS : va_S (AC 31 a s.heap.size) s.heap s.heap [] := va_S.rf
  have hx := X.1
  have hb := X.2.1
  replace hl : lv_has ls 10 [(0, .ref (a 0)), (1, .int p1), (2, .int p2), (3, .int p3), (4, .int p4), (5, .int p5)] := hl
  have iX7 : ∀ w ∈ wsX70, w ∈ wsX7_layPart := fun w h => List.mem_cons_of_mem _ (List.mem_append_right _ h)
  suffices kS : ∀ (H : Heap) (locs : List Loc), va_P D vwCl (wM a cI cZ S) H → va_S (AC 31 a s.heap.size) s.heap H locs → W p l e rmX7_layPart s m ([.ref (a 0), .int p1, .int p2, .int p3, .int p4, .int p5] : List Value).toArray below meth c H locs 0 0 (MQ below (va_Qv (fun T : ST => T = res) (PostW (wM a cI cZ) D cI cZ) (AC 31 a s.heap.size)) ([.ref (a 0), .int p1, .int p2, .int p3, .int p4, .int p5] : List Value).toArray s 0 0 (AC 31 a s.heap.size)) (F0 m 0 ls []) by exact kS s.heap [] hP hS
  intro H locs hP hS
  unfold mX7_layPart at hm
  refine lv_aload_n hx hb dX7_layPart_0 rfl (lv_at hl 0 rfl) ?_
  refine gM_X7_worths X hK hP iX7 (List.mem_of_getElem? (i := 1) rfl) dX7_layPart_1 ?_
  refine lv_aload_n hx hb dX7_layPart_4 rfl (lv_at hl 0 rfl) ?_
  refine lv_iload_n hx hb dX7_layPart_5 rfl (lv_at hl 1 rfl) ?_
  refine lv_iload_n hx hb dX7_layPart_6 rfl (lv_at hl 2 rfl) ?_
  refine lv_iload_n hx hb dX7_layPart_7 rfl (lv_at hl 3 rfl) ?_
  refine lv_iload hx hb dX7_layPart_8 (lv_at hl 4 rfl) ?_
  refine lv_iload hx hb dX7_layPart_10 (lv_at hl 5 rfl) ?_
  obtain ⟨r1, hr1, hm⟩ := bd_ok hm
  refine callRV (rest := [.ref (a 10)]) X hK hNW hml hP hl.1 (kX7_at l D a cI cZ S p1 p2 p3 p4 p5 r1 hr1) (cwV 5 X.2.2.1 gX7_layPart_X7_at rfl rfl rfl (by decide +kernel) ⟨Nat.le_of_ble_eq_true rfl, Nat.le_of_ble_eq_true rfl⟩) (vM_X7 hK hP) rfl rfl (Nat.le_of_ble_eq_true rfl) dX7_layPart_12 ⟨Nat.zero_le _, Nat.zero_le _⟩ ?_
  obtain ⟨h1, hm⟩ := gd_ok hm
  refine rM_X7_worths X hK hP h1 dX7_layPart_15 ?_
  refine lv_istore (lv' := [(6, .int (S.2 9 r1.toNatClampNeg)), (0, .ref (a 0)), (1, .int p1), (2, .int p2), (3, .int p3), (4, .int p4), (5, .int p5)]) hx hb dX7_layPart_16 hl (by decide) rfl (fun ls hl => ?_)
  refine lv_iload hx hb dX7_layPart_18 (lv_at hl 0 rfl) ?_
  refine lv_if_eq (tgt := 38) hx hb dX7_layPart_20 (by decide) (fun hc => ?_) (fun hc => ?_)
  · replace hm := (if_pos hc).symm.trans hm
    exact endV X hK hr hlocks hm hP hS dX7_layPart_38
  · replace hm := (if_neg hc).symm.trans hm
    refine lv_aload_n hx hb dX7_layPart_23 rfl (lv_at hl 1 rfl) ?_
    refine lv_iload_n hx hb dX7_layPart_24 rfl (lv_at hl 3 rfl) ?_
    refine lv_iload_n hx hb dX7_layPart_25 rfl (lv_at hl 4 rfl) ?_
    refine lv_iload hx hb dX7_layPart_26 (lv_at hl 5 rfl) ?_
    refine lv_iload hx hb dX7_layPart_28 (lv_at hl 6 rfl) ?_
    refine lv_iload hx hb dX7_layPart_30 (lv_at hl 0 rfl) ?_
    obtain ⟨r2, hr2, hm⟩ := bd_ok hm
    refine callWI (wf := wM a cI cZ) (rest := []) X hK hNW hml hP hS hl.1 (kX7_isPiece l D a cI cZ hA S H.size p2 p3 p4 p5 (S.2 9 r1.toNatClampNeg) r2 hr2) (cwV 5 X.2.2.1 gX7_layPart_X7_isPiece rfl rfl rfl (by decide +kernel) ⟨Nat.le_of_ble_eq_true rfl, Nat.le_of_ble_eq_true rfl⟩) (vM_X7 hK hP) rfl rfl (Nat.le_of_ble_eq_true rfl) dX7_layPart_32 ⟨Nat.zero_le _, Nat.zero_le _⟩ (fun H locs hP hS => ?_)
    refine lv_if_eq (tgt := 39) hx hb dX7_layPart_35 (by decide) (fun hc => ?_) (fun hc => ?_)
    · replace hm := (if_pos hc).symm.trans hm
      refine lv_aload_n hx hb dX7_layPart_39 rfl (lv_at hl 1 rfl) ?_
      refine lv_iload_n hx hb dX7_layPart_40 rfl (lv_at hl 2 rfl) ?_
      obtain ⟨r3, hr3, hm⟩ := bd_ok hm
      refine callRV (rest := []) X hK hNW hml hP hl.1 (kX7_wayOf l D a cI cZ r2.2 p1 r3 hr3) (cwV 1 X.2.2.1 gX7_layPart_X7_wayOf rfl rfl rfl (by decide +kernel) ⟨Nat.le_of_ble_eq_true rfl, Nat.le_of_ble_eq_true rfl⟩) (vM_X7 hK hP) rfl rfl (Nat.le_of_ble_eq_true rfl) dX7_layPart_41 ⟨Nat.zero_le _, Nat.zero_le _⟩ ?_
      refine lv_istore (lv' := [(7, .int r3), (6, .int (S.2 9 r1.toNatClampNeg)), (0, .ref (a 0)), (1, .int p1), (2, .int p2), (3, .int p3), (4, .int p4), (5, .int p5)]) hx hb dX7_layPart_44 hl (by decide) rfl (fun ls hl => ?_)
      refine lv_iload hx hb dX7_layPart_46 (lv_at hl 0 rfl) ?_
      have kJ58 : ∀ (S_58 : ST) (H : Heap) (locs : List Loc) (v6_58 : Int32) (t0_58 : Int32) (ls : Array Slot), va_P D vwCl (wM a cI cZ S_58) H → va_S (AC 31 a s.heap.size) s.heap H locs → lv_has ls 10 [(0, .ref (a 0)), (1, .int p1), (2, .int p2), (3, .int p3), (4, .int p4), (5, .int p5), (6, .int v6_58), (7, .int r3)] → mX7_layPart_J58  S_58 p1 p2 p3 p4 p5 v6_58 r3 t0_58 = some res → W p l e rmX7_layPart s m ([.ref (a 0), .int p1, .int p2, .int p3, .int p4, .int p5] : List Value).toArray below meth c H locs 0 0 (MQ below (va_Qv (fun T : ST => T = res) (PostW (wM a cI cZ) D cI cZ) (AC 31 a s.heap.size)) ([.ref (a 0), .int p1, .int p2, .int p3, .int p4, .int p5] : List Value).toArray s 0 0 (AC 31 a s.heap.size)) (F0 m 58 ls [.int t0_58]) := by
        intro S_58 H locs v6_58 t0_58 ls hP hS hl hm
        unfold mX7_layPart_J58 at hm
        refine lv_istore (lv' := [(8, .int t0_58), (0, .ref (a 0)), (1, .int p1), (2, .int p2), (3, .int p3), (4, .int p4), (5, .int p5), (6, .int v6_58), (7, .int r3)]) hx hb dX7_layPart_58 hl (by decide) rfl (fun ls hl => ?_)
        refine lv_iconst (v := (1 : Int32)) hx hb dX7_layPart_60 (by decide) ?_
        refine lv_istore (lv' := [(9, .int (1 : Int32)), (8, .int t0_58), (0, .ref (a 0)), (1, .int p1), (2, .int p2), (3, .int p3), (4, .int p4), (5, .int p5), (6, .int v6_58), (7, .int r3)]) hx hb dX7_layPart_61 hl (by decide) rfl (fun ls hl => ?_)
        have kb63 : ∀ (k x : Int32 → Option (ST)), (∀ (v9_63 : Int32) (ls : Array Slot), lv_has ls 10 [(0, .ref (a 0)), (1, .int p1), (2, .int p2), (3, .int p3), (4, .int p4), (5, .int p5), (6, .int v6_58), (7, .int r3), (8, .int t0_58), (9, .int v9_63)] → k v9_63 = some res → W p l e rmX7_layPart s m ([.ref (a 0), .int p1, .int p2, .int p3, .int p4, .int p5] : List Value).toArray below meth c H locs 0 0 (MQ below (va_Qv (fun T : ST => T = res) (PostW (wM a cI cZ) D cI cZ) (AC 31 a s.heap.size)) ([.ref (a 0), .int p1, .int p2, .int p3, .int p4, .int p5] : List Value).toArray s 0 0 (AC 31 a s.heap.size)) (F0 m 63 ls [])) → (∀ (v9_63 : Int32) (ls : Array Slot), lv_has ls 10 [(0, .ref (a 0)), (1, .int p1), (2, .int p2), (3, .int p3), (4, .int p4), (5, .int p5), (6, .int v6_58), (7, .int r3), (8, .int t0_58), (9, .int v9_63)] → x v9_63 = some res → W p l e rmX7_layPart s m ([.ref (a 0), .int p1, .int p2, .int p3, .int p4, .int p5] : List Value).toArray below meth c H locs 0 0 (MQ below (va_Qv (fun T : ST => T = res) (PostW (wM a cI cZ) D cI cZ) (AC 31 a s.heap.size)) ([.ref (a 0), .int p1, .int p2, .int p3, .int p4, .int p5] : List Value).toArray s 0 0 (AC 31 a s.heap.size)) (F0 m 271 ls [])) → ∀ (v9_63 : Int32) (ls : Array Slot), lv_has ls 10 [(0, .ref (a 0)), (1, .int p1), (2, .int p2), (3, .int p3), (4, .int p4), (5, .int p5), (6, .int v6_58), (7, .int r3), (8, .int t0_58), (9, .int v9_63)] → mX7_layPart_B63 k x S_58 p1 p2 p3 p4 p5 v6_58 r3 t0_58 v9_63 = some res → W p l e rmX7_layPart s m ([.ref (a 0), .int p1, .int p2, .int p3, .int p4, .int p5] : List Value).toArray below meth c H locs 0 0 (MQ below (va_Qv (fun T : ST => T = res) (PostW (wM a cI cZ) D cI cZ) (AC 31 a s.heap.size)) ([.ref (a 0), .int p1, .int p2, .int p3, .int p4, .int p5] : List Value).toArray s 0 0 (AC 31 a s.heap.size)) (F0 m 63 ls []) := by
          intro k x ih kxh v9_63 ls hl hm
          unfold mX7_layPart_B63 at hm
          refine lv_iload hx hb dX7_layPart_63 (lv_at hl 9 rfl) ?_
          refine lv_aload_n hx hb dX7_layPart_65 rfl (lv_at hl 0 rfl) ?_
          refine gM_X7_kerf X hK hP iX7 (List.mem_of_getElem? (i := 2) rfl) dX7_layPart_66 ?_
          refine lv_iadd hx hb dX7_layPart_69 ?_
          refine lv_iload hx hb dX7_layPart_70 (lv_at hl 8 rfl) ?_
          refine lv_icmp_ge (tgt := 271) hx hb dX7_layPart_72 (by decide) (fun hc => ?_) (fun hc => ?_)
          · replace hm := (if_pos hc).symm.trans hm
            exact kxh v9_63 ls (lv_sub hl [0, 1, 2, 3, 4, 5, 6, 7, 8, 9] rfl) hm
          · replace hm := (if_neg hc).symm.trans hm
            refine lv_aload_n hx hb dX7_layPart_75 rfl (lv_at hl 0 rfl) ?_
            refine lv_iload_n hx hb dX7_layPart_76 rfl (lv_at hl 1 rfl) ?_
            refine lv_iload_n hx hb dX7_layPart_77 rfl (lv_at hl 2 rfl) ?_
            refine lv_iload_n hx hb dX7_layPart_78 rfl (lv_at hl 3 rfl) ?_
            refine lv_iload hx hb dX7_layPart_79 (lv_at hl 4 rfl) ?_
            refine lv_iload hx hb dX7_layPart_81 (lv_at hl 5 rfl) ?_
            refine lv_iload hx hb dX7_layPart_83 (lv_at hl 9 rfl) ?_
            obtain ⟨r5, hr5, hm⟩ := bd_ok hm
            refine callRV (rest := []) X hK hNW hml hP hl.1 (kX7_both l D a cI cZ S_58 p1 p2 p3 p4 p5 v9_63 r5 hr5) (cwV 6 X.2.2.1 gX7_layPart_X7_both rfl rfl rfl (by decide +kernel) ⟨Nat.le_of_ble_eq_true rfl, Nat.le_of_ble_eq_true rfl⟩) (vM_X7 hK hP) rfl rfl (Nat.le_of_ble_eq_true rfl) dX7_layPart_85 ⟨Nat.zero_le _, Nat.zero_le _⟩ ?_
            refine lv_iload hx hb dX7_layPart_88 (lv_at hl 6 rfl) ?_
            refine lv_icmp_ne (tgt := 265) hx hb dX7_layPart_90 (by decide) (fun hc => ?_) (fun hc => ?_)
            · replace hm := (if_neg hc).symm.trans hm
              refine lv_iinc (v := (v9_63 + (1 : Int32))) (lv' := [(9, .int (v9_63 + (1 : Int32))), (0, .ref (a 0)), (1, .int p1), (2, .int p2), (3, .int p3), (4, .int p4), (5, .int p5), (6, .int v6_58), (7, .int r3), (8, .int t0_58)]) hx hb dX7_layPart_265 hl (k := 9) rfl rfl (by decide) rfl (fun ls hl => ?_)
              refine lv_goto (tgt := 63) hx hb dX7_layPart_268 (by decide) ?_
              exact ih (v9_63 + (1 : Int32)) ls (lv_sub hl [1, 2, 3, 4, 5, 6, 7, 8, 9, 0] rfl) hm
            · replace hm := (if_pos hc).symm.trans hm
              refine lv_aload_n hx hb dX7_layPart_93 rfl (lv_at hl 0 rfl) ?_
              refine gM_X7_cutStage X hK hP iX7 (List.mem_of_getElem? (i := 3) rfl) dX7_layPart_94 ?_
              refine lv_aload_n hx hb dX7_layPart_97 rfl (lv_at hl 0 rfl) ?_
              refine gM_X7_cutMany X hK hP iX7 (List.mem_of_getElem? (i := 4) rfl) dX7_layPart_98 ?_
              refine lv_iload_n hx hb dX7_layPart_101 rfl (lv_at hl 1 rfl) ?_
              obtain ⟨h1, hm⟩ := gd_ok hm
              refine sM_X7_cutStage X hK hA hP hS h1 dX7_layPart_102 (fun H locs hP hS => ?_)
              refine lv_aload_n hx hb dX7_layPart_103 rfl (lv_at hl 0 rfl) ?_
              refine gM_X7_cutAt X hK hP iX7 (List.mem_of_getElem? (i := 5) rfl) dX7_layPart_104 ?_
              refine lv_aload_n hx hb dX7_layPart_107 rfl (lv_at hl 0 rfl) ?_
              refine gM_X7_cutMany X hK hP iX7 (List.mem_of_getElem? (i := 4) rfl) dX7_layPart_108 ?_
              refine lv_iload hx hb dX7_layPart_111 (lv_at hl 7 rfl) ?_
              have kJ127 : ∀ (S_127 : ST) (H : Heap) (locs : List Loc) (t0_127 : Int32) (t1_127 : Int32) (ls : Array Slot), va_P D vwCl (wM a cI cZ S_127) H → va_S (AC 31 a s.heap.size) s.heap H locs → lv_has ls 10 [(0, .ref (a 0)), (1, .int p1), (2, .int p2), (3, .int p3), (4, .int p4), (5, .int p5), (6, .int v6_58), (7, .int r3), (8, .int t0_58), (9, .int v9_63)] → mX7_layPart_J127 k x S_127 p1 p2 p3 p4 p5 v6_58 r3 t0_58 v9_63 t0_127 t1_127 = some res → W p l e rmX7_layPart s m ([.ref (a 0), .int p1, .int p2, .int p3, .int p4, .int p5] : List Value).toArray below meth c H locs 0 0 (MQ below (va_Qv (fun T : ST => T = res) (PostW (wM a cI cZ) D cI cZ) (AC 31 a s.heap.size)) ([.ref (a 0), .int p1, .int p2, .int p3, .int p4, .int p5] : List Value).toArray s 0 0 (AC 31 a s.heap.size)) (F0 m 127 ls [.int t0_127, .int t1_127, .ref (a 16)]) := by
                intro S_127 H locs t0_127 t1_127 ls hP hS hl hm
                unfold mX7_layPart_J127 at hm
                obtain ⟨h1, hm⟩ := gd_ok hm
                refine sM_X7_cutAt X hK hA hP hS h1 dX7_layPart_127 (fun H locs hP hS => ?_)
                refine lv_aload_n hx hb dX7_layPart_128 rfl (lv_at hl 0 rfl) ?_
                refine gM_X7_cutX X hK hP iX7 (List.mem_of_getElem? (i := 6) rfl) dX7_layPart_129 ?_
                refine lv_aload_n hx hb dX7_layPart_132 rfl (lv_at hl 0 rfl) ?_
                refine gM_X7_cutMany X hK hP iX7 (List.mem_of_getElem? (i := 4) rfl) dX7_layPart_133 ?_
                refine lv_iload_n hx hb dX7_layPart_136 rfl (lv_at hl 2 rfl) ?_
                obtain ⟨h1, hm⟩ := gd_ok hm
                refine sM_X7_cutX X hK hA hP hS h1 dX7_layPart_137 (fun H locs hP hS => ?_)
                refine lv_aload_n hx hb dX7_layPart_138 rfl (lv_at hl 0 rfl) ?_
                refine gM_X7_cutY X hK hP iX7 (List.mem_of_getElem? (i := 7) rfl) dX7_layPart_139 ?_
                refine lv_aload_n hx hb dX7_layPart_142 rfl (lv_at hl 0 rfl) ?_
                refine gM_X7_cutMany X hK hP iX7 (List.mem_of_getElem? (i := 4) rfl) dX7_layPart_143 ?_
                refine lv_iload_n hx hb dX7_layPart_146 rfl (lv_at hl 3 rfl) ?_
                obtain ⟨h1, hm⟩ := gd_ok hm
                refine sM_X7_cutY X hK hA hP hS h1 dX7_layPart_147 (fun H locs hP hS => ?_)
                refine lv_aload_n hx hb dX7_layPart_148 rfl (lv_at hl 0 rfl) ?_
                refine gM_X7_cutW X hK hP iX7 (List.mem_of_getElem? (i := 8) rfl) dX7_layPart_149 ?_
                refine lv_aload_n hx hb dX7_layPart_152 rfl (lv_at hl 0 rfl) ?_
                refine gM_X7_cutMany X hK hP iX7 (List.mem_of_getElem? (i := 4) rfl) dX7_layPart_153 ?_
                refine lv_iload hx hb dX7_layPart_156 (lv_at hl 4 rfl) ?_
                obtain ⟨h1, hm⟩ := gd_ok hm
                refine sM_X7_cutW X hK hA hP hS h1 dX7_layPart_158 (fun H locs hP hS => ?_)
                refine lv_aload_n hx hb dX7_layPart_159 rfl (lv_at hl 0 rfl) ?_
                refine gM_X7_cutH X hK hP iX7 (List.mem_of_getElem? (i := 9) rfl) dX7_layPart_160 ?_
                refine lv_aload_n hx hb dX7_layPart_163 rfl (lv_at hl 0 rfl) ?_
                refine gM_X7_cutMany X hK hP iX7 (List.mem_of_getElem? (i := 4) rfl) dX7_layPart_164 ?_
                refine lv_iload hx hb dX7_layPart_167 (lv_at hl 5 rfl) ?_
                obtain ⟨h1, hm⟩ := gd_ok hm
                refine sM_X7_cutH X hK hA hP hS h1 dX7_layPart_169 (fun H locs hP hS => ?_)
                refine lv_aload_n hx hb dX7_layPart_170 rfl (lv_at hl 0 rfl) ?_
                refine lv_dup hx hb dX7_layPart_171 rfl ?_
                refine gM_X7_cutMany X hK hP iX7 (List.mem_of_getElem? (i := 4) rfl) dX7_layPart_172 ?_
                refine lv_iconst (v := (1 : Int32)) hx hb dX7_layPart_175 (by decide) ?_
                refine lv_iadd hx hb dX7_layPart_176 ?_
                refine pM_X7_cutMany X hK hA hP hS iX7 (List.mem_of_getElem? (i := 4) rfl) dX7_layPart_177 (fun H locs hP hS => ?_)
                refine lv_iload hx hb dX7_layPart_180 (lv_at hl 7 rfl) ?_
                refine lv_if_ne (tgt := 226) hx hb dX7_layPart_182 (by decide) (fun hc => ?_) (fun hc => ?_)
                · replace hm := (if_neg hc).symm.trans hm
                  refine lv_aload_n hx hb dX7_layPart_226 rfl (lv_at hl 0 rfl) ?_
                  refine lv_iload_n hx hb dX7_layPart_227 rfl (lv_at hl 1 rfl) ?_
                  refine lv_iload_n hx hb dX7_layPart_228 rfl (lv_at hl 2 rfl) ?_
                  refine lv_iload_n hx hb dX7_layPart_229 rfl (lv_at hl 3 rfl) ?_
                  refine lv_iload hx hb dX7_layPart_230 (lv_at hl 9 rfl) ?_
                  refine lv_iadd hx hb dX7_layPart_232 ?_
                  refine lv_aload_n hx hb dX7_layPart_233 rfl (lv_at hl 0 rfl) ?_
                  refine gM_X7_kerf X hK hP iX7 (List.mem_of_getElem? (i := 2) rfl) dX7_layPart_234 ?_
                  refine lv_iadd hx hb dX7_layPart_237 ?_
                  refine lv_iload hx hb dX7_layPart_238 (lv_at hl 4 rfl) ?_
                  refine lv_iload hx hb dX7_layPart_240 (lv_at hl 5 rfl) ?_
                  refine lv_iload hx hb dX7_layPart_242 (lv_at hl 9 rfl) ?_
                  refine lv_isub hx hb dX7_layPart_244 ?_
                  refine lv_aload_n hx hb dX7_layPart_245 rfl (lv_at hl 0 rfl) ?_
                  refine gM_X7_kerf X hK hP iX7 (List.mem_of_getElem? (i := 2) rfl) dX7_layPart_246 ?_
                  refine lv_isub hx hb dX7_layPart_249 ?_
                  obtain ⟨r6, hr6, hm⟩ := bd_ok hm
                  refine callWV (wf := wM a cI cZ) (rest := []) X hK hNW hml hP hS hl.1 (kX7_lay l D a cI cZ hA (sI (sG (sG (sG (sG (sG S_127 15 t1_127 t0_127) 16 (S_127.1 9) p2) 17 (S_127.1 9) p3) 18 (S_127.1 9) p4) 19 (S_127.1 9) p5) 9 ((S_127.1 9) + (1 : Int32))) H.size p1 p2 ((p3 + v9_63) + (S_127.1 2)) p4 ((p5 - v9_63) - (S_127.1 2)) r6 hr6) (cwV 5 X.2.2.1 gX7_layPart_X7_lay rfl rfl rfl (by decide +kernel) ⟨Nat.le_of_ble_eq_true rfl, Nat.le_of_ble_eq_true rfl⟩) (vM_X7 hK hP) rfl rfl (Nat.le_of_ble_eq_true rfl) dX7_layPart_250 ⟨Nat.zero_le _, Nat.zero_le _⟩ (fun H locs hP hS => ?_)
                  refine lv_aload_n hx hb dX7_layPart_253 rfl (lv_at hl 0 rfl) ?_
                  refine lv_iload_n hx hb dX7_layPart_254 rfl (lv_at hl 1 rfl) ?_
                  refine lv_iload_n hx hb dX7_layPart_255 rfl (lv_at hl 2 rfl) ?_
                  refine lv_iload_n hx hb dX7_layPart_256 rfl (lv_at hl 3 rfl) ?_
                  refine lv_iload hx hb dX7_layPart_257 (lv_at hl 4 rfl) ?_
                  refine lv_iload hx hb dX7_layPart_259 (lv_at hl 9 rfl) ?_
                  obtain ⟨r7, hr7, hm⟩ := bd_ok hm
                  refine callWV (wf := wM a cI cZ) (rest := []) X hK hNW hml hP hS hl.1 (kX7_lay l D a cI cZ hA r6 H.size p1 p2 p3 p4 v9_63 r7 hr7) (cwV 5 X.2.2.1 gX7_layPart_X7_lay rfl rfl rfl (by decide +kernel) ⟨Nat.le_of_ble_eq_true rfl, Nat.le_of_ble_eq_true rfl⟩) (vM_X7 hK hP) rfl rfl (Nat.le_of_ble_eq_true rfl) dX7_layPart_261 ⟨Nat.zero_le _, Nat.zero_le _⟩ (fun H locs hP hS => ?_)
                  exact endV X hK hr hlocks hm hP hS dX7_layPart_264
                · replace hm := (if_pos hc).symm.trans hm
                  refine lv_aload_n hx hb dX7_layPart_185 rfl (lv_at hl 0 rfl) ?_
                  refine lv_iload_n hx hb dX7_layPart_186 rfl (lv_at hl 1 rfl) ?_
                  refine lv_iload_n hx hb dX7_layPart_187 rfl (lv_at hl 2 rfl) ?_
                  refine lv_iload hx hb dX7_layPart_188 (lv_at hl 9 rfl) ?_
                  refine lv_iadd hx hb dX7_layPart_190 ?_
                  refine lv_aload_n hx hb dX7_layPart_191 rfl (lv_at hl 0 rfl) ?_
                  refine gM_X7_kerf X hK hP iX7 (List.mem_of_getElem? (i := 2) rfl) dX7_layPart_192 ?_
                  refine lv_iadd hx hb dX7_layPart_195 ?_
                  refine lv_iload_n hx hb dX7_layPart_196 rfl (lv_at hl 3 rfl) ?_
                  refine lv_iload hx hb dX7_layPart_197 (lv_at hl 4 rfl) ?_
                  refine lv_iload hx hb dX7_layPart_199 (lv_at hl 9 rfl) ?_
                  refine lv_isub hx hb dX7_layPart_201 ?_
                  refine lv_aload_n hx hb dX7_layPart_202 rfl (lv_at hl 0 rfl) ?_
                  refine gM_X7_kerf X hK hP iX7 (List.mem_of_getElem? (i := 2) rfl) dX7_layPart_203 ?_
                  refine lv_isub hx hb dX7_layPart_206 ?_
                  refine lv_iload hx hb dX7_layPart_207 (lv_at hl 5 rfl) ?_
                  obtain ⟨r8, hr8, hm⟩ := bd_ok hm
                  refine callWV (wf := wM a cI cZ) (rest := []) X hK hNW hml hP hS hl.1 (kX7_lay l D a cI cZ hA (sI (sG (sG (sG (sG (sG S_127 15 t1_127 t0_127) 16 (S_127.1 9) p2) 17 (S_127.1 9) p3) 18 (S_127.1 9) p4) 19 (S_127.1 9) p5) 9 ((S_127.1 9) + (1 : Int32))) H.size p1 ((p2 + v9_63) + (S_127.1 2)) p3 ((p4 - v9_63) - (S_127.1 2)) p5 r8 hr8) (cwV 5 X.2.2.1 gX7_layPart_X7_lay rfl rfl rfl (by decide +kernel) ⟨Nat.le_of_ble_eq_true rfl, Nat.le_of_ble_eq_true rfl⟩) (vM_X7 hK hP) rfl rfl (Nat.le_of_ble_eq_true rfl) dX7_layPart_209 ⟨Nat.zero_le _, Nat.zero_le _⟩ (fun H locs hP hS => ?_)
                  refine lv_aload_n hx hb dX7_layPart_212 rfl (lv_at hl 0 rfl) ?_
                  refine lv_iload_n hx hb dX7_layPart_213 rfl (lv_at hl 1 rfl) ?_
                  refine lv_iload_n hx hb dX7_layPart_214 rfl (lv_at hl 2 rfl) ?_
                  refine lv_iload_n hx hb dX7_layPart_215 rfl (lv_at hl 3 rfl) ?_
                  refine lv_iload hx hb dX7_layPart_216 (lv_at hl 9 rfl) ?_
                  refine lv_iload hx hb dX7_layPart_218 (lv_at hl 5 rfl) ?_
                  obtain ⟨r9, hr9, hm⟩ := bd_ok hm
                  refine callWV (wf := wM a cI cZ) (rest := []) X hK hNW hml hP hS hl.1 (kX7_lay l D a cI cZ hA r8 H.size p1 p2 p3 v9_63 p5 r9 hr9) (cwV 5 X.2.2.1 gX7_layPart_X7_lay rfl rfl rfl (by decide +kernel) ⟨Nat.le_of_ble_eq_true rfl, Nat.le_of_ble_eq_true rfl⟩) (vM_X7 hK hP) rfl rfl (Nat.le_of_ble_eq_true rfl) dX7_layPart_220 ⟨Nat.zero_le _, Nat.zero_le _⟩ (fun H locs hP hS => ?_)
                  refine lv_goto (tgt := 264) hx hb dX7_layPart_223 (by decide) ?_
                  exact endV X hK hr hlocks hm hP hS dX7_layPart_264
              refine lv_if_ne (tgt := 123) hx hb dX7_layPart_113 (by decide) (fun hc => ?_) (fun hc => ?_)
              · replace hm := (if_neg hc).symm.trans hm
                refine lv_iload_n hx hb dX7_layPart_123 rfl (lv_at hl 3 rfl) ?_
                refine lv_iload hx hb dX7_layPart_124 (lv_at hl 9 rfl) ?_
                refine lv_iadd hx hb dX7_layPart_126 ?_
                exact kJ127 (sG S_58 14 (S_58.1 9) p1) H locs (p3 + v9_63) (S_58.1 9) ls hP hS (lv_sub hl [0, 1, 2, 3, 4, 5, 6, 7, 8, 9] rfl) hm
              · replace hm := (if_pos hc).symm.trans hm
                refine lv_iload_n hx hb dX7_layPart_116 rfl (lv_at hl 2 rfl) ?_
                refine lv_iload hx hb dX7_layPart_117 (lv_at hl 9 rfl) ?_
                refine lv_iadd hx hb dX7_layPart_119 ?_
                refine lv_goto (tgt := 127) hx hb dX7_layPart_120 (by decide) ?_
                exact kJ127 (sG S_58 14 (S_58.1 9) p1) H locs (p2 + v9_63) (S_58.1 9) ls hP hS (lv_sub hl [0, 1, 2, 3, 4, 5, 6, 7, 8, 9] rfl) hm
        have kx63 : ∀ (v9_63 : Int32) (ls : Array Slot), lv_has ls 10 [(0, .ref (a 0)), (1, .int p1), (2, .int p2), (3, .int p3), (4, .int p4), (5, .int p5), (6, .int v6_58), (7, .int r3), (8, .int t0_58), (9, .int v9_63)] → mX7_layPart_X63  S_58 p1 p2 p3 p4 p5 v6_58 r3 t0_58 v9_63 = some res → W p l e rmX7_layPart s m ([.ref (a 0), .int p1, .int p2, .int p3, .int p4, .int p5] : List Value).toArray below meth c H locs 0 0 (MQ below (va_Qv (fun T : ST => T = res) (PostW (wM a cI cZ) D cI cZ) (AC 31 a s.heap.size)) ([.ref (a 0), .int p1, .int p2, .int p3, .int p4, .int p5] : List Value).toArray s 0 0 (AC 31 a s.heap.size)) (F0 m 271 ls []) := by
          intro v9_63 ls hl hm
          unfold mX7_layPart_X63 at hm
          refine lv_aload_n hx hb dX7_layPart_271 rfl (lv_at hl 0 rfl) ?_
          refine lv_iload_n hx hb dX7_layPart_272 rfl (lv_at hl 1 rfl) ?_
          refine lv_iconst (v := (1 : Int32)) hx hb dX7_layPart_273 (by decide) ?_
          refine lv_iadd hx hb dX7_layPart_274 ?_
          refine lv_iload_n hx hb dX7_layPart_275 rfl (lv_at hl 2 rfl) ?_
          refine lv_iload_n hx hb dX7_layPart_276 rfl (lv_at hl 3 rfl) ?_
          refine lv_iload hx hb dX7_layPart_277 (lv_at hl 4 rfl) ?_
          refine lv_iload hx hb dX7_layPart_279 (lv_at hl 5 rfl) ?_
          obtain ⟨r4, hr4, hm⟩ := bd_ok hm
          refine callWV (wf := wM a cI cZ) (rest := []) X hK hNW hml hP hS hl.1 (kX7_lay l D a cI cZ hA S_58 H.size (p1 + (1 : Int32)) p2 p3 p4 p5 r4 hr4) (cwV 5 X.2.2.1 gX7_layPart_X7_lay rfl rfl rfl (by decide +kernel) ⟨Nat.le_of_ble_eq_true rfl, Nat.le_of_ble_eq_true rfl⟩) (vM_X7 hK hP) rfl rfl (Nat.le_of_ble_eq_true rfl) dX7_layPart_281 ⟨Nat.zero_le _, Nat.zero_le _⟩ (fun H locs hP hS => ?_)
          exact endV X hK hr hlocks hm hP hS dX7_layPart_284
        have lp63 : ∀ (n : Nat) (v9_63 : Int32) (ls : Array Slot), lv_has ls 10 [(0, .ref (a 0)), (1, .int p1), (2, .int p2), (3, .int p3), (4, .int p4), (5, .int p5), (6, .int v6_58), (7, .int r3), (8, .int t0_58), (9, .int v9_63)] → LPf (κ := Int32 → Option (ST)) (fun _ => none) (fun kk => mX7_layPart_B63 kk (mX7_layPart_X63  S_58 p1 p2 p3 p4 p5 v6_58 r3 t0_58) S_58 p1 p2 p3 p4 p5 v6_58 r3 t0_58) n v9_63 = some res → W p l e rmX7_layPart s m ([.ref (a 0), .int p1, .int p2, .int p3, .int p4, .int p5] : List Value).toArray below meth c H locs 0 0 (MQ below (va_Qv (fun T : ST => T = res) (PostW (wM a cI cZ) D cI cZ) (AC 31 a s.heap.size)) ([.ref (a 0), .int p1, .int p2, .int p3, .int p4, .int p5] : List Value).toArray s 0 0 (AC 31 a s.heap.size)) (F0 m 63 ls []) := by
          intro n
          induction n with
          | zero =>
            intro v9_63 ls hl hm
            exact (noS (show (none : Option (ST)) = some res from hm)).elim
          | succ n ih =>
            intro v9_63 ls hl hm
            exact kb63 _ _ ih kx63 v9_63 ls hl hm
        exact lp63 FU (1 : Int32) ls (lv_sub hl [2, 3, 4, 5, 6, 7, 8, 9, 1, 0] rfl) hm
      refine lv_if_ne (tgt := 56) hx hb dX7_layPart_48 (by decide) (fun hc => ?_) (fun hc => ?_)
      · replace hm := (if_neg hc).symm.trans hm
        refine lv_iload hx hb dX7_layPart_56 (lv_at hl 7 rfl) ?_
        exact kJ58 r2.2 H locs (S.2 9 r1.toNatClampNeg) p5 ls hP hS (lv_sub hl [2, 3, 4, 5, 6, 7, 1, 0] rfl) hm
      · replace hm := (if_pos hc).symm.trans hm
        refine lv_iload hx hb dX7_layPart_51 (lv_at hl 6 rfl) ?_
        refine lv_goto (tgt := 58) hx hb dX7_layPart_53 (by decide) ?_
        exact kJ58 r2.2 H locs (S.2 9 r1.toNatClampNeg) p4 ls hP hS (lv_sub hl [2, 3, 4, 5, 6, 7, 1, 0] rfl) hm
    · replace hm := (if_neg hc).symm.trans hm
      exact endV X hK hr hlocks hm hP hS dX7_layPart_38
