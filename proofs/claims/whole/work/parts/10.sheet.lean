/-! Mirrors and contracts. By walk.py. -/
def rmX6_within : Room := { frames := 0, cells := 0, slots := 0, locals := 0 }
set_option maxHeartbeats 4000000 in
set_option maxRecDepth 100000 in
theorem kX6_within (l : Launch) (p0 : Int32) (p1 : Int32) (p2 : Int32) (res : Int32) (hm : mX6_within  p0 p1 p2 = some res) : Met l yX6_within wsX6_within rmX6_within (va_Pc [.int p0, .int p1, .int p2] (fun _ => True)) (vp_Si (fun r => r = res)) 0 0 (fun _ => False) := by
  refine metB (cc := cX6_within) (maxL := 3) (ret := (some .boolean)) (by decide) rfl (Nat.le_of_ble_eq_true rfl) ?_
  intro p e s m below meth c ls X hml hr hlocks hin hv hl
  replace X : CX p m c cX6_within s ([.int p0, .int p1, .int p2] : List Value).toArray wsX6_within RX6 := X
  have hx := X.1
  have hb := X.2.1
  replace hl : lv_has ls 3 [(0, .int p0), (1, .int p1), (2, .int p2)] := hl
  unfold mX6_within at hm
  refine lv_iload_n hx hb dX6_within_0 rfl (lv_at hl 0 rfl) ?_
  refine lv_iload_n hx hb dX6_within_1 rfl (lv_at hl 1 rfl) ?_
  refine lv_icmp_lt (tgt := 14) hx hb dX6_within_2 (by decide) (fun hc => ?_) (fun hc => ?_)
  · replace hm := (if_pos hc).symm.trans hm
    refine lv_iconst (v := (0 : Int32)) hx hb dX6_within_14 (by decide) ?_
    exact endR X hr rfl hlocks hm dX6_within_15
  · replace hm := (if_neg hc).symm.trans hm
    refine lv_iload_n hx hb dX6_within_5 rfl (lv_at hl 0 rfl) ?_
    refine lv_iload_n hx hb dX6_within_6 rfl (lv_at hl 2 rfl) ?_
    refine lv_icmp_gt (tgt := 14) hx hb dX6_within_7 (by decide) (fun hc => ?_) (fun hc => ?_)
    · replace hm := (if_pos hc).symm.trans hm
      refine lv_iconst (v := (0 : Int32)) hx hb dX6_within_14 (by decide) ?_
      exact endR X hr rfl hlocks hm dX6_within_15
    · replace hm := (if_neg hc).symm.trans hm
      refine lv_iconst (v := (1 : Int32)) hx hb dX6_within_10 (by decide) ?_
      refine lv_goto (tgt := 15) hx hb dX6_within_11 (by decide) ?_
      exact endR X hr rfl hlocks hm dX6_within_15

def rmX4_partsWidth : Room := { frames := 0, cells := 0, slots := 0, locals := 0 }
set_option maxHeartbeats 4000000 in
set_option maxRecDepth 100000 in
theorem kX4_partsWidth (l : Launch) (D : va_G) (a : Nat → Nat) (cI cZ : ClassId) (S : ST) (p1 : Int32) (res : Int32) (hm : mX4_partsWidth S p1 = some res) : Met l yX4_partsWidth wsX4_partsWidth rmX4_partsWidth (va_Pc [.ref (a 1), .int p1] (PreR (wC a cI cZ S) D cI cZ)) (vp_Si (fun r => r = res)) 0 0 (fun _ => False) := by
  refine metB (cc := cX4_partsWidth) (maxL := 2) (ret := (some .boolean)) (by decide) rfl (Nat.le_of_ble_eq_true rfl) ?_
  intro p e s m below meth c ls X hml hr hlocks hin hv hl
  replace X : CX p m c cX4_partsWidth s ([.ref (a 1), .int p1] : List Value).toArray wsX4_partsWidth RX4 := X
  obtain ⟨hP, hK, hNW⟩ := hv
  have hx := X.1
  have hb := X.2.1
  replace hl : lv_has ls 2 [(0, .ref (a 1)), (1, .int p1)] := hl
  have iX4 : ∀ w ∈ wsX40, w ∈ wsX4_partsWidth := fun w h => List.mem_cons_of_mem _ (List.mem_append_right _ h)
  unfold mX4_partsWidth at hm
  refine lv_aload_n hx hb dX4_partsWidth_0 rfl (lv_at hl 0 rfl) ?_
  refine gC_X4_first X hK hP iX4 (List.mem_of_getElem? (i := 1) rfl) dX4_partsWidth_1 ?_
  refine lv_iload_n hx hb dX4_partsWidth_4 rfl (lv_at hl 1 rfl) ?_
  refine lv_iadd hx hb dX4_partsWidth_5 ?_
  refine lv_iconst (v := (1 : Int32)) hx hb dX4_partsWidth_6 (by decide) ?_
  refine lv_isub hx hb dX4_partsWidth_7 ?_
  refine lv_iconst (v := (1 : Int32)) hx hb dX4_partsWidth_8 (by decide) ?_
  refine lv_iand hx hb dX4_partsWidth_9 ?_
  refine lv_if_ne (tgt := 17) hx hb dX4_partsWidth_10 (by decide) (fun hc => ?_) (fun hc => ?_)
  · replace hm := (if_neg hc).symm.trans hm
    refine lv_iconst (v := (0 : Int32)) hx hb dX4_partsWidth_17 (by decide) ?_
    exact endR X hr rfl hlocks hm dX4_partsWidth_18
  · replace hm := (if_pos hc).symm.trans hm
    refine lv_iconst (v := (1 : Int32)) hx hb dX4_partsWidth_13 (by decide) ?_
    refine lv_goto (tgt := 18) hx hb dX4_partsWidth_14 (by decide) ?_
    exact endR X hr rfl hlocks hm dX4_partsWidth_18

def rmX4_lastCut : Room := { frames := 1, cells := 0, slots := 0, locals := 21 }
set_option maxHeartbeats 4000000 in
set_option maxRecDepth 100000 in
theorem kX4_lastCut (l : Launch) (D : va_G) (a : Nat → Nat) (cI cZ : ClassId) (S : ST) (p1 : Int32) (p2 : Int32) (p3 : Int32) (res : Int32) (hm : mX4_lastCut S p1 p2 p3 = some res) : Met l yX4_lastCut wsX4_lastCut rmX4_lastCut (va_Pc [.ref (a 1), .int p1, .int p2, .int p3] (PreR (wC a cI cZ S) D cI cZ)) (vp_Si (fun r => r = res)) 0 0 (fun _ => False) := by
  refine metB (cc := cX4_lastCut) (maxL := 4) (ret := (some .int)) (by decide) rfl (Nat.le_of_ble_eq_true rfl) ?_
  intro p e s m below meth c ls X hml hr hlocks hin hv hl
  replace X : CX p m c cX4_lastCut s ([.ref (a 1), .int p1, .int p2, .int p3] : List Value).toArray wsX4_lastCut RX4 := X
  obtain ⟨hP, hK, hNW⟩ := hv
  have hx := X.1
  have hb := X.2.1
  replace hl : lv_has ls 4 [(0, .ref (a 1)), (1, .int p1), (2, .int p2), (3, .int p3)] := hl
  have iX4 : ∀ w ∈ wsX40, w ∈ wsX4_lastCut := fun w h => List.mem_cons_of_mem _ (List.mem_append_right _ h)
  unfold mX4_lastCut at hm
  refine lv_aload_n hx hb dX4_lastCut_0 rfl (lv_at hl 0 rfl) ?_
  refine lv_iload_n hx hb dX4_lastCut_1 rfl (lv_at hl 3 rfl) ?_
  obtain ⟨r1, hr1, hm⟩ := bd_ok hm
  refine callRV (rest := []) X hK hNW hml hP hl.1 (kX4_partsWidth l D a cI cZ S p3 r1 hr1) (cwV 1 X.2.2.1 gX4_lastCut_X4_partsWidth rfl rfl rfl (by decide +kernel) ⟨Nat.le_of_ble_eq_true rfl, Nat.le_of_ble_eq_true rfl⟩) (vC_X4 hK hP) rfl rfl (Nat.le_of_ble_eq_true rfl) dX4_lastCut_2 ⟨Nat.zero_le _, Nat.zero_le _⟩ ?_
  have kJ13 : ∀ (t0_13 : Int32) (ls : Array Slot), lv_has ls 4 [(0, .ref (a 1)), (1, .int p1), (2, .int p2), (3, .int p3)] → mX4_lastCut_J13  S p1 p2 p3 t0_13 = some res → W p l e rmX4_lastCut s m ([.ref (a 1), .int p1, .int p2, .int p3] : List Value).toArray below meth c s.heap [] 0 0 (MQ below (vp_Si (fun r => r = res)) ([.ref (a 1), .int p1, .int p2, .int p3] : List Value).toArray s 0 0 (fun _ => False)) (F0 m 13 ls [.int t0_13]) := by
    intro t0_13 ls hl hm
    unfold mX4_lastCut_J13 at hm
    refine lv_aload_n hx hb dX4_lastCut_13 rfl (lv_at hl 0 rfl) ?_
    refine gC_X4_kerf X hK hP iX4 (List.mem_of_getElem? (i := 1) rfl) dX4_lastCut_14 ?_
    refine lv_isub hx hb dX4_lastCut_17 ?_
    refine lv_iconst (v := (1 : Int32)) hx hb dX4_lastCut_18 (by decide) ?_
    refine lv_isub hx hb dX4_lastCut_19 ?_
    exact endR X hr rfl hlocks hm dX4_lastCut_20
  refine lv_if_eq (tgt := 12) hx hb dX4_lastCut_5 (by decide) (fun hc => ?_) (fun hc => ?_)
  · replace hm := (if_pos hc).symm.trans hm
    refine lv_iload_n hx hb dX4_lastCut_12 rfl (lv_at hl 2 rfl) ?_
    exact kJ13 p2 ls (lv_sub hl [0, 1, 2, 3] rfl) hm
  · replace hm := (if_neg hc).symm.trans hm
    refine lv_iload_n hx hb dX4_lastCut_8 rfl (lv_at hl 1 rfl) ?_
    refine lv_goto (tgt := 13) hx hb dX4_lastCut_9 (by decide) ?_
    exact kJ13 p1 ls (lv_sub hl [0, 1, 2, 3] rfl) hm

def rmX4_isClean : Room := { frames := 0, cells := 0, slots := 0, locals := 0 }
set_option maxHeartbeats 4000000 in
set_option maxRecDepth 100000 in
theorem kX4_isClean (l : Launch) (D : va_G) (a : Nat → Nat) (cI cZ : ClassId) (S : ST) (p1 : Int32) (p2 : Int32) (p3 : Int32) (p4 : Int32) (res : Int32) (hm : mX4_isClean S p1 p2 p3 p4 = some res) : Met l yX4_isClean wsX4_isClean rmX4_isClean (va_Pc [.ref (a 1), .int p1, .int p2, .int p3, .int p4] (PreR (wC a cI cZ S) D cI cZ)) (vp_Si (fun r => r = res)) 0 0 (fun _ => False) := by
  refine metB (cc := cX4_isClean) (maxL := 7) (ret := (some .boolean)) (by decide) rfl (Nat.le_of_ble_eq_true rfl) ?_
  intro p e s m below meth c ls X hml hr hlocks hin hv hl
  replace X : CX p m c cX4_isClean s ([.ref (a 1), .int p1, .int p2, .int p3, .int p4] : List Value).toArray wsX4_isClean RX4 := X
  obtain ⟨hP, hK, hNW⟩ := hv
  have hx := X.1
  have hb := X.2.1
  replace hl : lv_has ls 7 [(0, .ref (a 1)), (1, .int p1), (2, .int p2), (3, .int p3), (4, .int p4)] := hl
  have iX4 : ∀ w ∈ wsX40, w ∈ wsX4_isClean := fun w h => List.mem_cons_of_mem _ (List.mem_append_right _ h)
  unfold mX4_isClean at hm
  refine lv_iconst (v := (0 : Int32)) hx hb dX4_isClean_0 (by decide) ?_
  refine lv_istore (lv' := [(5, .int (0 : Int32)), (0, .ref (a 1)), (1, .int p1), (2, .int p2), (3, .int p3), (4, .int p4)]) hx hb dX4_isClean_1 hl (by decide) rfl (fun ls hl => ?_)
  have kb3 : ∀ (k x : Int32 → Option (Int32)), (∀ (v5_3 : Int32) (ls : Array Slot), lv_has ls 7 [(0, .ref (a 1)), (1, .int p1), (2, .int p2), (3, .int p3), (4, .int p4), (5, .int v5_3)] → k v5_3 = some res → W p l e rmX4_isClean s m ([.ref (a 1), .int p1, .int p2, .int p3, .int p4] : List Value).toArray below meth c s.heap [] 0 0 (MQ below (vp_Si (fun r => r = res)) ([.ref (a 1), .int p1, .int p2, .int p3, .int p4] : List Value).toArray s 0 0 (fun _ => False)) (F0 m 3 ls [])) → (∀ (v5_3 : Int32) (ls : Array Slot), lv_has ls 7 [(0, .ref (a 1)), (1, .int p1), (2, .int p2), (3, .int p3), (4, .int p4), (5, .int v5_3)] → x v5_3 = some res → W p l e rmX4_isClean s m ([.ref (a 1), .int p1, .int p2, .int p3, .int p4] : List Value).toArray below meth c s.heap [] 0 0 (MQ below (vp_Si (fun r => r = res)) ([.ref (a 1), .int p1, .int p2, .int p3, .int p4] : List Value).toArray s 0 0 (fun _ => False)) (F0 m 88 ls [])) → ∀ (v5_3 : Int32) (ls : Array Slot), lv_has ls 7 [(0, .ref (a 1)), (1, .int p1), (2, .int p2), (3, .int p3), (4, .int p4), (5, .int v5_3)] → mX4_isClean_B3 k x S p1 p2 p3 p4 v5_3 = some res → W p l e rmX4_isClean s m ([.ref (a 1), .int p1, .int p2, .int p3, .int p4] : List Value).toArray below meth c s.heap [] 0 0 (MQ below (vp_Si (fun r => r = res)) ([.ref (a 1), .int p1, .int p2, .int p3, .int p4] : List Value).toArray s 0 0 (fun _ => False)) (F0 m 3 ls []) := by
    intro k x ih kxh v5_3 ls hl hm
    unfold mX4_isClean_B3 at hm
    refine lv_iload hx hb dX4_isClean_3 (lv_at hl 5 rfl) ?_
    refine lv_aload_n hx hb dX4_isClean_5 rfl (lv_at hl 0 rfl) ?_
    refine gC_X4_defects X hK hP iX4 (List.mem_of_getElem? (i := 1) rfl) dX4_isClean_6 ?_
    refine lv_icmp_ge (tgt := 88) hx hb dX4_isClean_9 (by decide) (fun hc => ?_) (fun hc => ?_)
    · replace hm := (if_pos hc).symm.trans hm
      exact kxh v5_3 ls (lv_sub hl [0, 1, 2, 3, 4, 5] rfl) hm
    · replace hm := (if_neg hc).symm.trans hm
      refine lv_iload hx hb dX4_isClean_12 (lv_at hl 5 rfl) ?_
      refine lv_bipush (v := (6 : Int32)) hx hb dX4_isClean_14 (by decide) ?_
      refine lv_icmp_ge (tgt := 88) hx hb dX4_isClean_16 (by decide) (fun hc => ?_) (fun hc => ?_)
      · replace hm := (if_pos hc).symm.trans hm
        exact kxh v5_3 ls (lv_sub hl [0, 1, 2, 3, 4, 5] rfl) hm
      · replace hm := (if_neg hc).symm.trans hm
        refine lv_iload hx hb dX4_isClean_19 (lv_at hl 5 rfl) ?_
        refine lv_iconst (v := (4 : Int32)) hx hb dX4_isClean_21 (by decide) ?_
        refine lv_imul hx hb dX4_isClean_22 ?_
        refine lv_istore (lv' := [(6, .int (v5_3 * (4 : Int32))), (0, .ref (a 1)), (1, .int p1), (2, .int p2), (3, .int p3), (4, .int p4), (5, .int v5_3)]) hx hb dX4_isClean_23 hl (by decide) rfl (fun ls hl => ?_)
        refine lv_iload_n hx hb dX4_isClean_25 rfl (lv_at hl 2 rfl) ?_
        refine lv_aload_n hx hb dX4_isClean_26 rfl (lv_at hl 1 rfl) ?_
        refine gC_X4_spoiled X hK hP iX4 (List.mem_of_getElem? (i := 2) rfl) dX4_isClean_27 ?_
        refine lv_iload hx hb dX4_isClean_30 (lv_at hl 0 rfl) ?_
        refine lv_iconst (v := (2 : Int32)) hx hb dX4_isClean_32 (by decide) ?_
        refine lv_iadd hx hb dX4_isClean_33 ?_
        obtain ⟨h1, hm⟩ := gd_ok hm
        refine rC_X4_spoiled X hK hP h1 dX4_isClean_34 ?_
        refine lv_icmp_ge (tgt := 82) hx hb dX4_isClean_35 (by decide) (fun hc => ?_) (fun hc => ?_)
        · replace hm := (if_pos hc).symm.trans hm
          refine lv_iinc (v := (v5_3 + (1 : Int32))) (lv' := [(5, .int (v5_3 + (1 : Int32))), (6, .int (v5_3 * (4 : Int32))), (0, .ref (a 1)), (1, .int p1), (2, .int p2), (3, .int p3), (4, .int p4)]) hx hb dX4_isClean_82 hl (k := 6) rfl rfl (by decide) rfl (fun ls hl => ?_)
          refine lv_goto (tgt := 3) hx hb dX4_isClean_85 (by decide) ?_
          exact ih (v5_3 + (1 : Int32)) ls (lv_sub hl [2, 3, 4, 5, 6, 0] rfl) hm
        · replace hm := (if_neg hc).symm.trans hm
          refine lv_aload_n hx hb dX4_isClean_38 rfl (lv_at hl 1 rfl) ?_
          refine gC_X4_spoiled X hK hP iX4 (List.mem_of_getElem? (i := 2) rfl) dX4_isClean_39 ?_
          refine lv_iload hx hb dX4_isClean_42 (lv_at hl 0 rfl) ?_
          obtain ⟨h1, hm⟩ := gd_ok hm
          refine rC_X4_spoiled X hK hP h1 dX4_isClean_44 ?_
          refine lv_iload_n hx hb dX4_isClean_45 rfl (lv_at hl 2 rfl) ?_
          refine lv_iload_n hx hb dX4_isClean_46 rfl (lv_at hl 4 rfl) ?_
          refine lv_iadd hx hb dX4_isClean_47 ?_
          refine lv_icmp_ge (tgt := 82) hx hb dX4_isClean_48 (by decide) (fun hc => ?_) (fun hc => ?_)
          · replace hm := (if_pos hc).symm.trans hm
            refine lv_iinc (v := (v5_3 + (1 : Int32))) (lv' := [(5, .int (v5_3 + (1 : Int32))), (6, .int (v5_3 * (4 : Int32))), (0, .ref (a 1)), (1, .int p1), (2, .int p2), (3, .int p3), (4, .int p4)]) hx hb dX4_isClean_82 hl (k := 6) rfl rfl (by decide) rfl (fun ls hl => ?_)
            refine lv_goto (tgt := 3) hx hb dX4_isClean_85 (by decide) ?_
            exact ih (v5_3 + (1 : Int32)) ls (lv_sub hl [2, 3, 4, 5, 6, 0] rfl) hm
          · replace hm := (if_neg hc).symm.trans hm
            refine lv_iload_n hx hb dX4_isClean_51 rfl (lv_at hl 3 rfl) ?_
            refine lv_aload_n hx hb dX4_isClean_52 rfl (lv_at hl 1 rfl) ?_
            refine gC_X4_spoiled X hK hP iX4 (List.mem_of_getElem? (i := 2) rfl) dX4_isClean_53 ?_
            refine lv_iload hx hb dX4_isClean_56 (lv_at hl 0 rfl) ?_
            refine lv_iconst (v := (3 : Int32)) hx hb dX4_isClean_58 (by decide) ?_
            refine lv_iadd hx hb dX4_isClean_59 ?_
            obtain ⟨h1, hm⟩ := gd_ok hm
            refine rC_X4_spoiled X hK hP h1 dX4_isClean_60 ?_
            refine lv_icmp_ge (tgt := 82) hx hb dX4_isClean_61 (by decide) (fun hc => ?_) (fun hc => ?_)
            · replace hm := (if_pos hc).symm.trans hm
              refine lv_iinc (v := (v5_3 + (1 : Int32))) (lv' := [(5, .int (v5_3 + (1 : Int32))), (6, .int (v5_3 * (4 : Int32))), (0, .ref (a 1)), (1, .int p1), (2, .int p2), (3, .int p3), (4, .int p4)]) hx hb dX4_isClean_82 hl (k := 6) rfl rfl (by decide) rfl (fun ls hl => ?_)
              refine lv_goto (tgt := 3) hx hb dX4_isClean_85 (by decide) ?_
              exact ih (v5_3 + (1 : Int32)) ls (lv_sub hl [2, 3, 4, 5, 6, 0] rfl) hm
            · replace hm := (if_neg hc).symm.trans hm
              refine lv_aload_n hx hb dX4_isClean_64 rfl (lv_at hl 1 rfl) ?_
              refine gC_X4_spoiled X hK hP iX4 (List.mem_of_getElem? (i := 2) rfl) dX4_isClean_65 ?_
              refine lv_iload hx hb dX4_isClean_68 (lv_at hl 0 rfl) ?_
              refine lv_iconst (v := (1 : Int32)) hx hb dX4_isClean_70 (by decide) ?_
              refine lv_iadd hx hb dX4_isClean_71 ?_
              obtain ⟨h1, hm⟩ := gd_ok hm
              refine rC_X4_spoiled X hK hP h1 dX4_isClean_72 ?_
              refine lv_iload_n hx hb dX4_isClean_73 rfl (lv_at hl 3 rfl) ?_
              refine lv_iload hx hb dX4_isClean_74 (lv_at hl 5 rfl) ?_
              refine lv_iadd hx hb dX4_isClean_76 ?_
              refine lv_icmp_ge (tgt := 82) hx hb dX4_isClean_77 (by decide) (fun hc => ?_) (fun hc => ?_)
              · replace hm := (if_pos hc).symm.trans hm
                refine lv_iinc (v := (v5_3 + (1 : Int32))) (lv' := [(5, .int (v5_3 + (1 : Int32))), (6, .int (v5_3 * (4 : Int32))), (0, .ref (a 1)), (1, .int p1), (2, .int p2), (3, .int p3), (4, .int p4)]) hx hb dX4_isClean_82 hl (k := 6) rfl rfl (by decide) rfl (fun ls hl => ?_)
                refine lv_goto (tgt := 3) hx hb dX4_isClean_85 (by decide) ?_
                exact ih (v5_3 + (1 : Int32)) ls (lv_sub hl [2, 3, 4, 5, 6, 0] rfl) hm
              · replace hm := (if_neg hc).symm.trans hm
                refine lv_iconst (v := (0 : Int32)) hx hb dX4_isClean_80 (by decide) ?_
                exact endR X hr rfl hlocks hm dX4_isClean_81
  have kx3 : ∀ (v5_3 : Int32) (ls : Array Slot), lv_has ls 7 [(0, .ref (a 1)), (1, .int p1), (2, .int p2), (3, .int p3), (4, .int p4), (5, .int v5_3)] → mX4_isClean_X3  S p1 p2 p3 p4 v5_3 = some res → W p l e rmX4_isClean s m ([.ref (a 1), .int p1, .int p2, .int p3, .int p4] : List Value).toArray below meth c s.heap [] 0 0 (MQ below (vp_Si (fun r => r = res)) ([.ref (a 1), .int p1, .int p2, .int p3, .int p4] : List Value).toArray s 0 0 (fun _ => False)) (F0 m 88 ls []) := by
    intro v5_3 ls hl hm
    unfold mX4_isClean_X3 at hm
    refine lv_iconst (v := (1 : Int32)) hx hb dX4_isClean_88 (by decide) ?_
    exact endR X hr rfl hlocks hm dX4_isClean_89
  have lp3 : ∀ (n : Nat) (v5_3 : Int32) (ls : Array Slot), lv_has ls 7 [(0, .ref (a 1)), (1, .int p1), (2, .int p2), (3, .int p3), (4, .int p4), (5, .int v5_3)] → LPf (κ := Int32 → Option (Int32)) (fun _ => none) (fun kk => mX4_isClean_B3 kk (mX4_isClean_X3  S p1 p2 p3 p4) S p1 p2 p3 p4) n v5_3 = some res → W p l e rmX4_isClean s m ([.ref (a 1), .int p1, .int p2, .int p3, .int p4] : List Value).toArray below meth c s.heap [] 0 0 (MQ below (vp_Si (fun r => r = res)) ([.ref (a 1), .int p1, .int p2, .int p3, .int p4] : List Value).toArray s 0 0 (fun _ => False)) (F0 m 3 ls []) := by
    intro n
    induction n with
    | zero =>
      intro v5_3 ls hl hm
      exact (noS (show (none : Option (Int32)) = some res from hm)).elim
    | succ n ih =>
      intro v5_3 ls hl hm
      exact kb3 _ _ ih kx3 v5_3 ls hl hm
  exact lp3 FU (0 : Int32) ls (lv_sub hl [1, 2, 3, 4, 5, 0] rfl) hm

def rmX4_become : Room := { frames := 0, cells := 0, slots := 0, locals := 0 }
set_option maxHeartbeats 4000000 in
set_option maxRecDepth 100000 in
theorem kX4_become (l : Launch) (D : va_G) (a : Nat → Nat) (cI cZ : ClassId) (hA : AP 24 a) (S : ST) (sz : Nat) (p1 : Int32) (p2 : Int32) (p3 : Int32) (p4 : Int32) (p5 : Int32) (res : ST) (hm : mX4_become S p1 p2 p3 p4 p5 = some res) : Met l yX4_become wsX4_become rmX4_become (va_Pc [.ref (a 1), .int p1, .int p2, .int p3, .int p4, .int p5] (PreW (wC a cI cZ S) D cI cZ sz)) (va_Qv (fun T : ST => T = res) (PostW (wC a cI cZ) D cI cZ) (AC 24 a sz)) 0 0 (AC 24 a sz) := by
  refine metB (cc := cX4_become) (maxL := 6) (ret := none) (by decide) rfl (Nat.le_of_ble_eq_true rfl) ?_
  intro p e s m below meth c ls X hml hr hlocks hin hv hl
  replace X : CX p m c cX4_become s ([.ref (a 1), .int p1, .int p2, .int p3, .int p4, .int p5] : List Value).toArray wsX4_become RX4 := X
  obtain ⟨hsz, hP, hK, hNW⟩ := hv
  subst hsz
  have hS : va_S (AC 24 a s.heap.size) s.heap s.heap [] := va_S.rf
  have hx := X.1
  have hb := X.2.1
  replace hl : lv_has ls 6 [(0, .ref (a 1)), (1, .int p1), (2, .int p2), (3, .int p3), (4, .int p4), (5, .int p5)] := hl
  have iX4 : ∀ w ∈ wsX40, w ∈ wsX4_become := fun w h => List.mem_cons_of_mem _ (List.mem_append_right _ h)
  suffices kS : ∀ (H : Heap) (locs : List Loc), va_P D vwCl (wC a cI cZ S) H → va_S (AC 24 a s.heap.size) s.heap H locs → W p l e rmX4_become s m ([.ref (a 1), .int p1, .int p2, .int p3, .int p4, .int p5] : List Value).toArray below meth c H locs 0 0 (MQ below (va_Qv (fun T : ST => T = res) (PostW (wC a cI cZ) D cI cZ) (AC 24 a s.heap.size)) ([.ref (a 1), .int p1, .int p2, .int p3, .int p4, .int p5] : List Value).toArray s 0 0 (AC 24 a s.heap.size)) (F0 m 0 ls []) by exact kS s.heap [] hP hS
  intro H locs hP hS
  unfold mX4_become at hm
  refine lv_aload_n hx hb dX4_become_0 rfl (lv_at hl 0 rfl) ?_
  refine lv_iload_n hx hb dX4_become_1 rfl (lv_at hl 1 rfl) ?_
  refine pC_X4_width X hK hA hP hS iX4 (List.mem_of_getElem? (i := 1) rfl) dX4_become_2 (fun H locs hP hS => ?_)
  refine lv_aload_n hx hb dX4_become_5 rfl (lv_at hl 0 rfl) ?_
  refine lv_iload_n hx hb dX4_become_6 rfl (lv_at hl 2 rfl) ?_
  refine pC_X4_height X hK hA hP hS iX4 (List.mem_of_getElem? (i := 2) rfl) dX4_become_7 (fun H locs hP hS => ?_)
  refine lv_aload_n hx hb dX4_become_10 rfl (lv_at hl 0 rfl) ?_
  refine lv_iload_n hx hb dX4_become_11 rfl (lv_at hl 3 rfl) ?_
  refine pC_X4_kerf X hK hA hP hS iX4 (List.mem_of_getElem? (i := 3) rfl) dX4_become_12 (fun H locs hP hS => ?_)
  refine lv_aload_n hx hb dX4_become_15 rfl (lv_at hl 0 rfl) ?_
  refine lv_iload hx hb dX4_become_16 (lv_at hl 4 rfl) ?_
  refine pC_X4_stages X hK hA hP hS iX4 (List.mem_of_getElem? (i := 4) rfl) dX4_become_18 (fun H locs hP hS => ?_)
  refine lv_aload_n hx hb dX4_become_21 rfl (lv_at hl 0 rfl) ?_
  refine lv_iload hx hb dX4_become_22 (lv_at hl 5 rfl) ?_
  refine pC_X4_first X hK hA hP hS iX4 (List.mem_of_getElem? (i := 5) rfl) dX4_become_24 (fun H locs hP hS => ?_)
  refine lv_aload_n hx hb dX4_become_27 rfl (lv_at hl 0 rfl) ?_
  refine lv_iconst (v := (0 : Int32)) hx hb dX4_become_28 (by decide) ?_
  refine pC_X4_defects X hK hA hP hS iX4 (List.mem_of_getElem? (i := 6) rfl) dX4_become_29 (fun H locs hP hS => ?_)
  exact endV X hK hr hlocks hm hP hS dX4_become_32

def rmX4_holds : Room := { frames := 1, cells := 0, slots := 0, locals := 22 }
set_option maxHeartbeats 4000000 in
set_option maxRecDepth 100000 in
theorem kX4_holds (l : Launch) (D : va_G) (a : Nat → Nat) (cI cZ : ClassId) (S : ST) (p1 : Int32) (p2 : Int32) (p3 : Int32) (p4 : Int32) (res : Int32) (hm : mX4_holds S p1 p2 p3 p4 = some res) : Met l yX4_holds wsX4_holds rmX4_holds (va_Pc [.ref (a 1), .int p1, .int p2, .int p3, .int p4] (PreR (wC a cI cZ S) D cI cZ)) (vp_Si (fun r => r = res)) 0 0 (fun _ => False) := by
  refine metB (cc := cX4_holds) (maxL := 5) (ret := (some .boolean)) (by decide) rfl (Nat.le_of_ble_eq_true rfl) ?_
  intro p e s m below meth c ls X hml hr hlocks hin hv hl
  replace X : CX p m c cX4_holds s ([.ref (a 1), .int p1, .int p2, .int p3, .int p4] : List Value).toArray wsX4_holds RX4 := X
  obtain ⟨hP, hK, hNW⟩ := hv
  have hx := X.1
  have hb := X.2.1
  replace hl : lv_has ls 5 [(0, .ref (a 1)), (1, .int p1), (2, .int p2), (3, .int p3), (4, .int p4)] := hl
  have iX4 : ∀ w ∈ wsX40, w ∈ wsX4_holds := fun w h => List.mem_cons_of_mem _ (List.mem_append_right _ h)
  unfold mX4_holds at hm
  refine lv_iload_n hx hb dX4_holds_0 rfl (lv_at hl 1 rfl) ?_
  refine lv_iconst (v := (0 : Int32)) hx hb dX4_holds_1 (by decide) ?_
  refine lv_aload_n hx hb dX4_holds_2 rfl (lv_at hl 0 rfl) ?_
  refine gC_X4_width X hK hP iX4 (List.mem_of_getElem? (i := 1) rfl) dX4_holds_3 ?_
  refine lv_iconst (v := (1 : Int32)) hx hb dX4_holds_6 (by decide) ?_
  refine lv_isub hx hb dX4_holds_7 ?_
  obtain ⟨r1, hr1, hm⟩ := bd_ok hm
  refine callRN (rest := []) X hml hl.1 (kX6_within l p1 (0 : Int32) ((S.1 0) - (1 : Int32)) r1 hr1) ⟨va_cnB 3 X.2.2.1 gX4_holds_X6_within_n34 rfl rfl rfl hNW.2.1 (X.2.2.1 (Cond.initialized RX6) (List.mem_of_getElem? (i := 4) rfl)) (by decide +kernel) ⟨Nat.le_of_ble_eq_true rfl, Nat.le_of_ble_eq_true rfl⟩, X.2.2.1 (Cond.static yX6_within) (List.mem_of_getElem? (i := 3) rfl), trivial⟩ rfl rfl (Nat.le_of_ble_eq_true rfl) dX4_holds_8 ⟨Nat.zero_le _, Nat.zero_le _⟩ ?_
  refine lv_if_eq (tgt := 61) hx hb dX4_holds_11 (by decide) (fun hc => ?_) (fun hc => ?_)
  · replace hm := (if_pos hc).symm.trans hm
    refine lv_iconst (v := (0 : Int32)) hx hb dX4_holds_61 (by decide) ?_
    exact endR X hr rfl hlocks hm dX4_holds_62
  · replace hm := (if_neg hc).symm.trans hm
    refine lv_iload_n hx hb dX4_holds_14 rfl (lv_at hl 2 rfl) ?_
    refine lv_iconst (v := (0 : Int32)) hx hb dX4_holds_15 (by decide) ?_
    refine lv_aload_n hx hb dX4_holds_16 rfl (lv_at hl 0 rfl) ?_
    refine gC_X4_height X hK hP iX4 (List.mem_of_getElem? (i := 2) rfl) dX4_holds_17 ?_
    refine lv_iconst (v := (1 : Int32)) hx hb dX4_holds_20 (by decide) ?_
    refine lv_isub hx hb dX4_holds_21 ?_
    obtain ⟨r2, hr2, hm⟩ := bd_ok hm
    refine callRN (rest := []) X hml hl.1 (kX6_within l p2 (0 : Int32) ((S.1 1) - (1 : Int32)) r2 hr2) ⟨va_cnB 3 X.2.2.1 gX4_holds_X6_within_n34 rfl rfl rfl hNW.2.1 (X.2.2.1 (Cond.initialized RX6) (List.mem_of_getElem? (i := 4) rfl)) (by decide +kernel) ⟨Nat.le_of_ble_eq_true rfl, Nat.le_of_ble_eq_true rfl⟩, X.2.2.1 (Cond.static yX6_within) (List.mem_of_getElem? (i := 3) rfl), trivial⟩ rfl rfl (Nat.le_of_ble_eq_true rfl) dX4_holds_22 ⟨Nat.zero_le _, Nat.zero_le _⟩ ?_
    refine lv_if_eq (tgt := 61) hx hb dX4_holds_25 (by decide) (fun hc => ?_) (fun hc => ?_)
    · replace hm := (if_pos hc).symm.trans hm
      refine lv_iconst (v := (0 : Int32)) hx hb dX4_holds_61 (by decide) ?_
      exact endR X hr rfl hlocks hm dX4_holds_62
    · replace hm := (if_neg hc).symm.trans hm
      refine lv_iload_n hx hb dX4_holds_28 rfl (lv_at hl 3 rfl) ?_
      refine lv_iconst (v := (1 : Int32)) hx hb dX4_holds_29 (by decide) ?_
      refine lv_aload_n hx hb dX4_holds_30 rfl (lv_at hl 0 rfl) ?_
      refine gC_X4_width X hK hP iX4 (List.mem_of_getElem? (i := 1) rfl) dX4_holds_31 ?_
      refine lv_iload_n hx hb dX4_holds_34 rfl (lv_at hl 1 rfl) ?_
      refine lv_isub hx hb dX4_holds_35 ?_
      obtain ⟨r3, hr3, hm⟩ := bd_ok hm
      refine callRN (rest := []) X hml hl.1 (kX6_within l p3 (1 : Int32) ((S.1 0) - p1) r3 hr3) ⟨va_cnB 3 X.2.2.1 gX4_holds_X6_within_n34 rfl rfl rfl hNW.2.1 (X.2.2.1 (Cond.initialized RX6) (List.mem_of_getElem? (i := 4) rfl)) (by decide +kernel) ⟨Nat.le_of_ble_eq_true rfl, Nat.le_of_ble_eq_true rfl⟩, X.2.2.1 (Cond.static yX6_within) (List.mem_of_getElem? (i := 3) rfl), trivial⟩ rfl rfl (Nat.le_of_ble_eq_true rfl) dX4_holds_36 ⟨Nat.zero_le _, Nat.zero_le _⟩ ?_
      refine lv_if_eq (tgt := 61) hx hb dX4_holds_39 (by decide) (fun hc => ?_) (fun hc => ?_)
      · replace hm := (if_pos hc).symm.trans hm
        refine lv_iconst (v := (0 : Int32)) hx hb dX4_holds_61 (by decide) ?_
        exact endR X hr rfl hlocks hm dX4_holds_62
      · replace hm := (if_neg hc).symm.trans hm
        refine lv_iload hx hb dX4_holds_42 (lv_at hl 4 rfl) ?_
        refine lv_iconst (v := (1 : Int32)) hx hb dX4_holds_44 (by decide) ?_
        refine lv_aload_n hx hb dX4_holds_45 rfl (lv_at hl 0 rfl) ?_
        refine gC_X4_height X hK hP iX4 (List.mem_of_getElem? (i := 2) rfl) dX4_holds_46 ?_
        refine lv_iload_n hx hb dX4_holds_49 rfl (lv_at hl 2 rfl) ?_
        refine lv_isub hx hb dX4_holds_50 ?_
        obtain ⟨r4, hr4, hm⟩ := bd_ok hm
        refine callRN (rest := []) X hml hl.1 (kX6_within l p4 (1 : Int32) ((S.1 1) - p2) r4 hr4) ⟨va_cnB 3 X.2.2.1 gX4_holds_X6_within_n34 rfl rfl rfl hNW.2.1 (X.2.2.1 (Cond.initialized RX6) (List.mem_of_getElem? (i := 4) rfl)) (by decide +kernel) ⟨Nat.le_of_ble_eq_true rfl, Nat.le_of_ble_eq_true rfl⟩, X.2.2.1 (Cond.static yX6_within) (List.mem_of_getElem? (i := 3) rfl), trivial⟩ rfl rfl (Nat.le_of_ble_eq_true rfl) dX4_holds_51 ⟨Nat.zero_le _, Nat.zero_le _⟩ ?_
        refine lv_if_eq (tgt := 61) hx hb dX4_holds_54 (by decide) (fun hc => ?_) (fun hc => ?_)
        · replace hm := (if_pos hc).symm.trans hm
          refine lv_iconst (v := (0 : Int32)) hx hb dX4_holds_61 (by decide) ?_
          exact endR X hr rfl hlocks hm dX4_holds_62
        · replace hm := (if_neg hc).symm.trans hm
          refine lv_iconst (v := (1 : Int32)) hx hb dX4_holds_57 (by decide) ?_
          refine lv_goto (tgt := 62) hx hb dX4_holds_58 (by decide) ?_
          exact endR X hr rfl hlocks hm dX4_holds_62

def rmX4_spoil : Room := { frames := 0, cells := 0, slots := 0, locals := 0 }
set_option maxHeartbeats 4000000 in
set_option maxRecDepth 100000 in
theorem kX4_spoil (l : Launch) (D : va_G) (a : Nat → Nat) (cI cZ : ClassId) (hA : AP 24 a) (S : ST) (sz : Nat) (p1 : Int32) (p2 : Int32) (p3 : Int32) (p4 : Int32) (res : Int32 × ST) (hm : mX4_spoil S p1 p2 p3 p4 = some res) : Met l yX4_spoil wsX4_spoil rmX4_spoil (va_Pc [.ref (a 1), .int p1, .int p2, .int p3, .int p4] (PreW (wC a cI cZ S) D cI cZ sz)) (va_Qi (fun (r : Int32) (T : ST) => (r, T) = res) (PostW (wC a cI cZ) D cI cZ) (AC 24 a sz)) 0 0 (AC 24 a sz) := by
  refine metB (cc := cX4_spoil) (maxL := 6) (ret := (some .boolean)) (by decide) rfl (Nat.le_of_ble_eq_true rfl) ?_
  intro p e s m below meth c ls X hml hr hlocks hin hv hl
  replace X : CX p m c cX4_spoil s ([.ref (a 1), .int p1, .int p2, .int p3, .int p4] : List Value).toArray wsX4_spoil RX4 := X
  obtain ⟨hsz, hP, hK, hNW⟩ := hv
  subst hsz
  have hS : va_S (AC 24 a s.heap.size) s.heap s.heap [] := va_S.rf
  have hx := X.1
  have hb := X.2.1
  replace hl : lv_has ls 6 [(0, .ref (a 1)), (1, .int p1), (2, .int p2), (3, .int p3), (4, .int p4)] := hl
  have iX4 : ∀ w ∈ wsX40, w ∈ wsX4_spoil := fun w h => List.mem_cons_of_mem _ (List.mem_append_right _ h)
  suffices kS : ∀ (H : Heap) (locs : List Loc), va_P D vwCl (wC a cI cZ S) H → va_S (AC 24 a s.heap.size) s.heap H locs → W p l e rmX4_spoil s m ([.ref (a 1), .int p1, .int p2, .int p3, .int p4] : List Value).toArray below meth c H locs 0 0 (MQ below (va_Qi (fun (r : Int32) (T : ST) => (r, T) = res) (PostW (wC a cI cZ) D cI cZ) (AC 24 a s.heap.size)) ([.ref (a 1), .int p1, .int p2, .int p3, .int p4] : List Value).toArray s 0 0 (AC 24 a s.heap.size)) (F0 m 0 ls []) by exact kS s.heap [] hP hS
  intro H locs hP hS
  unfold mX4_spoil at hm
  refine lv_aload_n hx hb dX4_spoil_0 rfl (lv_at hl 0 rfl) ?_
  refine gC_X4_defects X hK hP iX4 (List.mem_of_getElem? (i := 1) rfl) dX4_spoil_1 ?_
  refine lv_bipush (v := (6 : Int32)) hx hb dX4_spoil_4 (by decide) ?_
  refine lv_icmp_lt (tgt := 11) hx hb dX4_spoil_6 (by decide) (fun hc => ?_) (fun hc => ?_)
  · replace hm := (if_pos hc).symm.trans hm
    refine lv_aload_n hx hb dX4_spoil_11 rfl (lv_at hl 0 rfl) ?_
    refine gC_X4_defects X hK hP iX4 (List.mem_of_getElem? (i := 1) rfl) dX4_spoil_12 ?_
    refine lv_iconst (v := (4 : Int32)) hx hb dX4_spoil_15 (by decide) ?_
    refine lv_imul hx hb dX4_spoil_16 ?_
    refine lv_istore (lv' := [(5, .int ((S.1 5) * (4 : Int32))), (0, .ref (a 1)), (1, .int p1), (2, .int p2), (3, .int p3), (4, .int p4)]) hx hb dX4_spoil_17 hl (by decide) rfl (fun ls hl => ?_)
    refine lv_aload_n hx hb dX4_spoil_19 rfl (lv_at hl 1 rfl) ?_
    refine gC_X4_spoiled X hK hP iX4 (List.mem_of_getElem? (i := 2) rfl) dX4_spoil_20 ?_
    refine lv_iload hx hb dX4_spoil_23 (lv_at hl 0 rfl) ?_
    refine lv_iload_n hx hb dX4_spoil_25 rfl (lv_at hl 2 rfl) ?_
    obtain ⟨h1, hm⟩ := gd_ok hm
    refine sC_X4_spoiled X hK hA hP hS h1 dX4_spoil_26 (fun H locs hP hS => ?_)
    refine lv_aload_n hx hb dX4_spoil_27 rfl (lv_at hl 1 rfl) ?_
    refine gC_X4_spoiled X hK hP iX4 (List.mem_of_getElem? (i := 2) rfl) dX4_spoil_28 ?_
    refine lv_iload hx hb dX4_spoil_31 (lv_at hl 0 rfl) ?_
    refine lv_iconst (v := (1 : Int32)) hx hb dX4_spoil_33 (by decide) ?_
    refine lv_iadd hx hb dX4_spoil_34 ?_
    refine lv_iload_n hx hb dX4_spoil_35 rfl (lv_at hl 3 rfl) ?_
    obtain ⟨h1, hm⟩ := gd_ok hm
    refine sC_X4_spoiled X hK hA hP hS h1 dX4_spoil_36 (fun H locs hP hS => ?_)
    refine lv_aload_n hx hb dX4_spoil_37 rfl (lv_at hl 1 rfl) ?_
    refine gC_X4_spoiled X hK hP iX4 (List.mem_of_getElem? (i := 2) rfl) dX4_spoil_38 ?_
    refine lv_iload hx hb dX4_spoil_41 (lv_at hl 0 rfl) ?_
    refine lv_iconst (v := (2 : Int32)) hx hb dX4_spoil_43 (by decide) ?_
    refine lv_iadd hx hb dX4_spoil_44 ?_
    refine lv_iload_n hx hb dX4_spoil_45 rfl (lv_at hl 2 rfl) ?_
    refine lv_iload_n hx hb dX4_spoil_46 rfl (lv_at hl 4 rfl) ?_
    refine lv_iadd hx hb dX4_spoil_47 ?_
    obtain ⟨h1, hm⟩ := gd_ok hm
    refine sC_X4_spoiled X hK hA hP hS h1 dX4_spoil_48 (fun H locs hP hS => ?_)
    refine lv_aload_n hx hb dX4_spoil_49 rfl (lv_at hl 1 rfl) ?_
    refine gC_X4_spoiled X hK hP iX4 (List.mem_of_getElem? (i := 2) rfl) dX4_spoil_50 ?_
    refine lv_iload hx hb dX4_spoil_53 (lv_at hl 0 rfl) ?_
    refine lv_iconst (v := (3 : Int32)) hx hb dX4_spoil_55 (by decide) ?_
    refine lv_iadd hx hb dX4_spoil_56 ?_
    refine lv_iload_n hx hb dX4_spoil_57 rfl (lv_at hl 3 rfl) ?_
    refine lv_iload hx hb dX4_spoil_58 (lv_at hl 5 rfl) ?_
    refine lv_iadd hx hb dX4_spoil_60 ?_
    obtain ⟨h1, hm⟩ := gd_ok hm
    refine sC_X4_spoiled X hK hA hP hS h1 dX4_spoil_61 (fun H locs hP hS => ?_)
    refine lv_aload_n hx hb dX4_spoil_62 rfl (lv_at hl 1 rfl) ?_
    refine lv_dup hx hb dX4_spoil_63 rfl ?_
    refine gC_X4_defects X hK hP iX4 (List.mem_of_getElem? (i := 1) rfl) dX4_spoil_64 ?_
    refine lv_iconst (v := (1 : Int32)) hx hb dX4_spoil_67 (by decide) ?_
    refine lv_iadd hx hb dX4_spoil_68 ?_
    refine pC_X4_defects X hK hA hP hS iX4 (List.mem_of_getElem? (i := 1) rfl) dX4_spoil_69 (fun H locs hP hS => ?_)
    refine lv_iconst (v := (1 : Int32)) hx hb dX4_spoil_72 (by decide) ?_
    exact endI X hK hr rfl hlocks hm hP hS dX4_spoil_73
  · replace hm := (if_neg hc).symm.trans hm
    refine lv_iconst (v := (0 : Int32)) hx hb dX4_spoil_9 (by decide) ?_
    exact endI X hK hr rfl hlocks hm hP hS dX4_spoil_10
