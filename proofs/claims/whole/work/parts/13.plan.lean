/-! Mirrors and contracts. By walk.py. -/
def rmX2_forget : Room := { frames := 1, cells := 0, slots := 0, locals := 20 }
set_option maxHeartbeats 4000000 in
set_option maxRecDepth 100000 in
theorem kX2_forget (l : Launch) (D : va_G) (a : Nat → Nat) (cI cZ : ClassId) (hA : AP 24 a) (S : ST) (sz : Nat)  (res : ST) (hm : mX2_forget S  = some res) : Met l yX2_forget wsX2_forget rmX2_forget (va_Pc [.ref (a 11)] (PreW (wC a cI cZ S) D cI cZ sz)) (va_Qv (fun T : ST => T = res) (PostW (wC a cI cZ) D cI cZ) (AC 24 a sz)) 0 0 (AC 24 a sz) := by
  refine metB (cc := cX2_forget) (maxL := 1) (ret := none) (by decide) rfl (Nat.le_of_ble_eq_true rfl) ?_
  intro p e s m below meth c ls X hml hr hlocks hin hv hl
  replace X : CX p m c cX2_forget s ([.ref (a 11)] : List Value).toArray wsX2_forget RX2 := X
  obtain ⟨hsz, hP, hK, hNW⟩ := hv
  subst hsz
  have hS : va_S (AC 24 a s.heap.size) s.heap s.heap [] := va_S.rf
  have hx := X.1
  have hb := X.2.1
  replace hl : lv_has ls 1 [(0, .ref (a 11))] := hl
  have iX2 : ∀ w ∈ wsX20, w ∈ wsX2_forget := fun w h => List.mem_cons_of_mem _ (List.mem_append_left _ (List.mem_append_right _ h))
  have iX5 : ∀ w ∈ wsX50, w ∈ wsX2_forget := fun w h => List.mem_cons_of_mem _ (List.mem_append_right _ h)
  suffices kS : ∀ (H : Heap) (locs : List Loc), va_P D vwCl (wC a cI cZ S) H → va_S (AC 24 a s.heap.size) s.heap H locs → W p l e rmX2_forget s m ([.ref (a 11)] : List Value).toArray below meth c H locs 0 0 (MQ below (va_Qv (fun T : ST => T = res) (PostW (wC a cI cZ) D cI cZ) (AC 24 a s.heap.size)) ([.ref (a 11)] : List Value).toArray s 0 0 (AC 24 a s.heap.size)) (F0 m 0 ls []) by exact kS s.heap [] hP hS
  intro H locs hP hS
  unfold mX2_forget at hm
  refine lv_aload_n hx hb dX2_forget_0 rfl (lv_at hl 0 rfl) ?_
  refine lv_iconst (v := (1 : Int32)) hx hb dX2_forget_1 (by decide) ?_
  refine pC_X2_stale X hK hA hP hS iX2 (List.mem_of_getElem? (i := 1) rfl) ⟨rfl, rfl⟩ dX2_forget_2 (fun H locs hP hS => ?_)
  refine lv_aload_n hx hb dX2_forget_5 rfl (lv_at hl 0 rfl) ?_
  refine gC_X2_worths X hK hP iX2 (List.mem_of_getElem? (i := 2) rfl) dX2_forget_6 ?_
  obtain ⟨r1, hr1, hm⟩ := bd_ok hm
  refine callWV (wf := wC a cI cZ) (rest := []) X hK hNW hml hP hS hl.1 (kX5_forget l D a cI cZ hA (sI S 11 (1 : Int32)) H.size  r1 hr1) (cwV 0 X.2.2.1 gX2_forget_X5_forget rfl rfl rfl (by decide +kernel) ⟨Nat.le_of_ble_eq_true rfl, Nat.le_of_ble_eq_true rfl⟩) (vC_X5 hK hP) rfl rfl (Nat.le_of_ble_eq_true rfl) dX2_forget_9 ⟨Nat.zero_le _, Nat.zero_le _⟩ (fun H locs hP hS => ?_)
  exact endV X hK hr hlocks hm hP hS dX2_forget_12

def rmX2_firstCut : Room := { frames := 3, cells := 0, slots := 0, locals := 72 }
set_option maxHeartbeats 4000000 in
set_option maxRecDepth 100000 in
theorem kX2_firstCut (l : Launch) (D : va_G) (a : Nat → Nat) (cI cZ : ClassId) (S : ST) (p1 : Int32) (p2 : Int32) (p3 : Int32) (p4 : Int32) (p5 : Int32) (p6 : Int32) (res : Int32) (hm : mX2_firstCut S p1 p2 p3 p4 p5 p6 = some res) : Met l yX2_firstCut wsX2_firstCut rmX2_firstCut (va_Pc [.ref (a 11), .int p1, .int p2, .int p3, .int p4, .int p5, .int p6] (PreR (wC a cI cZ S) D cI cZ)) (vp_Si (fun r => r = res)) 0 0 (fun _ => False) := by
  refine metB (cc := cX2_firstCut) (maxL := 12) (ret := (some .int)) (by decide) rfl (Nat.le_of_ble_eq_true rfl) ?_
  intro p e s m below meth c ls X hml hr hlocks hin hv hl
  replace X : CX p m c cX2_firstCut s ([.ref (a 11), .int p1, .int p2, .int p3, .int p4, .int p5, .int p6] : List Value).toArray wsX2_firstCut RX2 := X
  obtain ⟨hP, hK, hNW⟩ := hv
  have hx := X.1
  have hb := X.2.1
  replace hl : lv_has ls 12 [(0, .ref (a 11)), (1, .int p1), (2, .int p2), (3, .int p3), (4, .int p4), (5, .int p5), (6, .int p6)] := hl
  have iX2 : ∀ w ∈ wsX20, w ∈ wsX2_firstCut := fun w h => List.mem_cons_of_mem _ (List.mem_append_left _ (List.mem_append_left _ (List.mem_append_right _ h)))
  have iX4 : ∀ w ∈ wsX40, w ∈ wsX2_firstCut := fun w h => List.mem_cons_of_mem _ (List.mem_append_left _ (List.mem_append_right _ h))
  have iX5 : ∀ w ∈ wsX50, w ∈ wsX2_firstCut := fun w h => List.mem_cons_of_mem _ (List.mem_append_right _ h)
  unfold mX2_firstCut at hm
  refine lv_aload_n hx hb dX2_firstCut_0 rfl (lv_at hl 0 rfl) ?_
  refine gC_X2_sheet X hK hP iX2 (List.mem_of_getElem? (i := 1) rfl) dX2_firstCut_1 ?_
  refine lv_iload_n hx hb dX2_firstCut_4 rfl (lv_at hl 3 rfl) ?_
  refine lv_iload hx hb dX2_firstCut_5 (lv_at hl 4 rfl) ?_
  refine lv_iload hx hb dX2_firstCut_7 (lv_at hl 5 rfl) ?_
  obtain ⟨r1, hr1, hm⟩ := bd_ok hm
  refine callRV (rest := []) X hK hNW hml hP hl.1 (kX4_lastCut l D a cI cZ S p3 p4 p5 r1 hr1) (cwV 3 X.2.2.1 gX2_firstCut_X4_lastCut rfl rfl rfl (by decide +kernel) ⟨Nat.le_of_ble_eq_true rfl, Nat.le_of_ble_eq_true rfl⟩) (vC_X4 hK hP) rfl rfl (Nat.le_of_ble_eq_true rfl) dX2_firstCut_9 ⟨Nat.zero_le _, Nat.zero_le _⟩ ?_
  refine lv_istore (lv' := [(7, .int r1), (0, .ref (a 11)), (1, .int p1), (2, .int p2), (3, .int p3), (4, .int p4), (5, .int p5), (6, .int p6)]) hx hb dX2_firstCut_12 hl (by decide) rfl (fun ls hl => ?_)
  refine lv_aload_n hx hb dX2_firstCut_14 rfl (lv_at hl 1 rfl) ?_
  refine gC_X2_sheet X hK hP iX2 (List.mem_of_getElem? (i := 1) rfl) dX2_firstCut_15 ?_
  refine lv_iload hx hb dX2_firstCut_18 (lv_at hl 6 rfl) ?_
  obtain ⟨r2, hr2, hm⟩ := bd_ok hm
  refine callRV (rest := []) X hK hNW hml hP hl.1 (kX4_partsWidth l D a cI cZ S p5 r2 hr2) (cwV 1 X.2.2.1 gX2_firstCut_X4_partsWidth rfl rfl rfl (by decide +kernel) ⟨Nat.le_of_ble_eq_true rfl, Nat.le_of_ble_eq_true rfl⟩) (vC_X4 hK hP) rfl rfl (Nat.le_of_ble_eq_true rfl) dX2_firstCut_20 ⟨Nat.zero_le _, Nat.zero_le _⟩ ?_
  refine lv_istore (lv' := [(8, .int r2), (7, .int r1), (0, .ref (a 11)), (1, .int p1), (2, .int p2), (3, .int p3), (4, .int p4), (5, .int p5), (6, .int p6)]) hx hb dX2_firstCut_23 hl (by decide) rfl (fun ls hl => ?_)
  refine lv_iconst (v := (1 : Int32)) hx hb dX2_firstCut_25 (by decide) ?_
  refine lv_istore (lv' := [(9, .int (1 : Int32)), (8, .int r2), (7, .int r1), (0, .ref (a 11)), (1, .int p1), (2, .int p2), (3, .int p3), (4, .int p4), (5, .int p5), (6, .int p6)]) hx hb dX2_firstCut_26 hl (by decide) rfl (fun ls hl => ?_)
  have kb28 : ∀ (k x : Int32 → Option (Int32)), (∀ (v9_28 : Int32) (ls : Array Slot), lv_has ls 12 [(0, .ref (a 11)), (1, .int p1), (2, .int p2), (3, .int p3), (4, .int p4), (5, .int p5), (6, .int p6), (7, .int r1), (8, .int r2), (9, .int v9_28)] → k v9_28 = some res → W p l e rmX2_firstCut s m ([.ref (a 11), .int p1, .int p2, .int p3, .int p4, .int p5, .int p6] : List Value).toArray below meth c s.heap [] 0 0 (MQ below (vp_Si (fun r => r = res)) ([.ref (a 11), .int p1, .int p2, .int p3, .int p4, .int p5, .int p6] : List Value).toArray s 0 0 (fun _ => False)) (F0 m 28 ls [])) → (∀ (v9_28 : Int32) (ls : Array Slot), lv_has ls 12 [(0, .ref (a 11)), (1, .int p1), (2, .int p2), (3, .int p3), (4, .int p4), (5, .int p5), (6, .int p6), (7, .int r1), (8, .int r2), (9, .int v9_28)] → x v9_28 = some res → W p l e rmX2_firstCut s m ([.ref (a 11), .int p1, .int p2, .int p3, .int p4, .int p5, .int p6] : List Value).toArray below meth c s.heap [] 0 0 (MQ below (vp_Si (fun r => r = res)) ([.ref (a 11), .int p1, .int p2, .int p3, .int p4, .int p5, .int p6] : List Value).toArray s 0 0 (fun _ => False)) (F0 m 144 ls [])) → ∀ (v9_28 : Int32) (ls : Array Slot), lv_has ls 12 [(0, .ref (a 11)), (1, .int p1), (2, .int p2), (3, .int p3), (4, .int p4), (5, .int p5), (6, .int p6), (7, .int r1), (8, .int r2), (9, .int v9_28)] → mX2_firstCut_B28 k x S p1 p2 p3 p4 p5 p6 r1 r2 v9_28 = some res → W p l e rmX2_firstCut s m ([.ref (a 11), .int p1, .int p2, .int p3, .int p4, .int p5, .int p6] : List Value).toArray below meth c s.heap [] 0 0 (MQ below (vp_Si (fun r => r = res)) ([.ref (a 11), .int p1, .int p2, .int p3, .int p4, .int p5, .int p6] : List Value).toArray s 0 0 (fun _ => False)) (F0 m 28 ls []) := by
    intro k x ih kxh v9_28 ls hl hm
    unfold mX2_firstCut_B28 at hm
    refine lv_iload hx hb dX2_firstCut_28 (lv_at hl 9 rfl) ?_
    refine lv_iload hx hb dX2_firstCut_30 (lv_at hl 7 rfl) ?_
    refine lv_icmp_gt (tgt := 144) hx hb dX2_firstCut_32 (by decide) (fun hc => ?_) (fun hc => ?_)
    · replace hm := (if_pos hc).symm.trans hm
      exact kxh v9_28 ls (lv_sub hl [0, 1, 2, 3, 4, 5, 6, 7, 8, 9] rfl) hm
    · replace hm := (if_neg hc).symm.trans hm
      refine lv_iload hx hb dX2_firstCut_35 (lv_at hl 9 rfl) ?_
      refine lv_aload_n hx hb dX2_firstCut_37 rfl (lv_at hl 0 rfl) ?_
      refine gC_X2_sheet X hK hP iX2 (List.mem_of_getElem? (i := 1) rfl) dX2_firstCut_38 ?_
      refine gC_X4_kerf X hK hP iX4 (List.mem_of_getElem? (i := 2) rfl) dX2_firstCut_41 ?_
      refine lv_iadd hx hb dX2_firstCut_44 ?_
      refine lv_istore (lv' := [(10, .int (v9_28 + (S.1 2))), (0, .ref (a 11)), (1, .int p1), (2, .int p2), (3, .int p3), (4, .int p4), (5, .int p5), (6, .int p6), (7, .int r1), (8, .int r2), (9, .int v9_28)]) hx hb dX2_firstCut_45 hl (by decide) rfl (fun ls hl => ?_)
      refine lv_iload hx hb dX2_firstCut_47 (lv_at hl 9 rfl) ?_
      have kJ126 : ∀ (v10_126 : Int32) (t0_126 : Int32) (ls : Array Slot), lv_has ls 12 [(0, .ref (a 11)), (1, .int p1), (2, .int p2), (3, .int p3), (4, .int p4), (5, .int p5), (6, .int p6), (7, .int r1), (8, .int r2), (9, .int v9_28), (10, .int v10_126)] → mX2_firstCut_J126 k x S p1 p2 p3 p4 p5 p6 r1 r2 v9_28 v10_126 t0_126 = some res → W p l e rmX2_firstCut s m ([.ref (a 11), .int p1, .int p2, .int p3, .int p4, .int p5, .int p6] : List Value).toArray below meth c s.heap [] 0 0 (MQ below (vp_Si (fun r => r = res)) ([.ref (a 11), .int p1, .int p2, .int p3, .int p4, .int p5, .int p6] : List Value).toArray s 0 0 (fun _ => False)) (F0 m 126 ls [.int t0_126]) := by
        intro v10_126 t0_126 ls hl hm
        unfold mX2_firstCut_J126 at hm
        refine lv_istore (lv' := [(11, .int t0_126), (0, .ref (a 11)), (1, .int p1), (2, .int p2), (3, .int p3), (4, .int p4), (5, .int p5), (6, .int p6), (7, .int r1), (8, .int r2), (9, .int v9_28), (10, .int v10_126)]) hx hb dX2_firstCut_126 hl (by decide) rfl (fun ls hl => ?_)
        refine lv_iload hx hb dX2_firstCut_128 (lv_at hl 0 rfl) ?_
        refine lv_iload hx hb dX2_firstCut_130 (lv_at hl 7 rfl) ?_
        refine lv_icmp_ne (tgt := 138) hx hb dX2_firstCut_132 (by decide) (fun hc => ?_) (fun hc => ?_)
        · replace hm := (if_neg hc).symm.trans hm
          refine lv_iinc (v := (v9_28 + (1 : Int32))) (lv' := [(9, .int (v9_28 + (1 : Int32))), (11, .int t0_126), (0, .ref (a 11)), (1, .int p1), (2, .int p2), (3, .int p3), (4, .int p4), (5, .int p5), (6, .int p6), (7, .int r1), (8, .int r2), (10, .int v10_126)]) hx hb dX2_firstCut_138 hl (k := 10) rfl rfl (by decide) rfl (fun ls hl => ?_)
          refine lv_goto (tgt := 28) hx hb dX2_firstCut_141 (by decide) ?_
          exact ih (v9_28 + (1 : Int32)) ls (lv_sub hl [2, 3, 4, 5, 6, 7, 8, 9, 10, 0] rfl) hm
        · replace hm := (if_pos hc).symm.trans hm
          refine lv_iload hx hb dX2_firstCut_135 (lv_at hl 10 rfl) ?_
          exact endR X hr rfl hlocks hm dX2_firstCut_137
      refine lv_if_eq (tgt := 91) hx hb dX2_firstCut_49 (by decide) (fun hc => ?_) (fun hc => ?_)
      · replace hm := (if_pos hc).symm.trans hm
        refine lv_aload_n hx hb dX2_firstCut_91 rfl (lv_at hl 1 rfl) ?_
        refine gC_X2_worths X hK hP iX2 (List.mem_of_getElem? (i := 3) rfl) dX2_firstCut_92 ?_
        refine lv_iload_n hx hb dX2_firstCut_95 rfl (lv_at hl 2 rfl) ?_
        refine lv_iload_n hx hb dX2_firstCut_96 rfl (lv_at hl 3 rfl) ?_
        refine lv_iload_n hx hb dX2_firstCut_97 rfl (lv_at hl 4 rfl) ?_
        refine lv_iload hx hb dX2_firstCut_98 (lv_at hl 10 rfl) ?_
        refine lv_iload hx hb dX2_firstCut_100 (lv_at hl 6 rfl) ?_
        obtain ⟨r3, hr3, hm⟩ := bd_ok hm
        refine callRV (rest := []) X hK hNW hml hP hl.1 (kX5_of l D a cI cZ S p1 p2 p3 v9_28 p5 r3 hr3) (cwV 5 X.2.2.1 gX2_firstCut_X5_of rfl rfl rfl (by decide +kernel) ⟨Nat.le_of_ble_eq_true rfl, Nat.le_of_ble_eq_true rfl⟩) (vC_X5 hK hP) rfl rfl (Nat.le_of_ble_eq_true rfl) dX2_firstCut_102 ⟨Nat.zero_le _, Nat.zero_le _⟩ ?_
        refine lv_aload_n hx hb dX2_firstCut_105 rfl (lv_at hl 1 rfl) ?_
        refine gC_X2_worths X hK hP iX2 (List.mem_of_getElem? (i := 3) rfl) dX2_firstCut_106 ?_
        refine lv_iload_n hx hb dX2_firstCut_109 rfl (lv_at hl 2 rfl) ?_
        refine lv_iload_n hx hb dX2_firstCut_110 rfl (lv_at hl 3 rfl) ?_
        refine lv_iload hx hb dX2_firstCut_111 (lv_at hl 0 rfl) ?_
        refine lv_iadd hx hb dX2_firstCut_113 ?_
        refine lv_iload_n hx hb dX2_firstCut_114 rfl (lv_at hl 4 rfl) ?_
        refine lv_iload hx hb dX2_firstCut_115 (lv_at hl 5 rfl) ?_
        refine lv_iload hx hb dX2_firstCut_117 (lv_at hl 0 rfl) ?_
        refine lv_isub hx hb dX2_firstCut_119 ?_
        refine lv_iload hx hb dX2_firstCut_120 (lv_at hl 6 rfl) ?_
        obtain ⟨r4, hr4, hm⟩ := bd_ok hm
        refine callRV (rest := [.int r3]) X hK hNW hml hP hl.1 (kX5_of l D a cI cZ S p1 (p2 + (v9_28 + (S.1 2))) p3 (p4 - (v9_28 + (S.1 2))) p5 r4 hr4) (cwV 5 X.2.2.1 gX2_firstCut_X5_of rfl rfl rfl (by decide +kernel) ⟨Nat.le_of_ble_eq_true rfl, Nat.le_of_ble_eq_true rfl⟩) (vC_X5 hK hP) rfl rfl (Nat.le_of_ble_eq_true rfl) dX2_firstCut_122 ⟨Nat.zero_le _, Nat.zero_le _⟩ ?_
        refine lv_iadd hx hb dX2_firstCut_125 ?_
        exact kJ126 (v9_28 + (S.1 2)) (r3 + r4) ls (lv_sub hl [1, 2, 3, 4, 5, 6, 7, 8, 9, 10, 0] rfl) hm
      · replace hm := (if_neg hc).symm.trans hm
        refine lv_aload_n hx hb dX2_firstCut_52 rfl (lv_at hl 1 rfl) ?_
        refine gC_X2_worths X hK hP iX2 (List.mem_of_getElem? (i := 3) rfl) dX2_firstCut_53 ?_
        refine lv_iload_n hx hb dX2_firstCut_56 rfl (lv_at hl 2 rfl) ?_
        refine lv_iload_n hx hb dX2_firstCut_57 rfl (lv_at hl 3 rfl) ?_
        refine lv_iload hx hb dX2_firstCut_58 (lv_at hl 10 rfl) ?_
        refine lv_iload hx hb dX2_firstCut_60 (lv_at hl 5 rfl) ?_
        refine lv_iload hx hb dX2_firstCut_62 (lv_at hl 6 rfl) ?_
        obtain ⟨r5, hr5, hm⟩ := bd_ok hm
        refine callRV (rest := []) X hK hNW hml hP hl.1 (kX5_of l D a cI cZ S p1 p2 v9_28 p4 p5 r5 hr5) (cwV 5 X.2.2.1 gX2_firstCut_X5_of rfl rfl rfl (by decide +kernel) ⟨Nat.le_of_ble_eq_true rfl, Nat.le_of_ble_eq_true rfl⟩) (vC_X5 hK hP) rfl rfl (Nat.le_of_ble_eq_true rfl) dX2_firstCut_64 ⟨Nat.zero_le _, Nat.zero_le _⟩ ?_
        refine lv_aload_n hx hb dX2_firstCut_67 rfl (lv_at hl 1 rfl) ?_
        refine gC_X2_worths X hK hP iX2 (List.mem_of_getElem? (i := 3) rfl) dX2_firstCut_68 ?_
        refine lv_iload_n hx hb dX2_firstCut_71 rfl (lv_at hl 2 rfl) ?_
        refine lv_iload hx hb dX2_firstCut_72 (lv_at hl 0 rfl) ?_
        refine lv_iadd hx hb dX2_firstCut_74 ?_
        refine lv_iload_n hx hb dX2_firstCut_75 rfl (lv_at hl 3 rfl) ?_
        refine lv_iload_n hx hb dX2_firstCut_76 rfl (lv_at hl 4 rfl) ?_
        refine lv_iload hx hb dX2_firstCut_77 (lv_at hl 0 rfl) ?_
        refine lv_isub hx hb dX2_firstCut_79 ?_
        refine lv_iload hx hb dX2_firstCut_80 (lv_at hl 5 rfl) ?_
        refine lv_iload hx hb dX2_firstCut_82 (lv_at hl 6 rfl) ?_
        obtain ⟨r6, hr6, hm⟩ := bd_ok hm
        refine callRV (rest := [.int r5]) X hK hNW hml hP hl.1 (kX5_of l D a cI cZ S (p1 + (v9_28 + (S.1 2))) p2 (p3 - (v9_28 + (S.1 2))) p4 p5 r6 hr6) (cwV 5 X.2.2.1 gX2_firstCut_X5_of rfl rfl rfl (by decide +kernel) ⟨Nat.le_of_ble_eq_true rfl, Nat.le_of_ble_eq_true rfl⟩) (vC_X5 hK hP) rfl rfl (Nat.le_of_ble_eq_true rfl) dX2_firstCut_84 ⟨Nat.zero_le _, Nat.zero_le _⟩ ?_
        refine lv_iadd hx hb dX2_firstCut_87 ?_
        refine lv_goto (tgt := 126) hx hb dX2_firstCut_88 (by decide) ?_
        exact kJ126 (v9_28 + (S.1 2)) (r5 + r6) ls (lv_sub hl [1, 2, 3, 4, 5, 6, 7, 8, 9, 10, 0] rfl) hm
  have kx28 : ∀ (v9_28 : Int32) (ls : Array Slot), lv_has ls 12 [(0, .ref (a 11)), (1, .int p1), (2, .int p2), (3, .int p3), (4, .int p4), (5, .int p5), (6, .int p6), (7, .int r1), (8, .int r2), (9, .int v9_28)] → mX2_firstCut_X28  S p1 p2 p3 p4 p5 p6 r1 r2 v9_28 = some res → W p l e rmX2_firstCut s m ([.ref (a 11), .int p1, .int p2, .int p3, .int p4, .int p5, .int p6] : List Value).toArray below meth c s.heap [] 0 0 (MQ below (vp_Si (fun r => r = res)) ([.ref (a 11), .int p1, .int p2, .int p3, .int p4, .int p5, .int p6] : List Value).toArray s 0 0 (fun _ => False)) (F0 m 144 ls []) := by
    intro v9_28 ls hl hm
    unfold mX2_firstCut_X28 at hm
    refine lv_iconst (v := (-1 : Int32)) hx hb dX2_firstCut_144 (by decide) ?_
    exact endR X hr rfl hlocks hm dX2_firstCut_145
  have lp28 : ∀ (n : Nat) (v9_28 : Int32) (ls : Array Slot), lv_has ls 12 [(0, .ref (a 11)), (1, .int p1), (2, .int p2), (3, .int p3), (4, .int p4), (5, .int p5), (6, .int p6), (7, .int r1), (8, .int r2), (9, .int v9_28)] → LPf (κ := Int32 → Option (Int32)) (fun _ => none) (fun kk => mX2_firstCut_B28 kk (mX2_firstCut_X28  S p1 p2 p3 p4 p5 p6 r1 r2) S p1 p2 p3 p4 p5 p6 r1 r2) n v9_28 = some res → W p l e rmX2_firstCut s m ([.ref (a 11), .int p1, .int p2, .int p3, .int p4, .int p5, .int p6] : List Value).toArray below meth c s.heap [] 0 0 (MQ below (vp_Si (fun r => r = res)) ([.ref (a 11), .int p1, .int p2, .int p3, .int p4, .int p5, .int p6] : List Value).toArray s 0 0 (fun _ => False)) (F0 m 28 ls []) := by
    intro n
    induction n with
    | zero =>
      intro v9_28 ls hl hm
      exact (noS (show (none : Option (Int32)) = some res from hm)).elim
    | succ n ih =>
      intro v9_28 ls hl hm
      exact kb28 _ _ ih kx28 v9_28 ls hl hm
  exact lp28 FU (1 : Int32) ls (lv_sub hl [3, 4, 5, 6, 7, 8, 9, 2, 1, 0] rfl) hm

def rmX2_addPiece : Room := { frames := 1, cells := 0, slots := 0, locals := 23 }
set_option maxHeartbeats 4000000 in
set_option maxRecDepth 100000 in
theorem kX2_addPiece (l : Launch) (D : va_G) (a : Nat → Nat) (cI cZ : ClassId) (hA : AP 24 a) (S : ST) (sz : Nat) (p1 : Int32) (p2 : Int32) (p3 : Int32) (p4 : Int32) (p5 : Int32) (res : ST) (hm : mX2_addPiece S p1 p2 p3 p4 p5 = some res) : Met l yX2_addPiece wsX2_addPiece rmX2_addPiece (va_Pc [.ref (a 11), .int p1, .int p2, .int p3, .int p4, .int p5] (PreW (wC a cI cZ S) D cI cZ sz)) (va_Qv (fun T : ST => T = res) (PostW (wC a cI cZ) D cI cZ) (AC 24 a sz)) 0 0 (AC 24 a sz) := by
  refine metB (cc := cX2_addPiece) (maxL := 7) (ret := none) (by decide) rfl (Nat.le_of_ble_eq_true rfl) ?_
  intro p e s m below meth c ls X hml hr hlocks hin hv hl
  replace X : CX p m c cX2_addPiece s ([.ref (a 11), .int p1, .int p2, .int p3, .int p4, .int p5] : List Value).toArray wsX2_addPiece RX2 := X
  obtain ⟨hsz, hP, hK, hNW⟩ := hv
  subst hsz
  have hS : va_S (AC 24 a s.heap.size) s.heap s.heap [] := va_S.rf
  have hx := X.1
  have hb := X.2.1
  replace hl : lv_has ls 7 [(0, .ref (a 11)), (1, .int p1), (2, .int p2), (3, .int p3), (4, .int p4), (5, .int p5)] := hl
  have iX2 : ∀ w ∈ wsX20, w ∈ wsX2_addPiece := fun w h => List.mem_cons_of_mem _ (List.mem_append_left _ (List.mem_append_right _ h))
  have iX1 : ∀ w ∈ wsX10, w ∈ wsX2_addPiece := fun w h => List.mem_cons_of_mem _ (List.mem_append_right _ h)
  suffices kS : ∀ (H : Heap) (locs : List Loc), va_P D vwCl (wC a cI cZ S) H → va_S (AC 24 a s.heap.size) s.heap H locs → W p l e rmX2_addPiece s m ([.ref (a 11), .int p1, .int p2, .int p3, .int p4, .int p5] : List Value).toArray below meth c H locs 0 0 (MQ below (va_Qv (fun T : ST => T = res) (PostW (wC a cI cZ) D cI cZ) (AC 24 a s.heap.size)) ([.ref (a 11), .int p1, .int p2, .int p3, .int p4, .int p5] : List Value).toArray s 0 0 (AC 24 a s.heap.size)) (F0 m 0 ls []) by exact kS s.heap [] hP hS
  intro H locs hP hS
  unfold mX2_addPiece at hm
  refine lv_aload_n hx hb dX2_addPiece_0 rfl (lv_at hl 0 rfl) ?_
  refine gC_X2_pieceCount X hK hP iX2 (List.mem_of_getElem? (i := 1) rfl) dX2_addPiece_1 ?_
  refine lv_sipush (v := (256 : Int32)) hx hb dX2_addPiece_4 (by decide) ?_
  refine lv_icmp_lt (tgt := 11) hx hb dX2_addPiece_7 (by decide) (fun hc => ?_) (fun hc => ?_)
  · replace hm := (if_pos hc).symm.trans hm
    refine lv_aload_n hx hb dX2_addPiece_11 rfl (lv_at hl 0 rfl) ?_
    refine gC_X2_pieceCount X hK hP iX2 (List.mem_of_getElem? (i := 1) rfl) dX2_addPiece_12 ?_
    refine lv_bipush (v := (6 : Int32)) hx hb dX2_addPiece_15 (by decide) ?_
    refine lv_imul hx hb dX2_addPiece_17 ?_
    refine lv_istore (lv' := [(6, .int ((S.1 8) * (6 : Int32))), (0, .ref (a 11)), (1, .int p1), (2, .int p2), (3, .int p3), (4, .int p4), (5, .int p5)]) hx hb dX2_addPiece_18 hl (by decide) rfl (fun ls hl => ?_)
    refine lv_aload_n hx hb dX2_addPiece_20 rfl (lv_at hl 1 rfl) ?_
    refine gC_X2_pieceFacts X hK hP iX2 (List.mem_of_getElem? (i := 2) rfl) dX2_addPiece_21 ?_
    refine lv_iload hx hb dX2_addPiece_24 (lv_at hl 0 rfl) ?_
    refine lv_iload_n hx hb dX2_addPiece_26 rfl (lv_at hl 2 rfl) ?_
    obtain ⟨h1, hm⟩ := gd_ok hm
    refine sC_X2_pieceFacts X hK hA hP hS h1 dX2_addPiece_27 (fun H locs hP hS => ?_)
    refine lv_aload_n hx hb dX2_addPiece_28 rfl (lv_at hl 1 rfl) ?_
    refine gC_X2_pieceFacts X hK hP iX2 (List.mem_of_getElem? (i := 2) rfl) dX2_addPiece_29 ?_
    refine lv_iload hx hb dX2_addPiece_32 (lv_at hl 0 rfl) ?_
    refine lv_iconst (v := (1 : Int32)) hx hb dX2_addPiece_34 (by decide) ?_
    refine lv_iadd hx hb dX2_addPiece_35 ?_
    refine lv_iload_n hx hb dX2_addPiece_36 rfl (lv_at hl 3 rfl) ?_
    obtain ⟨h1, hm⟩ := gd_ok hm
    refine sC_X2_pieceFacts X hK hA hP hS h1 dX2_addPiece_37 (fun H locs hP hS => ?_)
    refine lv_aload_n hx hb dX2_addPiece_38 rfl (lv_at hl 1 rfl) ?_
    refine gC_X2_pieceFacts X hK hP iX2 (List.mem_of_getElem? (i := 2) rfl) dX2_addPiece_39 ?_
    refine lv_iload hx hb dX2_addPiece_42 (lv_at hl 0 rfl) ?_
    refine lv_iconst (v := (2 : Int32)) hx hb dX2_addPiece_44 (by decide) ?_
    refine lv_iadd hx hb dX2_addPiece_45 ?_
    refine lv_iload_n hx hb dX2_addPiece_46 rfl (lv_at hl 4 rfl) ?_
    obtain ⟨h1, hm⟩ := gd_ok hm
    refine sC_X2_pieceFacts X hK hA hP hS h1 dX2_addPiece_47 (fun H locs hP hS => ?_)
    refine lv_aload_n hx hb dX2_addPiece_48 rfl (lv_at hl 1 rfl) ?_
    refine gC_X2_pieceFacts X hK hP iX2 (List.mem_of_getElem? (i := 2) rfl) dX2_addPiece_49 ?_
    refine lv_iload hx hb dX2_addPiece_52 (lv_at hl 0 rfl) ?_
    refine lv_iconst (v := (3 : Int32)) hx hb dX2_addPiece_54 (by decide) ?_
    refine lv_iadd hx hb dX2_addPiece_55 ?_
    refine lv_iload hx hb dX2_addPiece_56 (lv_at hl 5 rfl) ?_
    obtain ⟨h1, hm⟩ := gd_ok hm
    refine sC_X2_pieceFacts X hK hA hP hS h1 dX2_addPiece_58 (fun H locs hP hS => ?_)
    refine lv_aload_n hx hb dX2_addPiece_59 rfl (lv_at hl 1 rfl) ?_
    refine gC_X2_pieceFacts X hK hP iX2 (List.mem_of_getElem? (i := 2) rfl) dX2_addPiece_60 ?_
    refine lv_iload hx hb dX2_addPiece_63 (lv_at hl 0 rfl) ?_
    refine lv_iconst (v := (4 : Int32)) hx hb dX2_addPiece_65 (by decide) ?_
    refine lv_iadd hx hb dX2_addPiece_66 ?_
    refine lv_iload hx hb dX2_addPiece_67 (lv_at hl 6 rfl) ?_
    obtain ⟨h1, hm⟩ := gd_ok hm
    refine sC_X2_pieceFacts X hK hA hP hS h1 dX2_addPiece_69 (fun H locs hP hS => ?_)
    refine lv_aload_n hx hb dX2_addPiece_70 rfl (lv_at hl 1 rfl) ?_
    refine gC_X2_pieceFacts X hK hP iX2 (List.mem_of_getElem? (i := 2) rfl) dX2_addPiece_71 ?_
    refine lv_iload hx hb dX2_addPiece_74 (lv_at hl 0 rfl) ?_
    refine lv_iconst (v := (5 : Int32)) hx hb dX2_addPiece_76 (by decide) ?_
    refine lv_iadd hx hb dX2_addPiece_77 ?_
    refine lv_aload_n hx hb dX2_addPiece_78 rfl (lv_at hl 1 rfl) ?_
    refine gC_X2_kinds X hK hP iX2 (List.mem_of_getElem? (i := 3) rfl) dX2_addPiece_79 ?_
    refine lv_iload_n hx hb dX2_addPiece_82 rfl (lv_at hl 2 rfl) ?_
    refine lv_iload hx hb dX2_addPiece_83 (lv_at hl 5 rfl) ?_
    refine lv_iload hx hb dX2_addPiece_85 (lv_at hl 6 rfl) ?_
    obtain ⟨r1, hr1, hm⟩ := bd_ok hm
    refine callRV (rest := [.int (((S.1 8) * (6 : Int32)) + (5 : Int32)), .ref (a 12)]) X hK hNW hml hP hl.1 (kX1_lies l D a cI cZ (sG (sG (sG (sG (sG S 7 ((S.1 8) * (6 : Int32)) p1) 7 (((S.1 8) * (6 : Int32)) + (1 : Int32)) p2) 7 (((S.1 8) * (6 : Int32)) + (2 : Int32)) p3) 7 (((S.1 8) * (6 : Int32)) + (3 : Int32)) p4) 7 (((S.1 8) * (6 : Int32)) + (4 : Int32)) p5) p1 p4 p5 r1 hr1) (cwV 3 X.2.2.1 gX2_addPiece_X1_lies rfl rfl rfl (by decide +kernel) ⟨Nat.le_of_ble_eq_true rfl, Nat.le_of_ble_eq_true rfl⟩) (vC_X1 hK hP) rfl rfl (Nat.le_of_ble_eq_true rfl) dX2_addPiece_87 ⟨Nat.zero_le _, Nat.zero_le _⟩ ?_
    have kJ98 : ∀ (S_98 : ST) (H : Heap) (locs : List Loc) (v6_98 : Int32) (t0_98 : Int32) (t1_98 : Int32) (ls : Array Slot), va_P D vwCl (wC a cI cZ S_98) H → va_S (AC 24 a s.heap.size) s.heap H locs → lv_has ls 7 [(0, .ref (a 11)), (1, .int p1), (2, .int p2), (3, .int p3), (4, .int p4), (5, .int p5), (6, .int v6_98)] → mX2_addPiece_J98  S_98 p1 p2 p3 p4 p5 v6_98 t0_98 t1_98 = some res → W p l e rmX2_addPiece s m ([.ref (a 11), .int p1, .int p2, .int p3, .int p4, .int p5] : List Value).toArray below meth c H locs 0 0 (MQ below (va_Qv (fun T : ST => T = res) (PostW (wC a cI cZ) D cI cZ) (AC 24 a s.heap.size)) ([.ref (a 11), .int p1, .int p2, .int p3, .int p4, .int p5] : List Value).toArray s 0 0 (AC 24 a s.heap.size)) (F0 m 98 ls [.int t0_98, .int t1_98, .ref (a 12)]) := by
      intro S_98 H locs v6_98 t0_98 t1_98 ls hP hS hl hm
      unfold mX2_addPiece_J98 at hm
      obtain ⟨h1, hm⟩ := gd_ok hm
      refine sC_X2_pieceFacts X hK hA hP hS h1 dX2_addPiece_98 (fun H locs hP hS => ?_)
      refine lv_aload_n hx hb dX2_addPiece_99 rfl (lv_at hl 0 rfl) ?_
      refine lv_dup hx hb dX2_addPiece_100 rfl ?_
      refine gC_X2_pieceCount X hK hP iX2 (List.mem_of_getElem? (i := 1) rfl) dX2_addPiece_101 ?_
      refine lv_iconst (v := (1 : Int32)) hx hb dX2_addPiece_104 (by decide) ?_
      refine lv_iadd hx hb dX2_addPiece_105 ?_
      refine pC_X2_pieceCount X hK hA hP hS iX2 (List.mem_of_getElem? (i := 1) rfl) dX2_addPiece_106 (fun H locs hP hS => ?_)
      refine lv_aload_n hx hb dX2_addPiece_109 rfl (lv_at hl 0 rfl) ?_
      refine lv_dup hx hb dX2_addPiece_110 rfl ?_
      refine gC_X2_unused X hK hP iX2 (List.mem_of_getElem? (i := 4) rfl) dX2_addPiece_111 ?_
      refine lv_iload hx hb dX2_addPiece_114 (lv_at hl 4 rfl) ?_
      refine lv_iload hx hb dX2_addPiece_116 (lv_at hl 5 rfl) ?_
      refine lv_imul hx hb dX2_addPiece_118 ?_
      refine lv_isub hx hb dX2_addPiece_119 ?_
      refine pC_X2_unused X hK hA hP hS iX2 (List.mem_of_getElem? (i := 4) rfl) dX2_addPiece_120 (fun H locs hP hS => ?_)
      exact endV X hK hr hlocks hm hP hS dX2_addPiece_123
    refine lv_if_eq (tgt := 97) hx hb dX2_addPiece_90 (by decide) (fun hc => ?_) (fun hc => ?_)
    · replace hm := (if_pos hc).symm.trans hm
      refine lv_iconst (v := (1 : Int32)) hx hb dX2_addPiece_97 (by decide) ?_
      exact kJ98 (sG (sG (sG (sG (sG S 7 ((S.1 8) * (6 : Int32)) p1) 7 (((S.1 8) * (6 : Int32)) + (1 : Int32)) p2) 7 (((S.1 8) * (6 : Int32)) + (2 : Int32)) p3) 7 (((S.1 8) * (6 : Int32)) + (3 : Int32)) p4) 7 (((S.1 8) * (6 : Int32)) + (4 : Int32)) p5) H locs ((S.1 8) * (6 : Int32)) (1 : Int32) (((S.1 8) * (6 : Int32)) + (5 : Int32)) ls hP hS (lv_sub hl [1, 2, 3, 4, 5, 6, 0] rfl) hm
    · replace hm := (if_neg hc).symm.trans hm
      refine lv_iconst (v := (0 : Int32)) hx hb dX2_addPiece_93 (by decide) ?_
      refine lv_goto (tgt := 98) hx hb dX2_addPiece_94 (by decide) ?_
      exact kJ98 (sG (sG (sG (sG (sG S 7 ((S.1 8) * (6 : Int32)) p1) 7 (((S.1 8) * (6 : Int32)) + (1 : Int32)) p2) 7 (((S.1 8) * (6 : Int32)) + (2 : Int32)) p3) 7 (((S.1 8) * (6 : Int32)) + (3 : Int32)) p4) 7 (((S.1 8) * (6 : Int32)) + (4 : Int32)) p5) H locs ((S.1 8) * (6 : Int32)) (0 : Int32) (((S.1 8) * (6 : Int32)) + (5 : Int32)) ls hP hS (lv_sub hl [1, 2, 3, 4, 5, 6, 0] rfl) hm
  · replace hm := (if_neg hc).symm.trans hm
    exact endV X hK hr hlocks hm hP hS dX2_addPiece_10

def rmX2_addCut : Room := { frames := 1, cells := 0, slots := 0, locals := 21 }
set_option maxHeartbeats 4000000 in
set_option maxRecDepth 100000 in
theorem kX2_addCut (l : Launch) (D : va_G) (a : Nat → Nat) (cI cZ : ClassId) (hA : AP 24 a) (S : ST) (sz : Nat) (p1 : Int32) (p2 : Int32) (p3 : Int32) (p4 : Int32) (p5 : Int32) (p6 : Int32) (res : ST) (hm : mX2_addCut S p1 p2 p3 p4 p5 p6 = some res) : Met l yX2_addCut wsX2_addCut rmX2_addCut (va_Pc [.ref (a 11), .int p1, .int p2, .int p3, .int p4, .int p5, .int p6] (PreW (wC a cI cZ S) D cI cZ sz)) (va_Qv (fun T : ST => T = res) (PostW (wC a cI cZ) D cI cZ) (AC 24 a sz)) 0 0 (AC 24 a sz) := by
  refine metB (cc := cX2_addCut) (maxL := 9) (ret := none) (by decide) rfl (Nat.le_of_ble_eq_true rfl) ?_
  intro p e s m below meth c ls X hml hr hlocks hin hv hl
  replace X : CX p m c cX2_addCut s ([.ref (a 11), .int p1, .int p2, .int p3, .int p4, .int p5, .int p6] : List Value).toArray wsX2_addCut RX2 := X
  obtain ⟨hsz, hP, hK, hNW⟩ := hv
  subst hsz
  have hS : va_S (AC 24 a s.heap.size) s.heap s.heap [] := va_S.rf
  have hx := X.1
  have hb := X.2.1
  replace hl : lv_has ls 9 [(0, .ref (a 11)), (1, .int p1), (2, .int p2), (3, .int p3), (4, .int p4), (5, .int p5), (6, .int p6)] := hl
  have iX2 : ∀ w ∈ wsX20, w ∈ wsX2_addCut := fun w h => List.mem_cons_of_mem _ (List.mem_append_left _ (List.mem_append_right _ h))
  have iX4 : ∀ w ∈ wsX40, w ∈ wsX2_addCut := fun w h => List.mem_cons_of_mem _ (List.mem_append_right _ h)
  suffices kS : ∀ (H : Heap) (locs : List Loc), va_P D vwCl (wC a cI cZ S) H → va_S (AC 24 a s.heap.size) s.heap H locs → W p l e rmX2_addCut s m ([.ref (a 11), .int p1, .int p2, .int p3, .int p4, .int p5, .int p6] : List Value).toArray below meth c H locs 0 0 (MQ below (va_Qv (fun T : ST => T = res) (PostW (wC a cI cZ) D cI cZ) (AC 24 a s.heap.size)) ([.ref (a 11), .int p1, .int p2, .int p3, .int p4, .int p5, .int p6] : List Value).toArray s 0 0 (AC 24 a s.heap.size)) (F0 m 0 ls []) by exact kS s.heap [] hP hS
  intro H locs hP hS
  unfold mX2_addCut at hm
  refine lv_aload_n hx hb dX2_addCut_0 rfl (lv_at hl 0 rfl) ?_
  refine gC_X2_cutCount X hK hP iX2 (List.mem_of_getElem? (i := 1) rfl) dX2_addCut_1 ?_
  refine lv_sipush (v := (255 : Int32)) hx hb dX2_addCut_4 (by decide) ?_
  refine lv_icmp_lt (tgt := 11) hx hb dX2_addCut_7 (by decide) (fun hc => ?_) (fun hc => ?_)
  · replace hm := (if_pos hc).symm.trans hm
    refine lv_aload_n hx hb dX2_addCut_11 rfl (lv_at hl 0 rfl) ?_
    refine gC_X2_sheet X hK hP iX2 (List.mem_of_getElem? (i := 2) rfl) dX2_addCut_12 ?_
    refine lv_iload hx hb dX2_addCut_15 (lv_at hl 5 rfl) ?_
    obtain ⟨r1, hr1, hm⟩ := bd_ok hm
    refine callRV (rest := []) X hK hNW hml hP hl.1 (kX4_partsWidth l D a cI cZ S p5 r1 hr1) (cwV 1 X.2.2.1 gX2_addCut_X4_partsWidth rfl rfl rfl (by decide +kernel) ⟨Nat.le_of_ble_eq_true rfl, Nat.le_of_ble_eq_true rfl⟩) (vC_X4 hK hP) rfl rfl (Nat.le_of_ble_eq_true rfl) dX2_addCut_17 ⟨Nat.zero_le _, Nat.zero_le _⟩ ?_
    refine lv_istore (lv' := [(7, .int r1), (0, .ref (a 11)), (1, .int p1), (2, .int p2), (3, .int p3), (4, .int p4), (5, .int p5), (6, .int p6)]) hx hb dX2_addCut_20 hl (by decide) rfl (fun ls hl => ?_)
    refine lv_aload_n hx hb dX2_addCut_22 rfl (lv_at hl 1 rfl) ?_
    refine gC_X2_cutCount X hK hP iX2 (List.mem_of_getElem? (i := 1) rfl) dX2_addCut_23 ?_
    refine lv_bipush (v := (7 : Int32)) hx hb dX2_addCut_26 (by decide) ?_
    refine lv_imul hx hb dX2_addCut_28 ?_
    refine lv_istore (lv' := [(8, .int ((S.1 9) * (7 : Int32))), (7, .int r1), (0, .ref (a 11)), (1, .int p1), (2, .int p2), (3, .int p3), (4, .int p4), (5, .int p5), (6, .int p6)]) hx hb dX2_addCut_29 hl (by decide) rfl (fun ls hl => ?_)
    refine lv_aload_n hx hb dX2_addCut_31 rfl (lv_at hl 2 rfl) ?_
    refine gC_X2_cutFacts X hK hP iX2 (List.mem_of_getElem? (i := 3) rfl) dX2_addCut_32 ?_
    refine lv_iload hx hb dX2_addCut_35 (lv_at hl 0 rfl) ?_
    refine lv_iload hx hb dX2_addCut_37 (lv_at hl 7 rfl) ?_
    obtain ⟨h1, hm⟩ := gd_ok hm
    refine sC_X2_cutFacts X hK hA hP hS h1 dX2_addCut_39 (fun H locs hP hS => ?_)
    refine lv_aload_n hx hb dX2_addCut_40 rfl (lv_at hl 2 rfl) ?_
    refine gC_X2_cutFacts X hK hP iX2 (List.mem_of_getElem? (i := 3) rfl) dX2_addCut_41 ?_
    refine lv_iload hx hb dX2_addCut_44 (lv_at hl 0 rfl) ?_
    refine lv_iconst (v := (1 : Int32)) hx hb dX2_addCut_46 (by decide) ?_
    refine lv_iadd hx hb dX2_addCut_47 ?_
    refine lv_iload hx hb dX2_addCut_48 (lv_at hl 1 rfl) ?_
    have kJ58 : ∀ (S_58 : ST) (H : Heap) (locs : List Loc) (v8_58 : Int32) (t0_58 : Int32) (t1_58 : Int32) (ls : Array Slot), va_P D vwCl (wC a cI cZ S_58) H → va_S (AC 24 a s.heap.size) s.heap H locs → lv_has ls 9 [(0, .ref (a 11)), (1, .int p1), (2, .int p2), (3, .int p3), (4, .int p4), (5, .int p5), (6, .int p6), (7, .int r1), (8, .int v8_58)] → mX2_addCut_J58  S_58 p1 p2 p3 p4 p5 p6 r1 v8_58 t0_58 t1_58 = some res → W p l e rmX2_addCut s m ([.ref (a 11), .int p1, .int p2, .int p3, .int p4, .int p5, .int p6] : List Value).toArray below meth c H locs 0 0 (MQ below (va_Qv (fun T : ST => T = res) (PostW (wC a cI cZ) D cI cZ) (AC 24 a s.heap.size)) ([.ref (a 11), .int p1, .int p2, .int p3, .int p4, .int p5, .int p6] : List Value).toArray s 0 0 (AC 24 a s.heap.size)) (F0 m 58 ls [.int t0_58, .int t1_58, .ref (a 13)]) := by
      intro S_58 H locs v8_58 t0_58 t1_58 ls hP hS hl hm
      unfold mX2_addCut_J58 at hm
      obtain ⟨h1, hm⟩ := gd_ok hm
      refine sC_X2_cutFacts X hK hA hP hS h1 dX2_addCut_58 (fun H locs hP hS => ?_)
      refine lv_aload_n hx hb dX2_addCut_59 rfl (lv_at hl 0 rfl) ?_
      refine gC_X2_cutFacts X hK hP iX2 (List.mem_of_getElem? (i := 3) rfl) dX2_addCut_60 ?_
      refine lv_iload hx hb dX2_addCut_63 (lv_at hl 8 rfl) ?_
      refine lv_iconst (v := (2 : Int32)) hx hb dX2_addCut_65 (by decide) ?_
      refine lv_iadd hx hb dX2_addCut_66 ?_
      refine lv_iload hx hb dX2_addCut_67 (lv_at hl 7 rfl) ?_
      have kJ77 : ∀ (S_77 : ST) (H : Heap) (locs : List Loc) (t0_77 : Int32) (t1_77 : Int32) (ls : Array Slot), va_P D vwCl (wC a cI cZ S_77) H → va_S (AC 24 a s.heap.size) s.heap H locs → lv_has ls 9 [(0, .ref (a 11)), (1, .int p1), (2, .int p2), (3, .int p3), (4, .int p4), (5, .int p5), (6, .int p6), (7, .int r1), (8, .int v8_58)] → mX2_addCut_J77  S_77 p1 p2 p3 p4 p5 p6 r1 v8_58 t0_77 t1_77 = some res → W p l e rmX2_addCut s m ([.ref (a 11), .int p1, .int p2, .int p3, .int p4, .int p5, .int p6] : List Value).toArray below meth c H locs 0 0 (MQ below (va_Qv (fun T : ST => T = res) (PostW (wC a cI cZ) D cI cZ) (AC 24 a s.heap.size)) ([.ref (a 11), .int p1, .int p2, .int p3, .int p4, .int p5, .int p6] : List Value).toArray s 0 0 (AC 24 a s.heap.size)) (F0 m 77 ls [.int t0_77, .int t1_77, .ref (a 13)]) := by
        intro S_77 H locs t0_77 t1_77 ls hP hS hl hm
        unfold mX2_addCut_J77 at hm
        refine lv_iload hx hb dX2_addCut_77 (lv_at hl 6 rfl) ?_
        refine lv_iadd hx hb dX2_addCut_79 ?_
        obtain ⟨h1, hm⟩ := gd_ok hm
        refine sC_X2_cutFacts X hK hA hP hS h1 dX2_addCut_80 (fun H locs hP hS => ?_)
        refine lv_aload_n hx hb dX2_addCut_81 rfl (lv_at hl 0 rfl) ?_
        refine gC_X2_cutFacts X hK hP iX2 (List.mem_of_getElem? (i := 3) rfl) dX2_addCut_82 ?_
        refine lv_iload hx hb dX2_addCut_85 (lv_at hl 8 rfl) ?_
        refine lv_iconst (v := (3 : Int32)) hx hb dX2_addCut_87 (by decide) ?_
        refine lv_iadd hx hb dX2_addCut_88 ?_
        refine lv_iload_n hx hb dX2_addCut_89 rfl (lv_at hl 1 rfl) ?_
        obtain ⟨h1, hm⟩ := gd_ok hm
        refine sC_X2_cutFacts X hK hA hP hS h1 dX2_addCut_90 (fun H locs hP hS => ?_)
        refine lv_aload_n hx hb dX2_addCut_91 rfl (lv_at hl 0 rfl) ?_
        refine gC_X2_cutFacts X hK hP iX2 (List.mem_of_getElem? (i := 3) rfl) dX2_addCut_92 ?_
        refine lv_iload hx hb dX2_addCut_95 (lv_at hl 8 rfl) ?_
        refine lv_iconst (v := (4 : Int32)) hx hb dX2_addCut_97 (by decide) ?_
        refine lv_iadd hx hb dX2_addCut_98 ?_
        refine lv_iload_n hx hb dX2_addCut_99 rfl (lv_at hl 2 rfl) ?_
        obtain ⟨h1, hm⟩ := gd_ok hm
        refine sC_X2_cutFacts X hK hA hP hS h1 dX2_addCut_100 (fun H locs hP hS => ?_)
        refine lv_aload_n hx hb dX2_addCut_101 rfl (lv_at hl 0 rfl) ?_
        refine gC_X2_cutFacts X hK hP iX2 (List.mem_of_getElem? (i := 3) rfl) dX2_addCut_102 ?_
        refine lv_iload hx hb dX2_addCut_105 (lv_at hl 8 rfl) ?_
        refine lv_iconst (v := (5 : Int32)) hx hb dX2_addCut_107 (by decide) ?_
        refine lv_iadd hx hb dX2_addCut_108 ?_
        refine lv_iload_n hx hb dX2_addCut_109 rfl (lv_at hl 3 rfl) ?_
        obtain ⟨h1, hm⟩ := gd_ok hm
        refine sC_X2_cutFacts X hK hA hP hS h1 dX2_addCut_110 (fun H locs hP hS => ?_)
        refine lv_aload_n hx hb dX2_addCut_111 rfl (lv_at hl 0 rfl) ?_
        refine gC_X2_cutFacts X hK hP iX2 (List.mem_of_getElem? (i := 3) rfl) dX2_addCut_112 ?_
        refine lv_iload hx hb dX2_addCut_115 (lv_at hl 8 rfl) ?_
        refine lv_bipush (v := (6 : Int32)) hx hb dX2_addCut_117 (by decide) ?_
        refine lv_iadd hx hb dX2_addCut_119 ?_
        refine lv_iload hx hb dX2_addCut_120 (lv_at hl 4 rfl) ?_
        obtain ⟨h1, hm⟩ := gd_ok hm
        refine sC_X2_cutFacts X hK hA hP hS h1 dX2_addCut_122 (fun H locs hP hS => ?_)
        refine lv_aload_n hx hb dX2_addCut_123 rfl (lv_at hl 0 rfl) ?_
        refine lv_dup hx hb dX2_addCut_124 rfl ?_
        refine gC_X2_cutCount X hK hP iX2 (List.mem_of_getElem? (i := 1) rfl) dX2_addCut_125 ?_
        refine lv_iconst (v := (1 : Int32)) hx hb dX2_addCut_128 (by decide) ?_
        refine lv_iadd hx hb dX2_addCut_129 ?_
        refine pC_X2_cutCount X hK hA hP hS iX2 (List.mem_of_getElem? (i := 1) rfl) dX2_addCut_130 (fun H locs hP hS => ?_)
        exact endV X hK hr hlocks hm hP hS dX2_addCut_133
      refine lv_if_eq (tgt := 76) hx hb dX2_addCut_69 (by decide) (fun hc => ?_) (fun hc => ?_)
      · replace hm := (if_pos hc).symm.trans hm
        refine lv_iload_n hx hb dX2_addCut_76 rfl (lv_at hl 2 rfl) ?_
        exact kJ77 (sG S_58 8 t1_58 t0_58) H locs p2 (v8_58 + (2 : Int32)) ls hP hS (lv_sub hl [0, 1, 2, 3, 4, 5, 6, 7, 8] rfl) hm
      · replace hm := (if_neg hc).symm.trans hm
        refine lv_iload_n hx hb dX2_addCut_72 rfl (lv_at hl 1 rfl) ?_
        refine lv_goto (tgt := 77) hx hb dX2_addCut_73 (by decide) ?_
        exact kJ77 (sG S_58 8 t1_58 t0_58) H locs p1 (v8_58 + (2 : Int32)) ls hP hS (lv_sub hl [0, 1, 2, 3, 4, 5, 6, 7, 8] rfl) hm
    refine lv_if_eq (tgt := 57) hx hb dX2_addCut_50 (by decide) (fun hc => ?_) (fun hc => ?_)
    · replace hm := (if_pos hc).symm.trans hm
      refine lv_iconst (v := (1 : Int32)) hx hb dX2_addCut_57 (by decide) ?_
      exact kJ58 (sG S 8 ((S.1 9) * (7 : Int32)) p5) H locs ((S.1 9) * (7 : Int32)) (1 : Int32) (((S.1 9) * (7 : Int32)) + (1 : Int32)) ls hP hS (lv_sub hl [2, 3, 4, 5, 6, 7, 8, 1, 0] rfl) hm
    · replace hm := (if_neg hc).symm.trans hm
      refine lv_iconst (v := (0 : Int32)) hx hb dX2_addCut_53 (by decide) ?_
      refine lv_goto (tgt := 58) hx hb dX2_addCut_54 (by decide) ?_
      exact kJ58 (sG S 8 ((S.1 9) * (7 : Int32)) p5) H locs ((S.1 9) * (7 : Int32)) (0 : Int32) (((S.1 9) * (7 : Int32)) + (1 : Int32)) ls hP hS (lv_sub hl [2, 3, 4, 5, 6, 7, 8, 1, 0] rfl) hm
  · replace hm := (if_neg hc).symm.trans hm
    exact endV X hK hr hlocks hm hP hS dX2_addCut_10

def rmX2_lay (d : Nat) : Room := { frames := 10 + 2 * d, cells := 0, slots := 0, locals := 200 + 60 * d }
def rmX2_layBoth (d : Nat) : Room := { frames := 11 + 2 * d, cells := 0, slots := 0, locals := 230 + 60 * d }
set_option maxHeartbeats 4000000 in
set_option maxRecDepth 100000 in
theorem kX2_layBoth (l : Launch) (D : va_G) (a : Nat → Nat) (cI cZ : ClassId) (hA : AP 24 a) (d : Nat) (self : ST → Int32 → Int32 → Int32 → Int32 → Int32 → Int32 → Option ST) (hself : ∀ (S : ST) (sz : Nat) (q1 q2 q3 q4 q5 q6 : Int32) (res : ST), self S q1 q2 q3 q4 q5 q6 = some res → Met l yX2_lay wsX2_lay (rmX2_lay d) (va_Pc [.ref (a 11), .int q1, .int q2, .int q3, .int q4, .int q5, .int q6] (PreW (wC a cI cZ S) D cI cZ sz)) (va_Qv (fun T : ST => T = res) (PostW (wC a cI cZ) D cI cZ) (AC 24 a sz)) 0 0 (AC 24 a sz)) (S : ST) (sz : Nat) (p1 : Int32) (p2 : Int32) (p3 : Int32) (p4 : Int32) (p5 : Int32) (p6 : Int32) (p7 : Int32) (res : ST) (hm : mX2_layBoth self S p1 p2 p3 p4 p5 p6 p7 = some res) : Met l yX2_layBoth wsX2_layBoth (rmX2_layBoth d) (va_Pc [.ref (a 11), .int p1, .int p2, .int p3, .int p4, .int p5, .int p6, .int p7] (PreW (wC a cI cZ S) D cI cZ sz)) (va_Qv (fun T : ST => T = res) (PostW (wC a cI cZ) D cI cZ) (AC 24 a sz)) 0 0 (AC 24 a sz) := by
  refine metB (cc := cX2_layBoth) (maxL := 9) (ret := none) (by decide) rfl (Nat.le_of_ble_eq_true rfl) ?_
  intro p e s m below meth c ls X hml hr hlocks hin hv hl
  replace X : CX p m c cX2_layBoth s ([.ref (a 11), .int p1, .int p2, .int p3, .int p4, .int p5, .int p6, .int p7] : List Value).toArray wsX2_layBoth RX2 := X
  obtain ⟨hsz, hP, hK, hNW⟩ := hv
  subst hsz
  have hS : va_S (AC 24 a s.heap.size) s.heap s.heap [] := va_S.rf
  have hx := X.1
  have hb := X.2.1
  replace hl : lv_has ls 9 [(0, .ref (a 11)), (1, .int p1), (2, .int p2), (3, .int p3), (4, .int p4), (5, .int p5), (6, .int p6), (7, .int p7)] := hl
  have iX2 : ∀ w ∈ wsX20, w ∈ wsX2_layBoth := fun w h => List.mem_cons_of_mem _ (List.mem_append_left _ (List.mem_append_left _ (List.mem_append_left _ (List.mem_append_right _ h))))
  have iX4 : ∀ w ∈ wsX40, w ∈ wsX2_layBoth := fun w h => List.mem_cons_of_mem _ (List.mem_append_left _ (List.mem_append_left _ (List.mem_append_right _ h)))
  have iX5 : ∀ w ∈ wsX50, w ∈ wsX2_layBoth := fun w h => List.mem_cons_of_mem _ (List.mem_append_left _ (List.mem_append_right _ h))
  have iX1 : ∀ w ∈ wsX10, w ∈ wsX2_layBoth := fun w h => List.mem_cons_of_mem _ (List.mem_append_right _ h)
  suffices kS : ∀ (H : Heap) (locs : List Loc), va_P D vwCl (wC a cI cZ S) H → va_S (AC 24 a s.heap.size) s.heap H locs → W p l e (rmX2_layBoth d) s m ([.ref (a 11), .int p1, .int p2, .int p3, .int p4, .int p5, .int p6, .int p7] : List Value).toArray below meth c H locs 0 0 (MQ below (va_Qv (fun T : ST => T = res) (PostW (wC a cI cZ) D cI cZ) (AC 24 a s.heap.size)) ([.ref (a 11), .int p1, .int p2, .int p3, .int p4, .int p5, .int p6, .int p7] : List Value).toArray s 0 0 (AC 24 a s.heap.size)) (F0 m 0 ls []) by exact kS s.heap [] hP hS
  intro H locs hP hS
  unfold mX2_layBoth at hm
  refine lv_iload hx hb dX2_layBoth_0 (lv_at hl 6 rfl) ?_
  refine lv_aload_n hx hb dX2_layBoth_2 rfl (lv_at hl 0 rfl) ?_
  refine gC_X2_sheet X hK hP iX2 (List.mem_of_getElem? (i := 1) rfl) dX2_layBoth_3 ?_
  refine gC_X4_kerf X hK hP iX4 (List.mem_of_getElem? (i := 2) rfl) dX2_layBoth_6 ?_
  refine lv_iadd hx hb dX2_layBoth_9 ?_
  refine lv_istore (lv' := [(8, .int (p6 + (S.1 2))), (0, .ref (a 11)), (1, .int p1), (2, .int p2), (3, .int p3), (4, .int p4), (5, .int p5), (6, .int p6), (7, .int p7)]) hx hb dX2_layBoth_10 hl (by decide) rfl (fun ls hl => ?_)
  refine lv_aload_n hx hb dX2_layBoth_12 rfl (lv_at hl 1 rfl) ?_
  refine gC_X2_sheet X hK hP iX2 (List.mem_of_getElem? (i := 1) rfl) dX2_layBoth_13 ?_
  refine lv_iload hx hb dX2_layBoth_16 (lv_at hl 6 rfl) ?_
  obtain ⟨r1, hr1, hm⟩ := bd_ok hm
  refine callRV (rest := []) X hK hNW hml hP hl.1 (kX4_partsWidth l D a cI cZ S p5 r1 hr1) (cwV 1 X.2.2.1 gX2_layBoth_X4_partsWidth rfl rfl rfl (by decide +kernel) ⟨by show _ ≤ _; simp only [rmX2_layBoth, rmX4_partsWidth]; omega, by show _ ≤ _; simp only [rmX2_layBoth, rmX4_partsWidth]; omega⟩) (vC_X4 hK hP) rfl rfl (Nat.le_of_ble_eq_true rfl) dX2_layBoth_18 ⟨Nat.zero_le _, Nat.zero_le _⟩ ?_
  refine lv_if_eq (tgt := 60) hx hb dX2_layBoth_21 (by decide) (fun hc => ?_) (fun hc => ?_)
  · replace hm := (if_pos hc).symm.trans hm
    refine lv_aload_n hx hb dX2_layBoth_60 rfl (lv_at hl 1 rfl) ?_
    refine lv_iload_n hx hb dX2_layBoth_61 rfl (lv_at hl 2 rfl) ?_
    refine lv_iload_n hx hb dX2_layBoth_62 rfl (lv_at hl 3 rfl) ?_
    refine lv_iload_n hx hb dX2_layBoth_63 rfl (lv_at hl 4 rfl) ?_
    refine lv_iload hx hb dX2_layBoth_64 (lv_at hl 7 rfl) ?_
    refine lv_iload hx hb dX2_layBoth_66 (lv_at hl 6 rfl) ?_
    refine lv_iload hx hb dX2_layBoth_68 (lv_at hl 8 rfl) ?_
    obtain ⟨r2, hr2, hm⟩ := bd_ok hm
    refine callWV (wf := wC a cI cZ) (rest := []) X hK hNW hml hP hS hl.1 (hself S H.size p1 p2 p3 p6 p5 p7 r2 hr2) (cwV 6 X.2.2.1 gX2_layBoth_X2_lay rfl rfl rfl (by decide +kernel) ⟨by show _ ≤ _; simp only [rmX2_lay, rmX2_layBoth]; omega, by show _ ≤ _; simp only [rmX2_lay, rmX2_layBoth]; omega⟩) (vC_X2 hK hP) rfl rfl (Nat.le_of_ble_eq_true rfl) dX2_layBoth_70 ⟨Nat.zero_le _, Nat.zero_le _⟩ (fun H locs hP hS => ?_)
    refine lv_aload_n hx hb dX2_layBoth_73 rfl (lv_at hl 1 rfl) ?_
    refine lv_iload_n hx hb dX2_layBoth_74 rfl (lv_at hl 2 rfl) ?_
    refine lv_iload_n hx hb dX2_layBoth_75 rfl (lv_at hl 3 rfl) ?_
    refine lv_iload hx hb dX2_layBoth_76 (lv_at hl 0 rfl) ?_
    refine lv_iadd hx hb dX2_layBoth_78 ?_
    refine lv_iload_n hx hb dX2_layBoth_79 rfl (lv_at hl 4 rfl) ?_
    refine lv_iload hx hb dX2_layBoth_80 (lv_at hl 5 rfl) ?_
    refine lv_iload hx hb dX2_layBoth_82 (lv_at hl 0 rfl) ?_
    refine lv_isub hx hb dX2_layBoth_84 ?_
    refine lv_iload hx hb dX2_layBoth_85 (lv_at hl 6 rfl) ?_
    refine lv_iload hx hb dX2_layBoth_87 (lv_at hl 8 rfl) ?_
    obtain ⟨r3, hr3, hm⟩ := bd_ok hm
    refine callWV (wf := wC a cI cZ) (rest := []) X hK hNW hml hP hS hl.1 (hself r2 H.size p1 (p2 + (p6 + (S.1 2))) p3 (p4 - (p6 + (S.1 2))) p5 p7 r3 hr3) (cwV 6 X.2.2.1 gX2_layBoth_X2_lay rfl rfl rfl (by decide +kernel) ⟨by show _ ≤ _; simp only [rmX2_lay, rmX2_layBoth]; omega, by show _ ≤ _; simp only [rmX2_lay, rmX2_layBoth]; omega⟩) (vC_X2 hK hP) rfl rfl (Nat.le_of_ble_eq_true rfl) dX2_layBoth_89 ⟨Nat.zero_le _, Nat.zero_le _⟩ (fun H locs hP hS => ?_)
    exact endV X hK hr hlocks hm hP hS dX2_layBoth_92
  · replace hm := (if_neg hc).symm.trans hm
    refine lv_aload_n hx hb dX2_layBoth_24 rfl (lv_at hl 1 rfl) ?_
    refine lv_iload_n hx hb dX2_layBoth_25 rfl (lv_at hl 2 rfl) ?_
    refine lv_iload_n hx hb dX2_layBoth_26 rfl (lv_at hl 3 rfl) ?_
    refine lv_iload hx hb dX2_layBoth_27 (lv_at hl 7 rfl) ?_
    refine lv_iload hx hb dX2_layBoth_29 (lv_at hl 5 rfl) ?_
    refine lv_iload hx hb dX2_layBoth_31 (lv_at hl 6 rfl) ?_
    refine lv_iload hx hb dX2_layBoth_33 (lv_at hl 8 rfl) ?_
    obtain ⟨r4, hr4, hm⟩ := bd_ok hm
    refine callWV (wf := wC a cI cZ) (rest := []) X hK hNW hml hP hS hl.1 (hself S H.size p1 p2 p6 p4 p5 p7 r4 hr4) (cwV 6 X.2.2.1 gX2_layBoth_X2_lay rfl rfl rfl (by decide +kernel) ⟨by show _ ≤ _; simp only [rmX2_lay, rmX2_layBoth]; omega, by show _ ≤ _; simp only [rmX2_lay, rmX2_layBoth]; omega⟩) (vC_X2 hK hP) rfl rfl (Nat.le_of_ble_eq_true rfl) dX2_layBoth_35 ⟨Nat.zero_le _, Nat.zero_le _⟩ (fun H locs hP hS => ?_)
    refine lv_aload_n hx hb dX2_layBoth_38 rfl (lv_at hl 1 rfl) ?_
    refine lv_iload_n hx hb dX2_layBoth_39 rfl (lv_at hl 2 rfl) ?_
    refine lv_iload hx hb dX2_layBoth_40 (lv_at hl 0 rfl) ?_
    refine lv_iadd hx hb dX2_layBoth_42 ?_
    refine lv_iload_n hx hb dX2_layBoth_43 rfl (lv_at hl 3 rfl) ?_
    refine lv_iload_n hx hb dX2_layBoth_44 rfl (lv_at hl 4 rfl) ?_
    refine lv_iload hx hb dX2_layBoth_45 (lv_at hl 0 rfl) ?_
    refine lv_isub hx hb dX2_layBoth_47 ?_
    refine lv_iload hx hb dX2_layBoth_48 (lv_at hl 5 rfl) ?_
    refine lv_iload hx hb dX2_layBoth_50 (lv_at hl 6 rfl) ?_
    refine lv_iload hx hb dX2_layBoth_52 (lv_at hl 8 rfl) ?_
    obtain ⟨r5, hr5, hm⟩ := bd_ok hm
    refine callWV (wf := wC a cI cZ) (rest := []) X hK hNW hml hP hS hl.1 (hself r4 H.size (p1 + (p6 + (S.1 2))) p2 (p3 - (p6 + (S.1 2))) p4 p5 p7 r5 hr5) (cwV 6 X.2.2.1 gX2_layBoth_X2_lay rfl rfl rfl (by decide +kernel) ⟨by show _ ≤ _; simp only [rmX2_lay, rmX2_layBoth]; omega, by show _ ≤ _; simp only [rmX2_lay, rmX2_layBoth]; omega⟩) (vC_X2 hK hP) rfl rfl (Nat.le_of_ble_eq_true rfl) dX2_layBoth_54 ⟨Nat.zero_le _, Nat.zero_le _⟩ (fun H locs hP hS => ?_)
    refine lv_goto (tgt := 92) hx hb dX2_layBoth_57 (by decide) ?_
    exact endV X hK hr hlocks hm hP hS dX2_layBoth_92

set_option maxHeartbeats 4000000 in
set_option maxRecDepth 100000 in
theorem kX2_layF (l : Launch) (D : va_G) (a : Nat → Nat) (cI cZ : ClassId) (hA : AP 24 a) (d : Nat) (self : ST → Int32 → Int32 → Int32 → Int32 → Int32 → Int32 → Option ST) (hself : ∀ (S : ST) (sz : Nat) (q1 q2 q3 q4 q5 q6 : Int32) (res : ST), self S q1 q2 q3 q4 q5 q6 = some res → Met l yX2_lay wsX2_lay (rmX2_lay d) (va_Pc [.ref (a 11), .int q1, .int q2, .int q3, .int q4, .int q5, .int q6] (PreW (wC a cI cZ S) D cI cZ sz)) (va_Qv (fun T : ST => T = res) (PostW (wC a cI cZ) D cI cZ) (AC 24 a sz)) 0 0 (AC 24 a sz)) (S : ST) (sz : Nat) (p1 : Int32) (p2 : Int32) (p3 : Int32) (p4 : Int32) (p5 : Int32) (p6 : Int32) (res : ST) (hm : mX2_layF self S p1 p2 p3 p4 p5 p6 = some res) : Met l yX2_lay wsX2_lay (rmX2_lay (d + 1)) (va_Pc [.ref (a 11), .int p1, .int p2, .int p3, .int p4, .int p5, .int p6] (PreW (wC a cI cZ S) D cI cZ sz)) (va_Qv (fun T : ST => T = res) (PostW (wC a cI cZ) D cI cZ) (AC 24 a sz)) 0 0 (AC 24 a sz) := by
  refine metB (cc := cX2_lay) (maxL := 10) (ret := none) (by decide) rfl (Nat.le_of_ble_eq_true rfl) ?_
  intro p e s m below meth c ls X hml hr hlocks hin hv hl
  replace X : CX p m c cX2_lay s ([.ref (a 11), .int p1, .int p2, .int p3, .int p4, .int p5, .int p6] : List Value).toArray wsX2_lay RX2 := X
  obtain ⟨hsz, hP, hK, hNW⟩ := hv
  subst hsz
  have hS : va_S (AC 24 a s.heap.size) s.heap s.heap [] := va_S.rf
  have hx := X.1
  have hb := X.2.1
  replace hl : lv_has ls 10 [(0, .ref (a 11)), (1, .int p1), (2, .int p2), (3, .int p3), (4, .int p4), (5, .int p5), (6, .int p6)] := hl
  have iX2 : ∀ w ∈ wsX20, w ∈ wsX2_lay := fun w h => List.mem_cons_of_mem _ (List.mem_append_left _ (List.mem_append_left _ (List.mem_append_left _ (List.mem_append_right _ h))))
  have iX4 : ∀ w ∈ wsX40, w ∈ wsX2_lay := fun w h => List.mem_cons_of_mem _ (List.mem_append_left _ (List.mem_append_left _ (List.mem_append_right _ h)))
  have iX5 : ∀ w ∈ wsX50, w ∈ wsX2_lay := fun w h => List.mem_cons_of_mem _ (List.mem_append_left _ (List.mem_append_right _ h))
  have iX1 : ∀ w ∈ wsX10, w ∈ wsX2_lay := fun w h => List.mem_cons_of_mem _ (List.mem_append_right _ h)
  suffices kS : ∀ (H : Heap) (locs : List Loc), va_P D vwCl (wC a cI cZ S) H → va_S (AC 24 a s.heap.size) s.heap H locs → W p l e (rmX2_lay (d + 1)) s m ([.ref (a 11), .int p1, .int p2, .int p3, .int p4, .int p5, .int p6] : List Value).toArray below meth c H locs 0 0 (MQ below (va_Qv (fun T : ST => T = res) (PostW (wC a cI cZ) D cI cZ) (AC 24 a s.heap.size)) ([.ref (a 11), .int p1, .int p2, .int p3, .int p4, .int p5, .int p6] : List Value).toArray s 0 0 (AC 24 a s.heap.size)) (F0 m 0 ls []) by exact kS s.heap [] hP hS
  intro H locs hP hS
  unfold mX2_layF at hm
  refine lv_aload_n hx hb dX2_lay_0 rfl (lv_at hl 0 rfl) ?_
  refine gC_X2_worths X hK hP iX2 (List.mem_of_getElem? (i := 1) rfl) dX2_lay_1 ?_
  refine lv_iload_n hx hb dX2_lay_4 rfl (lv_at hl 1 rfl) ?_
  refine lv_iload_n hx hb dX2_lay_5 rfl (lv_at hl 2 rfl) ?_
  refine lv_iload_n hx hb dX2_lay_6 rfl (lv_at hl 3 rfl) ?_
  refine lv_iload hx hb dX2_lay_7 (lv_at hl 4 rfl) ?_
  refine lv_iload hx hb dX2_lay_9 (lv_at hl 5 rfl) ?_
  obtain ⟨r1, hr1, hm⟩ := bd_ok hm
  refine callRV (rest := []) X hK hNW hml hP hl.1 (kX5_of l D a cI cZ S p1 p2 p3 p4 p5 r1 hr1) (cwV 5 X.2.2.1 gX2_lay_X5_of rfl rfl rfl (by decide +kernel) ⟨by show _ ≤ _; simp only [rmX2_lay, rmX5_of]; omega, by show _ ≤ _; simp only [rmX2_lay, rmX5_of]; omega⟩) (vC_X5 hK hP) rfl rfl (Nat.le_of_ble_eq_true rfl) dX2_lay_11 ⟨Nat.zero_le _, Nat.zero_le _⟩ ?_
  refine lv_istore (lv' := [(7, .int r1), (0, .ref (a 11)), (1, .int p1), (2, .int p2), (3, .int p3), (4, .int p4), (5, .int p5), (6, .int p6)]) hx hb dX2_lay_14 hl (by decide) rfl (fun ls hl => ?_)
  refine lv_iload hx hb dX2_lay_16 (lv_at hl 0 rfl) ?_
  refine lv_if_eq (tgt := 28) hx hb dX2_lay_18 (by decide) (fun hc => ?_) (fun hc => ?_)
  · replace hm := (if_pos hc).symm.trans hm
    exact endV X hK hr hlocks hm hP hS dX2_lay_28
  · replace hm := (if_neg hc).symm.trans hm
    refine lv_iload hx hb dX2_lay_21 (lv_at hl 7 rfl) ?_
    refine lv_bipush (v := (34 : Int32)) hx hb dX2_lay_23 (by decide) ?_
    refine lv_icmp_le (tgt := 29) hx hb dX2_lay_25 (by decide) (fun hc => ?_) (fun hc => ?_)
    · replace hm := (if_pos hc).symm.trans hm
      refine lv_aload_n hx hb dX2_lay_29 rfl (lv_at hl 1 rfl) ?_
      refine gC_X2_sheet X hK hP iX2 (List.mem_of_getElem? (i := 2) rfl) dX2_lay_30 ?_
      refine lv_iload_n hx hb dX2_lay_33 rfl (lv_at hl 2 rfl) ?_
      refine lv_iload_n hx hb dX2_lay_34 rfl (lv_at hl 3 rfl) ?_
      refine lv_iload_n hx hb dX2_lay_35 rfl (lv_at hl 4 rfl) ?_
      refine lv_iload hx hb dX2_lay_36 (lv_at hl 5 rfl) ?_
      obtain ⟨r2, hr2, hm⟩ := bd_ok hm
      refine callRV (rest := []) X hK hNW hml hP hl.1 (kX4_isClean l D a cI cZ S p1 p2 p3 p4 r2 hr2) (cwV 4 X.2.2.1 gX2_lay_X4_isClean rfl rfl rfl (by decide +kernel) ⟨by show _ ≤ _; simp only [rmX2_lay, rmX4_isClean]; omega, by show _ ≤ _; simp only [rmX2_lay, rmX4_isClean]; omega⟩) (vC_X4 hK hP) rfl rfl (Nat.le_of_ble_eq_true rfl) dX2_lay_38 ⟨Nat.zero_le _, Nat.zero_le _⟩ ?_
      have kJ60 : ∀ (t0_60 : Int32) (ls : Array Slot), lv_has ls 10 [(0, .ref (a 11)), (1, .int p1), (2, .int p2), (3, .int p3), (4, .int p4), (5, .int p5), (6, .int p6), (7, .int r1)] → mX2_lay_J60 self  S p1 p2 p3 p4 p5 p6 r1 t0_60 = some res → W p l e (rmX2_lay (d + 1)) s m ([.ref (a 11), .int p1, .int p2, .int p3, .int p4, .int p5, .int p6] : List Value).toArray below meth c H locs 0 0 (MQ below (va_Qv (fun T : ST => T = res) (PostW (wC a cI cZ) D cI cZ) (AC 24 a s.heap.size)) ([.ref (a 11), .int p1, .int p2, .int p3, .int p4, .int p5, .int p6] : List Value).toArray s 0 0 (AC 24 a s.heap.size)) (F0 m 60 ls [.int t0_60]) := by
        intro t0_60 ls hl hm
        unfold mX2_lay_J60 at hm
        refine lv_istore (lv' := [(8, .int t0_60), (0, .ref (a 11)), (1, .int p1), (2, .int p2), (3, .int p3), (4, .int p4), (5, .int p5), (6, .int p6), (7, .int r1)]) hx hb dX2_lay_60 hl (by decide) rfl (fun ls hl => ?_)
        refine lv_iload hx hb dX2_lay_62 (lv_at hl 0 rfl) ?_
        refine lv_iconst (v := (-1 : Int32)) hx hb dX2_lay_64 (by decide) ?_
        refine lv_icmp_eq (tgt := 80) hx hb dX2_lay_65 (by decide) (fun hc => ?_) (fun hc => ?_)
        · replace hm := (if_pos hc).symm.trans hm
          refine lv_aload_n hx hb dX2_lay_80 rfl (lv_at hl 1 rfl) ?_
          refine lv_iload_n hx hb dX2_lay_81 rfl (lv_at hl 2 rfl) ?_
          refine lv_iload_n hx hb dX2_lay_82 rfl (lv_at hl 3 rfl) ?_
          refine lv_iload_n hx hb dX2_lay_83 rfl (lv_at hl 4 rfl) ?_
          refine lv_iload hx hb dX2_lay_84 (lv_at hl 5 rfl) ?_
          refine lv_iload hx hb dX2_lay_86 (lv_at hl 6 rfl) ?_
          refine lv_iload hx hb dX2_lay_88 (lv_at hl 8 rfl) ?_
          obtain ⟨r3, hr3, hm⟩ := bd_ok hm
          refine callRV (rest := []) X hK hNW hml hP hl.1 (kX2_firstCut l D a cI cZ S p1 p2 p3 p4 p5 r1 r3 hr3) (cwV 6 X.2.2.1 gX2_lay_X2_firstCut rfl rfl rfl (by decide +kernel) ⟨by show _ ≤ _; simp only [rmX2_firstCut, rmX2_lay]; omega, by show _ ≤ _; simp only [rmX2_firstCut, rmX2_lay]; omega⟩) (vC_X2 hK hP) rfl rfl (Nat.le_of_ble_eq_true rfl) dX2_lay_90 ⟨Nat.zero_le _, Nat.zero_le _⟩ ?_
          refine lv_istore (lv' := [(9, .int r3), (8, .int t0_60), (0, .ref (a 11)), (1, .int p1), (2, .int p2), (3, .int p3), (4, .int p4), (5, .int p5), (6, .int p6), (7, .int r1)]) hx hb dX2_lay_93 hl (by decide) rfl (fun ls hl => ?_)
          refine lv_iload hx hb dX2_lay_95 (lv_at hl 0 rfl) ?_
          refine lv_iconst (v := (-1 : Int32)) hx hb dX2_lay_97 (by decide) ?_
          refine lv_icmp_eq (tgt := 134) hx hb dX2_lay_98 (by decide) (fun hc => ?_) (fun hc => ?_)
          · replace hm := (if_pos hc).symm.trans hm
            refine lv_iload hx hb dX2_lay_134 (lv_at hl 7 rfl) ?_
            refine lv_aload_n hx hb dX2_lay_136 rfl (lv_at hl 2 rfl) ?_
            refine gC_X2_sheet X hK hP iX2 (List.mem_of_getElem? (i := 2) rfl) dX2_lay_137 ?_
            refine gC_X4_stages X hK hP iX4 (List.mem_of_getElem? (i := 4) rfl) dX2_lay_140 ?_
            refine lv_icmp_ge (tgt := 163) hx hb dX2_lay_143 (by decide) (fun hc => ?_) (fun hc => ?_)
            · replace hm := (if_pos hc).symm.trans hm
              exact endV X hK hr hlocks hm hP hS dX2_lay_163
            · replace hm := (if_neg hc).symm.trans hm
              refine lv_aload_n hx hb dX2_lay_146 rfl (lv_at hl 2 rfl) ?_
              refine lv_iload_n hx hb dX2_lay_147 rfl (lv_at hl 3 rfl) ?_
              refine lv_iload_n hx hb dX2_lay_148 rfl (lv_at hl 4 rfl) ?_
              refine lv_iload_n hx hb dX2_lay_149 rfl (lv_at hl 5 rfl) ?_
              refine lv_iload hx hb dX2_lay_150 (lv_at hl 6 rfl) ?_
              refine lv_iload hx hb dX2_lay_152 (lv_at hl 7 rfl) ?_
              refine lv_iconst (v := (1 : Int32)) hx hb dX2_lay_154 (by decide) ?_
              refine lv_iadd hx hb dX2_lay_155 ?_
              refine lv_iload hx hb dX2_lay_156 (lv_at hl 8 rfl) ?_
              refine lv_iconst (v := (1 : Int32)) hx hb dX2_lay_158 (by decide) ?_
              refine lv_iadd hx hb dX2_lay_159 ?_
              obtain ⟨r4, hr4, hm⟩ := bd_ok hm
              refine callWV (wf := wC a cI cZ) (rest := []) X hK hNW hml hP hS hl.1 (hself S H.size p1 p2 p3 p4 (p5 + (1 : Int32)) (p6 + (1 : Int32)) r4 hr4) (cwV 6 X.2.2.1 gX2_lay_X2_lay rfl rfl rfl (by decide +kernel) ⟨by show _ ≤ _; simp only [rmX2_lay]; omega, by show _ ≤ _; simp only [rmX2_lay]; omega⟩) (vC_X2 hK hP) rfl rfl (Nat.le_of_ble_eq_true rfl) dX2_lay_160 ⟨Nat.zero_le _, Nat.zero_le _⟩ (fun H locs hP hS => ?_)
              exact endV X hK hr hlocks hm hP hS dX2_lay_163
          · replace hm := (if_neg hc).symm.trans hm
            refine lv_aload_n hx hb dX2_lay_101 rfl (lv_at hl 2 rfl) ?_
            refine lv_iload_n hx hb dX2_lay_102 rfl (lv_at hl 3 rfl) ?_
            refine lv_iload_n hx hb dX2_lay_103 rfl (lv_at hl 4 rfl) ?_
            refine lv_iload_n hx hb dX2_lay_104 rfl (lv_at hl 5 rfl) ?_
            refine lv_iload hx hb dX2_lay_105 (lv_at hl 6 rfl) ?_
            refine lv_iload hx hb dX2_lay_107 (lv_at hl 7 rfl) ?_
            refine lv_iload hx hb dX2_lay_109 (lv_at hl 0 rfl) ?_
            obtain ⟨r5, hr5, hm⟩ := bd_ok hm
            refine callWV (wf := wC a cI cZ) (rest := []) X hK hNW hml hP hS hl.1 (kX2_addCut l D a cI cZ hA S H.size p1 p2 p3 p4 p5 r3 r5 hr5) (cwV 6 X.2.2.1 gX2_lay_X2_addCut rfl rfl rfl (by decide +kernel) ⟨by show _ ≤ _; simp only [rmX2_addCut, rmX2_lay]; omega, by show _ ≤ _; simp only [rmX2_addCut, rmX2_lay]; omega⟩) (vC_X2 hK hP) rfl rfl (Nat.le_of_ble_eq_true rfl) dX2_lay_111 ⟨Nat.zero_le _, Nat.zero_le _⟩ (fun H locs hP hS => ?_)
            refine lv_aload_n hx hb dX2_lay_114 rfl (lv_at hl 2 rfl) ?_
            refine lv_iload_n hx hb dX2_lay_115 rfl (lv_at hl 3 rfl) ?_
            refine lv_iload_n hx hb dX2_lay_116 rfl (lv_at hl 4 rfl) ?_
            refine lv_iload_n hx hb dX2_lay_117 rfl (lv_at hl 5 rfl) ?_
            refine lv_iload hx hb dX2_lay_118 (lv_at hl 6 rfl) ?_
            refine lv_iload hx hb dX2_lay_120 (lv_at hl 7 rfl) ?_
            refine lv_iload hx hb dX2_lay_122 (lv_at hl 0 rfl) ?_
            refine lv_iload hx hb dX2_lay_124 (lv_at hl 8 rfl) ?_
            refine lv_iconst (v := (1 : Int32)) hx hb dX2_lay_126 (by decide) ?_
            refine lv_iadd hx hb dX2_lay_127 ?_
            obtain ⟨r6, hr6, hm⟩ := bd_ok hm
            refine callWV (wf := wC a cI cZ) (rest := []) X hK hNW hml hP hS hl.1 (kX2_layBoth l D a cI cZ hA d self hself r5 H.size p1 p2 p3 p4 p5 r3 (p6 + (1 : Int32)) r6 hr6) (cwV 7 X.2.2.1 gX2_lay_X2_layBoth rfl rfl rfl (by decide +kernel) ⟨by show _ ≤ _; simp only [rmX2_lay, rmX2_layBoth]; omega, by show _ ≤ _; simp only [rmX2_lay, rmX2_layBoth]; omega⟩) (vC_X2 hK hP) rfl rfl (Nat.le_of_ble_eq_true rfl) dX2_lay_128 ⟨Nat.zero_le _, Nat.zero_le _⟩ (fun H locs hP hS => ?_)
            refine lv_goto (tgt := 163) hx hb dX2_lay_131 (by decide) ?_
            exact endV X hK hr hlocks hm hP hS dX2_lay_163
        · replace hm := (if_neg hc).symm.trans hm
          refine lv_aload_n hx hb dX2_lay_68 rfl (lv_at hl 1 rfl) ?_
          refine lv_iload hx hb dX2_lay_69 (lv_at hl 0 rfl) ?_
          refine lv_iload_n hx hb dX2_lay_71 rfl (lv_at hl 2 rfl) ?_
          refine lv_iload_n hx hb dX2_lay_72 rfl (lv_at hl 3 rfl) ?_
          refine lv_iload_n hx hb dX2_lay_73 rfl (lv_at hl 4 rfl) ?_
          refine lv_iload hx hb dX2_lay_74 (lv_at hl 5 rfl) ?_
          obtain ⟨r7, hr7, hm⟩ := bd_ok hm
          refine callWV (wf := wC a cI cZ) (rest := []) X hK hNW hml hP hS hl.1 (kX2_addPiece l D a cI cZ hA S H.size t0_60 p1 p2 p3 p4 r7 hr7) (cwV 5 X.2.2.1 gX2_lay_X2_addPiece rfl rfl rfl (by decide +kernel) ⟨by show _ ≤ _; simp only [rmX2_addPiece, rmX2_lay]; omega, by show _ ≤ _; simp only [rmX2_addPiece, rmX2_lay]; omega⟩) (vC_X2 hK hP) rfl rfl (Nat.le_of_ble_eq_true rfl) dX2_lay_76 ⟨Nat.zero_le _, Nat.zero_le _⟩ (fun H locs hP hS => ?_)
          exact endV X hK hr hlocks hm hP hS dX2_lay_79
      refine lv_if_eq (tgt := 59) hx hb dX2_lay_41 (by decide) (fun hc => ?_) (fun hc => ?_)
      · replace hm := (if_pos hc).symm.trans hm
        refine lv_iconst (v := (-1 : Int32)) hx hb dX2_lay_59 (by decide) ?_
        exact kJ60 (-1 : Int32) ls (lv_sub hl [1, 2, 3, 4, 5, 6, 7, 0] rfl) hm
      · replace hm := (if_neg hc).symm.trans hm
        refine lv_aload_n hx hb dX2_lay_44 rfl (lv_at hl 1 rfl) ?_
        refine gC_X2_kinds X hK hP iX2 (List.mem_of_getElem? (i := 3) rfl) dX2_lay_45 ?_
        refine lv_iload_n hx hb dX2_lay_48 rfl (lv_at hl 4 rfl) ?_
        refine lv_iload hx hb dX2_lay_49 (lv_at hl 5 rfl) ?_
        refine lv_iload hx hb dX2_lay_51 (lv_at hl 0 rfl) ?_
        obtain ⟨r8, hr8, hm⟩ := bd_ok hm
        refine callRV (rest := []) X hK hNW hml hP hl.1 (kX1_firstOfValue l D a cI cZ S p3 p4 r1 r8 hr8) (cwV 3 X.2.2.1 gX2_lay_X1_firstOfValue rfl rfl rfl (by decide +kernel) ⟨by show _ ≤ _; simp only [rmX1_firstOfValue, rmX2_lay]; omega, by show _ ≤ _; simp only [rmX1_firstOfValue, rmX2_lay]; omega⟩) (vC_X1 hK hP) rfl rfl (Nat.le_of_ble_eq_true rfl) dX2_lay_53 ⟨Nat.zero_le _, Nat.zero_le _⟩ ?_
        refine lv_goto (tgt := 60) hx hb dX2_lay_56 (by decide) ?_
        exact kJ60 r8 ls (lv_sub hl [1, 2, 3, 4, 5, 6, 7, 0] rfl) hm
    · replace hm := (if_neg hc).symm.trans hm
      exact endV X hK hr hlocks hm hP hS dX2_lay_28

theorem kX2_lay (l : Launch) (D : va_G) (a : Nat → Nat) (cI cZ : ClassId) (hA : AP 24 a) : ∀ (d : Nat) (S : ST) (sz : Nat) (p1 p2 p3 p4 p5 p6 : Int32) (res : ST), mX2_lay d S p1 p2 p3 p4 p5 p6 = some res → Met l yX2_lay wsX2_lay (rmX2_lay d) (va_Pc [.ref (a 11), .int p1, .int p2, .int p3, .int p4, .int p5, .int p6] (PreW (wC a cI cZ S) D cI cZ sz)) (va_Qv (fun T : ST => T = res) (PostW (wC a cI cZ) D cI cZ) (AC 24 a sz)) 0 0 (AC 24 a sz) := by
  intro d
  induction d with
  | zero =>
    intro S sz p1 p2 p3 p4 p5 p6 res hm
    exact (noS (show (none : Option ST) = some res from hm)).elim
  | succ d ih =>
    intro S sz p1 p2 p3 p4 p5 p6 res hm
    exact kX2_layF l D a cI cZ hA d (mX2_lay d) ih S sz p1 p2 p3 p4 p5 p6 res hm

def rmX2_makeReady : Room := { frames := 91, cells := 0, slots := 0, locals := 2629 }
set_option maxHeartbeats 4000000 in
set_option maxRecDepth 100000 in
theorem kX2_makeReady (l : Launch) (D : va_G) (a : Nat → Nat) (cI cZ : ClassId) (hA : AP 24 a) (S : ST) (sz : Nat)  (res : ST) (hm : mX2_makeReady S  = some res) : Met l yX2_makeReady wsX2_makeReady rmX2_makeReady (va_Pc [.ref (a 11)] (PreW (wC a cI cZ S) D cI cZ sz)) (va_Qv (fun T : ST => T = res) (PostW (wC a cI cZ) D cI cZ) (AC 24 a sz)) 0 0 (AC 24 a sz) := by
  refine metB (cc := cX2_makeReady) (maxL := 1) (ret := none) (by decide) rfl (Nat.le_of_ble_eq_true rfl) ?_
  intro p e s m below meth c ls X hml hr hlocks hin hv hl
  replace X : CX p m c cX2_makeReady s ([.ref (a 11)] : List Value).toArray wsX2_makeReady RX2 := X
  obtain ⟨hsz, hP, hK, hNW⟩ := hv
  subst hsz
  have hS : va_S (AC 24 a s.heap.size) s.heap s.heap [] := va_S.rf
  have hx := X.1
  have hb := X.2.1
  replace hl : lv_has ls 1 [(0, .ref (a 11))] := hl
  have iX2 : ∀ w ∈ wsX20, w ∈ wsX2_makeReady := fun w h => List.mem_cons_of_mem _ (List.mem_append_left _ (List.mem_append_left _ (List.mem_append_left _ (List.mem_append_right _ h))))
  have iX4 : ∀ w ∈ wsX40, w ∈ wsX2_makeReady := fun w h => List.mem_cons_of_mem _ (List.mem_append_left _ (List.mem_append_left _ (List.mem_append_right _ h)))
  have iX5 : ∀ w ∈ wsX50, w ∈ wsX2_makeReady := fun w h => List.mem_cons_of_mem _ (List.mem_append_left _ (List.mem_append_right _ h))
  have iX1 : ∀ w ∈ wsX10, w ∈ wsX2_makeReady := fun w h => List.mem_cons_of_mem _ (List.mem_append_right _ h)
  suffices kS : ∀ (H : Heap) (locs : List Loc), va_P D vwCl (wC a cI cZ S) H → va_S (AC 24 a s.heap.size) s.heap H locs → W p l e rmX2_makeReady s m ([.ref (a 11)] : List Value).toArray below meth c H locs 0 0 (MQ below (va_Qv (fun T : ST => T = res) (PostW (wC a cI cZ) D cI cZ) (AC 24 a s.heap.size)) ([.ref (a 11)] : List Value).toArray s 0 0 (AC 24 a s.heap.size)) (F0 m 0 ls []) by exact kS s.heap [] hP hS
  intro H locs hP hS
  unfold mX2_makeReady at hm
  refine lv_aload_n hx hb dX2_makeReady_0 rfl (lv_at hl 0 rfl) ?_
  refine gC_X2_stale X hK hP iX2 (List.mem_of_getElem? (i := 1) rfl) dX2_makeReady_1 ?_
  refine lv_if_ne (tgt := 8) hx hb dX2_makeReady_4 (by decide) (fun hc => ?_) (fun hc => ?_)
  · replace hm := (if_neg hc).symm.trans hm
    refine lv_aload_n hx hb dX2_makeReady_8 rfl (lv_at hl 0 rfl) ?_
    refine gC_X2_worths X hK hP iX2 (List.mem_of_getElem? (i := 2) rfl) dX2_makeReady_9 ?_
    obtain ⟨r1, hr1, hm⟩ := bd_ok hm
    refine callWV (wf := wC a cI cZ) (rest := []) X hK hNW hml hP hS hl.1 (kX5_makeReady l D a cI cZ hA S H.size  r1 hr1) (cwV 0 X.2.2.1 gX2_makeReady_X5_makeReady rfl rfl rfl (by decide +kernel) ⟨Nat.le_of_ble_eq_true rfl, Nat.le_of_ble_eq_true rfl⟩) (vC_X5 hK hP) rfl rfl (Nat.le_of_ble_eq_true rfl) dX2_makeReady_12 ⟨Nat.zero_le _, Nat.zero_le _⟩ (fun H locs hP hS => ?_)
    refine lv_aload_n hx hb dX2_makeReady_15 rfl (lv_at hl 0 rfl) ?_
    refine lv_iconst (v := (0 : Int32)) hx hb dX2_makeReady_16 (by decide) ?_
    refine pC_X2_pieceCount X hK hA hP hS iX2 (List.mem_of_getElem? (i := 3) rfl) dX2_makeReady_17 (fun H locs hP hS => ?_)
    refine lv_aload_n hx hb dX2_makeReady_20 rfl (lv_at hl 0 rfl) ?_
    refine lv_iconst (v := (0 : Int32)) hx hb dX2_makeReady_21 (by decide) ?_
    refine pC_X2_cutCount X hK hA hP hS iX2 (List.mem_of_getElem? (i := 4) rfl) dX2_makeReady_22 (fun H locs hP hS => ?_)
    refine lv_aload_n hx hb dX2_makeReady_25 rfl (lv_at hl 0 rfl) ?_
    refine lv_aload_n hx hb dX2_makeReady_26 rfl (lv_at hl 0 rfl) ?_
    refine gC_X2_sheet X hK hP iX2 (List.mem_of_getElem? (i := 5) rfl) dX2_makeReady_27 ?_
    refine gC_X4_width X hK hP iX4 (List.mem_of_getElem? (i := 6) rfl) dX2_makeReady_30 ?_
    refine lv_aload_n hx hb dX2_makeReady_33 rfl (lv_at hl 0 rfl) ?_
    refine gC_X2_sheet X hK hP iX2 (List.mem_of_getElem? (i := 5) rfl) dX2_makeReady_34 ?_
    refine gC_X4_height X hK hP iX4 (List.mem_of_getElem? (i := 7) rfl) dX2_makeReady_37 ?_
    refine lv_imul hx hb dX2_makeReady_40 ?_
    refine pC_X2_unused X hK hA hP hS iX2 (List.mem_of_getElem? (i := 8) rfl) dX2_makeReady_41 (fun H locs hP hS => ?_)
    refine lv_aload_n hx hb dX2_makeReady_44 rfl (lv_at hl 0 rfl) ?_
    refine lv_iconst (v := (0 : Int32)) hx hb dX2_makeReady_45 (by decide) ?_
    refine lv_iconst (v := (0 : Int32)) hx hb dX2_makeReady_46 (by decide) ?_
    refine lv_aload_n hx hb dX2_makeReady_47 rfl (lv_at hl 0 rfl) ?_
    refine gC_X2_sheet X hK hP iX2 (List.mem_of_getElem? (i := 5) rfl) dX2_makeReady_48 ?_
    refine gC_X4_width X hK hP iX4 (List.mem_of_getElem? (i := 6) rfl) dX2_makeReady_51 ?_
    refine lv_aload_n hx hb dX2_makeReady_54 rfl (lv_at hl 0 rfl) ?_
    refine gC_X2_sheet X hK hP iX2 (List.mem_of_getElem? (i := 5) rfl) dX2_makeReady_55 ?_
    refine gC_X4_height X hK hP iX4 (List.mem_of_getElem? (i := 7) rfl) dX2_makeReady_58 ?_
    refine lv_iconst (v := (1 : Int32)) hx hb dX2_makeReady_61 (by decide) ?_
    refine lv_iconst (v := (1 : Int32)) hx hb dX2_makeReady_62 (by decide) ?_
    obtain ⟨r2, hr2, hm⟩ := bd_ok hm
    refine callWV (wf := wC a cI cZ) (rest := []) X hK hNW hml hP hS hl.1 (kX2_lay l D a cI cZ hA 40 (sI (sI (sI r1 8 (0 : Int32)) 9 (0 : Int32)) 10 ((r1.1 0) * (r1.1 1))) H.size (0 : Int32) (0 : Int32) (r1.1 0) (r1.1 1) (1 : Int32) (1 : Int32) r2 hr2) (cwV 6 X.2.2.1 gX2_makeReady_X2_lay rfl rfl rfl (by decide +kernel) ⟨Nat.le_of_ble_eq_true rfl, Nat.le_of_ble_eq_true rfl⟩) (vC_X2 hK hP) rfl rfl (Nat.le_of_ble_eq_true rfl) dX2_makeReady_63 ⟨Nat.zero_le _, Nat.zero_le _⟩ (fun H locs hP hS => ?_)
    refine lv_aload_n hx hb dX2_makeReady_66 rfl (lv_at hl 0 rfl) ?_
    refine lv_iconst (v := (0 : Int32)) hx hb dX2_makeReady_67 (by decide) ?_
    refine pC_X2_stale X hK hA hP hS iX2 (List.mem_of_getElem? (i := 1) rfl) ⟨rfl, rfl⟩ dX2_makeReady_68 (fun H locs hP hS => ?_)
    exact endV X hK hr hlocks hm hP hS dX2_makeReady_71
  · replace hm := (if_pos hc).symm.trans hm
    exact endV X hK hr hlocks hm hP hS dX2_makeReady_7
