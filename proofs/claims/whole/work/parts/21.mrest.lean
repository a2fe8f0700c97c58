/-! Mirrors and contracts. By walk.py. -/
def rmX7_layPlan : Room := { frames := 3, cells := 0, slots := 0, locals := 83 }
set_option maxHeartbeats 4000000 in
set_option maxRecDepth 100000 in
theorem kX7_layPlan (l : Launch) (D : va_G) (a : Nat → Nat) (cI cZ : ClassId) (hA : AP 31 a) (S : ST) (sz : Nat)  (res : ST) (hm : mX7_layPlan S  = some res) : Met l yX7_layPlan wsX7_layPlan rmX7_layPlan (va_Pc [.ref (a 0)] (PreW (wM a cI cZ S) D cI cZ sz)) (va_Qv (fun T : ST => T = res) (PostW (wM a cI cZ) D cI cZ) (AC 31 a sz)) 0 0 (AC 31 a sz) := by
  refine metB (cc := cX7_layPlan) (maxL := 1) (ret := none) (by decide) rfl (Nat.le_of_ble_eq_true rfl) ?_
  intro p e s m below meth c ls X hml hr hlocks hin hv hl
  replace X : CX p m c cX7_layPlan s ([.ref (a 0)] : List Value).toArray wsX7_layPlan RX7 := X
  obtain ⟨hsz, hP, hK, hNW⟩ := hv
  subst hsz
  have hS : va_S (AC 31 a s.heap.size) s.heap s.heap [] := va_S.rf
  have hx := X.1
  have hb := X.2.1
  replace hl : lv_has ls 1 [(0, .ref (a 0))] := hl
  have iX7 : ∀ w ∈ wsX70, w ∈ wsX7_layPlan := fun w h => List.mem_cons_of_mem _ (List.mem_append_right _ h)
  suffices kS : ∀ (H : Heap) (locs : List Loc), va_P D vwCl (wM a cI cZ S) H → va_S (AC 31 a s.heap.size) s.heap H locs → W p l e rmX7_layPlan s m ([.ref (a 0)] : List Value).toArray below meth c H locs 0 0 (MQ below (va_Qv (fun T : ST => T = res) (PostW (wM a cI cZ) D cI cZ) (AC 31 a s.heap.size)) ([.ref (a 0)] : List Value).toArray s 0 0 (AC 31 a s.heap.size)) (F0 m 0 ls []) by exact kS s.heap [] hP hS
  intro H locs hP hS
  unfold mX7_layPlan at hm
  refine lv_aload_n hx hb dX7_layPlan_0 rfl (lv_at hl 0 rfl) ?_
  refine lv_iconst (v := (0 : Int32)) hx hb dX7_layPlan_1 (by decide) ?_
  refine pM_X7_pieceMany X hK hA hP hS iX7 (List.mem_of_getElem? (i := 1) rfl) dX7_layPlan_2 (fun H locs hP hS => ?_)
  refine lv_aload_n hx hb dX7_layPlan_5 rfl (lv_at hl 0 rfl) ?_
  refine lv_iconst (v := (0 : Int32)) hx hb dX7_layPlan_6 (by decide) ?_
  refine pM_X7_cutMany X hK hA hP hS iX7 (List.mem_of_getElem? (i := 2) rfl) dX7_layPlan_7 (fun H locs hP hS => ?_)
  refine lv_aload_n hx hb dX7_layPlan_10 rfl (lv_at hl 0 rfl) ?_
  refine lv_iconst (v := (0 : Int32)) hx hb dX7_layPlan_11 (by decide) ?_
  refine pM_X7_piled X hK hA hP hS iX7 (List.mem_of_getElem? (i := 3) rfl) dX7_layPlan_12 (fun H locs hP hS => ?_)
  refine lv_aload_n hx hb dX7_layPlan_15 rfl (lv_at hl 0 rfl) ?_
  refine lv_iconst (v := (1 : Int32)) hx hb dX7_layPlan_16 (by decide) ?_
  refine lv_iconst (v := (0 : Int32)) hx hb dX7_layPlan_17 (by decide) ?_
  refine lv_iconst (v := (0 : Int32)) hx hb dX7_layPlan_18 (by decide) ?_
  refine lv_aload_n hx hb dX7_layPlan_19 rfl (lv_at hl 0 rfl) ?_
  refine gM_X7_wide X hK hP iX7 (List.mem_of_getElem? (i := 4) rfl) dX7_layPlan_20 ?_
  refine lv_aload_n hx hb dX7_layPlan_23 rfl (lv_at hl 0 rfl) ?_
  refine gM_X7_high X hK hP iX7 (List.mem_of_getElem? (i := 5) rfl) dX7_layPlan_24 ?_
  obtain ⟨r1, hr1, hm⟩ := bd_ok hm
  refine callWV (wf := wM a cI cZ) (rest := []) X hK hNW hml hP hS hl.1 (kX7_lay l D a cI cZ hA (sI (sI (sI S 8 (0 : Int32)) 9 (0 : Int32)) 10 (0 : Int32)) H.size (1 : Int32) (0 : Int32) (0 : Int32) (S.1 0) (S.1 1) r1 hr1) (cwV 5 X.2.2.1 gX7_layPlan_X7_lay rfl rfl rfl (by decide +kernel) ⟨Nat.le_of_ble_eq_true rfl, Nat.le_of_ble_eq_true rfl⟩) (vM_X7 hK hP) rfl rfl (Nat.le_of_ble_eq_true rfl) dX7_layPlan_27 ⟨Nat.zero_le _, Nat.zero_le _⟩ (fun H locs hP hS => ?_)
  have kb30 : ∀ (k x : ST → Option (ST)), (∀ (S_30 : ST) (H : Heap) (locs : List Loc)  (ls : Array Slot), va_P D vwCl (wM a cI cZ S_30) H → va_S (AC 31 a s.heap.size) s.heap H locs → lv_has ls 1 [(0, .ref (a 0))] → k S_30 = some res → W p l e rmX7_layPlan s m ([.ref (a 0)] : List Value).toArray below meth c H locs 0 0 (MQ below (va_Qv (fun T : ST => T = res) (PostW (wM a cI cZ) D cI cZ) (AC 31 a s.heap.size)) ([.ref (a 0)] : List Value).toArray s 0 0 (AC 31 a s.heap.size)) (F0 m 30 ls [])) → (∀ (S_30 : ST) (H : Heap) (locs : List Loc)  (ls : Array Slot), va_P D vwCl (wM a cI cZ S_30) H → va_S (AC 31 a s.heap.size) s.heap H locs → lv_has ls 1 [(0, .ref (a 0))] → x S_30 = some res → W p l e rmX7_layPlan s m ([.ref (a 0)] : List Value).toArray below meth c H locs 0 0 (MQ below (va_Qv (fun T : ST => T = res) (PostW (wM a cI cZ) D cI cZ) (AC 31 a s.heap.size)) ([.ref (a 0)] : List Value).toArray s 0 0 (AC 31 a s.heap.size)) (F0 m 107 ls [])) → ∀ (S_30 : ST) (H : Heap) (locs : List Loc)  (ls : Array Slot), va_P D vwCl (wM a cI cZ S_30) H → va_S (AC 31 a s.heap.size) s.heap H locs → lv_has ls 1 [(0, .ref (a 0))] → mX7_layPlan_B30 k x  S_30 = some res → W p l e rmX7_layPlan s m ([.ref (a 0)] : List Value).toArray below meth c H locs 0 0 (MQ below (va_Qv (fun T : ST => T = res) (PostW (wM a cI cZ) D cI cZ) (AC 31 a s.heap.size)) ([.ref (a 0)] : List Value).toArray s 0 0 (AC 31 a s.heap.size)) (F0 m 30 ls []) := by
    intro k x ih kxh S_30 H locs  ls hP hS hl hm
    unfold mX7_layPlan_B30 at hm
    refine lv_aload_n hx hb dX7_layPlan_30 rfl (lv_at hl 0 rfl) ?_
    refine gM_X7_piled X hK hP iX7 (List.mem_of_getElem? (i := 3) rfl) dX7_layPlan_31 ?_
    refine lv_if_le (tgt := 107) hx hb dX7_layPlan_34 (by decide) (fun hc => ?_) (fun hc => ?_)
    · replace hm := (if_pos hc).symm.trans hm
      exact kxh S_30 H locs  ls hP hS (lv_sub hl [0] rfl) hm
    · replace hm := (if_neg hc).symm.trans hm
      refine lv_aload_n hx hb dX7_layPlan_37 rfl (lv_at hl 0 rfl) ?_
      refine lv_dup hx hb dX7_layPlan_38 rfl ?_
      refine gM_X7_piled X hK hP iX7 (List.mem_of_getElem? (i := 3) rfl) dX7_layPlan_39 ?_
      refine lv_iconst (v := (5 : Int32)) hx hb dX7_layPlan_42 (by decide) ?_
      refine lv_isub hx hb dX7_layPlan_43 ?_
      refine pM_X7_piled X hK hA hP hS iX7 (List.mem_of_getElem? (i := 3) rfl) dX7_layPlan_44 (fun H locs hP hS => ?_)
      refine lv_aload_n hx hb dX7_layPlan_47 rfl (lv_at hl 0 rfl) ?_
      refine lv_aload_n hx hb dX7_layPlan_48 rfl (lv_at hl 0 rfl) ?_
      refine gM_X7_pile X hK hP iX7 (List.mem_of_getElem? (i := 6) rfl) dX7_layPlan_49 ?_
      refine lv_aload_n hx hb dX7_layPlan_52 rfl (lv_at hl 0 rfl) ?_
      refine gM_X7_piled X hK hP iX7 (List.mem_of_getElem? (i := 3) rfl) dX7_layPlan_53 ?_
      obtain ⟨h1, hm⟩ := gd_ok hm
      refine rM_X7_pile X hK hP h1 dX7_layPlan_56 ?_
      refine lv_aload_n hx hb dX7_layPlan_57 rfl (lv_at hl 0 rfl) ?_
      refine gM_X7_pile X hK hP iX7 (List.mem_of_getElem? (i := 6) rfl) dX7_layPlan_58 ?_
      refine lv_aload_n hx hb dX7_layPlan_61 rfl (lv_at hl 0 rfl) ?_
      refine gM_X7_piled X hK hP iX7 (List.mem_of_getElem? (i := 3) rfl) dX7_layPlan_62 ?_
      refine lv_iconst (v := (1 : Int32)) hx hb dX7_layPlan_65 (by decide) ?_
      refine lv_iadd hx hb dX7_layPlan_66 ?_
      obtain ⟨h1, hm⟩ := gd_ok hm
      refine rM_X7_pile X hK hP h1 dX7_layPlan_67 ?_
      refine lv_aload_n hx hb dX7_layPlan_68 rfl (lv_at hl 0 rfl) ?_
      refine gM_X7_pile X hK hP iX7 (List.mem_of_getElem? (i := 6) rfl) dX7_layPlan_69 ?_
      refine lv_aload_n hx hb dX7_layPlan_72 rfl (lv_at hl 0 rfl) ?_
      refine gM_X7_piled X hK hP iX7 (List.mem_of_getElem? (i := 3) rfl) dX7_layPlan_73 ?_
      refine lv_iconst (v := (2 : Int32)) hx hb dX7_layPlan_76 (by decide) ?_
      refine lv_iadd hx hb dX7_layPlan_77 ?_
      obtain ⟨h1, hm⟩ := gd_ok hm
      refine rM_X7_pile X hK hP h1 dX7_layPlan_78 ?_
      refine lv_aload_n hx hb dX7_layPlan_79 rfl (lv_at hl 0 rfl) ?_
      refine gM_X7_pile X hK hP iX7 (List.mem_of_getElem? (i := 6) rfl) dX7_layPlan_80 ?_
      refine lv_aload_n hx hb dX7_layPlan_83 rfl (lv_at hl 0 rfl) ?_
      refine gM_X7_piled X hK hP iX7 (List.mem_of_getElem? (i := 3) rfl) dX7_layPlan_84 ?_
      refine lv_iconst (v := (3 : Int32)) hx hb dX7_layPlan_87 (by decide) ?_
      refine lv_iadd hx hb dX7_layPlan_88 ?_
      obtain ⟨h1, hm⟩ := gd_ok hm
      refine rM_X7_pile X hK hP h1 dX7_layPlan_89 ?_
      refine lv_aload_n hx hb dX7_layPlan_90 rfl (lv_at hl 0 rfl) ?_
      refine gM_X7_pile X hK hP iX7 (List.mem_of_getElem? (i := 6) rfl) dX7_layPlan_91 ?_
      refine lv_aload_n hx hb dX7_layPlan_94 rfl (lv_at hl 0 rfl) ?_
      refine gM_X7_piled X hK hP iX7 (List.mem_of_getElem? (i := 3) rfl) dX7_layPlan_95 ?_
      refine lv_iconst (v := (4 : Int32)) hx hb dX7_layPlan_98 (by decide) ?_
      refine lv_iadd hx hb dX7_layPlan_99 ?_
      obtain ⟨h1, hm⟩ := gd_ok hm
      refine rM_X7_pile X hK hP h1 dX7_layPlan_100 ?_
      obtain ⟨r2, hr2, hm⟩ := bd_ok hm
      refine callWV (wf := wM a cI cZ) (rest := []) X hK hNW hml hP hS hl.1 (kX7_layPart l D a cI cZ hA (sI S_30 10 ((S_30.1 10) - (5 : Int32))) H.size (S_30.2 20 ((S_30.1 10) - (5 : Int32)).toNatClampNeg) (S_30.2 20 (((S_30.1 10) - (5 : Int32)) + (1 : Int32)).toNatClampNeg) (S_30.2 20 (((S_30.1 10) - (5 : Int32)) + (2 : Int32)).toNatClampNeg) (S_30.2 20 (((S_30.1 10) - (5 : Int32)) + (3 : Int32)).toNatClampNeg) (S_30.2 20 (((S_30.1 10) - (5 : Int32)) + (4 : Int32)).toNatClampNeg) r2 hr2) (cwV 5 X.2.2.1 gX7_layPlan_X7_layPart rfl rfl rfl (by decide +kernel) ⟨Nat.le_of_ble_eq_true rfl, Nat.le_of_ble_eq_true rfl⟩) (vM_X7 hK hP) rfl rfl (Nat.le_of_ble_eq_true rfl) dX7_layPlan_101 ⟨Nat.zero_le _, Nat.zero_le _⟩ (fun H locs hP hS => ?_)
      refine lv_goto (tgt := 30) hx hb dX7_layPlan_104 (by decide) ?_
      exact ih r2 H locs  ls hP hS (lv_sub hl [0] rfl) hm
  have kx30 : ∀ (S_30 : ST) (H : Heap) (locs : List Loc)  (ls : Array Slot), va_P D vwCl (wM a cI cZ S_30) H → va_S (AC 31 a s.heap.size) s.heap H locs → lv_has ls 1 [(0, .ref (a 0))] → mX7_layPlan_X30   S_30 = some res → W p l e rmX7_layPlan s m ([.ref (a 0)] : List Value).toArray below meth c H locs 0 0 (MQ below (va_Qv (fun T : ST => T = res) (PostW (wM a cI cZ) D cI cZ) (AC 31 a s.heap.size)) ([.ref (a 0)] : List Value).toArray s 0 0 (AC 31 a s.heap.size)) (F0 m 107 ls []) := by
    intro S_30 H locs  ls hP hS hl hm
    unfold mX7_layPlan_X30 at hm
    exact endV X hK hr hlocks hm hP hS dX7_layPlan_107
  have lp30 : ∀ (n : Nat) (S_30 : ST) (H : Heap) (locs : List Loc)  (ls : Array Slot), va_P D vwCl (wM a cI cZ S_30) H → va_S (AC 31 a s.heap.size) s.heap H locs → lv_has ls 1 [(0, .ref (a 0))] → LPf (κ := ST → Option (ST)) (fun _ => none) (fun kk => mX7_layPlan_B30 kk (mX7_layPlan_X30  ) ) n S_30 = some res → W p l e rmX7_layPlan s m ([.ref (a 0)] : List Value).toArray below meth c H locs 0 0 (MQ below (va_Qv (fun T : ST => T = res) (PostW (wM a cI cZ) D cI cZ) (AC 31 a s.heap.size)) ([.ref (a 0)] : List Value).toArray s 0 0 (AC 31 a s.heap.size)) (F0 m 30 ls []) := by
    intro n
    induction n with
    | zero =>
      intro S_30 H locs  ls hP hS hl hm
      exact (noS (show (none : Option (ST)) = some res from hm)).elim
    | succ n ih =>
      intro S_30 H locs  ls hP hS hl hm
      exact kb30 _ _ ih kx30 S_30 H locs  ls hP hS hl hm
  exact lp30 FU r1 H locs  ls hP hS (lv_sub hl [0] rfl) hm

def rmX7_work : Room := { frames := 4, cells := 0, slots := 0, locals := 103 }
set_option maxHeartbeats 4000000 in
set_option maxRecDepth 100000 in
theorem kX7_work (l : Launch) (D : va_G) (a : Nat → Nat) (cI cZ : ClassId) (hA : AP 31 a) (S : ST) (sz : Nat)  (res : ST) (hm : mX7_work S  = some res) : Met l yX7_work wsX7_work rmX7_work (va_Pc [.ref (a 0)] (PreW (wM a cI cZ S) D cI cZ sz)) (va_Qv (fun T : ST => T = res) (PostW (wM a cI cZ) D cI cZ) (AC 31 a sz)) 0 0 (AC 31 a sz) := by
  refine metB (cc := cX7_work) (maxL := 5) (ret := none) (by decide) rfl (Nat.le_of_ble_eq_true rfl) ?_
  intro p e s m below meth c ls X hml hr hlocks hin hv hl
  replace X : CX p m c cX7_work s ([.ref (a 0)] : List Value).toArray wsX7_work RX7 := X
  obtain ⟨hsz, hP, hK, hNW⟩ := hv
  subst hsz
  have hS : va_S (AC 31 a s.heap.size) s.heap s.heap [] := va_S.rf
  have hx := X.1
  have hb := X.2.1
  replace hl : lv_has ls 5 [(0, .ref (a 0))] := hl
  have iX7 : ∀ w ∈ wsX70, w ∈ wsX7_work := fun w h => List.mem_cons_of_mem _ (List.mem_append_right _ h)
  suffices kS : ∀ (H : Heap) (locs : List Loc), va_P D vwCl (wM a cI cZ S) H → va_S (AC 31 a s.heap.size) s.heap H locs → W p l e rmX7_work s m ([.ref (a 0)] : List Value).toArray below meth c H locs 0 0 (MQ below (va_Qv (fun T : ST => T = res) (PostW (wM a cI cZ) D cI cZ) (AC 31 a s.heap.size)) ([.ref (a 0)] : List Value).toArray s 0 0 (AC 31 a s.heap.size)) (F0 m 0 ls []) by exact kS s.heap [] hP hS
  intro H locs hP hS
  unfold mX7_work at hm
  refine lv_aload_n hx hb dX7_work_0 rfl (lv_at hl 0 rfl) ?_
  refine gM_X7_isWorked X hK hP iX7 (List.mem_of_getElem? (i := 1) rfl) dX7_work_1 ?_
  refine lv_if_eq (tgt := 8) hx hb dX7_work_4 (by decide) (fun hc => ?_) (fun hc => ?_)
  · replace hm := (if_pos hc).symm.trans hm
    refine lv_aload_n hx hb dX7_work_8 rfl (lv_at hl 0 rfl) ?_
    refine lv_iconst (v := (1 : Int32)) hx hb dX7_work_9 (by decide) ?_
    refine pM_X7_isWorked X hK hA hP hS iX7 (List.mem_of_getElem? (i := 1) rfl) ⟨rfl, rfl⟩ dX7_work_10 (fun H locs hP hS => ?_)
    refine lv_iconst (v := (1 : Int32)) hx hb dX7_work_13 (by decide) ?_
    refine lv_istore_n (lv' := [(1, .int (1 : Int32)), (0, .ref (a 0))]) hx hb dX7_work_14 rfl hl (by decide) rfl (fun ls hl => ?_)
    have kb15 : ∀ (k x : ST → Int32 → Option (ST)), (∀ (S_15 : ST) (H : Heap) (locs : List Loc) (v1_15 : Int32) (ls : Array Slot), va_P D vwCl (wM a cI cZ S_15) H → va_S (AC 31 a s.heap.size) s.heap H locs → lv_has ls 5 [(0, .ref (a 0)), (1, .int v1_15)] → k S_15 v1_15 = some res → W p l e rmX7_work s m ([.ref (a 0)] : List Value).toArray below meth c H locs 0 0 (MQ below (va_Qv (fun T : ST => T = res) (PostW (wM a cI cZ) D cI cZ) (AC 31 a s.heap.size)) ([.ref (a 0)] : List Value).toArray s 0 0 (AC 31 a s.heap.size)) (F0 m 15 ls [])) → (∀ (S_15 : ST) (H : Heap) (locs : List Loc) (v1_15 : Int32) (ls : Array Slot), va_P D vwCl (wM a cI cZ S_15) H → va_S (AC 31 a s.heap.size) s.heap H locs → lv_has ls 5 [(0, .ref (a 0)), (1, .int v1_15)] → x S_15 v1_15 = some res → W p l e rmX7_work s m ([.ref (a 0)] : List Value).toArray below meth c H locs 0 0 (MQ below (va_Qv (fun T : ST => T = res) (PostW (wM a cI cZ) D cI cZ) (AC 31 a s.heap.size)) ([.ref (a 0)] : List Value).toArray s 0 0 (AC 31 a s.heap.size)) (F0 m 92 ls [])) → ∀ (S_15 : ST) (H : Heap) (locs : List Loc) (v1_15 : Int32) (ls : Array Slot), va_P D vwCl (wM a cI cZ S_15) H → va_S (AC 31 a s.heap.size) s.heap H locs → lv_has ls 5 [(0, .ref (a 0)), (1, .int v1_15)] → mX7_work_B15 k x  S_15 v1_15 = some res → W p l e rmX7_work s m ([.ref (a 0)] : List Value).toArray below meth c H locs 0 0 (MQ below (va_Qv (fun T : ST => T = res) (PostW (wM a cI cZ) D cI cZ) (AC 31 a s.heap.size)) ([.ref (a 0)] : List Value).toArray s 0 0 (AC 31 a s.heap.size)) (F0 m 15 ls []) := by
      intro k x ih kxh S_15 H locs v1_15 ls hP hS hl hm
      unfold mX7_work_B15 at hm
      refine lv_iload_n hx hb dX7_work_15 rfl (lv_at hl 1 rfl) ?_
      refine lv_aload_n hx hb dX7_work_16 rfl (lv_at hl 0 rfl) ?_
      refine gM_X7_wide X hK hP iX7 (List.mem_of_getElem? (i := 2) rfl) dX7_work_17 ?_
      refine lv_icmp_gt (tgt := 92) hx hb dX7_work_20 (by decide) (fun hc => ?_) (fun hc => ?_)
      · replace hm := (if_pos hc).symm.trans hm
        exact kxh S_15 H locs v1_15 ls hP hS (lv_sub hl [0, 1] rfl) hm
      · replace hm := (if_neg hc).symm.trans hm
        refine lv_iconst (v := (1 : Int32)) hx hb dX7_work_23 (by decide) ?_
        refine lv_istore_n (lv' := [(2, .int (1 : Int32)), (0, .ref (a 0)), (1, .int v1_15)]) hx hb dX7_work_24 rfl hl (by decide) rfl (fun ls hl => ?_)
        have kb25 : ∀ (k x : ST → Int32 → Option (ST)), (∀ (S_25 : ST) (H : Heap) (locs : List Loc) (v2_25 : Int32) (ls : Array Slot), va_P D vwCl (wM a cI cZ S_25) H → va_S (AC 31 a s.heap.size) s.heap H locs → lv_has ls 5 [(0, .ref (a 0)), (1, .int v1_15), (2, .int v2_25)] → k S_25 v2_25 = some res → W p l e rmX7_work s m ([.ref (a 0)] : List Value).toArray below meth c H locs 0 0 (MQ below (va_Qv (fun T : ST => T = res) (PostW (wM a cI cZ) D cI cZ) (AC 31 a s.heap.size)) ([.ref (a 0)] : List Value).toArray s 0 0 (AC 31 a s.heap.size)) (F0 m 25 ls [])) → (∀ (S_25 : ST) (H : Heap) (locs : List Loc) (v2_25 : Int32) (ls : Array Slot), va_P D vwCl (wM a cI cZ S_25) H → va_S (AC 31 a s.heap.size) s.heap H locs → lv_has ls 5 [(0, .ref (a 0)), (1, .int v1_15), (2, .int v2_25)] → x S_25 v2_25 = some res → W p l e rmX7_work s m ([.ref (a 0)] : List Value).toArray below meth c H locs 0 0 (MQ below (va_Qv (fun T : ST => T = res) (PostW (wM a cI cZ) D cI cZ) (AC 31 a s.heap.size)) ([.ref (a 0)] : List Value).toArray s 0 0 (AC 31 a s.heap.size)) (F0 m 86 ls [])) → ∀ (S_25 : ST) (H : Heap) (locs : List Loc) (v2_25 : Int32) (ls : Array Slot), va_P D vwCl (wM a cI cZ S_25) H → va_S (AC 31 a s.heap.size) s.heap H locs → lv_has ls 5 [(0, .ref (a 0)), (1, .int v1_15), (2, .int v2_25)] → mX7_work_B25 k x v1_15 S_25 v2_25 = some res → W p l e rmX7_work s m ([.ref (a 0)] : List Value).toArray below meth c H locs 0 0 (MQ below (va_Qv (fun T : ST => T = res) (PostW (wM a cI cZ) D cI cZ) (AC 31 a s.heap.size)) ([.ref (a 0)] : List Value).toArray s 0 0 (AC 31 a s.heap.size)) (F0 m 25 ls []) := by
          intro k x ih kxh S_25 H locs v2_25 ls hP hS hl hm
          unfold mX7_work_B25 at hm
          refine lv_iload_n hx hb dX7_work_25 rfl (lv_at hl 2 rfl) ?_
          refine lv_aload_n hx hb dX7_work_26 rfl (lv_at hl 0 rfl) ?_
          refine gM_X7_high X hK hP iX7 (List.mem_of_getElem? (i := 3) rfl) dX7_work_27 ?_
          refine lv_icmp_gt (tgt := 86) hx hb dX7_work_30 (by decide) (fun hc => ?_) (fun hc => ?_)
          · replace hm := (if_pos hc).symm.trans hm
            exact kxh S_25 H locs v2_25 ls hP hS (lv_sub hl [0, 1, 2] rfl) hm
          · replace hm := (if_neg hc).symm.trans hm
            refine lv_iconst (v := (0 : Int32)) hx hb dX7_work_33 (by decide) ?_
            refine lv_istore_n (lv' := [(3, .int (0 : Int32)), (0, .ref (a 0)), (1, .int v1_15), (2, .int v2_25)]) hx hb dX7_work_34 rfl hl (by decide) rfl (fun ls hl => ?_)
            have kb35 : ∀ (k x : ST → Int32 → Option (ST)), (∀ (S_35 : ST) (H : Heap) (locs : List Loc) (v3_35 : Int32) (ls : Array Slot), va_P D vwCl (wM a cI cZ S_35) H → va_S (AC 31 a s.heap.size) s.heap H locs → lv_has ls 5 [(0, .ref (a 0)), (1, .int v1_15), (2, .int v2_25), (3, .int v3_35)] → k S_35 v3_35 = some res → W p l e rmX7_work s m ([.ref (a 0)] : List Value).toArray below meth c H locs 0 0 (MQ below (va_Qv (fun T : ST => T = res) (PostW (wM a cI cZ) D cI cZ) (AC 31 a s.heap.size)) ([.ref (a 0)] : List Value).toArray s 0 0 (AC 31 a s.heap.size)) (F0 m 35 ls [])) → (∀ (S_35 : ST) (H : Heap) (locs : List Loc) (v3_35 : Int32) (ls : Array Slot), va_P D vwCl (wM a cI cZ S_35) H → va_S (AC 31 a s.heap.size) s.heap H locs → lv_has ls 5 [(0, .ref (a 0)), (1, .int v1_15), (2, .int v2_25), (3, .int v3_35)] → x S_35 v3_35 = some res → W p l e rmX7_work s m ([.ref (a 0)] : List Value).toArray below meth c H locs 0 0 (MQ below (va_Qv (fun T : ST => T = res) (PostW (wM a cI cZ) D cI cZ) (AC 31 a s.heap.size)) ([.ref (a 0)] : List Value).toArray s 0 0 (AC 31 a s.heap.size)) (F0 m 80 ls [])) → ∀ (S_35 : ST) (H : Heap) (locs : List Loc) (v3_35 : Int32) (ls : Array Slot), va_P D vwCl (wM a cI cZ S_35) H → va_S (AC 31 a s.heap.size) s.heap H locs → lv_has ls 5 [(0, .ref (a 0)), (1, .int v1_15), (2, .int v2_25), (3, .int v3_35)] → mX7_work_B35 k x v1_15 v2_25 S_35 v3_35 = some res → W p l e rmX7_work s m ([.ref (a 0)] : List Value).toArray below meth c H locs 0 0 (MQ below (va_Qv (fun T : ST => T = res) (PostW (wM a cI cZ) D cI cZ) (AC 31 a s.heap.size)) ([.ref (a 0)] : List Value).toArray s 0 0 (AC 31 a s.heap.size)) (F0 m 35 ls []) := by
              intro k x ih kxh S_35 H locs v3_35 ls hP hS hl hm
              unfold mX7_work_B35 at hm
              refine lv_iload_n hx hb dX7_work_35 rfl (lv_at hl 3 rfl) ?_
              refine lv_iload_n hx hb dX7_work_36 rfl (lv_at hl 1 rfl) ?_
              refine lv_iadd hx hb dX7_work_37 ?_
              refine lv_aload_n hx hb dX7_work_38 rfl (lv_at hl 0 rfl) ?_
              refine gM_X7_wide X hK hP iX7 (List.mem_of_getElem? (i := 2) rfl) dX7_work_39 ?_
              refine lv_icmp_gt (tgt := 80) hx hb dX7_work_42 (by decide) (fun hc => ?_) (fun hc => ?_)
              · replace hm := (if_pos hc).symm.trans hm
                exact kxh S_35 H locs v3_35 ls hP hS (lv_sub hl [0, 1, 2, 3] rfl) hm
              · replace hm := (if_neg hc).symm.trans hm
                refine lv_iconst (v := (0 : Int32)) hx hb dX7_work_45 (by decide) ?_
                refine lv_istore (lv' := [(4, .int (0 : Int32)), (0, .ref (a 0)), (1, .int v1_15), (2, .int v2_25), (3, .int v3_35)]) hx hb dX7_work_46 hl (by decide) rfl (fun ls hl => ?_)
                have kb48 : ∀ (k x : ST → Int32 → Option (ST)), (∀ (S_48 : ST) (H : Heap) (locs : List Loc) (v4_48 : Int32) (ls : Array Slot), va_P D vwCl (wM a cI cZ S_48) H → va_S (AC 31 a s.heap.size) s.heap H locs → lv_has ls 5 [(0, .ref (a 0)), (1, .int v1_15), (2, .int v2_25), (3, .int v3_35), (4, .int v4_48)] → k S_48 v4_48 = some res → W p l e rmX7_work s m ([.ref (a 0)] : List Value).toArray below meth c H locs 0 0 (MQ below (va_Qv (fun T : ST => T = res) (PostW (wM a cI cZ) D cI cZ) (AC 31 a s.heap.size)) ([.ref (a 0)] : List Value).toArray s 0 0 (AC 31 a s.heap.size)) (F0 m 48 ls [])) → (∀ (S_48 : ST) (H : Heap) (locs : List Loc) (v4_48 : Int32) (ls : Array Slot), va_P D vwCl (wM a cI cZ S_48) H → va_S (AC 31 a s.heap.size) s.heap H locs → lv_has ls 5 [(0, .ref (a 0)), (1, .int v1_15), (2, .int v2_25), (3, .int v3_35), (4, .int v4_48)] → x S_48 v4_48 = some res → W p l e rmX7_work s m ([.ref (a 0)] : List Value).toArray below meth c H locs 0 0 (MQ below (va_Qv (fun T : ST => T = res) (PostW (wM a cI cZ) D cI cZ) (AC 31 a s.heap.size)) ([.ref (a 0)] : List Value).toArray s 0 0 (AC 31 a s.heap.size)) (F0 m 74 ls [])) → ∀ (S_48 : ST) (H : Heap) (locs : List Loc) (v4_48 : Int32) (ls : Array Slot), va_P D vwCl (wM a cI cZ S_48) H → va_S (AC 31 a s.heap.size) s.heap H locs → lv_has ls 5 [(0, .ref (a 0)), (1, .int v1_15), (2, .int v2_25), (3, .int v3_35), (4, .int v4_48)] → mX7_work_B48 k x v1_15 v2_25 v3_35 S_48 v4_48 = some res → W p l e rmX7_work s m ([.ref (a 0)] : List Value).toArray below meth c H locs 0 0 (MQ below (va_Qv (fun T : ST => T = res) (PostW (wM a cI cZ) D cI cZ) (AC 31 a s.heap.size)) ([.ref (a 0)] : List Value).toArray s 0 0 (AC 31 a s.heap.size)) (F0 m 48 ls []) := by
                  intro k x ih kxh S_48 H locs v4_48 ls hP hS hl hm
                  unfold mX7_work_B48 at hm
                  refine lv_iload hx hb dX7_work_48 (lv_at hl 4 rfl) ?_
                  refine lv_iload_n hx hb dX7_work_50 rfl (lv_at hl 2 rfl) ?_
                  refine lv_iadd hx hb dX7_work_51 ?_
                  refine lv_aload_n hx hb dX7_work_52 rfl (lv_at hl 0 rfl) ?_
                  refine gM_X7_high X hK hP iX7 (List.mem_of_getElem? (i := 3) rfl) dX7_work_53 ?_
                  refine lv_icmp_gt (tgt := 74) hx hb dX7_work_56 (by decide) (fun hc => ?_) (fun hc => ?_)
                  · replace hm := (if_pos hc).symm.trans hm
                    exact kxh S_48 H locs v4_48 ls hP hS (lv_sub hl [0, 1, 2, 3, 4] rfl) hm
                  · replace hm := (if_neg hc).symm.trans hm
                    refine lv_aload_n hx hb dX7_work_59 rfl (lv_at hl 0 rfl) ?_
                    refine lv_iload_n hx hb dX7_work_60 rfl (lv_at hl 3 rfl) ?_
                    refine lv_iload hx hb dX7_work_61 (lv_at hl 4 rfl) ?_
                    refine lv_iload_n hx hb dX7_work_63 rfl (lv_at hl 1 rfl) ?_
                    refine lv_iload_n hx hb dX7_work_64 rfl (lv_at hl 2 rfl) ?_
                    obtain ⟨r2, hr2, hm⟩ := bd_ok hm
                    refine callWV (wf := wM a cI cZ) (rest := []) X hK hNW hml hP hS hl.1 (kX7_workPart l D a cI cZ hA S_48 H.size v3_35 v4_48 v1_15 v2_25 r2 hr2) (cwV 4 X.2.2.1 gX7_work_X7_workPart rfl rfl rfl (by decide +kernel) ⟨Nat.le_of_ble_eq_true rfl, Nat.le_of_ble_eq_true rfl⟩) (vM_X7 hK hP) rfl rfl (Nat.le_of_ble_eq_true rfl) dX7_work_65 ⟨Nat.zero_le _, Nat.zero_le _⟩ (fun H locs hP hS => ?_)
                    refine lv_iinc (v := (v4_48 + (1 : Int32))) (lv' := [(4, .int (v4_48 + (1 : Int32))), (0, .ref (a 0)), (1, .int v1_15), (2, .int v2_25), (3, .int v3_35)]) hx hb dX7_work_68 hl (k := 4) rfl rfl (by decide) rfl (fun ls hl => ?_)
                    refine lv_goto (tgt := 48) hx hb dX7_work_71 (by decide) ?_
                    exact ih r2 H locs (v4_48 + (1 : Int32)) ls hP hS (lv_sub hl [1, 2, 3, 4, 0] rfl) hm
                have kx48 : ∀ (S_48 : ST) (H : Heap) (locs : List Loc) (v4_48 : Int32) (ls : Array Slot), va_P D vwCl (wM a cI cZ S_48) H → va_S (AC 31 a s.heap.size) s.heap H locs → lv_has ls 5 [(0, .ref (a 0)), (1, .int v1_15), (2, .int v2_25), (3, .int v3_35), (4, .int v4_48)] → mX7_work_X48 k x v1_15 v2_25 v3_35 S_48 v4_48 = some res → W p l e rmX7_work s m ([.ref (a 0)] : List Value).toArray below meth c H locs 0 0 (MQ below (va_Qv (fun T : ST => T = res) (PostW (wM a cI cZ) D cI cZ) (AC 31 a s.heap.size)) ([.ref (a 0)] : List Value).toArray s 0 0 (AC 31 a s.heap.size)) (F0 m 74 ls []) := by
                  intro S_48 H locs v4_48 ls hP hS hl hm
                  unfold mX7_work_X48 at hm
                  refine lv_iinc (v := (v3_35 + (1 : Int32))) (lv' := [(3, .int (v3_35 + (1 : Int32))), (0, .ref (a 0)), (1, .int v1_15), (2, .int v2_25), (4, .int v4_48)]) hx hb dX7_work_74 hl (k := 3) rfl rfl (by decide) rfl (fun ls hl => ?_)
                  refine lv_goto (tgt := 35) hx hb dX7_work_77 (by decide) ?_
                  exact ih S_48 H locs (v3_35 + (1 : Int32)) ls hP hS (lv_sub hl [1, 2, 3, 0] rfl) hm
                have lp48 : ∀ (n : Nat) (S_48 : ST) (H : Heap) (locs : List Loc) (v4_48 : Int32) (ls : Array Slot), va_P D vwCl (wM a cI cZ S_48) H → va_S (AC 31 a s.heap.size) s.heap H locs → lv_has ls 5 [(0, .ref (a 0)), (1, .int v1_15), (2, .int v2_25), (3, .int v3_35), (4, .int v4_48)] → LPf (κ := ST → Int32 → Option (ST)) (fun _ _ => none) (fun kk => mX7_work_B48 kk (mX7_work_X48 k x v1_15 v2_25 v3_35) v1_15 v2_25 v3_35) n S_48 v4_48 = some res → W p l e rmX7_work s m ([.ref (a 0)] : List Value).toArray below meth c H locs 0 0 (MQ below (va_Qv (fun T : ST => T = res) (PostW (wM a cI cZ) D cI cZ) (AC 31 a s.heap.size)) ([.ref (a 0)] : List Value).toArray s 0 0 (AC 31 a s.heap.size)) (F0 m 48 ls []) := by
                  intro n
                  induction n with
                  | zero =>
                    intro S_48 H locs v4_48 ls hP hS hl hm
                    exact (noS (show (none : Option (ST)) = some res from hm)).elim
                  | succ n ih =>
                    intro S_48 H locs v4_48 ls hP hS hl hm
                    exact kb48 _ _ ih kx48 S_48 H locs v4_48 ls hP hS hl hm
                exact lp48 FU S_35 H locs (0 : Int32) ls hP hS (lv_sub hl [1, 2, 3, 4, 0] rfl) hm
            have kx35 : ∀ (S_35 : ST) (H : Heap) (locs : List Loc) (v3_35 : Int32) (ls : Array Slot), va_P D vwCl (wM a cI cZ S_35) H → va_S (AC 31 a s.heap.size) s.heap H locs → lv_has ls 5 [(0, .ref (a 0)), (1, .int v1_15), (2, .int v2_25), (3, .int v3_35)] → mX7_work_X35 k x v1_15 v2_25 S_35 v3_35 = some res → W p l e rmX7_work s m ([.ref (a 0)] : List Value).toArray below meth c H locs 0 0 (MQ below (va_Qv (fun T : ST => T = res) (PostW (wM a cI cZ) D cI cZ) (AC 31 a s.heap.size)) ([.ref (a 0)] : List Value).toArray s 0 0 (AC 31 a s.heap.size)) (F0 m 80 ls []) := by
              intro S_35 H locs v3_35 ls hP hS hl hm
              unfold mX7_work_X35 at hm
              refine lv_iinc (v := (v2_25 + (1 : Int32))) (lv' := [(2, .int (v2_25 + (1 : Int32))), (0, .ref (a 0)), (1, .int v1_15), (3, .int v3_35)]) hx hb dX7_work_80 hl (k := 2) rfl rfl (by decide) rfl (fun ls hl => ?_)
              refine lv_goto (tgt := 25) hx hb dX7_work_83 (by decide) ?_
              exact ih S_35 H locs (v2_25 + (1 : Int32)) ls hP hS (lv_sub hl [1, 2, 0] rfl) hm
            have lp35 : ∀ (n : Nat) (S_35 : ST) (H : Heap) (locs : List Loc) (v3_35 : Int32) (ls : Array Slot), va_P D vwCl (wM a cI cZ S_35) H → va_S (AC 31 a s.heap.size) s.heap H locs → lv_has ls 5 [(0, .ref (a 0)), (1, .int v1_15), (2, .int v2_25), (3, .int v3_35)] → LPf (κ := ST → Int32 → Option (ST)) (fun _ _ => none) (fun kk => mX7_work_B35 kk (mX7_work_X35 k x v1_15 v2_25) v1_15 v2_25) n S_35 v3_35 = some res → W p l e rmX7_work s m ([.ref (a 0)] : List Value).toArray below meth c H locs 0 0 (MQ below (va_Qv (fun T : ST => T = res) (PostW (wM a cI cZ) D cI cZ) (AC 31 a s.heap.size)) ([.ref (a 0)] : List Value).toArray s 0 0 (AC 31 a s.heap.size)) (F0 m 35 ls []) := by
              intro n
              induction n with
              | zero =>
                intro S_35 H locs v3_35 ls hP hS hl hm
                exact (noS (show (none : Option (ST)) = some res from hm)).elim
              | succ n ih =>
                intro S_35 H locs v3_35 ls hP hS hl hm
                exact kb35 _ _ ih kx35 S_35 H locs v3_35 ls hP hS hl hm
            exact lp35 FU S_25 H locs (0 : Int32) ls hP hS (lv_sub hl [1, 2, 3, 0] rfl) hm
        have kx25 : ∀ (S_25 : ST) (H : Heap) (locs : List Loc) (v2_25 : Int32) (ls : Array Slot), va_P D vwCl (wM a cI cZ S_25) H → va_S (AC 31 a s.heap.size) s.heap H locs → lv_has ls 5 [(0, .ref (a 0)), (1, .int v1_15), (2, .int v2_25)] → mX7_work_X25 k x v1_15 S_25 v2_25 = some res → W p l e rmX7_work s m ([.ref (a 0)] : List Value).toArray below meth c H locs 0 0 (MQ below (va_Qv (fun T : ST => T = res) (PostW (wM a cI cZ) D cI cZ) (AC 31 a s.heap.size)) ([.ref (a 0)] : List Value).toArray s 0 0 (AC 31 a s.heap.size)) (F0 m 86 ls []) := by
          intro S_25 H locs v2_25 ls hP hS hl hm
          unfold mX7_work_X25 at hm
          refine lv_iinc (v := (v1_15 + (1 : Int32))) (lv' := [(1, .int (v1_15 + (1 : Int32))), (0, .ref (a 0)), (2, .int v2_25)]) hx hb dX7_work_86 hl (k := 1) rfl rfl (by decide) rfl (fun ls hl => ?_)
          refine lv_goto (tgt := 15) hx hb dX7_work_89 (by decide) ?_
          exact ih S_25 H locs (v1_15 + (1 : Int32)) ls hP hS (lv_sub hl [1, 0] rfl) hm
        have lp25 : ∀ (n : Nat) (S_25 : ST) (H : Heap) (locs : List Loc) (v2_25 : Int32) (ls : Array Slot), va_P D vwCl (wM a cI cZ S_25) H → va_S (AC 31 a s.heap.size) s.heap H locs → lv_has ls 5 [(0, .ref (a 0)), (1, .int v1_15), (2, .int v2_25)] → LPf (κ := ST → Int32 → Option (ST)) (fun _ _ => none) (fun kk => mX7_work_B25 kk (mX7_work_X25 k x v1_15) v1_15) n S_25 v2_25 = some res → W p l e rmX7_work s m ([.ref (a 0)] : List Value).toArray below meth c H locs 0 0 (MQ below (va_Qv (fun T : ST => T = res) (PostW (wM a cI cZ) D cI cZ) (AC 31 a s.heap.size)) ([.ref (a 0)] : List Value).toArray s 0 0 (AC 31 a s.heap.size)) (F0 m 25 ls []) := by
          intro n
          induction n with
          | zero =>
            intro S_25 H locs v2_25 ls hP hS hl hm
            exact (noS (show (none : Option (ST)) = some res from hm)).elim
          | succ n ih =>
            intro S_25 H locs v2_25 ls hP hS hl hm
            exact kb25 _ _ ih kx25 S_25 H locs v2_25 ls hP hS hl hm
        exact lp25 FU S_15 H locs (1 : Int32) ls hP hS (lv_sub hl [1, 2, 0] rfl) hm
    have kx15 : ∀ (S_15 : ST) (H : Heap) (locs : List Loc) (v1_15 : Int32) (ls : Array Slot), va_P D vwCl (wM a cI cZ S_15) H → va_S (AC 31 a s.heap.size) s.heap H locs → lv_has ls 5 [(0, .ref (a 0)), (1, .int v1_15)] → mX7_work_X15   S_15 v1_15 = some res → W p l e rmX7_work s m ([.ref (a 0)] : List Value).toArray below meth c H locs 0 0 (MQ below (va_Qv (fun T : ST => T = res) (PostW (wM a cI cZ) D cI cZ) (AC 31 a s.heap.size)) ([.ref (a 0)] : List Value).toArray s 0 0 (AC 31 a s.heap.size)) (F0 m 92 ls []) := by
      intro S_15 H locs v1_15 ls hP hS hl hm
      unfold mX7_work_X15 at hm
      refine lv_aload_n hx hb dX7_work_92 rfl (lv_at hl 0 rfl) ?_
      obtain ⟨r1, hr1, hm⟩ := bd_ok hm
      refine callWV (wf := wM a cI cZ) (rest := []) X hK hNW hml hP hS hl.1 (kX7_layPlan l D a cI cZ hA S_15 H.size  r1 hr1) (cwV 0 X.2.2.1 gX7_work_X7_layPlan rfl rfl rfl (by decide +kernel) ⟨Nat.le_of_ble_eq_true rfl, Nat.le_of_ble_eq_true rfl⟩) (vM_X7 hK hP) rfl rfl (Nat.le_of_ble_eq_true rfl) dX7_work_93 ⟨Nat.zero_le _, Nat.zero_le _⟩ (fun H locs hP hS => ?_)
      exact endV X hK hr hlocks hm hP hS dX7_work_96
    have lp15 : ∀ (n : Nat) (S_15 : ST) (H : Heap) (locs : List Loc) (v1_15 : Int32) (ls : Array Slot), va_P D vwCl (wM a cI cZ S_15) H → va_S (AC 31 a s.heap.size) s.heap H locs → lv_has ls 5 [(0, .ref (a 0)), (1, .int v1_15)] → LPf (κ := ST → Int32 → Option (ST)) (fun _ _ => none) (fun kk => mX7_work_B15 kk (mX7_work_X15  ) ) n S_15 v1_15 = some res → W p l e rmX7_work s m ([.ref (a 0)] : List Value).toArray below meth c H locs 0 0 (MQ below (va_Qv (fun T : ST => T = res) (PostW (wM a cI cZ) D cI cZ) (AC 31 a s.heap.size)) ([.ref (a 0)] : List Value).toArray s 0 0 (AC 31 a s.heap.size)) (F0 m 15 ls []) := by
      intro n
      induction n with
      | zero =>
        intro S_15 H locs v1_15 ls hP hS hl hm
        exact (noS (show (none : Option (ST)) = some res from hm)).elim
      | succ n ih =>
        intro S_15 H locs v1_15 ls hP hS hl hm
        exact kb15 _ _ ih kx15 S_15 H locs v1_15 ls hP hS hl hm
    exact lp15 FU (sI S 7 (1 : Int32)) H locs (1 : Int32) ls hP hS (lv_sub hl [1, 0] rfl) hm
  · replace hm := (if_neg hc).symm.trans hm
    exact endV X hK hr hlocks hm hP hS dX7_work_7

def rmX7_worth : Room := { frames := 5, cells := 0, slots := 0, locals := 127 }
set_option maxHeartbeats 4000000 in
set_option maxRecDepth 100000 in
theorem kX7_worth (l : Launch) (D : va_G) (a : Nat → Nat) (cI cZ : ClassId) (hA : AP 31 a) (S : ST) (sz : Nat) (p1 : Int32) (p2 : Int32) (p3 : Int32) (p4 : Int32) (p5 : Int32) (res : Int32 × ST) (hm : mX7_worth S p1 p2 p3 p4 p5 = some res) : Met l yX7_worth wsX7_worth rmX7_worth (va_Pc [.ref (a 0), .int p1, .int p2, .int p3, .int p4, .int p5] (PreW (wM a cI cZ S) D cI cZ sz)) (va_Qi (fun (r : Int32) (T : ST) => (r, T) = res) (PostW (wM a cI cZ) D cI cZ) (AC 31 a sz)) 0 0 (AC 31 a sz) := by
  refine metB (cc := cX7_worth) (maxL := 6) (ret := (some .int)) (by decide) rfl (Nat.le_of_ble_eq_true rfl) ?_
  intro p e s m below meth c ls X hml hr hlocks hin hv hl
  replace X : CX p m c cX7_worth s ([.ref (a 0), .int p1, .int p2, .int p3, .int p4, .int p5] : List Value).toArray wsX7_worth RX7 := X
  obtain ⟨hsz, hP, hK, hNW⟩ := hv
  subst hsz
  have hS : va_S (AC 31 a s.heap.size) s.heap s.heap [] := va_S.rf
  have hx := X.1
  have hb := X.2.1
  replace hl : lv_has ls 6 [(0, .ref (a 0)), (1, .int p1), (2, .int p2), (3, .int p3), (4, .int p4), (5, .int p5)] := hl
  have iX7 : ∀ w ∈ wsX70, w ∈ wsX7_worth := fun w h => List.mem_cons_of_mem _ (List.mem_append_right _ h)
  suffices kS : ∀ (H : Heap) (locs : List Loc), va_P D vwCl (wM a cI cZ S) H → va_S (AC 31 a s.heap.size) s.heap H locs → W p l e rmX7_worth s m ([.ref (a 0), .int p1, .int p2, .int p3, .int p4, .int p5] : List Value).toArray below meth c H locs 0 0 (MQ below (va_Qi (fun (r : Int32) (T : ST) => (r, T) = res) (PostW (wM a cI cZ) D cI cZ) (AC 31 a s.heap.size)) ([.ref (a 0), .int p1, .int p2, .int p3, .int p4, .int p5] : List Value).toArray s 0 0 (AC 31 a s.heap.size)) (F0 m 0 ls []) by exact kS s.heap [] hP hS
  intro H locs hP hS
  unfold mX7_worth at hm
  refine lv_aload_n hx hb dX7_worth_0 rfl (lv_at hl 0 rfl) ?_
  refine lv_iload_n hx hb dX7_worth_1 rfl (lv_at hl 1 rfl) ?_
  refine lv_iload_n hx hb dX7_worth_2 rfl (lv_at hl 2 rfl) ?_
  refine lv_iload_n hx hb dX7_worth_3 rfl (lv_at hl 3 rfl) ?_
  refine lv_iload hx hb dX7_worth_4 (lv_at hl 4 rfl) ?_
  obtain ⟨r1, hr1, hm⟩ := bd_ok hm
  refine callRV (rest := []) X hK hNW hml hP hl.1 (kX7_lies l D a cI cZ S p1 p2 p3 p4 r1 hr1) (cwV 4 X.2.2.1 gX7_worth_X7_lies rfl rfl rfl (by decide +kernel) ⟨Nat.le_of_ble_eq_true rfl, Nat.le_of_ble_eq_true rfl⟩) (vM_X7 hK hP) rfl rfl (Nat.le_of_ble_eq_true rfl) dX7_worth_6 ⟨Nat.zero_le _, Nat.zero_le _⟩ ?_
  refine lv_if_eq (tgt := 25) hx hb dX7_worth_9 (by decide) (fun hc => ?_) (fun hc => ?_)
  · replace hm := (if_pos hc).symm.trans hm
    refine lv_bipush (v := (-3 : Int32)) hx hb dX7_worth_25 (by decide) ?_
    exact endI X hK hr rfl hlocks hm hP hS dX7_worth_27
  · replace hm := (if_neg hc).symm.trans hm
    refine lv_iload hx hb dX7_worth_12 (lv_at hl 5 rfl) ?_
    refine lv_iconst (v := (1 : Int32)) hx hb dX7_worth_14 (by decide) ?_
    refine lv_aload_n hx hb dX7_worth_15 rfl (lv_at hl 0 rfl) ?_
    refine gM_X7_stages X hK hP iX7 (List.mem_of_getElem? (i := 1) rfl) dX7_worth_16 ?_
    obtain ⟨r2, hr2, hm⟩ := bd_ok hm
    refine callRS (rest := []) X hml hl.1 (kX7_within l p5 (1 : Int32) (S.1 3) r2 hr2) (va_cwS 3 X.2.2.1 gX7_worth_X7_within rfl rfl rfl (by decide +kernel) ⟨Nat.le_of_ble_eq_true rfl, Nat.le_of_ble_eq_true rfl⟩) rfl rfl (Nat.le_of_ble_eq_true rfl) dX7_worth_19 ⟨Nat.zero_le _, Nat.zero_le _⟩ ?_
    refine lv_if_ne (tgt := 28) hx hb dX7_worth_22 (by decide) (fun hc => ?_) (fun hc => ?_)
    · replace hm := (if_neg hc).symm.trans hm
      refine lv_aload_n hx hb dX7_worth_28 rfl (lv_at hl 0 rfl) ?_
      obtain ⟨r3, hr3, hm⟩ := bd_ok hm
      refine callWV (wf := wM a cI cZ) (rest := []) X hK hNW hml hP hS hl.1 (kX7_work l D a cI cZ hA S H.size  r3 hr3) (cwV 0 X.2.2.1 gX7_worth_X7_work rfl rfl rfl (by decide +kernel) ⟨Nat.le_of_ble_eq_true rfl, Nat.le_of_ble_eq_true rfl⟩) (vM_X7 hK hP) rfl rfl (Nat.le_of_ble_eq_true rfl) dX7_worth_29 ⟨Nat.zero_le _, Nat.zero_le _⟩ (fun H locs hP hS => ?_)
      refine lv_aload_n hx hb dX7_worth_32 rfl (lv_at hl 0 rfl) ?_
      refine gM_X7_worths X hK hP iX7 (List.mem_of_getElem? (i := 2) rfl) dX7_worth_33 ?_
      refine lv_aload_n hx hb dX7_worth_36 rfl (lv_at hl 0 rfl) ?_
      refine lv_iload hx hb dX7_worth_37 (lv_at hl 5 rfl) ?_
      refine lv_iload_n hx hb dX7_worth_39 rfl (lv_at hl 1 rfl) ?_
      refine lv_iload_n hx hb dX7_worth_40 rfl (lv_at hl 2 rfl) ?_
      refine lv_iload_n hx hb dX7_worth_41 rfl (lv_at hl 3 rfl) ?_
      refine lv_iload hx hb dX7_worth_42 (lv_at hl 4 rfl) ?_
      obtain ⟨r4, hr4, hm⟩ := bd_ok hm
      refine callRV (rest := [.ref (a 10)]) X hK hNW hml hP hl.1 (kX7_at l D a cI cZ r3 p5 p1 p2 p3 p4 r4 hr4) (cwV 5 X.2.2.1 gX7_worth_X7_at rfl rfl rfl (by decide +kernel) ⟨Nat.le_of_ble_eq_true rfl, Nat.le_of_ble_eq_true rfl⟩) (vM_X7 hK hP) rfl rfl (Nat.le_of_ble_eq_true rfl) dX7_worth_44 ⟨Nat.zero_le _, Nat.zero_le _⟩ ?_
      obtain ⟨h1, hm⟩ := gd_ok hm
      refine rM_X7_worths X hK hP h1 dX7_worth_47 ?_
      exact endI X hK hr rfl hlocks hm hP hS dX7_worth_48
    · replace hm := (if_pos hc).symm.trans hm
      refine lv_bipush (v := (-3 : Int32)) hx hb dX7_worth_25 (by decide) ?_
      exact endI X hK hr rfl hlocks hm hP hS dX7_worth_27

def rmX7_pieces : Room := { frames := 5, cells := 0, slots := 0, locals := 127 }
set_option maxHeartbeats 4000000 in
set_option maxRecDepth 100000 in
theorem kX7_pieces (l : Launch) (D : va_G) (a : Nat → Nat) (cI cZ : ClassId) (hA : AP 31 a) (S : ST) (sz : Nat)  (res : Int32 × ST) (hm : mX7_pieces S  = some res) : Met l yX7_pieces wsX7_pieces rmX7_pieces (va_Pc [.ref (a 0)] (PreW (wM a cI cZ S) D cI cZ sz)) (va_Qi (fun (r : Int32) (T : ST) => (r, T) = res) (PostW (wM a cI cZ) D cI cZ) (AC 31 a sz)) 0 0 (AC 31 a sz) := by
  refine metB (cc := cX7_pieces) (maxL := 1) (ret := (some .int)) (by decide) rfl (Nat.le_of_ble_eq_true rfl) ?_
  intro p e s m below meth c ls X hml hr hlocks hin hv hl
  replace X : CX p m c cX7_pieces s ([.ref (a 0)] : List Value).toArray wsX7_pieces RX7 := X
  obtain ⟨hsz, hP, hK, hNW⟩ := hv
  subst hsz
  have hS : va_S (AC 31 a s.heap.size) s.heap s.heap [] := va_S.rf
  have hx := X.1
  have hb := X.2.1
  replace hl : lv_has ls 1 [(0, .ref (a 0))] := hl
  have iX7 : ∀ w ∈ wsX70, w ∈ wsX7_pieces := fun w h => List.mem_cons_of_mem _ (List.mem_append_right _ h)
  suffices kS : ∀ (H : Heap) (locs : List Loc), va_P D vwCl (wM a cI cZ S) H → va_S (AC 31 a s.heap.size) s.heap H locs → W p l e rmX7_pieces s m ([.ref (a 0)] : List Value).toArray below meth c H locs 0 0 (MQ below (va_Qi (fun (r : Int32) (T : ST) => (r, T) = res) (PostW (wM a cI cZ) D cI cZ) (AC 31 a s.heap.size)) ([.ref (a 0)] : List Value).toArray s 0 0 (AC 31 a s.heap.size)) (F0 m 0 ls []) by exact kS s.heap [] hP hS
  intro H locs hP hS
  unfold mX7_pieces at hm
  refine lv_aload_n hx hb dX7_pieces_0 rfl (lv_at hl 0 rfl) ?_
  obtain ⟨r1, hr1, hm⟩ := bd_ok hm
  refine callWV (wf := wM a cI cZ) (rest := []) X hK hNW hml hP hS hl.1 (kX7_work l D a cI cZ hA S H.size  r1 hr1) (cwV 0 X.2.2.1 gX7_pieces_X7_work rfl rfl rfl (by decide +kernel) ⟨Nat.le_of_ble_eq_true rfl, Nat.le_of_ble_eq_true rfl⟩) (vM_X7 hK hP) rfl rfl (Nat.le_of_ble_eq_true rfl) dX7_pieces_1 ⟨Nat.zero_le _, Nat.zero_le _⟩ (fun H locs hP hS => ?_)
  refine lv_aload_n hx hb dX7_pieces_4 rfl (lv_at hl 0 rfl) ?_
  refine gM_X7_pieceMany X hK hP iX7 (List.mem_of_getElem? (i := 1) rfl) dX7_pieces_5 ?_
  exact endI X hK hr rfl hlocks hm hP hS dX7_pieces_8

def rmX7_pieceSide : Room := { frames := 0, cells := 0, slots := 0, locals := 0 }
set_option maxHeartbeats 4000000 in
set_option maxRecDepth 100000 in
theorem kX7_pieceSide (l : Launch) (D : va_G) (a : Nat → Nat) (cI cZ : ClassId) (S : ST) (p1 : Int32) (p2 : Int32) (res : Int32) (hm : mX7_pieceSide S p1 p2 = some res) : Met l yX7_pieceSide wsX7_pieceSide rmX7_pieceSide (va_Pc [.ref (a 0), .int p1, .int p2] (PreR (wM a cI cZ S) D cI cZ)) (vp_Si (fun r => r = res)) 0 0 (fun _ => False) := by
  refine metB (cc := cX7_pieceSide) (maxL := 4) (ret := (some .int)) (by decide) rfl (Nat.le_of_ble_eq_true rfl) ?_
  intro p e s m below meth c ls X hml hr hlocks hin hv hl
  replace X : CX p m c cX7_pieceSide s ([.ref (a 0), .int p1, .int p2] : List Value).toArray wsX7_pieceSide RX7 := X
  obtain ⟨hP, hK, hNW⟩ := hv
  have hx := X.1
  have hb := X.2.1
  replace hl : lv_has ls 4 [(0, .ref (a 0)), (1, .int p1), (2, .int p2)] := hl
  have iX7 : ∀ w ∈ wsX70, w ∈ wsX7_pieceSide := fun w h => List.mem_cons_of_mem _ (List.mem_append_right _ h)
  unfold mX7_pieceSide at hm
  refine lv_aload_n hx hb dX7_pieceSide_0 rfl (lv_at hl 0 rfl) ?_
  refine gM_X7_pieceKind X hK hP iX7 (List.mem_of_getElem? (i := 1) rfl) dX7_pieceSide_1 ?_
  refine lv_iload_n hx hb dX7_pieceSide_4 rfl (lv_at hl 1 rfl) ?_
  obtain ⟨h1, hm⟩ := gd_ok hm
  refine rM_X7_pieceKind X hK hP h1 dX7_pieceSide_5 ?_
  refine lv_istore_n (lv' := [(3, .int (S.2 10 p1.toNatClampNeg)), (0, .ref (a 0)), (1, .int p1), (2, .int p2)]) hx hb dX7_pieceSide_6 rfl hl (by decide) rfl (fun ls hl => ?_)
  refine lv_iload_n hx hb dX7_pieceSide_7 rfl (lv_at hl 3 rfl) ?_
  refine lv_aload_n hx hb dX7_pieceSide_8 rfl (lv_at hl 1 rfl) ?_
  refine gM_X7_pieceTurned X hK hP iX7 (List.mem_of_getElem? (i := 2) rfl) dX7_pieceSide_9 ?_
  refine lv_iload_n hx hb dX7_pieceSide_12 rfl (lv_at hl 2 rfl) ?_
  obtain ⟨h1, hm⟩ := gd_ok hm
  refine rM_X7_pieceTurned X hK hP h1 dX7_pieceSide_13 ?_
  have kJ22 : ∀ (v3_22 : Int32) (t0_22 : Int32) (ls : Array Slot), lv_has ls 4 [(0, .ref (a 0)), (1, .int p1), (2, .int p2), (3, .int v3_22)] → mX7_pieceSide_J22  S p1 p2 v3_22 t0_22 p2 = some res → W p l e rmX7_pieceSide s m ([.ref (a 0), .int p1, .int p2] : List Value).toArray below meth c s.heap [] 0 0 (MQ below (vp_Si (fun r => r = res)) ([.ref (a 0), .int p1, .int p2] : List Value).toArray s 0 0 (fun _ => False)) (F0 m 22 ls [.int t0_22, .int p2]) := by
    intro v3_22 t0_22 ls hl hm
    unfold mX7_pieceSide_J22 at hm
    refine lv_icmp_ne (tgt := 34) hx hb dX7_pieceSide_22 (by decide) (fun hc => ?_) (fun hc => ?_)
    · replace hm := (if_neg hc).symm.trans hm
      refine lv_aload_n hx hb dX7_pieceSide_34 rfl (lv_at hl 0 rfl) ?_
      refine gM_X7_kindH X hK hP iX7 (List.mem_of_getElem? (i := 4) rfl) dX7_pieceSide_35 ?_
      refine lv_iload_n hx hb dX7_pieceSide_38 rfl (lv_at hl 3 rfl) ?_
      obtain ⟨h1, hm⟩ := gd_ok hm
      refine rM_X7_kindH X hK hP h1 dX7_pieceSide_39 ?_
      exact endR X hr rfl hlocks hm dX7_pieceSide_40
    · replace hm := (if_pos hc).symm.trans hm
      refine lv_aload_n hx hb dX7_pieceSide_25 rfl (lv_at hl 0 rfl) ?_
      refine gM_X7_kindW X hK hP iX7 (List.mem_of_getElem? (i := 3) rfl) dX7_pieceSide_26 ?_
      refine lv_iload_n hx hb dX7_pieceSide_29 rfl (lv_at hl 3 rfl) ?_
      obtain ⟨h1, hm⟩ := gd_ok hm
      refine rM_X7_kindW X hK hP h1 dX7_pieceSide_30 ?_
      refine lv_goto (tgt := 40) hx hb dX7_pieceSide_31 (by decide) ?_
      exact endR X hr rfl hlocks hm dX7_pieceSide_40
  refine lv_if_ne (tgt := 21) hx hb dX7_pieceSide_14 (by decide) (fun hc => ?_) (fun hc => ?_)
  · replace hm := (if_neg hc).symm.trans hm
    refine lv_iconst (v := (0 : Int32)) hx hb dX7_pieceSide_21 (by decide) ?_
    exact kJ22 (S.2 10 p1.toNatClampNeg) (0 : Int32) ls (lv_sub hl [1, 2, 3, 0] rfl) hm
  · replace hm := (if_pos hc).symm.trans hm
    refine lv_iconst (v := (1 : Int32)) hx hb dX7_pieceSide_17 (by decide) ?_
    refine lv_goto (tgt := 22) hx hb dX7_pieceSide_18 (by decide) ?_
    exact kJ22 (S.2 10 p1.toNatClampNeg) (1 : Int32) ls (lv_sub hl [1, 2, 3, 0] rfl) hm

def rmX7_piece : Room := { frames := 5, cells := 0, slots := 0, locals := 127 }
set_option maxHeartbeats 4000000 in
set_option maxRecDepth 100000 in
theorem kX7_piece (l : Launch) (D : va_G) (a : Nat → Nat) (cI cZ : ClassId) (hA : AP 31 a) (S : ST) (sz : Nat) (p1 : Int32) (p2 : Int32) (res : Int32 × ST) (hm : mX7_piece S p1 p2 = some res) : Met l yX7_piece wsX7_piece rmX7_piece (va_Pc [.ref (a 0), .int p1, .int p2] (PreW (wM a cI cZ S) D cI cZ sz)) (va_Qi (fun (r : Int32) (T : ST) => (r, T) = res) (PostW (wM a cI cZ) D cI cZ) (AC 31 a sz)) 0 0 (AC 31 a sz) := by
  refine metB (cc := cX7_piece) (maxL := 3) (ret := (some .int)) (by decide) rfl (Nat.le_of_ble_eq_true rfl) ?_
  intro p e s m below meth c ls X hml hr hlocks hin hv hl
  replace X : CX p m c cX7_piece s ([.ref (a 0), .int p1, .int p2] : List Value).toArray wsX7_piece RX7 := X
  obtain ⟨hsz, hP, hK, hNW⟩ := hv
  subst hsz
  have hS : va_S (AC 31 a s.heap.size) s.heap s.heap [] := va_S.rf
  have hx := X.1
  have hb := X.2.1
  replace hl : lv_has ls 3 [(0, .ref (a 0)), (1, .int p1), (2, .int p2)] := hl
  have iX7 : ∀ w ∈ wsX70, w ∈ wsX7_piece := fun w h => List.mem_cons_of_mem _ (List.mem_append_right _ h)
  suffices kS : ∀ (H : Heap) (locs : List Loc), va_P D vwCl (wM a cI cZ S) H → va_S (AC 31 a s.heap.size) s.heap H locs → W p l e rmX7_piece s m ([.ref (a 0), .int p1, .int p2] : List Value).toArray below meth c H locs 0 0 (MQ below (va_Qi (fun (r : Int32) (T : ST) => (r, T) = res) (PostW (wM a cI cZ) D cI cZ) (AC 31 a s.heap.size)) ([.ref (a 0), .int p1, .int p2] : List Value).toArray s 0 0 (AC 31 a s.heap.size)) (F0 m 0 ls []) by exact kS s.heap [] hP hS
  intro H locs hP hS
  unfold mX7_piece at hm
  refine lv_iload_n hx hb dX7_piece_0 rfl (lv_at hl 2 rfl) ?_
  refine lv_iconst (v := (0 : Int32)) hx hb dX7_piece_1 (by decide) ?_
  refine lv_iconst (v := (5 : Int32)) hx hb dX7_piece_2 (by decide) ?_
  obtain ⟨r1, hr1, hm⟩ := bd_ok hm
  refine callRS (rest := []) X hml hl.1 (kX7_within l p2 (0 : Int32) (5 : Int32) r1 hr1) (va_cwS 3 X.2.2.1 gX7_piece_X7_within rfl rfl rfl (by decide +kernel) ⟨Nat.le_of_ble_eq_true rfl, Nat.le_of_ble_eq_true rfl⟩) rfl rfl (Nat.le_of_ble_eq_true rfl) dX7_piece_3 ⟨Nat.zero_le _, Nat.zero_le _⟩ ?_
  refine lv_if_ne (tgt := 12) hx hb dX7_piece_6 (by decide) (fun hc => ?_) (fun hc => ?_)
  · replace hm := (if_neg hc).symm.trans hm
    refine lv_aload_n hx hb dX7_piece_12 rfl (lv_at hl 0 rfl) ?_
    obtain ⟨r2, hr2, hm⟩ := bd_ok hm
    refine callWV (wf := wM a cI cZ) (rest := []) X hK hNW hml hP hS hl.1 (kX7_work l D a cI cZ hA S H.size  r2 hr2) (cwV 0 X.2.2.1 gX7_piece_X7_work rfl rfl rfl (by decide +kernel) ⟨Nat.le_of_ble_eq_true rfl, Nat.le_of_ble_eq_true rfl⟩) (vM_X7 hK hP) rfl rfl (Nat.le_of_ble_eq_true rfl) dX7_piece_13 ⟨Nat.zero_le _, Nat.zero_le _⟩ (fun H locs hP hS => ?_)
    refine lv_iload_n hx hb dX7_piece_16 rfl (lv_at hl 1 rfl) ?_
    refine lv_iconst (v := (0 : Int32)) hx hb dX7_piece_17 (by decide) ?_
    refine lv_aload_n hx hb dX7_piece_18 rfl (lv_at hl 0 rfl) ?_
    refine gM_X7_pieceMany X hK hP iX7 (List.mem_of_getElem? (i := 1) rfl) dX7_piece_19 ?_
    refine lv_iconst (v := (1 : Int32)) hx hb dX7_piece_22 (by decide) ?_
    refine lv_isub hx hb dX7_piece_23 ?_
    obtain ⟨r3, hr3, hm⟩ := bd_ok hm
    refine callRS (rest := []) X hml hl.1 (kX7_within l p1 (0 : Int32) ((r2.1 8) - (1 : Int32)) r3 hr3) (va_cwS 3 X.2.2.1 gX7_piece_X7_within rfl rfl rfl (by decide +kernel) ⟨Nat.le_of_ble_eq_true rfl, Nat.le_of_ble_eq_true rfl⟩) rfl rfl (Nat.le_of_ble_eq_true rfl) dX7_piece_24 ⟨Nat.zero_le _, Nat.zero_le _⟩ ?_
    refine lv_if_ne (tgt := 32) hx hb dX7_piece_27 (by decide) (fun hc => ?_) (fun hc => ?_)
    · replace hm := (if_neg hc).symm.trans hm
      refine lv_iload_n hx hb dX7_piece_32 rfl (lv_at hl 2 rfl) ?_
      by_cases hq0 : p2 = (0 : Int32)
      · replace hm := (if_pos hq0).symm.trans hm
        refine lv_tableIn (off := 35) (tgt := 68) hx hb dX7_piece_33 (by rw [hq0]; decide) (by rw [hq0]; decide) (by rw [hq0]; rfl) (by decide) ?_
        refine lv_aload_n hx hb dX7_piece_68 rfl (lv_at hl 0 rfl) ?_
        refine gM_X7_pieceKind X hK hP iX7 (List.mem_of_getElem? (i := 2) rfl) dX7_piece_69 ?_
        refine lv_iload_n hx hb dX7_piece_72 rfl (lv_at hl 1 rfl) ?_
        obtain ⟨h1, hm⟩ := gd_ok hm
        refine rM_X7_pieceKind X hK hP h1 dX7_piece_73 ?_
        exact endI X hK hr rfl hlocks hm hP hS dX7_piece_74
      · replace hm := (if_neg hq0).symm.trans hm
        by_cases hq1 : p2 = (1 : Int32)
        · replace hm := (if_pos hq1).symm.trans hm
          refine lv_tableIn (off := 42) (tgt := 75) hx hb dX7_piece_33 (by rw [hq1]; decide) (by rw [hq1]; decide) (by rw [hq1]; rfl) (by decide) ?_
          refine lv_aload_n hx hb dX7_piece_75 rfl (lv_at hl 0 rfl) ?_
          refine gM_X7_pieceX X hK hP iX7 (List.mem_of_getElem? (i := 3) rfl) dX7_piece_76 ?_
          refine lv_iload_n hx hb dX7_piece_79 rfl (lv_at hl 1 rfl) ?_
          obtain ⟨h1, hm⟩ := gd_ok hm
          refine rM_X7_pieceX X hK hP h1 dX7_piece_80 ?_
          exact endI X hK hr rfl hlocks hm hP hS dX7_piece_81
        · replace hm := (if_neg hq1).symm.trans hm
          by_cases hq2 : p2 = (2 : Int32)
          · replace hm := (if_pos hq2).symm.trans hm
            refine lv_tableIn (off := 49) (tgt := 82) hx hb dX7_piece_33 (by rw [hq2]; decide) (by rw [hq2]; decide) (by rw [hq2]; rfl) (by decide) ?_
            refine lv_aload_n hx hb dX7_piece_82 rfl (lv_at hl 0 rfl) ?_
            refine gM_X7_pieceY X hK hP iX7 (List.mem_of_getElem? (i := 4) rfl) dX7_piece_83 ?_
            refine lv_iload_n hx hb dX7_piece_86 rfl (lv_at hl 1 rfl) ?_
            obtain ⟨h1, hm⟩ := gd_ok hm
            refine rM_X7_pieceY X hK hP h1 dX7_piece_87 ?_
            exact endI X hK hr rfl hlocks hm hP hS dX7_piece_88
          · replace hm := (if_neg hq2).symm.trans hm
            by_cases hq3 : p2 = (3 : Int32)
            · replace hm := (if_pos hq3).symm.trans hm
              refine lv_tableIn (off := 56) (tgt := 89) hx hb dX7_piece_33 (by rw [hq3]; decide) (by rw [hq3]; decide) (by rw [hq3]; rfl) (by decide) ?_
              refine lv_aload_n hx hb dX7_piece_89 rfl (lv_at hl 0 rfl) ?_
              refine lv_iload_n hx hb dX7_piece_90 rfl (lv_at hl 1 rfl) ?_
              refine lv_iconst (v := (1 : Int32)) hx hb dX7_piece_91 (by decide) ?_
              obtain ⟨r5, hr5, hm⟩ := bd_ok hm
              refine callRV (rest := []) X hK hNW hml hP hl.1 (kX7_pieceSide l D a cI cZ r2 p1 (1 : Int32) r5 hr5) (cwV 2 X.2.2.1 gX7_piece_X7_pieceSide rfl rfl rfl (by decide +kernel) ⟨Nat.le_of_ble_eq_true rfl, Nat.le_of_ble_eq_true rfl⟩) (vM_X7 hK hP) rfl rfl (Nat.le_of_ble_eq_true rfl) dX7_piece_92 ⟨Nat.zero_le _, Nat.zero_le _⟩ ?_
              exact endI X hK hr rfl hlocks hm hP hS dX7_piece_95
            · replace hm := (if_neg hq3).symm.trans hm
              by_cases hq4 : p2 = (4 : Int32)
              · replace hm := (if_pos hq4).symm.trans hm
                refine lv_tableIn (off := 63) (tgt := 96) hx hb dX7_piece_33 (by rw [hq4]; decide) (by rw [hq4]; decide) (by rw [hq4]; rfl) (by decide) ?_
                refine lv_aload_n hx hb dX7_piece_96 rfl (lv_at hl 0 rfl) ?_
                refine lv_iload_n hx hb dX7_piece_97 rfl (lv_at hl 1 rfl) ?_
                refine lv_iconst (v := (0 : Int32)) hx hb dX7_piece_98 (by decide) ?_
                obtain ⟨r4, hr4, hm⟩ := bd_ok hm
                refine callRV (rest := []) X hK hNW hml hP hl.1 (kX7_pieceSide l D a cI cZ r2 p1 (0 : Int32) r4 hr4) (cwV 2 X.2.2.1 gX7_piece_X7_pieceSide rfl rfl rfl (by decide +kernel) ⟨Nat.le_of_ble_eq_true rfl, Nat.le_of_ble_eq_true rfl⟩) (vM_X7 hK hP) rfl rfl (Nat.le_of_ble_eq_true rfl) dX7_piece_99 ⟨Nat.zero_le _, Nat.zero_le _⟩ ?_
                exact endI X hK hr rfl hlocks hm hP hS dX7_piece_102
              · replace hm := (if_neg hq4).symm.trans hm
                refine lv_tableOut (tgt := 103) hx hb dX7_piece_33 (tbOut (n := 4) rfl (fun k hk => ?_)) (by decide) ?_
                · match k, hk with
                  | 0, _ => exact hq0
                  | 1, _ => exact hq1
                  | 2, _ => exact hq2
                  | 3, _ => exact hq3
                  | 4, _ => exact hq4
                  | k + 5, hk => exact absurd hk (by omega)
                · refine lv_aload_n hx hb dX7_piece_103 rfl (lv_at hl 0 rfl) ?_
                  refine gM_X7_pieceTurned X hK hP iX7 (List.mem_of_getElem? (i := 5) rfl) dX7_piece_104 ?_
                  refine lv_iload_n hx hb dX7_piece_107 rfl (lv_at hl 1 rfl) ?_
                  obtain ⟨h1, hm⟩ := gd_ok hm
                  refine rM_X7_pieceTurned X hK hP h1 dX7_piece_108 ?_
                  exact endI X hK hr rfl hlocks hm hP hS dX7_piece_109
    · replace hm := (if_pos hc).symm.trans hm
      refine lv_iconst (v := (-1 : Int32)) hx hb dX7_piece_30 (by decide) ?_
      exact endI X hK hr rfl hlocks hm hP hS dX7_piece_31
  · replace hm := (if_pos hc).symm.trans hm
    refine lv_bipush (v := (-3 : Int32)) hx hb dX7_piece_9 (by decide) ?_
    exact endI X hK hr rfl hlocks hm hP hS dX7_piece_11

def rmX7_cuts : Room := { frames := 5, cells := 0, slots := 0, locals := 127 }
set_option maxHeartbeats 4000000 in
set_option maxRecDepth 100000 in
theorem kX7_cuts (l : Launch) (D : va_G) (a : Nat → Nat) (cI cZ : ClassId) (hA : AP 31 a) (S : ST) (sz : Nat)  (res : Int32 × ST) (hm : mX7_cuts S  = some res) : Met l yX7_cuts wsX7_cuts rmX7_cuts (va_Pc [.ref (a 0)] (PreW (wM a cI cZ S) D cI cZ sz)) (va_Qi (fun (r : Int32) (T : ST) => (r, T) = res) (PostW (wM a cI cZ) D cI cZ) (AC 31 a sz)) 0 0 (AC 31 a sz) := by
  refine metB (cc := cX7_cuts) (maxL := 1) (ret := (some .int)) (by decide) rfl (Nat.le_of_ble_eq_true rfl) ?_
  intro p e s m below meth c ls X hml hr hlocks hin hv hl
  replace X : CX p m c cX7_cuts s ([.ref (a 0)] : List Value).toArray wsX7_cuts RX7 := X
  obtain ⟨hsz, hP, hK, hNW⟩ := hv
  subst hsz
  have hS : va_S (AC 31 a s.heap.size) s.heap s.heap [] := va_S.rf
  have hx := X.1
  have hb := X.2.1
  replace hl : lv_has ls 1 [(0, .ref (a 0))] := hl
  have iX7 : ∀ w ∈ wsX70, w ∈ wsX7_cuts := fun w h => List.mem_cons_of_mem _ (List.mem_append_right _ h)
  suffices kS : ∀ (H : Heap) (locs : List Loc), va_P D vwCl (wM a cI cZ S) H → va_S (AC 31 a s.heap.size) s.heap H locs → W p l e rmX7_cuts s m ([.ref (a 0)] : List Value).toArray below meth c H locs 0 0 (MQ below (va_Qi (fun (r : Int32) (T : ST) => (r, T) = res) (PostW (wM a cI cZ) D cI cZ) (AC 31 a s.heap.size)) ([.ref (a 0)] : List Value).toArray s 0 0 (AC 31 a s.heap.size)) (F0 m 0 ls []) by exact kS s.heap [] hP hS
  intro H locs hP hS
  unfold mX7_cuts at hm
  refine lv_aload_n hx hb dX7_cuts_0 rfl (lv_at hl 0 rfl) ?_
  obtain ⟨r1, hr1, hm⟩ := bd_ok hm
  refine callWV (wf := wM a cI cZ) (rest := []) X hK hNW hml hP hS hl.1 (kX7_work l D a cI cZ hA S H.size  r1 hr1) (cwV 0 X.2.2.1 gX7_cuts_X7_work rfl rfl rfl (by decide +kernel) ⟨Nat.le_of_ble_eq_true rfl, Nat.le_of_ble_eq_true rfl⟩) (vM_X7 hK hP) rfl rfl (Nat.le_of_ble_eq_true rfl) dX7_cuts_1 ⟨Nat.zero_le _, Nat.zero_le _⟩ (fun H locs hP hS => ?_)
  refine lv_aload_n hx hb dX7_cuts_4 rfl (lv_at hl 0 rfl) ?_
  refine gM_X7_cutMany X hK hP iX7 (List.mem_of_getElem? (i := 1) rfl) dX7_cuts_5 ?_
  exact endI X hK hr rfl hlocks hm hP hS dX7_cuts_8

def rmX7_cut : Room := { frames := 5, cells := 0, slots := 0, locals := 127 }
set_option maxHeartbeats 4000000 in
set_option maxRecDepth 100000 in
theorem kX7_cut (l : Launch) (D : va_G) (a : Nat → Nat) (cI cZ : ClassId) (hA : AP 31 a) (S : ST) (sz : Nat) (p1 : Int32) (p2 : Int32) (res : Int32 × ST) (hm : mX7_cut S p1 p2 = some res) : Met l yX7_cut wsX7_cut rmX7_cut (va_Pc [.ref (a 0), .int p1, .int p2] (PreW (wM a cI cZ S) D cI cZ sz)) (va_Qi (fun (r : Int32) (T : ST) => (r, T) = res) (PostW (wM a cI cZ) D cI cZ) (AC 31 a sz)) 0 0 (AC 31 a sz) := by
  refine metB (cc := cX7_cut) (maxL := 3) (ret := (some .int)) (by decide) rfl (Nat.le_of_ble_eq_true rfl) ?_
  intro p e s m below meth c ls X hml hr hlocks hin hv hl
  replace X : CX p m c cX7_cut s ([.ref (a 0), .int p1, .int p2] : List Value).toArray wsX7_cut RX7 := X
  obtain ⟨hsz, hP, hK, hNW⟩ := hv
  subst hsz
  have hS : va_S (AC 31 a s.heap.size) s.heap s.heap [] := va_S.rf
  have hx := X.1
  have hb := X.2.1
  replace hl : lv_has ls 3 [(0, .ref (a 0)), (1, .int p1), (2, .int p2)] := hl
  have iX7 : ∀ w ∈ wsX70, w ∈ wsX7_cut := fun w h => List.mem_cons_of_mem _ (List.mem_append_right _ h)
  suffices kS : ∀ (H : Heap) (locs : List Loc), va_P D vwCl (wM a cI cZ S) H → va_S (AC 31 a s.heap.size) s.heap H locs → W p l e rmX7_cut s m ([.ref (a 0), .int p1, .int p2] : List Value).toArray below meth c H locs 0 0 (MQ below (va_Qi (fun (r : Int32) (T : ST) => (r, T) = res) (PostW (wM a cI cZ) D cI cZ) (AC 31 a s.heap.size)) ([.ref (a 0), .int p1, .int p2] : List Value).toArray s 0 0 (AC 31 a s.heap.size)) (F0 m 0 ls []) by exact kS s.heap [] hP hS
  intro H locs hP hS
  unfold mX7_cut at hm
  refine lv_iload_n hx hb dX7_cut_0 rfl (lv_at hl 2 rfl) ?_
  refine lv_iconst (v := (0 : Int32)) hx hb dX7_cut_1 (by decide) ?_
  refine lv_bipush (v := (6 : Int32)) hx hb dX7_cut_2 (by decide) ?_
  obtain ⟨r1, hr1, hm⟩ := bd_ok hm
  refine callRS (rest := []) X hml hl.1 (kX7_within l p2 (0 : Int32) (6 : Int32) r1 hr1) (va_cwS 3 X.2.2.1 gX7_cut_X7_within rfl rfl rfl (by decide +kernel) ⟨Nat.le_of_ble_eq_true rfl, Nat.le_of_ble_eq_true rfl⟩) rfl rfl (Nat.le_of_ble_eq_true rfl) dX7_cut_4 ⟨Nat.zero_le _, Nat.zero_le _⟩ ?_
  refine lv_if_ne (tgt := 13) hx hb dX7_cut_7 (by decide) (fun hc => ?_) (fun hc => ?_)
  · replace hm := (if_neg hc).symm.trans hm
    refine lv_aload_n hx hb dX7_cut_13 rfl (lv_at hl 0 rfl) ?_
    obtain ⟨r2, hr2, hm⟩ := bd_ok hm
    refine callWV (wf := wM a cI cZ) (rest := []) X hK hNW hml hP hS hl.1 (kX7_work l D a cI cZ hA S H.size  r2 hr2) (cwV 0 X.2.2.1 gX7_cut_X7_work rfl rfl rfl (by decide +kernel) ⟨Nat.le_of_ble_eq_true rfl, Nat.le_of_ble_eq_true rfl⟩) (vM_X7 hK hP) rfl rfl (Nat.le_of_ble_eq_true rfl) dX7_cut_14 ⟨Nat.zero_le _, Nat.zero_le _⟩ (fun H locs hP hS => ?_)
    refine lv_iload_n hx hb dX7_cut_17 rfl (lv_at hl 1 rfl) ?_
    refine lv_iconst (v := (0 : Int32)) hx hb dX7_cut_18 (by decide) ?_
    refine lv_aload_n hx hb dX7_cut_19 rfl (lv_at hl 0 rfl) ?_
    refine gM_X7_cutMany X hK hP iX7 (List.mem_of_getElem? (i := 1) rfl) dX7_cut_20 ?_
    refine lv_iconst (v := (1 : Int32)) hx hb dX7_cut_23 (by decide) ?_
    refine lv_isub hx hb dX7_cut_24 ?_
    obtain ⟨r3, hr3, hm⟩ := bd_ok hm
    refine callRS (rest := []) X hml hl.1 (kX7_within l p1 (0 : Int32) ((r2.1 9) - (1 : Int32)) r3 hr3) (va_cwS 3 X.2.2.1 gX7_cut_X7_within rfl rfl rfl (by decide +kernel) ⟨Nat.le_of_ble_eq_true rfl, Nat.le_of_ble_eq_true rfl⟩) rfl rfl (Nat.le_of_ble_eq_true rfl) dX7_cut_25 ⟨Nat.zero_le _, Nat.zero_le _⟩ ?_
    refine lv_if_ne (tgt := 33) hx hb dX7_cut_28 (by decide) (fun hc => ?_) (fun hc => ?_)
    · replace hm := (if_neg hc).symm.trans hm
      refine lv_iload_n hx hb dX7_cut_33 rfl (lv_at hl 2 rfl) ?_
      by_cases hq0 : p2 = (0 : Int32)
      · replace hm := (if_pos hq0).symm.trans hm
        refine lv_tableIn (off := 38) (tgt := 72) hx hb dX7_cut_34 (by rw [hq0]; decide) (by rw [hq0]; decide) (by rw [hq0]; rfl) (by decide) ?_
        refine lv_aload_n hx hb dX7_cut_72 rfl (lv_at hl 0 rfl) ?_
        refine gM_X7_cutStage X hK hP iX7 (List.mem_of_getElem? (i := 2) rfl) dX7_cut_73 ?_
        refine lv_iload_n hx hb dX7_cut_76 rfl (lv_at hl 1 rfl) ?_
        obtain ⟨h1, hm⟩ := gd_ok hm
        refine rM_X7_cutStage X hK hP h1 dX7_cut_77 ?_
        exact endI X hK hr rfl hlocks hm hP hS dX7_cut_78
      · replace hm := (if_neg hq0).symm.trans hm
        by_cases hq1 : p2 = (1 : Int32)
        · replace hm := (if_pos hq1).symm.trans hm
          refine lv_tableIn (off := 45) (tgt := 79) hx hb dX7_cut_34 (by rw [hq1]; decide) (by rw [hq1]; decide) (by rw [hq1]; rfl) (by decide) ?_
          refine lv_aload_n hx hb dX7_cut_79 rfl (lv_at hl 0 rfl) ?_
          refine lv_aload_n hx hb dX7_cut_80 rfl (lv_at hl 0 rfl) ?_
          refine gM_X7_cutStage X hK hP iX7 (List.mem_of_getElem? (i := 2) rfl) dX7_cut_81 ?_
          refine lv_iload_n hx hb dX7_cut_84 rfl (lv_at hl 1 rfl) ?_
          obtain ⟨h1, hm⟩ := gd_ok hm
          refine rM_X7_cutStage X hK hP h1 dX7_cut_85 ?_
          obtain ⟨r4, hr4, hm⟩ := bd_ok hm
          refine callRV (rest := []) X hK hNW hml hP hl.1 (kX7_wayOf l D a cI cZ r2 (r2.2 14 p1.toNatClampNeg) r4 hr4) (cwV 1 X.2.2.1 gX7_cut_X7_wayOf rfl rfl rfl (by decide +kernel) ⟨Nat.le_of_ble_eq_true rfl, Nat.le_of_ble_eq_true rfl⟩) (vM_X7 hK hP) rfl rfl (Nat.le_of_ble_eq_true rfl) dX7_cut_86 ⟨Nat.zero_le _, Nat.zero_le _⟩ ?_
          exact endI X hK hr rfl hlocks hm hP hS dX7_cut_89
        · replace hm := (if_neg hq1).symm.trans hm
          by_cases hq2 : p2 = (2 : Int32)
          · replace hm := (if_pos hq2).symm.trans hm
            refine lv_tableIn (off := 56) (tgt := 90) hx hb dX7_cut_34 (by rw [hq2]; decide) (by rw [hq2]; decide) (by rw [hq2]; rfl) (by decide) ?_
            refine lv_aload_n hx hb dX7_cut_90 rfl (lv_at hl 0 rfl) ?_
            refine gM_X7_cutAt X hK hP iX7 (List.mem_of_getElem? (i := 3) rfl) dX7_cut_91 ?_
            refine lv_iload_n hx hb dX7_cut_94 rfl (lv_at hl 1 rfl) ?_
            obtain ⟨h1, hm⟩ := gd_ok hm
            refine rM_X7_cutAt X hK hP h1 dX7_cut_95 ?_
            exact endI X hK hr rfl hlocks hm hP hS dX7_cut_96
          · replace hm := (if_neg hq2).symm.trans hm
            by_cases hq3 : p2 = (3 : Int32)
            · replace hm := (if_pos hq3).symm.trans hm
              refine lv_tableIn (off := 63) (tgt := 97) hx hb dX7_cut_34 (by rw [hq3]; decide) (by rw [hq3]; decide) (by rw [hq3]; rfl) (by decide) ?_
              refine lv_aload_n hx hb dX7_cut_97 rfl (lv_at hl 0 rfl) ?_
              refine gM_X7_cutX X hK hP iX7 (List.mem_of_getElem? (i := 4) rfl) dX7_cut_98 ?_
              refine lv_iload_n hx hb dX7_cut_101 rfl (lv_at hl 1 rfl) ?_
              obtain ⟨h1, hm⟩ := gd_ok hm
              refine rM_X7_cutX X hK hP h1 dX7_cut_102 ?_
              exact endI X hK hr rfl hlocks hm hP hS dX7_cut_103
            · replace hm := (if_neg hq3).symm.trans hm
              by_cases hq4 : p2 = (4 : Int32)
              · replace hm := (if_pos hq4).symm.trans hm
                refine lv_tableIn (off := 70) (tgt := 104) hx hb dX7_cut_34 (by rw [hq4]; decide) (by rw [hq4]; decide) (by rw [hq4]; rfl) (by decide) ?_
                refine lv_aload_n hx hb dX7_cut_104 rfl (lv_at hl 0 rfl) ?_
                refine gM_X7_cutY X hK hP iX7 (List.mem_of_getElem? (i := 5) rfl) dX7_cut_105 ?_
                refine lv_iload_n hx hb dX7_cut_108 rfl (lv_at hl 1 rfl) ?_
                obtain ⟨h1, hm⟩ := gd_ok hm
                refine rM_X7_cutY X hK hP h1 dX7_cut_109 ?_
                exact endI X hK hr rfl hlocks hm hP hS dX7_cut_110
              · replace hm := (if_neg hq4).symm.trans hm
                by_cases hq5 : p2 = (5 : Int32)
                · replace hm := (if_pos hq5).symm.trans hm
                  refine lv_tableIn (off := 77) (tgt := 111) hx hb dX7_cut_34 (by rw [hq5]; decide) (by rw [hq5]; decide) (by rw [hq5]; rfl) (by decide) ?_
                  refine lv_aload_n hx hb dX7_cut_111 rfl (lv_at hl 0 rfl) ?_
                  refine gM_X7_cutW X hK hP iX7 (List.mem_of_getElem? (i := 6) rfl) dX7_cut_112 ?_
                  refine lv_iload_n hx hb dX7_cut_115 rfl (lv_at hl 1 rfl) ?_
                  obtain ⟨h1, hm⟩ := gd_ok hm
                  refine rM_X7_cutW X hK hP h1 dX7_cut_116 ?_
                  exact endI X hK hr rfl hlocks hm hP hS dX7_cut_117
                · replace hm := (if_neg hq5).symm.trans hm
                  refine lv_tableOut (tgt := 118) hx hb dX7_cut_34 (tbOut (n := 5) rfl (fun k hk => ?_)) (by decide) ?_
                  · match k, hk with
                    | 0, _ => exact hq0
                    | 1, _ => exact hq1
                    | 2, _ => exact hq2
                    | 3, _ => exact hq3
                    | 4, _ => exact hq4
                    | 5, _ => exact hq5
                    | k + 6, hk => exact absurd hk (by omega)
                  · refine lv_aload_n hx hb dX7_cut_118 rfl (lv_at hl 0 rfl) ?_
                    refine gM_X7_cutH X hK hP iX7 (List.mem_of_getElem? (i := 7) rfl) dX7_cut_119 ?_
                    refine lv_iload_n hx hb dX7_cut_122 rfl (lv_at hl 1 rfl) ?_
                    obtain ⟨h1, hm⟩ := gd_ok hm
                    refine rM_X7_cutH X hK hP h1 dX7_cut_123 ?_
                    exact endI X hK hr rfl hlocks hm hP hS dX7_cut_124
    · replace hm := (if_pos hc).symm.trans hm
      refine lv_iconst (v := (-1 : Int32)) hx hb dX7_cut_31 (by decide) ?_
      exact endI X hK hr rfl hlocks hm hP hS dX7_cut_32
  · replace hm := (if_pos hc).symm.trans hm
    refine lv_bipush (v := (-3 : Int32)) hx hb dX7_cut_10 (by decide) ?_
    exact endI X hK hr rfl hlocks hm hP hS dX7_cut_12

def rmX7_waste : Room := { frames := 5, cells := 0, slots := 0, locals := 127 }
set_option maxHeartbeats 4000000 in
set_option maxRecDepth 100000 in
theorem kX7_waste (l : Launch) (D : va_G) (a : Nat → Nat) (cI cZ : ClassId) (hA : AP 31 a) (S : ST) (sz : Nat)  (res : Int32 × ST) (hm : mX7_waste S  = some res) : Met l yX7_waste wsX7_waste rmX7_waste (va_Pc [.ref (a 0)] (PreW (wM a cI cZ S) D cI cZ sz)) (va_Qi (fun (r : Int32) (T : ST) => (r, T) = res) (PostW (wM a cI cZ) D cI cZ) (AC 31 a sz)) 0 0 (AC 31 a sz) := by
  refine metB (cc := cX7_waste) (maxL := 3) (ret := (some .int)) (by decide) rfl (Nat.le_of_ble_eq_true rfl) ?_
  intro p e s m below meth c ls X hml hr hlocks hin hv hl
  replace X : CX p m c cX7_waste s ([.ref (a 0)] : List Value).toArray wsX7_waste RX7 := X
  obtain ⟨hsz, hP, hK, hNW⟩ := hv
  subst hsz
  have hS : va_S (AC 31 a s.heap.size) s.heap s.heap [] := va_S.rf
  have hx := X.1
  have hb := X.2.1
  replace hl : lv_has ls 3 [(0, .ref (a 0))] := hl
  have iX7 : ∀ w ∈ wsX70, w ∈ wsX7_waste := fun w h => List.mem_cons_of_mem _ (List.mem_append_right _ h)
  suffices kS : ∀ (H : Heap) (locs : List Loc), va_P D vwCl (wM a cI cZ S) H → va_S (AC 31 a s.heap.size) s.heap H locs → W p l e rmX7_waste s m ([.ref (a 0)] : List Value).toArray below meth c H locs 0 0 (MQ below (va_Qi (fun (r : Int32) (T : ST) => (r, T) = res) (PostW (wM a cI cZ) D cI cZ) (AC 31 a s.heap.size)) ([.ref (a 0)] : List Value).toArray s 0 0 (AC 31 a s.heap.size)) (F0 m 0 ls []) by exact kS s.heap [] hP hS
  intro H locs hP hS
  unfold mX7_waste at hm
  refine lv_aload_n hx hb dX7_waste_0 rfl (lv_at hl 0 rfl) ?_
  obtain ⟨r1, hr1, hm⟩ := bd_ok hm
  refine callWV (wf := wM a cI cZ) (rest := []) X hK hNW hml hP hS hl.1 (kX7_work l D a cI cZ hA S H.size  r1 hr1) (cwV 0 X.2.2.1 gX7_waste_X7_work rfl rfl rfl (by decide +kernel) ⟨Nat.le_of_ble_eq_true rfl, Nat.le_of_ble_eq_true rfl⟩) (vM_X7 hK hP) rfl rfl (Nat.le_of_ble_eq_true rfl) dX7_waste_1 ⟨Nat.zero_le _, Nat.zero_le _⟩ (fun H locs hP hS => ?_)
  refine lv_aload_n hx hb dX7_waste_4 rfl (lv_at hl 0 rfl) ?_
  refine gM_X7_wide X hK hP iX7 (List.mem_of_getElem? (i := 1) rfl) dX7_waste_5 ?_
  refine lv_aload_n hx hb dX7_waste_8 rfl (lv_at hl 0 rfl) ?_
  refine gM_X7_high X hK hP iX7 (List.mem_of_getElem? (i := 2) rfl) dX7_waste_9 ?_
  refine lv_imul hx hb dX7_waste_12 ?_
  refine lv_istore_n (lv' := [(1, .int ((r1.1 0) * (r1.1 1))), (0, .ref (a 0))]) hx hb dX7_waste_13 rfl hl (by decide) rfl (fun ls hl => ?_)
  refine lv_iconst (v := (0 : Int32)) hx hb dX7_waste_14 (by decide) ?_
  refine lv_istore_n (lv' := [(2, .int (0 : Int32)), (1, .int ((r1.1 0) * (r1.1 1))), (0, .ref (a 0))]) hx hb dX7_waste_15 rfl hl (by decide) rfl (fun ls hl => ?_)
  have kb16 : ∀ (k x : Int32 → Int32 → Option (Int32 × ST)), (∀ (v1_16 : Int32) (v2_16 : Int32) (ls : Array Slot), lv_has ls 3 [(0, .ref (a 0)), (1, .int v1_16), (2, .int v2_16)] → k v1_16 v2_16 = some res → W p l e rmX7_waste s m ([.ref (a 0)] : List Value).toArray below meth c H locs 0 0 (MQ below (va_Qi (fun (r : Int32) (T : ST) => (r, T) = res) (PostW (wM a cI cZ) D cI cZ) (AC 31 a s.heap.size)) ([.ref (a 0)] : List Value).toArray s 0 0 (AC 31 a s.heap.size)) (F0 m 16 ls [])) → (∀ (v1_16 : Int32) (v2_16 : Int32) (ls : Array Slot), lv_has ls 3 [(0, .ref (a 0)), (1, .int v1_16), (2, .int v2_16)] → x v1_16 v2_16 = some res → W p l e rmX7_waste s m ([.ref (a 0)] : List Value).toArray below meth c H locs 0 0 (MQ below (va_Qi (fun (r : Int32) (T : ST) => (r, T) = res) (PostW (wM a cI cZ) D cI cZ) (AC 31 a s.heap.size)) ([.ref (a 0)] : List Value).toArray s 0 0 (AC 31 a s.heap.size)) (F0 m 56 ls [])) → ∀ (v1_16 : Int32) (v2_16 : Int32) (ls : Array Slot), lv_has ls 3 [(0, .ref (a 0)), (1, .int v1_16), (2, .int v2_16)] → mX7_waste_B16 k x r1  v1_16 v2_16 = some res → W p l e rmX7_waste s m ([.ref (a 0)] : List Value).toArray below meth c H locs 0 0 (MQ below (va_Qi (fun (r : Int32) (T : ST) => (r, T) = res) (PostW (wM a cI cZ) D cI cZ) (AC 31 a s.heap.size)) ([.ref (a 0)] : List Value).toArray s 0 0 (AC 31 a s.heap.size)) (F0 m 16 ls []) := by
    intro k x ih kxh v1_16 v2_16 ls hl hm
    unfold mX7_waste_B16 at hm
    refine lv_iload_n hx hb dX7_waste_16 rfl (lv_at hl 2 rfl) ?_
    refine lv_aload_n hx hb dX7_waste_17 rfl (lv_at hl 0 rfl) ?_
    refine gM_X7_pieceMany X hK hP iX7 (List.mem_of_getElem? (i := 3) rfl) dX7_waste_18 ?_
    refine lv_icmp_ge (tgt := 56) hx hb dX7_waste_21 (by decide) (fun hc => ?_) (fun hc => ?_)
    · replace hm := (if_pos hc).symm.trans hm
      exact kxh v1_16 v2_16 ls (lv_sub hl [0, 1, 2] rfl) hm
    · replace hm := (if_neg hc).symm.trans hm
      refine lv_iload_n hx hb dX7_waste_24 rfl (lv_at hl 1 rfl) ?_
      refine lv_aload_n hx hb dX7_waste_25 rfl (lv_at hl 0 rfl) ?_
      refine gM_X7_kindW X hK hP iX7 (List.mem_of_getElem? (i := 4) rfl) dX7_waste_26 ?_
      refine lv_aload_n hx hb dX7_waste_29 rfl (lv_at hl 0 rfl) ?_
      refine gM_X7_pieceKind X hK hP iX7 (List.mem_of_getElem? (i := 5) rfl) dX7_waste_30 ?_
      refine lv_iload_n hx hb dX7_waste_33 rfl (lv_at hl 2 rfl) ?_
      obtain ⟨h1, hm⟩ := gd_ok hm
      refine rM_X7_pieceKind X hK hP h1 dX7_waste_34 ?_
      obtain ⟨h1, hm⟩ := gd_ok hm
      refine rM_X7_kindW X hK hP h1 dX7_waste_35 ?_
      refine lv_aload_n hx hb dX7_waste_36 rfl (lv_at hl 0 rfl) ?_
      refine gM_X7_kindH X hK hP iX7 (List.mem_of_getElem? (i := 6) rfl) dX7_waste_37 ?_
      refine lv_aload_n hx hb dX7_waste_40 rfl (lv_at hl 0 rfl) ?_
      refine gM_X7_pieceKind X hK hP iX7 (List.mem_of_getElem? (i := 5) rfl) dX7_waste_41 ?_
      refine lv_iload_n hx hb dX7_waste_44 rfl (lv_at hl 2 rfl) ?_
      obtain ⟨h1, hm⟩ := gd_ok hm
      refine rM_X7_pieceKind X hK hP h1 dX7_waste_45 ?_
      obtain ⟨h1, hm⟩ := gd_ok hm
      refine rM_X7_kindH X hK hP h1 dX7_waste_46 ?_
      refine lv_imul hx hb dX7_waste_47 ?_
      refine lv_isub hx hb dX7_waste_48 ?_
      refine lv_istore_n (lv' := [(1, .int (v1_16 - ((r1.2 4 (r1.2 10 v2_16.toNatClampNeg).toNatClampNeg) * (r1.2 5 (r1.2 10 v2_16.toNatClampNeg).toNatClampNeg)))), (0, .ref (a 0)), (2, .int v2_16)]) hx hb dX7_waste_49 rfl hl (by decide) rfl (fun ls hl => ?_)
      refine lv_iinc (v := (v2_16 + (1 : Int32))) (lv' := [(2, .int (v2_16 + (1 : Int32))), (1, .int (v1_16 - ((r1.2 4 (r1.2 10 v2_16.toNatClampNeg).toNatClampNeg) * (r1.2 5 (r1.2 10 v2_16.toNatClampNeg).toNatClampNeg)))), (0, .ref (a 0))]) hx hb dX7_waste_50 hl (k := 2) rfl rfl (by decide) rfl (fun ls hl => ?_)
      refine lv_goto (tgt := 16) hx hb dX7_waste_53 (by decide) ?_
      exact ih (v1_16 - ((r1.2 4 (r1.2 10 v2_16.toNatClampNeg).toNatClampNeg) * (r1.2 5 (r1.2 10 v2_16.toNatClampNeg).toNatClampNeg))) (v2_16 + (1 : Int32)) ls (lv_sub hl [2, 1, 0] rfl) hm
  have kx16 : ∀ (v1_16 : Int32) (v2_16 : Int32) (ls : Array Slot), lv_has ls 3 [(0, .ref (a 0)), (1, .int v1_16), (2, .int v2_16)] → mX7_waste_X16  r1  v1_16 v2_16 = some res → W p l e rmX7_waste s m ([.ref (a 0)] : List Value).toArray below meth c H locs 0 0 (MQ below (va_Qi (fun (r : Int32) (T : ST) => (r, T) = res) (PostW (wM a cI cZ) D cI cZ) (AC 31 a s.heap.size)) ([.ref (a 0)] : List Value).toArray s 0 0 (AC 31 a s.heap.size)) (F0 m 56 ls []) := by
    intro v1_16 v2_16 ls hl hm
    unfold mX7_waste_X16 at hm
    refine lv_iload_n hx hb dX7_waste_56 rfl (lv_at hl 1 rfl) ?_
    exact endI X hK hr rfl hlocks hm hP hS dX7_waste_57
  have lp16 : ∀ (n : Nat) (v1_16 : Int32) (v2_16 : Int32) (ls : Array Slot), lv_has ls 3 [(0, .ref (a 0)), (1, .int v1_16), (2, .int v2_16)] → LPf (κ := Int32 → Int32 → Option (Int32 × ST)) (fun _ _ => none) (fun kk => mX7_waste_B16 kk (mX7_waste_X16  r1 ) r1 ) n v1_16 v2_16 = some res → W p l e rmX7_waste s m ([.ref (a 0)] : List Value).toArray below meth c H locs 0 0 (MQ below (va_Qi (fun (r : Int32) (T : ST) => (r, T) = res) (PostW (wM a cI cZ) D cI cZ) (AC 31 a s.heap.size)) ([.ref (a 0)] : List Value).toArray s 0 0 (AC 31 a s.heap.size)) (F0 m 16 ls []) := by
    intro n
    induction n with
    | zero =>
      intro v1_16 v2_16 ls hl hm
      exact (noS (show (none : Option (Int32 × ST)) = some res from hm)).elim
    | succ n ih =>
      intro v1_16 v2_16 ls hl hm
      exact kb16 _ _ ih kx16 v1_16 v2_16 ls hl hm
  exact lp16 FU ((r1.1 0) * (r1.1 1)) (0 : Int32) ls (lv_sub hl [2, 1, 0] rfl) hm

def rmX7_stock : Room := { frames := 1, cells := 0, slots := 0, locals := 22 }
set_option maxHeartbeats 4000000 in
set_option maxRecDepth 100000 in
theorem kX7_stock (l : Launch) (D : va_G) (a : Nat → Nat) (cI cZ : ClassId) (hA : AP 31 a) (S : ST) (sz : Nat) (p1 : Int32) (p2 : Int32) (res : Int32 × ST) (hm : mX7_stock S p1 p2 = some res) : Met l yX7_stock wsX7_stock rmX7_stock (va_Pc [.ref (a 0), .int p1, .int p2] (PreW (wM a cI cZ S) D cI cZ sz)) (va_Qi (fun (r : Int32) (T : ST) => (r, T) = res) (PostW (wM a cI cZ) D cI cZ) (AC 31 a sz)) 0 0 (AC 31 a sz) := by
  refine metB (cc := cX7_stock) (maxL := 3) (ret := (some .int)) (by decide) rfl (Nat.le_of_ble_eq_true rfl) ?_
  intro p e s m below meth c ls X hml hr hlocks hin hv hl
  replace X : CX p m c cX7_stock s ([.ref (a 0), .int p1, .int p2] : List Value).toArray wsX7_stock RX7 := X
  obtain ⟨hsz, hP, hK, hNW⟩ := hv
  subst hsz
  have hS : va_S (AC 31 a s.heap.size) s.heap s.heap [] := va_S.rf
  have hx := X.1
  have hb := X.2.1
  replace hl : lv_has ls 3 [(0, .ref (a 0)), (1, .int p1), (2, .int p2)] := hl
  have iX7 : ∀ w ∈ wsX70, w ∈ wsX7_stock := fun w h => List.mem_cons_of_mem _ (List.mem_append_right _ h)
  suffices kS : ∀ (H : Heap) (locs : List Loc), va_P D vwCl (wM a cI cZ S) H → va_S (AC 31 a s.heap.size) s.heap H locs → W p l e rmX7_stock s m ([.ref (a 0), .int p1, .int p2] : List Value).toArray below meth c H locs 0 0 (MQ below (va_Qi (fun (r : Int32) (T : ST) => (r, T) = res) (PostW (wM a cI cZ) D cI cZ) (AC 31 a s.heap.size)) ([.ref (a 0), .int p1, .int p2] : List Value).toArray s 0 0 (AC 31 a s.heap.size)) (F0 m 0 ls []) by exact kS s.heap [] hP hS
  intro H locs hP hS
  unfold mX7_stock at hm
  refine lv_iload_n hx hb dX7_stock_0 rfl (lv_at hl 1 rfl) ?_
  refine lv_iconst (v := (1 : Int32)) hx hb dX7_stock_1 (by decide) ?_
  refine lv_bipush (v := (99 : Int32)) hx hb dX7_stock_2 (by decide) ?_
  obtain ⟨r1, hr1, hm⟩ := bd_ok hm
  refine callRS (rest := []) X hml hl.1 (kX7_within l p1 (1 : Int32) (99 : Int32) r1 hr1) (va_cwS 3 X.2.2.1 gX7_stock_X7_within rfl rfl rfl (by decide +kernel) ⟨Nat.le_of_ble_eq_true rfl, Nat.le_of_ble_eq_true rfl⟩) rfl rfl (Nat.le_of_ble_eq_true rfl) dX7_stock_4 ⟨Nat.zero_le _, Nat.zero_le _⟩ ?_
  refine lv_if_eq (tgt := 20) hx hb dX7_stock_7 (by decide) (fun hc => ?_) (fun hc => ?_)
  · replace hm := (if_pos hc).symm.trans hm
    refine lv_bipush (v := (-3 : Int32)) hx hb dX7_stock_20 (by decide) ?_
    exact endI X hK hr rfl hlocks hm hP hS dX7_stock_22
  · replace hm := (if_neg hc).symm.trans hm
    refine lv_iload_n hx hb dX7_stock_10 rfl (lv_at hl 2 rfl) ?_
    refine lv_iconst (v := (1 : Int32)) hx hb dX7_stock_11 (by decide) ?_
    refine lv_bipush (v := (100 : Int32)) hx hb dX7_stock_12 (by decide) ?_
    obtain ⟨r2, hr2, hm⟩ := bd_ok hm
    refine callRS (rest := []) X hml hl.1 (kX7_within l p2 (1 : Int32) (100 : Int32) r2 hr2) (va_cwS 3 X.2.2.1 gX7_stock_X7_within rfl rfl rfl (by decide +kernel) ⟨Nat.le_of_ble_eq_true rfl, Nat.le_of_ble_eq_true rfl⟩) rfl rfl (Nat.le_of_ble_eq_true rfl) dX7_stock_14 ⟨Nat.zero_le _, Nat.zero_le _⟩ ?_
    refine lv_if_ne (tgt := 23) hx hb dX7_stock_17 (by decide) (fun hc => ?_) (fun hc => ?_)
    · replace hm := (if_neg hc).symm.trans hm
      refine lv_aload_n hx hb dX7_stock_23 rfl (lv_at hl 0 rfl) ?_
      refine gM_X7_stocks X hK hP iX7 (List.mem_of_getElem? (i := 1) rfl) dX7_stock_24 ?_
      refine lv_iconst (v := (3 : Int32)) hx hb dX7_stock_27 (by decide) ?_
      refine lv_icmp_ne (tgt := 34) hx hb dX7_stock_28 (by decide) (fun hc => ?_) (fun hc => ?_)
      · replace hm := (if_neg hc).symm.trans hm
        refine lv_aload_n hx hb dX7_stock_34 rfl (lv_at hl 0 rfl) ?_
        refine gM_X7_stockLength X hK hP iX7 (List.mem_of_getElem? (i := 2) rfl) dX7_stock_35 ?_
        refine lv_aload_n hx hb dX7_stock_38 rfl (lv_at hl 0 rfl) ?_
        refine gM_X7_stocks X hK hP iX7 (List.mem_of_getElem? (i := 1) rfl) dX7_stock_39 ?_
        refine lv_iload_n hx hb dX7_stock_42 rfl (lv_at hl 1 rfl) ?_
        obtain ⟨h1, hm⟩ := gd_ok hm
        refine sM_X7_stockLength X hK hA hP hS h1 dX7_stock_43 (fun H locs hP hS => ?_)
        refine lv_aload_n hx hb dX7_stock_44 rfl (lv_at hl 0 rfl) ?_
        refine gM_X7_stockPrice X hK hP iX7 (List.mem_of_getElem? (i := 3) rfl) dX7_stock_45 ?_
        refine lv_aload_n hx hb dX7_stock_48 rfl (lv_at hl 0 rfl) ?_
        refine gM_X7_stocks X hK hP iX7 (List.mem_of_getElem? (i := 1) rfl) dX7_stock_49 ?_
        refine lv_iload_n hx hb dX7_stock_52 rfl (lv_at hl 2 rfl) ?_
        obtain ⟨h1, hm⟩ := gd_ok hm
        refine sM_X7_stockPrice X hK hA hP hS h1 dX7_stock_53 (fun H locs hP hS => ?_)
        refine lv_aload_n hx hb dX7_stock_54 rfl (lv_at hl 0 rfl) ?_
        refine lv_dup hx hb dX7_stock_55 rfl ?_
        refine gM_X7_stocks X hK hP iX7 (List.mem_of_getElem? (i := 1) rfl) dX7_stock_56 ?_
        refine lv_iconst (v := (1 : Int32)) hx hb dX7_stock_59 (by decide) ?_
        refine lv_iadd hx hb dX7_stock_60 ?_
        refine pM_X7_stocks X hK hA hP hS iX7 (List.mem_of_getElem? (i := 1) rfl) dX7_stock_61 (fun H locs hP hS => ?_)
        refine lv_aload_n hx hb dX7_stock_64 rfl (lv_at hl 0 rfl) ?_
        refine lv_iconst (v := (0 : Int32)) hx hb dX7_stock_65 (by decide) ?_
        refine pM_X7_isListed X hK hA hP hS iX7 (List.mem_of_getElem? (i := 4) rfl) ⟨rfl, rfl⟩ dX7_stock_66 (fun H locs hP hS => ?_)
        refine lv_aload_n hx hb dX7_stock_69 rfl (lv_at hl 0 rfl) ?_
        refine gM_X7_stocks X hK hP iX7 (List.mem_of_getElem? (i := 1) rfl) dX7_stock_70 ?_
        refine lv_iconst (v := (1 : Int32)) hx hb dX7_stock_73 (by decide) ?_
        refine lv_isub hx hb dX7_stock_74 ?_
        exact endI X hK hr rfl hlocks hm hP hS dX7_stock_75
      · replace hm := (if_pos hc).symm.trans hm
        refine lv_bipush (v := (-4 : Int32)) hx hb dX7_stock_31 (by decide) ?_
        exact endI X hK hr rfl hlocks hm hP hS dX7_stock_33
    · replace hm := (if_pos hc).symm.trans hm
      refine lv_bipush (v := (-3 : Int32)) hx hb dX7_stock_20 (by decide) ?_
      exact endI X hK hr rfl hlocks hm hP hS dX7_stock_22

def rmX7_order : Room := { frames := 1, cells := 0, slots := 0, locals := 22 }
set_option maxHeartbeats 4000000 in
set_option maxRecDepth 100000 in
theorem kX7_order (l : Launch) (D : va_G) (a : Nat → Nat) (cI cZ : ClassId) (hA : AP 31 a) (S : ST) (sz : Nat) (p1 : Int32) (p2 : Int32) (res : Int32 × ST) (hm : mX7_order S p1 p2 = some res) : Met l yX7_order wsX7_order rmX7_order (va_Pc [.ref (a 0), .int p1, .int p2] (PreW (wM a cI cZ S) D cI cZ sz)) (va_Qi (fun (r : Int32) (T : ST) => (r, T) = res) (PostW (wM a cI cZ) D cI cZ) (AC 31 a sz)) 0 0 (AC 31 a sz) := by
  refine metB (cc := cX7_order) (maxL := 3) (ret := (some .int)) (by decide) rfl (Nat.le_of_ble_eq_true rfl) ?_
  intro p e s m below meth c ls X hml hr hlocks hin hv hl
  replace X : CX p m c cX7_order s ([.ref (a 0), .int p1, .int p2] : List Value).toArray wsX7_order RX7 := X
  obtain ⟨hsz, hP, hK, hNW⟩ := hv
  subst hsz
  have hS : va_S (AC 31 a s.heap.size) s.heap s.heap [] := va_S.rf
  have hx := X.1
  have hb := X.2.1
  replace hl : lv_has ls 3 [(0, .ref (a 0)), (1, .int p1), (2, .int p2)] := hl
  have iX7 : ∀ w ∈ wsX70, w ∈ wsX7_order := fun w h => List.mem_cons_of_mem _ (List.mem_append_right _ h)
  suffices kS : ∀ (H : Heap) (locs : List Loc), va_P D vwCl (wM a cI cZ S) H → va_S (AC 31 a s.heap.size) s.heap H locs → W p l e rmX7_order s m ([.ref (a 0), .int p1, .int p2] : List Value).toArray below meth c H locs 0 0 (MQ below (va_Qi (fun (r : Int32) (T : ST) => (r, T) = res) (PostW (wM a cI cZ) D cI cZ) (AC 31 a s.heap.size)) ([.ref (a 0), .int p1, .int p2] : List Value).toArray s 0 0 (AC 31 a s.heap.size)) (F0 m 0 ls []) by exact kS s.heap [] hP hS
  intro H locs hP hS
  unfold mX7_order at hm
  refine lv_iload_n hx hb dX7_order_0 rfl (lv_at hl 1 rfl) ?_
  refine lv_iconst (v := (1 : Int32)) hx hb dX7_order_1 (by decide) ?_
  refine lv_bipush (v := (99 : Int32)) hx hb dX7_order_2 (by decide) ?_
  obtain ⟨r1, hr1, hm⟩ := bd_ok hm
  refine callRS (rest := []) X hml hl.1 (kX7_within l p1 (1 : Int32) (99 : Int32) r1 hr1) (va_cwS 3 X.2.2.1 gX7_order_X7_within rfl rfl rfl (by decide +kernel) ⟨Nat.le_of_ble_eq_true rfl, Nat.le_of_ble_eq_true rfl⟩) rfl rfl (Nat.le_of_ble_eq_true rfl) dX7_order_4 ⟨Nat.zero_le _, Nat.zero_le _⟩ ?_
  refine lv_if_eq (tgt := 19) hx hb dX7_order_7 (by decide) (fun hc => ?_) (fun hc => ?_)
  · replace hm := (if_pos hc).symm.trans hm
    refine lv_bipush (v := (-3 : Int32)) hx hb dX7_order_19 (by decide) ?_
    exact endI X hK hr rfl hlocks hm hP hS dX7_order_21
  · replace hm := (if_neg hc).symm.trans hm
    refine lv_iload_n hx hb dX7_order_10 rfl (lv_at hl 2 rfl) ?_
    refine lv_iconst (v := (0 : Int32)) hx hb dX7_order_11 (by decide) ?_
    refine lv_iconst (v := (5 : Int32)) hx hb dX7_order_12 (by decide) ?_
    obtain ⟨r2, hr2, hm⟩ := bd_ok hm
    refine callRS (rest := []) X hml hl.1 (kX7_within l p2 (0 : Int32) (5 : Int32) r2 hr2) (va_cwS 3 X.2.2.1 gX7_order_X7_within rfl rfl rfl (by decide +kernel) ⟨Nat.le_of_ble_eq_true rfl, Nat.le_of_ble_eq_true rfl⟩) rfl rfl (Nat.le_of_ble_eq_true rfl) dX7_order_13 ⟨Nat.zero_le _, Nat.zero_le _⟩ ?_
    refine lv_if_ne (tgt := 22) hx hb dX7_order_16 (by decide) (fun hc => ?_) (fun hc => ?_)
    · replace hm := (if_neg hc).symm.trans hm
      refine lv_aload_n hx hb dX7_order_22 rfl (lv_at hl 0 rfl) ?_
      refine gM_X7_orders X hK hP iX7 (List.mem_of_getElem? (i := 1) rfl) dX7_order_23 ?_
      refine lv_iconst (v := (4 : Int32)) hx hb dX7_order_26 (by decide) ?_
      refine lv_icmp_ne (tgt := 33) hx hb dX7_order_27 (by decide) (fun hc => ?_) (fun hc => ?_)
      · replace hm := (if_neg hc).symm.trans hm
        refine lv_aload_n hx hb dX7_order_33 rfl (lv_at hl 0 rfl) ?_
        refine gM_X7_orderLength X hK hP iX7 (List.mem_of_getElem? (i := 2) rfl) dX7_order_34 ?_
        refine lv_aload_n hx hb dX7_order_37 rfl (lv_at hl 0 rfl) ?_
        refine gM_X7_orders X hK hP iX7 (List.mem_of_getElem? (i := 1) rfl) dX7_order_38 ?_
        refine lv_iload_n hx hb dX7_order_41 rfl (lv_at hl 1 rfl) ?_
        obtain ⟨h1, hm⟩ := gd_ok hm
        refine sM_X7_orderLength X hK hA hP hS h1 dX7_order_42 (fun H locs hP hS => ?_)
        refine lv_aload_n hx hb dX7_order_43 rfl (lv_at hl 0 rfl) ?_
        refine gM_X7_orderDemand X hK hP iX7 (List.mem_of_getElem? (i := 3) rfl) dX7_order_44 ?_
        refine lv_aload_n hx hb dX7_order_47 rfl (lv_at hl 0 rfl) ?_
        refine gM_X7_orders X hK hP iX7 (List.mem_of_getElem? (i := 1) rfl) dX7_order_48 ?_
        refine lv_iload_n hx hb dX7_order_51 rfl (lv_at hl 2 rfl) ?_
        obtain ⟨h1, hm⟩ := gd_ok hm
        refine sM_X7_orderDemand X hK hA hP hS h1 dX7_order_52 (fun H locs hP hS => ?_)
        refine lv_aload_n hx hb dX7_order_53 rfl (lv_at hl 0 rfl) ?_
        refine lv_dup hx hb dX7_order_54 rfl ?_
        refine gM_X7_orders X hK hP iX7 (List.mem_of_getElem? (i := 1) rfl) dX7_order_55 ?_
        refine lv_iconst (v := (1 : Int32)) hx hb dX7_order_58 (by decide) ?_
        refine lv_iadd hx hb dX7_order_59 ?_
        refine pM_X7_orders X hK hA hP hS iX7 (List.mem_of_getElem? (i := 1) rfl) dX7_order_60 (fun H locs hP hS => ?_)
        refine lv_aload_n hx hb dX7_order_63 rfl (lv_at hl 0 rfl) ?_
        refine lv_iconst (v := (0 : Int32)) hx hb dX7_order_64 (by decide) ?_
        refine pM_X7_isListed X hK hA hP hS iX7 (List.mem_of_getElem? (i := 4) rfl) ⟨rfl, rfl⟩ dX7_order_65 (fun H locs hP hS => ?_)
        refine lv_aload_n hx hb dX7_order_68 rfl (lv_at hl 0 rfl) ?_
        refine gM_X7_orders X hK hP iX7 (List.mem_of_getElem? (i := 1) rfl) dX7_order_69 ?_
        refine lv_iconst (v := (1 : Int32)) hx hb dX7_order_72 (by decide) ?_
        refine lv_isub hx hb dX7_order_73 ?_
        exact endI X hK hr rfl hlocks hm hP hS dX7_order_74
      · replace hm := (if_pos hc).symm.trans hm
        refine lv_bipush (v := (-4 : Int32)) hx hb dX7_order_30 (by decide) ?_
        exact endI X hK hr rfl hlocks hm hP hS dX7_order_32
    · replace hm := (if_pos hc).symm.trans hm
      refine lv_bipush (v := (-3 : Int32)) hx hb dX7_order_19 (by decide) ?_
      exact endI X hK hr rfl hlocks hm hP hS dX7_order_21

def rmX7_demand : Room := { frames := 1, cells := 0, slots := 0, locals := 22 }
set_option maxHeartbeats 4000000 in
set_option maxRecDepth 100000 in
theorem kX7_demand (l : Launch) (D : va_G) (a : Nat → Nat) (cI cZ : ClassId) (hA : AP 31 a) (S : ST) (sz : Nat) (p1 : Int32) (p2 : Int32) (res : Int32 × ST) (hm : mX7_demand S p1 p2 = some res) : Met l yX7_demand wsX7_demand rmX7_demand (va_Pc [.ref (a 0), .int p1, .int p2] (PreW (wM a cI cZ S) D cI cZ sz)) (va_Qi (fun (r : Int32) (T : ST) => (r, T) = res) (PostW (wM a cI cZ) D cI cZ) (AC 31 a sz)) 0 0 (AC 31 a sz) := by
  refine metB (cc := cX7_demand) (maxL := 4) (ret := (some .int)) (by decide) rfl (Nat.le_of_ble_eq_true rfl) ?_
  intro p e s m below meth c ls X hml hr hlocks hin hv hl
  replace X : CX p m c cX7_demand s ([.ref (a 0), .int p1, .int p2] : List Value).toArray wsX7_demand RX7 := X
  obtain ⟨hsz, hP, hK, hNW⟩ := hv
  subst hsz
  have hS : va_S (AC 31 a s.heap.size) s.heap s.heap [] := va_S.rf
  have hx := X.1
  have hb := X.2.1
  replace hl : lv_has ls 4 [(0, .ref (a 0)), (1, .int p1), (2, .int p2)] := hl
  have iX7 : ∀ w ∈ wsX70, w ∈ wsX7_demand := fun w h => List.mem_cons_of_mem _ (List.mem_append_right _ h)
  suffices kS : ∀ (H : Heap) (locs : List Loc), va_P D vwCl (wM a cI cZ S) H → va_S (AC 31 a s.heap.size) s.heap H locs → W p l e rmX7_demand s m ([.ref (a 0), .int p1, .int p2] : List Value).toArray below meth c H locs 0 0 (MQ below (va_Qi (fun (r : Int32) (T : ST) => (r, T) = res) (PostW (wM a cI cZ) D cI cZ) (AC 31 a s.heap.size)) ([.ref (a 0), .int p1, .int p2] : List Value).toArray s 0 0 (AC 31 a s.heap.size)) (F0 m 0 ls []) by exact kS s.heap [] hP hS
  intro H locs hP hS
  unfold mX7_demand at hm
  refine lv_iload_n hx hb dX7_demand_0 rfl (lv_at hl 1 rfl) ?_
  refine lv_iconst (v := (0 : Int32)) hx hb dX7_demand_1 (by decide) ?_
  refine lv_aload_n hx hb dX7_demand_2 rfl (lv_at hl 0 rfl) ?_
  refine gM_X7_orders X hK hP iX7 (List.mem_of_getElem? (i := 1) rfl) dX7_demand_3 ?_
  refine lv_iconst (v := (1 : Int32)) hx hb dX7_demand_6 (by decide) ?_
  refine lv_isub hx hb dX7_demand_7 ?_
  obtain ⟨r1, hr1, hm⟩ := bd_ok hm
  refine callRS (rest := []) X hml hl.1 (kX7_within l p1 (0 : Int32) ((S.1 12) - (1 : Int32)) r1 hr1) (va_cwS 3 X.2.2.1 gX7_demand_X7_within rfl rfl rfl (by decide +kernel) ⟨Nat.le_of_ble_eq_true rfl, Nat.le_of_ble_eq_true rfl⟩) rfl rfl (Nat.le_of_ble_eq_true rfl) dX7_demand_8 ⟨Nat.zero_le _, Nat.zero_le _⟩ ?_
  refine lv_if_ne (tgt := 17) hx hb dX7_demand_11 (by decide) (fun hc => ?_) (fun hc => ?_)
  · replace hm := (if_neg hc).symm.trans hm
    refine lv_iload_n hx hb dX7_demand_17 rfl (lv_at hl 2 rfl) ?_
    refine lv_iconst (v := (0 : Int32)) hx hb dX7_demand_18 (by decide) ?_
    refine lv_iconst (v := (5 : Int32)) hx hb dX7_demand_19 (by decide) ?_
    obtain ⟨r2, hr2, hm⟩ := bd_ok hm
    refine callRS (rest := []) X hml hl.1 (kX7_within l p2 (0 : Int32) (5 : Int32) r2 hr2) (va_cwS 3 X.2.2.1 gX7_demand_X7_within rfl rfl rfl (by decide +kernel) ⟨Nat.le_of_ble_eq_true rfl, Nat.le_of_ble_eq_true rfl⟩) rfl rfl (Nat.le_of_ble_eq_true rfl) dX7_demand_20 ⟨Nat.zero_le _, Nat.zero_le _⟩ ?_
    refine lv_if_ne (tgt := 29) hx hb dX7_demand_23 (by decide) (fun hc => ?_) (fun hc => ?_)
    · replace hm := (if_neg hc).symm.trans hm
      refine lv_aload_n hx hb dX7_demand_29 rfl (lv_at hl 0 rfl) ?_
      refine gM_X7_orderDemand X hK hP iX7 (List.mem_of_getElem? (i := 2) rfl) dX7_demand_30 ?_
      refine lv_iload_n hx hb dX7_demand_33 rfl (lv_at hl 1 rfl) ?_
      obtain ⟨h1, hm⟩ := gd_ok hm
      refine rM_X7_orderDemand X hK hP h1 dX7_demand_34 ?_
      refine lv_istore_n (lv' := [(3, .int (S.2 24 p1.toNatClampNeg)), (0, .ref (a 0)), (1, .int p1), (2, .int p2)]) hx hb dX7_demand_35 rfl hl (by decide) rfl (fun ls hl => ?_)
      refine lv_aload_n hx hb dX7_demand_36 rfl (lv_at hl 1 rfl) ?_
      refine gM_X7_orderDemand X hK hP iX7 (List.mem_of_getElem? (i := 2) rfl) dX7_demand_37 ?_
      refine lv_iload_n hx hb dX7_demand_40 rfl (lv_at hl 2 rfl) ?_
      refine lv_iload_n hx hb dX7_demand_41 rfl (lv_at hl 3 rfl) ?_
      obtain ⟨h1, hm⟩ := gd_ok hm
      refine sM_X7_orderDemand X hK hA hP hS h1 dX7_demand_42 (fun H locs hP hS => ?_)
      refine lv_aload_n hx hb dX7_demand_43 rfl (lv_at hl 1 rfl) ?_
      refine lv_iconst (v := (0 : Int32)) hx hb dX7_demand_44 (by decide) ?_
      refine pM_X7_isListed X hK hA hP hS iX7 (List.mem_of_getElem? (i := 3) rfl) ⟨rfl, rfl⟩ dX7_demand_45 (fun H locs hP hS => ?_)
      refine lv_iload_n hx hb dX7_demand_48 rfl (lv_at hl 0 rfl) ?_
      exact endI X hK hr rfl hlocks hm hP hS dX7_demand_49
    · replace hm := (if_pos hc).symm.trans hm
      refine lv_bipush (v := (-3 : Int32)) hx hb dX7_demand_26 (by decide) ?_
      exact endI X hK hr rfl hlocks hm hP hS dX7_demand_28
  · replace hm := (if_pos hc).symm.trans hm
    refine lv_bipush (v := (-2 : Int32)) hx hb dX7_demand_14 (by decide) ?_
    exact endI X hK hr rfl hlocks hm hP hS dX7_demand_16

def rmX7_blade : Room := { frames := 1, cells := 0, slots := 0, locals := 22 }
set_option maxHeartbeats 4000000 in
set_option maxRecDepth 100000 in
theorem kX7_blade (l : Launch) (D : va_G) (a : Nat → Nat) (cI cZ : ClassId) (hA : AP 31 a) (S : ST) (sz : Nat) (p1 : Int32) (res : Int32 × ST) (hm : mX7_blade S p1 = some res) : Met l yX7_blade wsX7_blade rmX7_blade (va_Pc [.ref (a 0), .int p1] (PreW (wM a cI cZ S) D cI cZ sz)) (va_Qi (fun (r : Int32) (T : ST) => (r, T) = res) (PostW (wM a cI cZ) D cI cZ) (AC 31 a sz)) 0 0 (AC 31 a sz) := by
  refine metB (cc := cX7_blade) (maxL := 3) (ret := (some .int)) (by decide) rfl (Nat.le_of_ble_eq_true rfl) ?_
  intro p e s m below meth c ls X hml hr hlocks hin hv hl
  replace X : CX p m c cX7_blade s ([.ref (a 0), .int p1] : List Value).toArray wsX7_blade RX7 := X
  obtain ⟨hsz, hP, hK, hNW⟩ := hv
  subst hsz
  have hS : va_S (AC 31 a s.heap.size) s.heap s.heap [] := va_S.rf
  have hx := X.1
  have hb := X.2.1
  replace hl : lv_has ls 3 [(0, .ref (a 0)), (1, .int p1)] := hl
  have iX7 : ∀ w ∈ wsX70, w ∈ wsX7_blade := fun w h => List.mem_cons_of_mem _ (List.mem_append_right _ h)
  suffices kS : ∀ (H : Heap) (locs : List Loc), va_P D vwCl (wM a cI cZ S) H → va_S (AC 31 a s.heap.size) s.heap H locs → W p l e rmX7_blade s m ([.ref (a 0), .int p1] : List Value).toArray below meth c H locs 0 0 (MQ below (va_Qi (fun (r : Int32) (T : ST) => (r, T) = res) (PostW (wM a cI cZ) D cI cZ) (AC 31 a s.heap.size)) ([.ref (a 0), .int p1] : List Value).toArray s 0 0 (AC 31 a s.heap.size)) (F0 m 0 ls []) by exact kS s.heap [] hP hS
  intro H locs hP hS
  unfold mX7_blade at hm
  refine lv_iload_n hx hb dX7_blade_0 rfl (lv_at hl 1 rfl) ?_
  refine lv_iconst (v := (0 : Int32)) hx hb dX7_blade_1 (by decide) ?_
  refine lv_iconst (v := (3 : Int32)) hx hb dX7_blade_2 (by decide) ?_
  obtain ⟨r1, hr1, hm⟩ := bd_ok hm
  refine callRS (rest := []) X hml hl.1 (kX7_within l p1 (0 : Int32) (3 : Int32) r1 hr1) (va_cwS 3 X.2.2.1 gX7_blade_X7_within rfl rfl rfl (by decide +kernel) ⟨Nat.le_of_ble_eq_true rfl, Nat.le_of_ble_eq_true rfl⟩) rfl rfl (Nat.le_of_ble_eq_true rfl) dX7_blade_3 ⟨Nat.zero_le _, Nat.zero_le _⟩ ?_
  refine lv_if_ne (tgt := 12) hx hb dX7_blade_6 (by decide) (fun hc => ?_) (fun hc => ?_)
  · replace hm := (if_neg hc).symm.trans hm
    refine lv_aload_n hx hb dX7_blade_12 rfl (lv_at hl 0 rfl) ?_
    refine gM_X7_blade X hK hP iX7 (List.mem_of_getElem? (i := 1) rfl) dX7_blade_13 ?_
    refine lv_istore_n (lv' := [(2, .int (S.1 13)), (0, .ref (a 0)), (1, .int p1)]) hx hb dX7_blade_16 rfl hl (by decide) rfl (fun ls hl => ?_)
    refine lv_aload_n hx hb dX7_blade_17 rfl (lv_at hl 1 rfl) ?_
    refine lv_iload_n hx hb dX7_blade_18 rfl (lv_at hl 2 rfl) ?_
    refine pM_X7_blade X hK hA hP hS iX7 (List.mem_of_getElem? (i := 1) rfl) dX7_blade_19 (fun H locs hP hS => ?_)
    refine lv_aload_n hx hb dX7_blade_22 rfl (lv_at hl 1 rfl) ?_
    refine lv_iconst (v := (0 : Int32)) hx hb dX7_blade_23 (by decide) ?_
    refine pM_X7_isListed X hK hA hP hS iX7 (List.mem_of_getElem? (i := 2) rfl) ⟨rfl, rfl⟩ dX7_blade_24 (fun H locs hP hS => ?_)
    refine lv_iload_n hx hb dX7_blade_27 rfl (lv_at hl 0 rfl) ?_
    exact endI X hK hr rfl hlocks hm hP hS dX7_blade_28
  · replace hm := (if_pos hc).symm.trans hm
    refine lv_bipush (v := (-3 : Int32)) hx hb dX7_blade_9 (by decide) ?_
    exact endI X hK hr rfl hlocks hm hP hS dX7_blade_11

def rmX7_digit : Room := { frames := 0, cells := 0, slots := 0, locals := 0 }
set_option maxHeartbeats 4000000 in
set_option maxRecDepth 100000 in
theorem kX7_digit (l : Launch) (p0 : Int32) (p1 : Int32) (res : Int32) (hm : mX7_digit  p0 p1 = some res) : Met l yX7_digit wsX7_digit rmX7_digit (va_Pc [.int p0, .int p1] (fun _ => True)) (vp_Si (fun r => r = res)) 0 0 (fun _ => False) := by
  refine metB (cc := cX7_digit) (maxL := 4) (ret := (some .int)) (by decide) rfl (Nat.le_of_ble_eq_true rfl) ?_
  intro p e s m below meth c ls X hml hr hlocks hin hv hl
  replace X : CX p m c cX7_digit s ([.int p0, .int p1] : List Value).toArray wsX7_digit RX7 := X
  have hx := X.1
  have hb := X.2.1
  replace hl : lv_has ls 4 [(0, .int p0), (1, .int p1)] := hl
  unfold mX7_digit at hm
  refine lv_iload_n hx hb dX7_digit_0 rfl (lv_at hl 0 rfl) ?_
  refine lv_istore_n (lv' := [(2, .int p0), (0, .int p0), (1, .int p1)]) hx hb dX7_digit_1 rfl hl (by decide) rfl (fun ls hl => ?_)
  refine lv_iload_n hx hb dX7_digit_2 rfl (lv_at hl 2 rfl) ?_
  refine lv_istore_n (lv' := [(3, .int p1), (2, .int p0), (0, .int p0), (1, .int p1)]) hx hb dX7_digit_3 rfl hl (by decide) rfl (fun ls hl => ?_)
  have kb4 : ∀ (k x : Int32 → Int32 → Option (Int32)), (∀ (v2_4 : Int32) (v3_4 : Int32) (ls : Array Slot), lv_has ls 4 [(0, .int p0), (1, .int p1), (2, .int v2_4), (3, .int v3_4)] → k v2_4 v3_4 = some res → W p l e rmX7_digit s m ([.int p0, .int p1] : List Value).toArray below meth c s.heap [] 0 0 (MQ below (vp_Si (fun r => r = res)) ([.int p0, .int p1] : List Value).toArray s 0 0 (fun _ => False)) (F0 m 4 ls [])) → (∀ (v2_4 : Int32) (v3_4 : Int32) (ls : Array Slot), lv_has ls 4 [(0, .int p0), (1, .int p1), (2, .int v2_4), (3, .int v3_4)] → x v2_4 v3_4 = some res → W p l e rmX7_digit s m ([.int p0, .int p1] : List Value).toArray below meth c s.heap [] 0 0 (MQ below (vp_Si (fun r => r = res)) ([.int p0, .int p1] : List Value).toArray s 0 0 (fun _ => False)) (F0 m 20 ls [])) → ∀ (v2_4 : Int32) (v3_4 : Int32) (ls : Array Slot), lv_has ls 4 [(0, .int p0), (1, .int p1), (2, .int v2_4), (3, .int v3_4)] → mX7_digit_B4 k x p0 p1 v2_4 v3_4 = some res → W p l e rmX7_digit s m ([.int p0, .int p1] : List Value).toArray below meth c s.heap [] 0 0 (MQ below (vp_Si (fun r => r = res)) ([.int p0, .int p1] : List Value).toArray s 0 0 (fun _ => False)) (F0 m 4 ls []) := by
    intro k x ih kxh v2_4 v3_4 ls hl hm
    unfold mX7_digit_B4 at hm
    refine lv_iload_n hx hb dX7_digit_4 rfl (lv_at hl 3 rfl) ?_
    refine lv_iconst (v := (3 : Int32)) hx hb dX7_digit_5 (by decide) ?_
    refine lv_icmp_ge (tgt := 20) hx hb dX7_digit_6 (by decide) (fun hc => ?_) (fun hc => ?_)
    · replace hm := (if_pos hc).symm.trans hm
      exact kxh v2_4 v3_4 ls (lv_sub hl [0, 1, 2, 3] rfl) hm
    · replace hm := (if_neg hc).symm.trans hm
      refine lv_iload_n hx hb dX7_digit_9 rfl (lv_at hl 2 rfl) ?_
      refine lv_bipush (v := (6 : Int32)) hx hb dX7_digit_10 (by decide) ?_
      refine lv_idiv hx hb dX7_digit_12 (by decide) ?_
      refine lv_istore_n (lv' := [(2, .int (v2_4 / (6 : Int32))), (0, .int p0), (1, .int p1), (3, .int v3_4)]) hx hb dX7_digit_13 rfl hl (by decide) rfl (fun ls hl => ?_)
      refine lv_iinc (v := (v3_4 + (1 : Int32))) (lv' := [(3, .int (v3_4 + (1 : Int32))), (2, .int (v2_4 / (6 : Int32))), (0, .int p0), (1, .int p1)]) hx hb dX7_digit_14 hl (k := 3) rfl rfl (by decide) rfl (fun ls hl => ?_)
      refine lv_goto (tgt := 4) hx hb dX7_digit_17 (by decide) ?_
      exact ih (v2_4 / (6 : Int32)) (v3_4 + (1 : Int32)) ls (lv_sub hl [2, 3, 1, 0] rfl) hm
  have kx4 : ∀ (v2_4 : Int32) (v3_4 : Int32) (ls : Array Slot), lv_has ls 4 [(0, .int p0), (1, .int p1), (2, .int v2_4), (3, .int v3_4)] → mX7_digit_X4  p0 p1 v2_4 v3_4 = some res → W p l e rmX7_digit s m ([.int p0, .int p1] : List Value).toArray below meth c s.heap [] 0 0 (MQ below (vp_Si (fun r => r = res)) ([.int p0, .int p1] : List Value).toArray s 0 0 (fun _ => False)) (F0 m 20 ls []) := by
    intro v2_4 v3_4 ls hl hm
    unfold mX7_digit_X4 at hm
    refine lv_iload_n hx hb dX7_digit_20 rfl (lv_at hl 2 rfl) ?_
    refine lv_bipush (v := (6 : Int32)) hx hb dX7_digit_21 (by decide) ?_
    refine lv_irem hx hb dX7_digit_23 (by decide) ?_
    exact endR X hr rfl hlocks hm dX7_digit_24
  have lp4 : ∀ (n : Nat) (v2_4 : Int32) (v3_4 : Int32) (ls : Array Slot), lv_has ls 4 [(0, .int p0), (1, .int p1), (2, .int v2_4), (3, .int v3_4)] → LPf (κ := Int32 → Int32 → Option (Int32)) (fun _ _ => none) (fun kk => mX7_digit_B4 kk (mX7_digit_X4  p0 p1) p0 p1) n v2_4 v3_4 = some res → W p l e rmX7_digit s m ([.int p0, .int p1] : List Value).toArray below meth c s.heap [] 0 0 (MQ below (vp_Si (fun r => r = res)) ([.int p0, .int p1] : List Value).toArray s 0 0 (fun _ => False)) (F0 m 4 ls []) := by
    intro n
    induction n with
    | zero =>
      intro v2_4 v3_4 ls hl hm
      exact (noS (show (none : Option (Int32)) = some res from hm)).elim
    | succ n ih =>
      intro v2_4 v3_4 ls hl hm
      exact kb4 _ _ ih kx4 v2_4 v3_4 ls hl hm
  exact lp4 FU p0 p1 ls (lv_sub hl [2, 3, 1, 0] rfl) hm

def rmX7_all : Room := { frames := 0, cells := 0, slots := 0, locals := 0 }
set_option maxHeartbeats 4000000 in
set_option maxRecDepth 100000 in
theorem kX7_all (l : Launch) (D : va_G) (a : Nat → Nat) (cI cZ : ClassId) (S : ST)  (res : Int32) (hm : mX7_all S  = some res) : Met l yX7_all wsX7_all rmX7_all (va_Pc [.ref (a 0)] (PreR (wM a cI cZ S) D cI cZ)) (vp_Si (fun r => r = res)) 0 0 (fun _ => False) := by
  refine metB (cc := cX7_all) (maxL := 3) (ret := (some .int)) (by decide) rfl (Nat.le_of_ble_eq_true rfl) ?_
  intro p e s m below meth c ls X hml hr hlocks hin hv hl
  replace X : CX p m c cX7_all s ([.ref (a 0)] : List Value).toArray wsX7_all RX7 := X
  obtain ⟨hP, hK, hNW⟩ := hv
  have hx := X.1
  have hb := X.2.1
  replace hl : lv_has ls 3 [(0, .ref (a 0))] := hl
  have iX7 : ∀ w ∈ wsX70, w ∈ wsX7_all := fun w h => List.mem_cons_of_mem _ (List.mem_append_right _ h)
  unfold mX7_all at hm
  refine lv_iconst (v := (0 : Int32)) hx hb dX7_all_0 (by decide) ?_
  refine lv_istore_n (lv' := [(1, .int (0 : Int32)), (0, .ref (a 0))]) hx hb dX7_all_1 rfl hl (by decide) rfl (fun ls hl => ?_)
  refine lv_iconst (v := (0 : Int32)) hx hb dX7_all_2 (by decide) ?_
  refine lv_istore_n (lv' := [(2, .int (0 : Int32)), (1, .int (0 : Int32)), (0, .ref (a 0))]) hx hb dX7_all_3 rfl hl (by decide) rfl (fun ls hl => ?_)
  have kb4 : ∀ (k x : Int32 → Int32 → Option (Int32)), (∀ (v1_4 : Int32) (v2_4 : Int32) (ls : Array Slot), lv_has ls 3 [(0, .ref (a 0)), (1, .int v1_4), (2, .int v2_4)] → k v1_4 v2_4 = some res → W p l e rmX7_all s m ([.ref (a 0)] : List Value).toArray below meth c s.heap [] 0 0 (MQ below (vp_Si (fun r => r = res)) ([.ref (a 0)] : List Value).toArray s 0 0 (fun _ => False)) (F0 m 4 ls [])) → (∀ (v1_4 : Int32) (v2_4 : Int32) (ls : Array Slot), lv_has ls 3 [(0, .ref (a 0)), (1, .int v1_4), (2, .int v2_4)] → x v1_4 v2_4 = some res → W p l e rmX7_all s m ([.ref (a 0)] : List Value).toArray below meth c s.heap [] 0 0 (MQ below (vp_Si (fun r => r = res)) ([.ref (a 0)] : List Value).toArray s 0 0 (fun _ => False)) (F0 m 39 ls [])) → ∀ (v1_4 : Int32) (v2_4 : Int32) (ls : Array Slot), lv_has ls 3 [(0, .ref (a 0)), (1, .int v1_4), (2, .int v2_4)] → mX7_all_B4 k x S  v1_4 v2_4 = some res → W p l e rmX7_all s m ([.ref (a 0)] : List Value).toArray below meth c s.heap [] 0 0 (MQ below (vp_Si (fun r => r = res)) ([.ref (a 0)] : List Value).toArray s 0 0 (fun _ => False)) (F0 m 4 ls []) := by
    intro k x ih kxh v1_4 v2_4 ls hl hm
    unfold mX7_all_B4 at hm
    refine lv_iload_n hx hb dX7_all_4 rfl (lv_at hl 2 rfl) ?_
    refine lv_iconst (v := (4 : Int32)) hx hb dX7_all_5 (by decide) ?_
    refine lv_icmp_ge (tgt := 39) hx hb dX7_all_6 (by decide) (fun hc => ?_) (fun hc => ?_)
    · replace hm := (if_pos hc).symm.trans hm
      exact kxh v1_4 v2_4 ls (lv_sub hl [0, 1, 2] rfl) hm
    · replace hm := (if_neg hc).symm.trans hm
      refine lv_bipush (v := (6 : Int32)) hx hb dX7_all_9 (by decide) ?_
      refine lv_iload_n hx hb dX7_all_11 rfl (lv_at hl 1 rfl) ?_
      refine lv_imul hx hb dX7_all_12 ?_
      refine lv_iload_n hx hb dX7_all_13 rfl (lv_at hl 2 rfl) ?_
      refine lv_aload_n hx hb dX7_all_14 rfl (lv_at hl 0 rfl) ?_
      refine gM_X7_orders X hK hP iX7 (List.mem_of_getElem? (i := 1) rfl) dX7_all_15 ?_
      refine lv_icmp_ge (tgt := 30) hx hb dX7_all_18 (by decide) (fun hc => ?_) (fun hc => ?_)
      · replace hm := (if_pos hc).symm.trans hm
        refine lv_iconst (v := (0 : Int32)) hx hb dX7_all_30 (by decide) ?_
        refine lv_iadd hx hb dX7_all_31 ?_
        refine lv_istore_n (lv' := [(1, .int (((6 : Int32) * v1_4) + (0 : Int32))), (0, .ref (a 0)), (2, .int v2_4)]) hx hb dX7_all_32 rfl hl (by decide) rfl (fun ls hl => ?_)
        refine lv_iinc (v := (v2_4 + (1 : Int32))) (lv' := [(2, .int (v2_4 + (1 : Int32))), (1, .int (((6 : Int32) * v1_4) + (0 : Int32))), (0, .ref (a 0))]) hx hb dX7_all_33 hl (k := 2) rfl rfl (by decide) rfl (fun ls hl => ?_)
        refine lv_goto (tgt := 4) hx hb dX7_all_36 (by decide) ?_
        exact ih (((6 : Int32) * v1_4) + (0 : Int32)) (v2_4 + (1 : Int32)) ls (lv_sub hl [2, 1, 0] rfl) hm
      · replace hm := (if_neg hc).symm.trans hm
        refine lv_aload_n hx hb dX7_all_21 rfl (lv_at hl 0 rfl) ?_
        refine gM_X7_orderDemand X hK hP iX7 (List.mem_of_getElem? (i := 2) rfl) dX7_all_22 ?_
        refine lv_iload_n hx hb dX7_all_25 rfl (lv_at hl 2 rfl) ?_
        obtain ⟨h1, hm⟩ := gd_ok hm
        refine rM_X7_orderDemand X hK hP h1 dX7_all_26 ?_
        refine lv_goto (tgt := 31) hx hb dX7_all_27 (by decide) ?_
        refine lv_iadd hx hb dX7_all_31 ?_
        refine lv_istore_n (lv' := [(1, .int (((6 : Int32) * v1_4) + (S.2 24 v2_4.toNatClampNeg))), (0, .ref (a 0)), (2, .int v2_4)]) hx hb dX7_all_32 rfl hl (by decide) rfl (fun ls hl => ?_)
        refine lv_iinc (v := (v2_4 + (1 : Int32))) (lv' := [(2, .int (v2_4 + (1 : Int32))), (1, .int (((6 : Int32) * v1_4) + (S.2 24 v2_4.toNatClampNeg))), (0, .ref (a 0))]) hx hb dX7_all_33 hl (k := 2) rfl rfl (by decide) rfl (fun ls hl => ?_)
        refine lv_goto (tgt := 4) hx hb dX7_all_36 (by decide) ?_
        exact ih (((6 : Int32) * v1_4) + (S.2 24 v2_4.toNatClampNeg)) (v2_4 + (1 : Int32)) ls (lv_sub hl [2, 1, 0] rfl) hm
  have kx4 : ∀ (v1_4 : Int32) (v2_4 : Int32) (ls : Array Slot), lv_has ls 3 [(0, .ref (a 0)), (1, .int v1_4), (2, .int v2_4)] → mX7_all_X4  S  v1_4 v2_4 = some res → W p l e rmX7_all s m ([.ref (a 0)] : List Value).toArray below meth c s.heap [] 0 0 (MQ below (vp_Si (fun r => r = res)) ([.ref (a 0)] : List Value).toArray s 0 0 (fun _ => False)) (F0 m 39 ls []) := by
    intro v1_4 v2_4 ls hl hm
    unfold mX7_all_X4 at hm
    refine lv_iload_n hx hb dX7_all_39 rfl (lv_at hl 1 rfl) ?_
    exact endR X hr rfl hlocks hm dX7_all_40
  have lp4 : ∀ (n : Nat) (v1_4 : Int32) (v2_4 : Int32) (ls : Array Slot), lv_has ls 3 [(0, .ref (a 0)), (1, .int v1_4), (2, .int v2_4)] → LPf (κ := Int32 → Int32 → Option (Int32)) (fun _ _ => none) (fun kk => mX7_all_B4 kk (mX7_all_X4  S ) S ) n v1_4 v2_4 = some res → W p l e rmX7_all s m ([.ref (a 0)] : List Value).toArray below meth c s.heap [] 0 0 (MQ below (vp_Si (fun r => r = res)) ([.ref (a 0)] : List Value).toArray s 0 0 (fun _ => False)) (F0 m 4 ls []) := by
    intro n
    induction n with
    | zero =>
      intro v1_4 v2_4 ls hl hm
      exact (noS (show (none : Option (Int32)) = some res from hm)).elim
    | succ n ih =>
      intro v1_4 v2_4 ls hl hm
      exact kb4 _ _ ih kx4 v1_4 v2_4 ls hl hm
  exact lp4 FU (0 : Int32) (0 : Int32) ls (lv_sub hl [2, 1, 0] rfl) hm

def rmX7_isIn : Room := { frames := 1, cells := 0, slots := 0, locals := 23 }
set_option maxHeartbeats 4000000 in
set_option maxRecDepth 100000 in
theorem kX7_isIn (l : Launch) (p0 : Int32) (p1 : Int32) (res : Int32) (hm : mX7_isIn  p0 p1 = some res) : Met l yX7_isIn wsX7_isIn rmX7_isIn (va_Pc [.int p0, .int p1] (fun _ => True)) (vp_Si (fun r => r = res)) 0 0 (fun _ => False) := by
  refine metB (cc := cX7_isIn) (maxL := 4) (ret := (some .boolean)) (by decide) rfl (Nat.le_of_ble_eq_true rfl) ?_
  intro p e s m below meth c ls X hml hr hlocks hin hv hl
  replace X : CX p m c cX7_isIn s ([.int p0, .int p1] : List Value).toArray wsX7_isIn RX7 := X
  have hx := X.1
  have hb := X.2.1
  replace hl : lv_has ls 4 [(0, .int p0), (1, .int p1)] := hl
  unfold mX7_isIn at hm
  refine lv_iconst (v := (1 : Int32)) hx hb dX7_isIn_0 (by decide) ?_
  refine lv_istore_n (lv' := [(2, .int (1 : Int32)), (0, .int p0), (1, .int p1)]) hx hb dX7_isIn_1 rfl hl (by decide) rfl (fun ls hl => ?_)
  refine lv_iconst (v := (0 : Int32)) hx hb dX7_isIn_2 (by decide) ?_
  refine lv_istore_n (lv' := [(3, .int (0 : Int32)), (2, .int (1 : Int32)), (0, .int p0), (1, .int p1)]) hx hb dX7_isIn_3 rfl hl (by decide) rfl (fun ls hl => ?_)
  have kb4 : ∀ (k x : Int32 → Int32 → Option (Int32)), (∀ (v2_4 : Int32) (v3_4 : Int32) (ls : Array Slot), lv_has ls 4 [(0, .int p0), (1, .int p1), (2, .int v2_4), (3, .int v3_4)] → k v2_4 v3_4 = some res → W p l e rmX7_isIn s m ([.int p0, .int p1] : List Value).toArray below meth c s.heap [] 0 0 (MQ below (vp_Si (fun r => r = res)) ([.int p0, .int p1] : List Value).toArray s 0 0 (fun _ => False)) (F0 m 4 ls [])) → (∀ (v2_4 : Int32) (v3_4 : Int32) (ls : Array Slot), lv_has ls 4 [(0, .int p0), (1, .int p1), (2, .int v2_4), (3, .int v3_4)] → x v2_4 v3_4 = some res → W p l e rmX7_isIn s m ([.int p0, .int p1] : List Value).toArray below meth c s.heap [] 0 0 (MQ below (vp_Si (fun r => r = res)) ([.int p0, .int p1] : List Value).toArray s 0 0 (fun _ => False)) (F0 m 38 ls [])) → ∀ (v2_4 : Int32) (v3_4 : Int32) (ls : Array Slot), lv_has ls 4 [(0, .int p0), (1, .int p1), (2, .int v2_4), (3, .int v3_4)] → mX7_isIn_B4 k x p0 p1 v2_4 v3_4 = some res → W p l e rmX7_isIn s m ([.int p0, .int p1] : List Value).toArray below meth c s.heap [] 0 0 (MQ below (vp_Si (fun r => r = res)) ([.int p0, .int p1] : List Value).toArray s 0 0 (fun _ => False)) (F0 m 4 ls []) := by
    intro k x ih kxh v2_4 v3_4 ls hl hm
    unfold mX7_isIn_B4 at hm
    refine lv_iload_n hx hb dX7_isIn_4 rfl (lv_at hl 3 rfl) ?_
    refine lv_iconst (v := (4 : Int32)) hx hb dX7_isIn_5 (by decide) ?_
    refine lv_icmp_ge (tgt := 38) hx hb dX7_isIn_6 (by decide) (fun hc => ?_) (fun hc => ?_)
    · replace hm := (if_pos hc).symm.trans hm
      exact kxh v2_4 v3_4 ls (lv_sub hl [0, 1, 2, 3] rfl) hm
    · replace hm := (if_neg hc).symm.trans hm
      refine lv_iload_n hx hb dX7_isIn_9 rfl (lv_at hl 2 rfl) ?_
      refine lv_if_eq (tgt := 30) hx hb dX7_isIn_10 (by decide) (fun hc => ?_) (fun hc => ?_)
      · replace hm := (if_pos hc).symm.trans hm
        refine lv_iconst (v := (0 : Int32)) hx hb dX7_isIn_30 (by decide) ?_
        refine lv_istore_n (lv' := [(2, .int (0 : Int32)), (0, .int p0), (1, .int p1), (3, .int v3_4)]) hx hb dX7_isIn_31 rfl hl (by decide) rfl (fun ls hl => ?_)
        refine lv_iinc (v := (v3_4 + (1 : Int32))) (lv' := [(3, .int (v3_4 + (1 : Int32))), (2, .int (0 : Int32)), (0, .int p0), (1, .int p1)]) hx hb dX7_isIn_32 hl (k := 3) rfl rfl (by decide) rfl (fun ls hl => ?_)
        refine lv_goto (tgt := 4) hx hb dX7_isIn_35 (by decide) ?_
        exact ih (0 : Int32) (v3_4 + (1 : Int32)) ls (lv_sub hl [2, 3, 1, 0] rfl) hm
      · replace hm := (if_neg hc).symm.trans hm
        refine lv_iload_n hx hb dX7_isIn_13 rfl (lv_at hl 0 rfl) ?_
        refine lv_iload_n hx hb dX7_isIn_14 rfl (lv_at hl 3 rfl) ?_
        obtain ⟨r1, hr1, hm⟩ := bd_ok hm
        refine callRS (rest := []) X hml hl.1 (kX7_digit l p0 v3_4 r1 hr1) (va_cwS 2 X.2.2.1 gX7_isIn_X7_digit rfl rfl rfl (by decide +kernel) ⟨Nat.le_of_ble_eq_true rfl, Nat.le_of_ble_eq_true rfl⟩) rfl rfl (Nat.le_of_ble_eq_true rfl) dX7_isIn_15 ⟨Nat.zero_le _, Nat.zero_le _⟩ ?_
        refine lv_iload_n hx hb dX7_isIn_18 rfl (lv_at hl 1 rfl) ?_
        refine lv_iload_n hx hb dX7_isIn_19 rfl (lv_at hl 3 rfl) ?_
        obtain ⟨r2, hr2, hm⟩ := bd_ok hm
        refine callRS (rest := [.int r1]) X hml hl.1 (kX7_digit l p1 v3_4 r2 hr2) (va_cwS 2 X.2.2.1 gX7_isIn_X7_digit rfl rfl rfl (by decide +kernel) ⟨Nat.le_of_ble_eq_true rfl, Nat.le_of_ble_eq_true rfl⟩) rfl rfl (Nat.le_of_ble_eq_true rfl) dX7_isIn_20 ⟨Nat.zero_le _, Nat.zero_le _⟩ ?_
        refine lv_icmp_gt (tgt := 30) hx hb dX7_isIn_23 (by decide) (fun hc => ?_) (fun hc => ?_)
        · replace hm := (if_pos hc).symm.trans hm
          refine lv_iconst (v := (0 : Int32)) hx hb dX7_isIn_30 (by decide) ?_
          refine lv_istore_n (lv' := [(2, .int (0 : Int32)), (0, .int p0), (1, .int p1), (3, .int v3_4)]) hx hb dX7_isIn_31 rfl hl (by decide) rfl (fun ls hl => ?_)
          refine lv_iinc (v := (v3_4 + (1 : Int32))) (lv' := [(3, .int (v3_4 + (1 : Int32))), (2, .int (0 : Int32)), (0, .int p0), (1, .int p1)]) hx hb dX7_isIn_32 hl (k := 3) rfl rfl (by decide) rfl (fun ls hl => ?_)
          refine lv_goto (tgt := 4) hx hb dX7_isIn_35 (by decide) ?_
          exact ih (0 : Int32) (v3_4 + (1 : Int32)) ls (lv_sub hl [2, 3, 1, 0] rfl) hm
        · replace hm := (if_neg hc).symm.trans hm
          refine lv_iconst (v := (1 : Int32)) hx hb dX7_isIn_26 (by decide) ?_
          refine lv_goto (tgt := 31) hx hb dX7_isIn_27 (by decide) ?_
          refine lv_istore_n (lv' := [(2, .int (1 : Int32)), (0, .int p0), (1, .int p1), (3, .int v3_4)]) hx hb dX7_isIn_31 rfl hl (by decide) rfl (fun ls hl => ?_)
          refine lv_iinc (v := (v3_4 + (1 : Int32))) (lv' := [(3, .int (v3_4 + (1 : Int32))), (2, .int (1 : Int32)), (0, .int p0), (1, .int p1)]) hx hb dX7_isIn_32 hl (k := 3) rfl rfl (by decide) rfl (fun ls hl => ?_)
          refine lv_goto (tgt := 4) hx hb dX7_isIn_35 (by decide) ?_
          exact ih (1 : Int32) (v3_4 + (1 : Int32)) ls (lv_sub hl [2, 3, 1, 0] rfl) hm
  have kx4 : ∀ (v2_4 : Int32) (v3_4 : Int32) (ls : Array Slot), lv_has ls 4 [(0, .int p0), (1, .int p1), (2, .int v2_4), (3, .int v3_4)] → mX7_isIn_X4  p0 p1 v2_4 v3_4 = some res → W p l e rmX7_isIn s m ([.int p0, .int p1] : List Value).toArray below meth c s.heap [] 0 0 (MQ below (vp_Si (fun r => r = res)) ([.int p0, .int p1] : List Value).toArray s 0 0 (fun _ => False)) (F0 m 38 ls []) := by
    intro v2_4 v3_4 ls hl hm
    unfold mX7_isIn_X4 at hm
    refine lv_iload_n hx hb dX7_isIn_38 rfl (lv_at hl 2 rfl) ?_
    obtain ⟨h1, hm⟩ := gd_ok hm
    exact endR X hr (zB_ok h1).1 hlocks hm dX7_isIn_39
  have lp4 : ∀ (n : Nat) (v2_4 : Int32) (v3_4 : Int32) (ls : Array Slot), lv_has ls 4 [(0, .int p0), (1, .int p1), (2, .int v2_4), (3, .int v3_4)] → LPf (κ := Int32 → Int32 → Option (Int32)) (fun _ _ => none) (fun kk => mX7_isIn_B4 kk (mX7_isIn_X4  p0 p1) p0 p1) n v2_4 v3_4 = some res → W p l e rmX7_isIn s m ([.int p0, .int p1] : List Value).toArray below meth c s.heap [] 0 0 (MQ below (vp_Si (fun r => r = res)) ([.int p0, .int p1] : List Value).toArray s 0 0 (fun _ => False)) (F0 m 4 ls []) := by
    intro n
    induction n with
    | zero =>
      intro v2_4 v3_4 ls hl hm
      exact (noS (show (none : Option (Int32)) = some res from hm)).elim
    | succ n ih =>
      intro v2_4 v3_4 ls hl hm
      exact kb4 _ _ ih kx4 v2_4 v3_4 ls hl hm
  exact lp4 FU (1 : Int32) (0 : Int32) ls (lv_sub hl [2, 3, 1, 0] rfl) hm

def rmX7_findPattern : Room := { frames := 1, cells := 0, slots := 0, locals := 23 }
set_option maxHeartbeats 4000000 in
set_option maxRecDepth 100000 in
theorem kX7_findPattern (l : Launch) (D : va_G) (a : Nat → Nat) (cI cZ : ClassId) (hA : AP 31 a) (S : ST) (sz : Nat) (p1 : Int32) (res : ST) (hm : mX7_findPattern S p1 = some res) : Met l yX7_findPattern wsX7_findPattern rmX7_findPattern (va_Pc [.ref (a 0), .int p1] (PreW (wM a cI cZ S) D cI cZ sz)) (va_Qv (fun T : ST => T = res) (PostW (wM a cI cZ) D cI cZ) (AC 31 a sz)) 0 0 (AC 31 a sz) := by
  refine metB (cc := cX7_findPattern) (maxL := 5) (ret := none) (by decide) rfl (Nat.le_of_ble_eq_true rfl) ?_
  intro p e s m below meth c ls X hml hr hlocks hin hv hl
  replace X : CX p m c cX7_findPattern s ([.ref (a 0), .int p1] : List Value).toArray wsX7_findPattern RX7 := X
  obtain ⟨hsz, hP, hK, hNW⟩ := hv
  subst hsz
  have hS : va_S (AC 31 a s.heap.size) s.heap s.heap [] := va_S.rf
  have hx := X.1
  have hb := X.2.1
  replace hl : lv_has ls 5 [(0, .ref (a 0)), (1, .int p1)] := hl
  have iX7 : ∀ w ∈ wsX70, w ∈ wsX7_findPattern := fun w h => List.mem_cons_of_mem _ (List.mem_append_right _ h)
  suffices kS : ∀ (H : Heap) (locs : List Loc), va_P D vwCl (wM a cI cZ S) H → va_S (AC 31 a s.heap.size) s.heap H locs → W p l e rmX7_findPattern s m ([.ref (a 0), .int p1] : List Value).toArray below meth c H locs 0 0 (MQ below (va_Qv (fun T : ST => T = res) (PostW (wM a cI cZ) D cI cZ) (AC 31 a s.heap.size)) ([.ref (a 0), .int p1] : List Value).toArray s 0 0 (AC 31 a s.heap.size)) (F0 m 0 ls []) by exact kS s.heap [] hP hS
  intro H locs hP hS
  unfold mX7_findPattern at hm
  refine lv_iconst (v := (0 : Int32)) hx hb dX7_findPattern_0 (by decide) ?_
  refine lv_aload_n hx hb dX7_findPattern_1 rfl (lv_at hl 0 rfl) ?_
  refine gM_X7_blade X hK hP iX7 (List.mem_of_getElem? (i := 1) rfl) dX7_findPattern_2 ?_
  refine lv_isub hx hb dX7_findPattern_5 ?_
  refine lv_istore_n (lv' := [(2, .int ((0 : Int32) - (S.1 13))), (0, .ref (a 0)), (1, .int p1)]) hx hb dX7_findPattern_6 rfl hl (by decide) rfl (fun ls hl => ?_)
  refine lv_iconst (v := (0 : Int32)) hx hb dX7_findPattern_7 (by decide) ?_
  refine lv_istore_n (lv' := [(3, .int (0 : Int32)), (2, .int ((0 : Int32) - (S.1 13))), (0, .ref (a 0)), (1, .int p1)]) hx hb dX7_findPattern_8 rfl hl (by decide) rfl (fun ls hl => ?_)
  have kb9 : ∀ (k x : Int32 → Int32 → Option (ST)), (∀ (v2_9 : Int32) (v3_9 : Int32) (ls : Array Slot), lv_has ls 5 [(0, .ref (a 0)), (1, .int p1), (2, .int v2_9), (3, .int v3_9)] → k v2_9 v3_9 = some res → W p l e rmX7_findPattern s m ([.ref (a 0), .int p1] : List Value).toArray below meth c H locs 0 0 (MQ below (va_Qv (fun T : ST => T = res) (PostW (wM a cI cZ) D cI cZ) (AC 31 a s.heap.size)) ([.ref (a 0), .int p1] : List Value).toArray s 0 0 (AC 31 a s.heap.size)) (F0 m 9 ls [])) → (∀ (v2_9 : Int32) (v3_9 : Int32) (ls : Array Slot), lv_has ls 5 [(0, .ref (a 0)), (1, .int p1), (2, .int v2_9), (3, .int v3_9)] → x v2_9 v3_9 = some res → W p l e rmX7_findPattern s m ([.ref (a 0), .int p1] : List Value).toArray below meth c H locs 0 0 (MQ below (va_Qv (fun T : ST => T = res) (PostW (wM a cI cZ) D cI cZ) (AC 31 a s.heap.size)) ([.ref (a 0), .int p1] : List Value).toArray s 0 0 (AC 31 a s.heap.size)) (F0 m 43 ls [])) → ∀ (v2_9 : Int32) (v3_9 : Int32) (ls : Array Slot), lv_has ls 5 [(0, .ref (a 0)), (1, .int p1), (2, .int v2_9), (3, .int v3_9)] → mX7_findPattern_B9 k x S p1 v2_9 v3_9 = some res → W p l e rmX7_findPattern s m ([.ref (a 0), .int p1] : List Value).toArray below meth c H locs 0 0 (MQ below (va_Qv (fun T : ST => T = res) (PostW (wM a cI cZ) D cI cZ) (AC 31 a s.heap.size)) ([.ref (a 0), .int p1] : List Value).toArray s 0 0 (AC 31 a s.heap.size)) (F0 m 9 ls []) := by
    intro k x ih kxh v2_9 v3_9 ls hl hm
    unfold mX7_findPattern_B9 at hm
    refine lv_iload_n hx hb dX7_findPattern_9 rfl (lv_at hl 3 rfl) ?_
    refine lv_aload_n hx hb dX7_findPattern_10 rfl (lv_at hl 0 rfl) ?_
    refine gM_X7_orders X hK hP iX7 (List.mem_of_getElem? (i := 2) rfl) dX7_findPattern_11 ?_
    refine lv_icmp_ge (tgt := 43) hx hb dX7_findPattern_14 (by decide) (fun hc => ?_) (fun hc => ?_)
    · replace hm := (if_pos hc).symm.trans hm
      exact kxh v2_9 v3_9 ls (lv_sub hl [0, 1, 2, 3] rfl) hm
    · replace hm := (if_neg hc).symm.trans hm
      refine lv_iload_n hx hb dX7_findPattern_17 rfl (lv_at hl 2 rfl) ?_
      refine lv_iload_n hx hb dX7_findPattern_18 rfl (lv_at hl 1 rfl) ?_
      refine lv_iload_n hx hb dX7_findPattern_19 rfl (lv_at hl 3 rfl) ?_
      obtain ⟨r1, hr1, hm⟩ := bd_ok hm
      refine callRS (rest := [.int v2_9]) X hml hl.1 (kX7_digit l p1 v3_9 r1 hr1) (va_cwS 2 X.2.2.1 gX7_findPattern_X7_digit rfl rfl rfl (by decide +kernel) ⟨Nat.le_of_ble_eq_true rfl, Nat.le_of_ble_eq_true rfl⟩) rfl rfl (Nat.le_of_ble_eq_true rfl) dX7_findPattern_20 ⟨Nat.zero_le _, Nat.zero_le _⟩ ?_
      refine lv_aload_n hx hb dX7_findPattern_23 rfl (lv_at hl 0 rfl) ?_
      refine gM_X7_orderLength X hK hP iX7 (List.mem_of_getElem? (i := 3) rfl) dX7_findPattern_24 ?_
      refine lv_iload_n hx hb dX7_findPattern_27 rfl (lv_at hl 3 rfl) ?_
      obtain ⟨h1, hm⟩ := gd_ok hm
      refine rM_X7_orderLength X hK hP h1 dX7_findPattern_28 ?_
      refine lv_aload_n hx hb dX7_findPattern_29 rfl (lv_at hl 0 rfl) ?_
      refine gM_X7_blade X hK hP iX7 (List.mem_of_getElem? (i := 1) rfl) dX7_findPattern_30 ?_
      refine lv_iadd hx hb dX7_findPattern_33 ?_
      refine lv_imul hx hb dX7_findPattern_34 ?_
      refine lv_iadd hx hb dX7_findPattern_35 ?_
      refine lv_istore_n (lv' := [(2, .int (v2_9 + (r1 * ((S.2 23 v3_9.toNatClampNeg) + (S.1 13))))), (0, .ref (a 0)), (1, .int p1), (3, .int v3_9)]) hx hb dX7_findPattern_36 rfl hl (by decide) rfl (fun ls hl => ?_)
      refine lv_iinc (v := (v3_9 + (1 : Int32))) (lv' := [(3, .int (v3_9 + (1 : Int32))), (2, .int (v2_9 + (r1 * ((S.2 23 v3_9.toNatClampNeg) + (S.1 13))))), (0, .ref (a 0)), (1, .int p1)]) hx hb dX7_findPattern_37 hl (k := 3) rfl rfl (by decide) rfl (fun ls hl => ?_)
      refine lv_goto (tgt := 9) hx hb dX7_findPattern_40 (by decide) ?_
      exact ih (v2_9 + (r1 * ((S.2 23 v3_9.toNatClampNeg) + (S.1 13)))) (v3_9 + (1 : Int32)) ls (lv_sub hl [2, 3, 1, 0] rfl) hm
  have kx9 : ∀ (v2_9 : Int32) (v3_9 : Int32) (ls : Array Slot), lv_has ls 5 [(0, .ref (a 0)), (1, .int p1), (2, .int v2_9), (3, .int v3_9)] → mX7_findPattern_X9  S p1 v2_9 v3_9 = some res → W p l e rmX7_findPattern s m ([.ref (a 0), .int p1] : List Value).toArray below meth c H locs 0 0 (MQ below (va_Qv (fun T : ST => T = res) (PostW (wM a cI cZ) D cI cZ) (AC 31 a s.heap.size)) ([.ref (a 0), .int p1] : List Value).toArray s 0 0 (AC 31 a s.heap.size)) (F0 m 43 ls []) := by
    intro v2_9 v3_9 ls hl hm
    unfold mX7_findPattern_X9 at hm
    refine lv_aload_n hx hb dX7_findPattern_43 rfl (lv_at hl 0 rfl) ?_
    refine gM_X7_patternWants X hK hP iX7 (List.mem_of_getElem? (i := 4) rfl) dX7_findPattern_44 ?_
    refine lv_iload_n hx hb dX7_findPattern_47 rfl (lv_at hl 1 rfl) ?_
    refine lv_iload_n hx hb dX7_findPattern_48 rfl (lv_at hl 2 rfl) ?_
    obtain ⟨h1, hm⟩ := gd_ok hm
    refine sM_X7_patternWants X hK hA hP hS h1 dX7_findPattern_49 (fun H locs hP hS => ?_)
    refine lv_iconst (v := (-1 : Int32)) hx hb dX7_findPattern_50 (by decide) ?_
    refine lv_istore_n (lv' := [(3, .int (-1 : Int32)), (0, .ref (a 0)), (1, .int p1), (2, .int v2_9)]) hx hb dX7_findPattern_51 rfl hl (by decide) rfl (fun ls hl => ?_)
    refine lv_iconst (v := (0 : Int32)) hx hb dX7_findPattern_52 (by decide) ?_
    refine lv_istore (lv' := [(4, .int (0 : Int32)), (3, .int (-1 : Int32)), (0, .ref (a 0)), (1, .int p1), (2, .int v2_9)]) hx hb dX7_findPattern_53 hl (by decide) rfl (fun ls hl => ?_)
    have kl55 : ∀ (S_55 : ST) (H : Heap) (locs : List Loc)  (v3_55 : Int32) (v4_55 : Int32) (ls : Array Slot), va_P D vwCl (wM a cI cZ S_55) H → va_S (AC 31 a s.heap.size) s.heap H locs → lv_has ls 5 [(0, .ref (a 0)), (1, .int p1), (2, .int v2_9), (3, .int v3_55), (4, .int v4_55)] → LPf (κ := Int32 → Int32 → Option (ST)) (fun _ _ => none) (fun kk => mX7_findPattern_B55 kk (mX7_findPattern_X55  S_55 p1 v2_9) S_55 p1 v2_9) FU v3_55 v4_55 = some res → W p l e rmX7_findPattern s m ([.ref (a 0), .int p1] : List Value).toArray below meth c H locs 0 0 (MQ below (va_Qv (fun T : ST => T = res) (PostW (wM a cI cZ) D cI cZ) (AC 31 a s.heap.size)) ([.ref (a 0), .int p1] : List Value).toArray s 0 0 (AC 31 a s.heap.size)) (F0 m 55 ls []) := by
      intro S_55 H locs  v3_55 v4_55 ls hP hS hl hm
      have kb55 : ∀ (k x : Int32 → Int32 → Option (ST)), (∀ (v3_55 : Int32) (v4_55 : Int32) (ls : Array Slot), lv_has ls 5 [(0, .ref (a 0)), (1, .int p1), (2, .int v2_9), (3, .int v3_55), (4, .int v4_55)] → k v3_55 v4_55 = some res → W p l e rmX7_findPattern s m ([.ref (a 0), .int p1] : List Value).toArray below meth c H locs 0 0 (MQ below (va_Qv (fun T : ST => T = res) (PostW (wM a cI cZ) D cI cZ) (AC 31 a s.heap.size)) ([.ref (a 0), .int p1] : List Value).toArray s 0 0 (AC 31 a s.heap.size)) (F0 m 55 ls [])) → (∀ (v3_55 : Int32) (v4_55 : Int32) (ls : Array Slot), lv_has ls 5 [(0, .ref (a 0)), (1, .int p1), (2, .int v2_9), (3, .int v3_55), (4, .int v4_55)] → x v3_55 v4_55 = some res → W p l e rmX7_findPattern s m ([.ref (a 0), .int p1] : List Value).toArray below meth c H locs 0 0 (MQ below (va_Qv (fun T : ST => T = res) (PostW (wM a cI cZ) D cI cZ) (AC 31 a s.heap.size)) ([.ref (a 0), .int p1] : List Value).toArray s 0 0 (AC 31 a s.heap.size)) (F0 m 105 ls [])) → ∀ (v3_55 : Int32) (v4_55 : Int32) (ls : Array Slot), lv_has ls 5 [(0, .ref (a 0)), (1, .int p1), (2, .int v2_9), (3, .int v3_55), (4, .int v4_55)] → mX7_findPattern_B55 k x S_55 p1 v2_9 v3_55 v4_55 = some res → W p l e rmX7_findPattern s m ([.ref (a 0), .int p1] : List Value).toArray below meth c H locs 0 0 (MQ below (va_Qv (fun T : ST => T = res) (PostW (wM a cI cZ) D cI cZ) (AC 31 a s.heap.size)) ([.ref (a 0), .int p1] : List Value).toArray s 0 0 (AC 31 a s.heap.size)) (F0 m 55 ls []) := by
        intro k x ih kxh v3_55 v4_55 ls hl hm
        unfold mX7_findPattern_B55 at hm
        refine lv_iload hx hb dX7_findPattern_55 (lv_at hl 4 rfl) ?_
        refine lv_aload_n hx hb dX7_findPattern_57 rfl (lv_at hl 0 rfl) ?_
        refine gM_X7_stocks X hK hP iX7 (List.mem_of_getElem? (i := 5) rfl) dX7_findPattern_58 ?_
        refine lv_icmp_ge (tgt := 105) hx hb dX7_findPattern_61 (by decide) (fun hc => ?_) (fun hc => ?_)
        · replace hm := (if_pos hc).symm.trans hm
          exact kxh v3_55 v4_55 ls (lv_sub hl [0, 1, 2, 3, 4] rfl) hm
        · replace hm := (if_neg hc).symm.trans hm
          refine lv_aload_n hx hb dX7_findPattern_64 rfl (lv_at hl 0 rfl) ?_
          refine gM_X7_stockLength X hK hP iX7 (List.mem_of_getElem? (i := 6) rfl) dX7_findPattern_65 ?_
          refine lv_iload hx hb dX7_findPattern_68 (lv_at hl 4 rfl) ?_
          obtain ⟨h1, hm⟩ := gd_ok hm
          refine rM_X7_stockLength X hK hP h1 dX7_findPattern_70 ?_
          refine lv_iload_n hx hb dX7_findPattern_71 rfl (lv_at hl 2 rfl) ?_
          refine lv_icmp_lt (tgt := 99) hx hb dX7_findPattern_72 (by decide) (fun hc => ?_) (fun hc => ?_)
          · replace hm := (if_pos hc).symm.trans hm
            refine lv_iinc (v := (v4_55 + (1 : Int32))) (lv' := [(4, .int (v4_55 + (1 : Int32))), (0, .ref (a 0)), (1, .int p1), (2, .int v2_9), (3, .int v3_55)]) hx hb dX7_findPattern_99 hl (k := 4) rfl rfl (by decide) rfl (fun ls hl => ?_)
            refine lv_goto (tgt := 55) hx hb dX7_findPattern_102 (by decide) ?_
            exact ih v3_55 (v4_55 + (1 : Int32)) ls (lv_sub hl [1, 2, 3, 4, 0] rfl) hm
          · replace hm := (if_neg hc).symm.trans hm
            refine lv_iload_n hx hb dX7_findPattern_75 rfl (lv_at hl 3 rfl) ?_
            refine lv_iconst (v := (-1 : Int32)) hx hb dX7_findPattern_76 (by decide) ?_
            refine lv_icmp_eq (tgt := 96) hx hb dX7_findPattern_77 (by decide) (fun hc => ?_) (fun hc => ?_)
            · replace hm := (if_pos hc).symm.trans hm
              refine lv_iload hx hb dX7_findPattern_96 (lv_at hl 4 rfl) ?_
              refine lv_istore_n (lv' := [(3, .int v4_55), (0, .ref (a 0)), (1, .int p1), (2, .int v2_9), (4, .int v4_55)]) hx hb dX7_findPattern_98 rfl hl (by decide) rfl (fun ls hl => ?_)
              refine lv_iinc (v := (v4_55 + (1 : Int32))) (lv' := [(4, .int (v4_55 + (1 : Int32))), (3, .int v4_55), (0, .ref (a 0)), (1, .int p1), (2, .int v2_9)]) hx hb dX7_findPattern_99 hl (k := 4) rfl rfl (by decide) rfl (fun ls hl => ?_)
              refine lv_goto (tgt := 55) hx hb dX7_findPattern_102 (by decide) ?_
              exact ih v4_55 (v4_55 + (1 : Int32)) ls (lv_sub hl [2, 3, 4, 1, 0] rfl) hm
            · replace hm := (if_neg hc).symm.trans hm
              refine lv_aload_n hx hb dX7_findPattern_80 rfl (lv_at hl 0 rfl) ?_
              refine gM_X7_stockPrice X hK hP iX7 (List.mem_of_getElem? (i := 7) rfl) dX7_findPattern_81 ?_
              refine lv_iload hx hb dX7_findPattern_84 (lv_at hl 4 rfl) ?_
              obtain ⟨h1, hm⟩ := gd_ok hm
              refine rM_X7_stockPrice X hK hP h1 dX7_findPattern_86 ?_
              refine lv_aload_n hx hb dX7_findPattern_87 rfl (lv_at hl 0 rfl) ?_
              refine gM_X7_stockPrice X hK hP iX7 (List.mem_of_getElem? (i := 7) rfl) dX7_findPattern_88 ?_
              refine lv_iload_n hx hb dX7_findPattern_91 rfl (lv_at hl 3 rfl) ?_
              obtain ⟨h1, hm⟩ := gd_ok hm
              refine rM_X7_stockPrice X hK hP h1 dX7_findPattern_92 ?_
              refine lv_icmp_ge (tgt := 99) hx hb dX7_findPattern_93 (by decide) (fun hc => ?_) (fun hc => ?_)
              · replace hm := (if_pos hc).symm.trans hm
                refine lv_iinc (v := (v4_55 + (1 : Int32))) (lv' := [(4, .int (v4_55 + (1 : Int32))), (0, .ref (a 0)), (1, .int p1), (2, .int v2_9), (3, .int v3_55)]) hx hb dX7_findPattern_99 hl (k := 4) rfl rfl (by decide) rfl (fun ls hl => ?_)
                refine lv_goto (tgt := 55) hx hb dX7_findPattern_102 (by decide) ?_
                exact ih v3_55 (v4_55 + (1 : Int32)) ls (lv_sub hl [1, 2, 3, 4, 0] rfl) hm
              · replace hm := (if_neg hc).symm.trans hm
                refine lv_iload hx hb dX7_findPattern_96 (lv_at hl 4 rfl) ?_
                refine lv_istore_n (lv' := [(3, .int v4_55), (0, .ref (a 0)), (1, .int p1), (2, .int v2_9), (4, .int v4_55)]) hx hb dX7_findPattern_98 rfl hl (by decide) rfl (fun ls hl => ?_)
                refine lv_iinc (v := (v4_55 + (1 : Int32))) (lv' := [(4, .int (v4_55 + (1 : Int32))), (3, .int v4_55), (0, .ref (a 0)), (1, .int p1), (2, .int v2_9)]) hx hb dX7_findPattern_99 hl (k := 4) rfl rfl (by decide) rfl (fun ls hl => ?_)
                refine lv_goto (tgt := 55) hx hb dX7_findPattern_102 (by decide) ?_
                exact ih v4_55 (v4_55 + (1 : Int32)) ls (lv_sub hl [2, 3, 4, 1, 0] rfl) hm
      have kx55 : ∀ (v3_55 : Int32) (v4_55 : Int32) (ls : Array Slot), lv_has ls 5 [(0, .ref (a 0)), (1, .int p1), (2, .int v2_9), (3, .int v3_55), (4, .int v4_55)] → mX7_findPattern_X55  S_55 p1 v2_9 v3_55 v4_55 = some res → W p l e rmX7_findPattern s m ([.ref (a 0), .int p1] : List Value).toArray below meth c H locs 0 0 (MQ below (va_Qv (fun T : ST => T = res) (PostW (wM a cI cZ) D cI cZ) (AC 31 a s.heap.size)) ([.ref (a 0), .int p1] : List Value).toArray s 0 0 (AC 31 a s.heap.size)) (F0 m 105 ls []) := by
        intro v3_55 v4_55 ls hl hm
        unfold mX7_findPattern_X55 at hm
        refine lv_aload_n hx hb dX7_findPattern_105 rfl (lv_at hl 0 rfl) ?_
        refine gM_X7_patternStock X hK hP iX7 (List.mem_of_getElem? (i := 8) rfl) dX7_findPattern_106 ?_
        refine lv_iload_n hx hb dX7_findPattern_109 rfl (lv_at hl 1 rfl) ?_
        refine lv_iload_n hx hb dX7_findPattern_110 rfl (lv_at hl 3 rfl) ?_
        obtain ⟨h1, hm⟩ := gd_ok hm
        refine sM_X7_patternStock X hK hA hP hS h1 dX7_findPattern_111 (fun H locs hP hS => ?_)
        exact endV X hK hr hlocks hm hP hS dX7_findPattern_112
      have lp55 : ∀ (n : Nat) (v3_55 : Int32) (v4_55 : Int32) (ls : Array Slot), lv_has ls 5 [(0, .ref (a 0)), (1, .int p1), (2, .int v2_9), (3, .int v3_55), (4, .int v4_55)] → LPf (κ := Int32 → Int32 → Option (ST)) (fun _ _ => none) (fun kk => mX7_findPattern_B55 kk (mX7_findPattern_X55  S_55 p1 v2_9) S_55 p1 v2_9) n v3_55 v4_55 = some res → W p l e rmX7_findPattern s m ([.ref (a 0), .int p1] : List Value).toArray below meth c H locs 0 0 (MQ below (va_Qv (fun T : ST => T = res) (PostW (wM a cI cZ) D cI cZ) (AC 31 a s.heap.size)) ([.ref (a 0), .int p1] : List Value).toArray s 0 0 (AC 31 a s.heap.size)) (F0 m 55 ls []) := by
        intro n
        induction n with
        | zero =>
          intro v3_55 v4_55 ls hl hm
          exact (noS (show (none : Option (ST)) = some res from hm)).elim
        | succ n ih =>
          intro v3_55 v4_55 ls hl hm
          exact kb55 _ _ ih kx55 v3_55 v4_55 ls hl hm
      exact lp55 FU v3_55 v4_55 ls hl hm
    exact kl55 (sG S 28 p1 v2_9) H locs  (-1 : Int32) (0 : Int32) ls hP hS (lv_sub hl [2, 3, 4, 1, 0] rfl) hm
  have lp9 : ∀ (n : Nat) (v2_9 : Int32) (v3_9 : Int32) (ls : Array Slot), lv_has ls 5 [(0, .ref (a 0)), (1, .int p1), (2, .int v2_9), (3, .int v3_9)] → LPf (κ := Int32 → Int32 → Option (ST)) (fun _ _ => none) (fun kk => mX7_findPattern_B9 kk (mX7_findPattern_X9  S p1) S p1) n v2_9 v3_9 = some res → W p l e rmX7_findPattern s m ([.ref (a 0), .int p1] : List Value).toArray below meth c H locs 0 0 (MQ below (va_Qv (fun T : ST => T = res) (PostW (wM a cI cZ) D cI cZ) (AC 31 a s.heap.size)) ([.ref (a 0), .int p1] : List Value).toArray s 0 0 (AC 31 a s.heap.size)) (F0 m 9 ls []) := by
    intro n
    induction n with
    | zero =>
      intro v2_9 v3_9 ls hl hm
      exact (noS (show (none : Option (ST)) = some res from hm)).elim
    | succ n ih =>
      intro v2_9 v3_9 ls hl hm
      exact kb9 _ _ ih kx9 v2_9 v3_9 ls hl hm
  exact lp9 FU ((0 : Int32) - (S.1 13)) (0 : Int32) ls (lv_sub hl [2, 3, 1, 0] rfl) hm

def rmX7_reach : Room := { frames := 0, cells := 0, slots := 0, locals := 0 }
set_option maxHeartbeats 4000000 in
set_option maxRecDepth 100000 in
theorem kX7_reach (l : Launch) (D : va_G) (a : Nat → Nat) (cI cZ : ClassId) (hA : AP 31 a) (S : ST) (sz : Nat) (p1 : Int32) (p2 : Int32) (p3 : Int32) (res : ST) (hm : mX7_reach S p1 p2 p3 = some res) : Met l yX7_reach wsX7_reach rmX7_reach (va_Pc [.ref (a 0), .int p1, .int p2, .int p3] (PreW (wM a cI cZ S) D cI cZ sz)) (va_Qv (fun T : ST => T = res) (PostW (wM a cI cZ) D cI cZ) (AC 31 a sz)) 0 0 (AC 31 a sz) := by
  refine metB (cc := cX7_reach) (maxL := 4) (ret := none) (by decide) rfl (Nat.le_of_ble_eq_true rfl) ?_
  intro p e s m below meth c ls X hml hr hlocks hin hv hl
  replace X : CX p m c cX7_reach s ([.ref (a 0), .int p1, .int p2, .int p3] : List Value).toArray wsX7_reach RX7 := X
  obtain ⟨hsz, hP, hK, hNW⟩ := hv
  subst hsz
  have hS : va_S (AC 31 a s.heap.size) s.heap s.heap [] := va_S.rf
  have hx := X.1
  have hb := X.2.1
  replace hl : lv_has ls 4 [(0, .ref (a 0)), (1, .int p1), (2, .int p2), (3, .int p3)] := hl
  have iX7 : ∀ w ∈ wsX70, w ∈ wsX7_reach := fun w h => List.mem_cons_of_mem _ (List.mem_append_right _ h)
  suffices kS : ∀ (H : Heap) (locs : List Loc), va_P D vwCl (wM a cI cZ S) H → va_S (AC 31 a s.heap.size) s.heap H locs → W p l e rmX7_reach s m ([.ref (a 0), .int p1, .int p2, .int p3] : List Value).toArray below meth c H locs 0 0 (MQ below (va_Qv (fun T : ST => T = res) (PostW (wM a cI cZ) D cI cZ) (AC 31 a s.heap.size)) ([.ref (a 0), .int p1, .int p2, .int p3] : List Value).toArray s 0 0 (AC 31 a s.heap.size)) (F0 m 0 ls []) by exact kS s.heap [] hP hS
  intro H locs hP hS
  unfold mX7_reach at hm
  refine lv_aload_n hx hb dX7_reach_0 rfl (lv_at hl 0 rfl) ?_
  refine gM_X7_prices X hK hP iX7 (List.mem_of_getElem? (i := 1) rfl) dX7_reach_1 ?_
  refine lv_iload_n hx hb dX7_reach_4 rfl (lv_at hl 1 rfl) ?_
  obtain ⟨h1, hm⟩ := gd_ok hm
  refine rM_X7_prices X hK hP h1 dX7_reach_5 ?_
  refine lv_iconst (v := (-1 : Int32)) hx hb dX7_reach_6 (by decide) ?_
  have kJ40 : ∀  (ls : Array Slot), lv_has ls 4 [(0, .ref (a 0)), (1, .int p1), (2, .int p2), (3, .int p3)] → mX7_reach_J40  S p1 p2 p3 = some res → W p l e rmX7_reach s m ([.ref (a 0), .int p1, .int p2, .int p3] : List Value).toArray below meth c H locs 0 0 (MQ below (va_Qv (fun T : ST => T = res) (PostW (wM a cI cZ) D cI cZ) (AC 31 a s.heap.size)) ([.ref (a 0), .int p1, .int p2, .int p3] : List Value).toArray s 0 0 (AC 31 a s.heap.size)) (F0 m 40 ls []) := by
    intro  ls hl hm
    unfold mX7_reach_J40 at hm
    refine lv_aload_n hx hb dX7_reach_40 rfl (lv_at hl 0 rfl) ?_
    refine gM_X7_prices X hK hP iX7 (List.mem_of_getElem? (i := 1) rfl) dX7_reach_41 ?_
    refine lv_iload_n hx hb dX7_reach_44 rfl (lv_at hl 1 rfl) ?_
    refine lv_iload_n hx hb dX7_reach_45 rfl (lv_at hl 2 rfl) ?_
    obtain ⟨h1, hm⟩ := gd_ok hm
    refine sM_X7_prices X hK hA hP hS h1 dX7_reach_46 (fun H locs hP hS => ?_)
    refine lv_aload_n hx hb dX7_reach_47 rfl (lv_at hl 0 rfl) ?_
    refine gM_X7_fewest X hK hP iX7 (List.mem_of_getElem? (i := 2) rfl) dX7_reach_48 ?_
    refine lv_iload_n hx hb dX7_reach_51 rfl (lv_at hl 1 rfl) ?_
    refine lv_iload_n hx hb dX7_reach_52 rfl (lv_at hl 3 rfl) ?_
    obtain ⟨h1, hm⟩ := gd_ok hm
    refine sM_X7_fewest X hK hA hP hS h1 dX7_reach_53 (fun H locs hP hS => ?_)
    exact endV X hK hr hlocks hm hP hS dX7_reach_54
  refine lv_icmp_eq (tgt := 40) hx hb dX7_reach_7 (by decide) (fun hc => ?_) (fun hc => ?_)
  · replace hm := (if_pos hc).symm.trans hm
    exact kJ40  ls (lv_sub hl [0, 1, 2, 3] rfl) hm
  · replace hm := (if_neg hc).symm.trans hm
    refine lv_iload_n hx hb dX7_reach_10 rfl (lv_at hl 2 rfl) ?_
    refine lv_aload_n hx hb dX7_reach_11 rfl (lv_at hl 0 rfl) ?_
    refine gM_X7_prices X hK hP iX7 (List.mem_of_getElem? (i := 1) rfl) dX7_reach_12 ?_
    refine lv_iload_n hx hb dX7_reach_15 rfl (lv_at hl 1 rfl) ?_
    obtain ⟨h1, hm⟩ := gd_ok hm
    refine rM_X7_prices X hK hP h1 dX7_reach_16 ?_
    refine lv_icmp_lt (tgt := 40) hx hb dX7_reach_17 (by decide) (fun hc => ?_) (fun hc => ?_)
    · replace hm := (if_pos hc).symm.trans hm
      exact kJ40  ls (lv_sub hl [0, 1, 2, 3] rfl) hm
    · replace hm := (if_neg hc).symm.trans hm
      refine lv_iload_n hx hb dX7_reach_20 rfl (lv_at hl 2 rfl) ?_
      refine lv_aload_n hx hb dX7_reach_21 rfl (lv_at hl 0 rfl) ?_
      refine gM_X7_prices X hK hP iX7 (List.mem_of_getElem? (i := 1) rfl) dX7_reach_22 ?_
      refine lv_iload_n hx hb dX7_reach_25 rfl (lv_at hl 1 rfl) ?_
      obtain ⟨h1, hm⟩ := gd_ok hm
      refine rM_X7_prices X hK hP h1 dX7_reach_26 ?_
      refine lv_icmp_ne (tgt := 54) hx hb dX7_reach_27 (by decide) (fun hc => ?_) (fun hc => ?_)
      · replace hm := (if_neg hc).symm.trans hm
        exact endV X hK hr hlocks hm hP hS dX7_reach_54
      · replace hm := (if_pos hc).symm.trans hm
        refine lv_iload_n hx hb dX7_reach_30 rfl (lv_at hl 3 rfl) ?_
        refine lv_aload_n hx hb dX7_reach_31 rfl (lv_at hl 0 rfl) ?_
        refine gM_X7_fewest X hK hP iX7 (List.mem_of_getElem? (i := 2) rfl) dX7_reach_32 ?_
        refine lv_iload_n hx hb dX7_reach_35 rfl (lv_at hl 1 rfl) ?_
        obtain ⟨h1, hm⟩ := gd_ok hm
        refine rM_X7_fewest X hK hP h1 dX7_reach_36 ?_
        refine lv_icmp_ge (tgt := 54) hx hb dX7_reach_37 (by decide) (fun hc => ?_) (fun hc => ?_)
        · replace hm := (if_pos hc).symm.trans hm
          exact endV X hK hr hlocks hm hP hS dX7_reach_54
        · replace hm := (if_neg hc).symm.trans hm
          exact kJ40  ls (lv_sub hl [0, 1, 2, 3] rfl) hm

def rmX7_isBest : Room := { frames := 2, cells := 0, slots := 0, locals := 46 }
set_option maxHeartbeats 4000000 in
set_option maxRecDepth 100000 in
theorem kX7_isBest (l : Launch) (D : va_G) (a : Nat → Nat) (cI cZ : ClassId) (S : ST) (p1 : Int32) (p2 : Int32) (res : Int32) (hm : mX7_isBest S p1 p2 = some res) : Met l yX7_isBest wsX7_isBest rmX7_isBest (va_Pc [.ref (a 0), .int p1, .int p2] (PreR (wM a cI cZ S) D cI cZ)) (vp_Si (fun r => r = res)) 0 0 (fun _ => False) := by
  refine metB (cc := cX7_isBest) (maxL := 3) (ret := (some .boolean)) (by decide) rfl (Nat.le_of_ble_eq_true rfl) ?_
  intro p e s m below meth c ls X hml hr hlocks hin hv hl
  replace X : CX p m c cX7_isBest s ([.ref (a 0), .int p1, .int p2] : List Value).toArray wsX7_isBest RX7 := X
  obtain ⟨hP, hK, hNW⟩ := hv
  have hx := X.1
  have hb := X.2.1
  replace hl : lv_has ls 3 [(0, .ref (a 0)), (1, .int p1), (2, .int p2)] := hl
  have iX7 : ∀ w ∈ wsX70, w ∈ wsX7_isBest := fun w h => List.mem_cons_of_mem _ (List.mem_append_right _ h)
  unfold mX7_isBest at hm
  refine lv_aload_n hx hb dX7_isBest_0 rfl (lv_at hl 0 rfl) ?_
  refine gM_X7_patternStock X hK hP iX7 (List.mem_of_getElem? (i := 1) rfl) dX7_isBest_1 ?_
  refine lv_iload_n hx hb dX7_isBest_4 rfl (lv_at hl 1 rfl) ?_
  obtain ⟨h1, hm⟩ := gd_ok hm
  refine rM_X7_patternStock X hK hP h1 dX7_isBest_5 ?_
  refine lv_iconst (v := (-1 : Int32)) hx hb dX7_isBest_6 (by decide) ?_
  refine lv_icmp_eq (tgt := 18) hx hb dX7_isBest_7 (by decide) (fun hc => ?_) (fun hc => ?_)
  · replace hm := (if_pos hc).symm.trans hm
    refine lv_iconst (v := (0 : Int32)) hx hb dX7_isBest_18 (by decide) ?_
    exact endR X hr rfl hlocks hm dX7_isBest_19
  · replace hm := (if_neg hc).symm.trans hm
    refine lv_iload_n hx hb dX7_isBest_10 rfl (lv_at hl 1 rfl) ?_
    refine lv_iload_n hx hb dX7_isBest_11 rfl (lv_at hl 2 rfl) ?_
    obtain ⟨r1, hr1, hm⟩ := bd_ok hm
    refine callRS (rest := []) X hml hl.1 (kX7_isIn l p1 p2 r1 hr1) (va_cwS 2 X.2.2.1 gX7_isBest_X7_isIn rfl rfl rfl (by decide +kernel) ⟨Nat.le_of_ble_eq_true rfl, Nat.le_of_ble_eq_true rfl⟩) rfl rfl (Nat.le_of_ble_eq_true rfl) dX7_isBest_12 ⟨Nat.zero_le _, Nat.zero_le _⟩ ?_
    refine lv_if_ne (tgt := 20) hx hb dX7_isBest_15 (by decide) (fun hc => ?_) (fun hc => ?_)
    · replace hm := (if_neg hc).symm.trans hm
      refine lv_aload_n hx hb dX7_isBest_20 rfl (lv_at hl 0 rfl) ?_
      refine gM_X7_prices X hK hP iX7 (List.mem_of_getElem? (i := 2) rfl) dX7_isBest_21 ?_
      refine lv_iload_n hx hb dX7_isBest_24 rfl (lv_at hl 2 rfl) ?_
      refine lv_iload_n hx hb dX7_isBest_25 rfl (lv_at hl 1 rfl) ?_
      refine lv_isub hx hb dX7_isBest_26 ?_
      obtain ⟨h1, hm⟩ := gd_ok hm
      refine rM_X7_prices X hK hP h1 dX7_isBest_27 ?_
      refine lv_iconst (v := (-1 : Int32)) hx hb dX7_isBest_28 (by decide) ?_
      refine lv_icmp_eq (tgt := 84) hx hb dX7_isBest_29 (by decide) (fun hc => ?_) (fun hc => ?_)
      · replace hm := (if_pos hc).symm.trans hm
        refine lv_iconst (v := (0 : Int32)) hx hb dX7_isBest_84 (by decide) ?_
        exact endR X hr rfl hlocks hm dX7_isBest_85
      · replace hm := (if_neg hc).symm.trans hm
        refine lv_aload_n hx hb dX7_isBest_32 rfl (lv_at hl 0 rfl) ?_
        refine gM_X7_prices X hK hP iX7 (List.mem_of_getElem? (i := 2) rfl) dX7_isBest_33 ?_
        refine lv_iload_n hx hb dX7_isBest_36 rfl (lv_at hl 2 rfl) ?_
        obtain ⟨h1, hm⟩ := gd_ok hm
        refine rM_X7_prices X hK hP h1 dX7_isBest_37 ?_
        refine lv_aload_n hx hb dX7_isBest_38 rfl (lv_at hl 0 rfl) ?_
        refine gM_X7_prices X hK hP iX7 (List.mem_of_getElem? (i := 2) rfl) dX7_isBest_39 ?_
        refine lv_iload_n hx hb dX7_isBest_42 rfl (lv_at hl 2 rfl) ?_
        refine lv_iload_n hx hb dX7_isBest_43 rfl (lv_at hl 1 rfl) ?_
        refine lv_isub hx hb dX7_isBest_44 ?_
        obtain ⟨h1, hm⟩ := gd_ok hm
        refine rM_X7_prices X hK hP h1 dX7_isBest_45 ?_
        refine lv_aload_n hx hb dX7_isBest_46 rfl (lv_at hl 0 rfl) ?_
        refine gM_X7_stockPrice X hK hP iX7 (List.mem_of_getElem? (i := 3) rfl) dX7_isBest_47 ?_
        refine lv_aload_n hx hb dX7_isBest_50 rfl (lv_at hl 0 rfl) ?_
        refine gM_X7_patternStock X hK hP iX7 (List.mem_of_getElem? (i := 1) rfl) dX7_isBest_51 ?_
        refine lv_iload_n hx hb dX7_isBest_54 rfl (lv_at hl 1 rfl) ?_
        obtain ⟨h1, hm⟩ := gd_ok hm
        refine rM_X7_patternStock X hK hP h1 dX7_isBest_55 ?_
        obtain ⟨h1, hm⟩ := gd_ok hm
        refine rM_X7_stockPrice X hK hP h1 dX7_isBest_56 ?_
        refine lv_iadd hx hb dX7_isBest_57 ?_
        refine lv_icmp_ne (tgt := 84) hx hb dX7_isBest_58 (by decide) (fun hc => ?_) (fun hc => ?_)
        · replace hm := (if_neg hc).symm.trans hm
          refine lv_iconst (v := (0 : Int32)) hx hb dX7_isBest_84 (by decide) ?_
          exact endR X hr rfl hlocks hm dX7_isBest_85
        · replace hm := (if_pos hc).symm.trans hm
          refine lv_aload_n hx hb dX7_isBest_61 rfl (lv_at hl 0 rfl) ?_
          refine gM_X7_fewest X hK hP iX7 (List.mem_of_getElem? (i := 4) rfl) dX7_isBest_62 ?_
          refine lv_iload_n hx hb dX7_isBest_65 rfl (lv_at hl 2 rfl) ?_
          obtain ⟨h1, hm⟩ := gd_ok hm
          refine rM_X7_fewest X hK hP h1 dX7_isBest_66 ?_
          refine lv_aload_n hx hb dX7_isBest_67 rfl (lv_at hl 0 rfl) ?_
          refine gM_X7_fewest X hK hP iX7 (List.mem_of_getElem? (i := 4) rfl) dX7_isBest_68 ?_
          refine lv_iload_n hx hb dX7_isBest_71 rfl (lv_at hl 2 rfl) ?_
          refine lv_iload_n hx hb dX7_isBest_72 rfl (lv_at hl 1 rfl) ?_
          refine lv_isub hx hb dX7_isBest_73 ?_
          obtain ⟨h1, hm⟩ := gd_ok hm
          refine rM_X7_fewest X hK hP h1 dX7_isBest_74 ?_
          refine lv_iconst (v := (1 : Int32)) hx hb dX7_isBest_75 (by decide) ?_
          refine lv_iadd hx hb dX7_isBest_76 ?_
          refine lv_icmp_ne (tgt := 84) hx hb dX7_isBest_77 (by decide) (fun hc => ?_) (fun hc => ?_)
          · replace hm := (if_neg hc).symm.trans hm
            refine lv_iconst (v := (0 : Int32)) hx hb dX7_isBest_84 (by decide) ?_
            exact endR X hr rfl hlocks hm dX7_isBest_85
          · replace hm := (if_pos hc).symm.trans hm
            refine lv_iconst (v := (1 : Int32)) hx hb dX7_isBest_80 (by decide) ?_
            refine lv_goto (tgt := 85) hx hb dX7_isBest_81 (by decide) ?_
            exact endR X hr rfl hlocks hm dX7_isBest_85
    · replace hm := (if_pos hc).symm.trans hm
      refine lv_iconst (v := (0 : Int32)) hx hb dX7_isBest_18 (by decide) ?_
      exact endR X hr rfl hlocks hm dX7_isBest_19

def rmX7_list : Room := { frames := 3, cells := 0, slots := 0, locals := 68 }
set_option maxHeartbeats 4000000 in
set_option maxRecDepth 100000 in
theorem kX7_list (l : Launch) (D : va_G) (a : Nat → Nat) (cI cZ : ClassId) (hA : AP 31 a) (S : ST) (sz : Nat)  (res : ST) (hm : mX7_list S  = some res) : Met l yX7_list wsX7_list rmX7_list (va_Pc [.ref (a 0)] (PreW (wM a cI cZ S) D cI cZ sz)) (va_Qv (fun T : ST => T = res) (PostW (wM a cI cZ) D cI cZ) (AC 31 a sz)) 0 0 (AC 31 a sz) := by
  refine metB (cc := cX7_list) (maxL := 4) (ret := none) (by decide) rfl (Nat.le_of_ble_eq_true rfl) ?_
  intro p e s m below meth c ls X hml hr hlocks hin hv hl
  replace X : CX p m c cX7_list s ([.ref (a 0)] : List Value).toArray wsX7_list RX7 := X
  obtain ⟨hsz, hP, hK, hNW⟩ := hv
  subst hsz
  have hS : va_S (AC 31 a s.heap.size) s.heap s.heap [] := va_S.rf
  have hx := X.1
  have hb := X.2.1
  replace hl : lv_has ls 4 [(0, .ref (a 0))] := hl
  have iX7 : ∀ w ∈ wsX70, w ∈ wsX7_list := fun w h => List.mem_cons_of_mem _ (List.mem_append_right _ h)
  suffices kS : ∀ (H : Heap) (locs : List Loc), va_P D vwCl (wM a cI cZ S) H → va_S (AC 31 a s.heap.size) s.heap H locs → W p l e rmX7_list s m ([.ref (a 0)] : List Value).toArray below meth c H locs 0 0 (MQ below (va_Qv (fun T : ST => T = res) (PostW (wM a cI cZ) D cI cZ) (AC 31 a s.heap.size)) ([.ref (a 0)] : List Value).toArray s 0 0 (AC 31 a s.heap.size)) (F0 m 0 ls []) by exact kS s.heap [] hP hS
  intro H locs hP hS
  unfold mX7_list at hm
  refine lv_aload_n hx hb dX7_list_0 rfl (lv_at hl 0 rfl) ?_
  refine gM_X7_isListed X hK hP iX7 (List.mem_of_getElem? (i := 1) rfl) dX7_list_1 ?_
  refine lv_if_eq (tgt := 8) hx hb dX7_list_4 (by decide) (fun hc => ?_) (fun hc => ?_)
  · replace hm := (if_pos hc).symm.trans hm
    refine lv_aload_n hx hb dX7_list_8 rfl (lv_at hl 0 rfl) ?_
    refine lv_iconst (v := (1 : Int32)) hx hb dX7_list_9 (by decide) ?_
    refine pM_X7_isListed X hK hA hP hS iX7 (List.mem_of_getElem? (i := 1) rfl) ⟨rfl, rfl⟩ dX7_list_10 (fun H locs hP hS => ?_)
    refine lv_aload_n hx hb dX7_list_13 rfl (lv_at hl 0 rfl) ?_
    obtain ⟨r1, hr1, hm⟩ := bd_ok hm
    refine callRV (rest := []) X hK hNW hml hP hl.1 (kX7_all l D a cI cZ (sI S 14 (1 : Int32))  r1 hr1) (cwV 0 X.2.2.1 gX7_list_X7_all rfl rfl rfl (by decide +kernel) ⟨Nat.le_of_ble_eq_true rfl, Nat.le_of_ble_eq_true rfl⟩) (vM_X7 hK hP) rfl rfl (Nat.le_of_ble_eq_true rfl) dX7_list_14 ⟨Nat.zero_le _, Nat.zero_le _⟩ ?_
    refine lv_istore_n (lv' := [(1, .int r1), (0, .ref (a 0))]) hx hb dX7_list_17 rfl hl (by decide) rfl (fun ls hl => ?_)
    refine lv_iconst (v := (0 : Int32)) hx hb dX7_list_18 (by decide) ?_
    refine lv_istore_n (lv' := [(2, .int (0 : Int32)), (1, .int r1), (0, .ref (a 0))]) hx hb dX7_list_19 rfl hl (by decide) rfl (fun ls hl => ?_)
    have kb20 : ∀ (k x : ST → Int32 → Option (ST)), (∀ (S_20 : ST) (H : Heap) (locs : List Loc) (v2_20 : Int32) (ls : Array Slot), va_P D vwCl (wM a cI cZ S_20) H → va_S (AC 31 a s.heap.size) s.heap H locs → lv_has ls 4 [(0, .ref (a 0)), (1, .int r1), (2, .int v2_20)] → k S_20 v2_20 = some res → W p l e rmX7_list s m ([.ref (a 0)] : List Value).toArray below meth c H locs 0 0 (MQ below (va_Qv (fun T : ST => T = res) (PostW (wM a cI cZ) D cI cZ) (AC 31 a s.heap.size)) ([.ref (a 0)] : List Value).toArray s 0 0 (AC 31 a s.heap.size)) (F0 m 20 ls [])) → (∀ (S_20 : ST) (H : Heap) (locs : List Loc) (v2_20 : Int32) (ls : Array Slot), va_P D vwCl (wM a cI cZ S_20) H → va_S (AC 31 a s.heap.size) s.heap H locs → lv_has ls 4 [(0, .ref (a 0)), (1, .int r1), (2, .int v2_20)] → x S_20 v2_20 = some res → W p l e rmX7_list s m ([.ref (a 0)] : List Value).toArray below meth c H locs 0 0 (MQ below (va_Qv (fun T : ST => T = res) (PostW (wM a cI cZ) D cI cZ) (AC 31 a s.heap.size)) ([.ref (a 0)] : List Value).toArray s 0 0 (AC 31 a s.heap.size)) (F0 m 72 ls [])) → ∀ (S_20 : ST) (H : Heap) (locs : List Loc) (v2_20 : Int32) (ls : Array Slot), va_P D vwCl (wM a cI cZ S_20) H → va_S (AC 31 a s.heap.size) s.heap H locs → lv_has ls 4 [(0, .ref (a 0)), (1, .int r1), (2, .int v2_20)] → mX7_list_B20 k x r1 S_20 v2_20 = some res → W p l e rmX7_list s m ([.ref (a 0)] : List Value).toArray below meth c H locs 0 0 (MQ below (va_Qv (fun T : ST => T = res) (PostW (wM a cI cZ) D cI cZ) (AC 31 a s.heap.size)) ([.ref (a 0)] : List Value).toArray s 0 0 (AC 31 a s.heap.size)) (F0 m 20 ls []) := by
      intro k x ih kxh S_20 H locs v2_20 ls hP hS hl hm
      unfold mX7_list_B20 at hm
      refine lv_iload_n hx hb dX7_list_20 rfl (lv_at hl 2 rfl) ?_
      refine lv_iload_n hx hb dX7_list_21 rfl (lv_at hl 1 rfl) ?_
      refine lv_icmp_gt (tgt := 72) hx hb dX7_list_22 (by decide) (fun hc => ?_) (fun hc => ?_)
      · replace hm := (if_pos hc).symm.trans hm
        exact kxh S_20 H locs v2_20 ls hP hS (lv_sub hl [0, 1, 2] rfl) hm
      · replace hm := (if_neg hc).symm.trans hm
        refine lv_aload_n hx hb dX7_list_25 rfl (lv_at hl 0 rfl) ?_
        refine gM_X7_prices X hK hP iX7 (List.mem_of_getElem? (i := 2) rfl) dX7_list_26 ?_
        refine lv_iload_n hx hb dX7_list_29 rfl (lv_at hl 2 rfl) ?_
        refine lv_iconst (v := (-1 : Int32)) hx hb dX7_list_30 (by decide) ?_
        obtain ⟨h1, hm⟩ := gd_ok hm
        refine sM_X7_prices X hK hA hP hS h1 dX7_list_31 (fun H locs hP hS => ?_)
        refine lv_aload_n hx hb dX7_list_32 rfl (lv_at hl 0 rfl) ?_
        refine gM_X7_fewest X hK hP iX7 (List.mem_of_getElem? (i := 3) rfl) dX7_list_33 ?_
        refine lv_iload_n hx hb dX7_list_36 rfl (lv_at hl 2 rfl) ?_
        refine lv_iconst (v := (-1 : Int32)) hx hb dX7_list_37 (by decide) ?_
        obtain ⟨h1, hm⟩ := gd_ok hm
        refine sM_X7_fewest X hK hA hP hS h1 dX7_list_38 (fun H locs hP hS => ?_)
        refine lv_iload_n hx hb dX7_list_39 rfl (lv_at hl 2 rfl) ?_
        refine lv_if_le (tgt := 59) hx hb dX7_list_40 (by decide) (fun hc => ?_) (fun hc => ?_)
        · replace hm := (if_pos hc).symm.trans hm
          refine lv_aload_n hx hb dX7_list_59 rfl (lv_at hl 0 rfl) ?_
          refine gM_X7_patternStock X hK hP iX7 (List.mem_of_getElem? (i := 4) rfl) dX7_list_60 ?_
          refine lv_iload_n hx hb dX7_list_63 rfl (lv_at hl 2 rfl) ?_
          refine lv_iconst (v := (-1 : Int32)) hx hb dX7_list_64 (by decide) ?_
          obtain ⟨h1, hm⟩ := gd_ok hm
          refine sM_X7_patternStock X hK hA hP hS h1 dX7_list_65 (fun H locs hP hS => ?_)
          refine lv_iinc (v := (v2_20 + (1 : Int32))) (lv' := [(2, .int (v2_20 + (1 : Int32))), (0, .ref (a 0)), (1, .int r1)]) hx hb dX7_list_66 hl (k := 2) rfl rfl (by decide) rfl (fun ls hl => ?_)
          refine lv_goto (tgt := 20) hx hb dX7_list_69 (by decide) ?_
          exact ih (sG (sG (sG S_20 25 v2_20 (-1 : Int32)) 26 v2_20 (-1 : Int32)) 27 v2_20 (-1 : Int32)) H locs (v2_20 + (1 : Int32)) ls hP hS (lv_sub hl [1, 2, 0] rfl) hm
        · replace hm := (if_neg hc).symm.trans hm
          refine lv_iload_n hx hb dX7_list_43 rfl (lv_at hl 2 rfl) ?_
          refine lv_iload_n hx hb dX7_list_44 rfl (lv_at hl 1 rfl) ?_
          obtain ⟨r5, hr5, hm⟩ := bd_ok hm
          refine callRS (rest := []) X hml hl.1 (kX7_isIn l v2_20 r1 r5 hr5) (va_cwS 2 X.2.2.1 gX7_list_X7_isIn rfl rfl rfl (by decide +kernel) ⟨Nat.le_of_ble_eq_true rfl, Nat.le_of_ble_eq_true rfl⟩) rfl rfl (Nat.le_of_ble_eq_true rfl) dX7_list_45 ⟨Nat.zero_le _, Nat.zero_le _⟩ ?_
          refine lv_if_eq (tgt := 59) hx hb dX7_list_48 (by decide) (fun hc => ?_) (fun hc => ?_)
          · replace hm := (if_pos hc).symm.trans hm
            refine lv_aload_n hx hb dX7_list_59 rfl (lv_at hl 0 rfl) ?_
            refine gM_X7_patternStock X hK hP iX7 (List.mem_of_getElem? (i := 4) rfl) dX7_list_60 ?_
            refine lv_iload_n hx hb dX7_list_63 rfl (lv_at hl 2 rfl) ?_
            refine lv_iconst (v := (-1 : Int32)) hx hb dX7_list_64 (by decide) ?_
            obtain ⟨h1, hm⟩ := gd_ok hm
            refine sM_X7_patternStock X hK hA hP hS h1 dX7_list_65 (fun H locs hP hS => ?_)
            refine lv_iinc (v := (v2_20 + (1 : Int32))) (lv' := [(2, .int (v2_20 + (1 : Int32))), (0, .ref (a 0)), (1, .int r1)]) hx hb dX7_list_66 hl (k := 2) rfl rfl (by decide) rfl (fun ls hl => ?_)
            refine lv_goto (tgt := 20) hx hb dX7_list_69 (by decide) ?_
            exact ih (sG (sG (sG S_20 25 v2_20 (-1 : Int32)) 26 v2_20 (-1 : Int32)) 27 v2_20 (-1 : Int32)) H locs (v2_20 + (1 : Int32)) ls hP hS (lv_sub hl [1, 2, 0] rfl) hm
          · replace hm := (if_neg hc).symm.trans hm
            refine lv_aload_n hx hb dX7_list_51 rfl (lv_at hl 0 rfl) ?_
            refine lv_iload_n hx hb dX7_list_52 rfl (lv_at hl 2 rfl) ?_
            obtain ⟨r6, hr6, hm⟩ := bd_ok hm
            refine callWV (wf := wM a cI cZ) (rest := []) X hK hNW hml hP hS hl.1 (kX7_findPattern l D a cI cZ hA (sG (sG S_20 25 v2_20 (-1 : Int32)) 26 v2_20 (-1 : Int32)) H.size v2_20 r6 hr6) (cwV 1 X.2.2.1 gX7_list_X7_findPattern rfl rfl rfl (by decide +kernel) ⟨Nat.le_of_ble_eq_true rfl, Nat.le_of_ble_eq_true rfl⟩) (vM_X7 hK hP) rfl rfl (Nat.le_of_ble_eq_true rfl) dX7_list_53 ⟨Nat.zero_le _, Nat.zero_le _⟩ (fun H locs hP hS => ?_)
            refine lv_goto (tgt := 66) hx hb dX7_list_56 (by decide) ?_
            refine lv_iinc (v := (v2_20 + (1 : Int32))) (lv' := [(2, .int (v2_20 + (1 : Int32))), (0, .ref (a 0)), (1, .int r1)]) hx hb dX7_list_66 hl (k := 2) rfl rfl (by decide) rfl (fun ls hl => ?_)
            refine lv_goto (tgt := 20) hx hb dX7_list_69 (by decide) ?_
            exact ih r6 H locs (v2_20 + (1 : Int32)) ls hP hS (lv_sub hl [1, 2, 0] rfl) hm
    have kx20 : ∀ (S_20 : ST) (H : Heap) (locs : List Loc) (v2_20 : Int32) (ls : Array Slot), va_P D vwCl (wM a cI cZ S_20) H → va_S (AC 31 a s.heap.size) s.heap H locs → lv_has ls 4 [(0, .ref (a 0)), (1, .int r1), (2, .int v2_20)] → mX7_list_X20  r1 S_20 v2_20 = some res → W p l e rmX7_list s m ([.ref (a 0)] : List Value).toArray below meth c H locs 0 0 (MQ below (va_Qv (fun T : ST => T = res) (PostW (wM a cI cZ) D cI cZ) (AC 31 a s.heap.size)) ([.ref (a 0)] : List Value).toArray s 0 0 (AC 31 a s.heap.size)) (F0 m 72 ls []) := by
      intro S_20 H locs v2_20 ls hP hS hl hm
      unfold mX7_list_X20 at hm
      refine lv_aload_n hx hb dX7_list_72 rfl (lv_at hl 0 rfl) ?_
      refine gM_X7_prices X hK hP iX7 (List.mem_of_getElem? (i := 2) rfl) dX7_list_73 ?_
      refine lv_iconst (v := (0 : Int32)) hx hb dX7_list_76 (by decide) ?_
      refine lv_iconst (v := (0 : Int32)) hx hb dX7_list_77 (by decide) ?_
      obtain ⟨h1, hm⟩ := gd_ok hm
      refine sM_X7_prices X hK hA hP hS h1 dX7_list_78 (fun H locs hP hS => ?_)
      refine lv_aload_n hx hb dX7_list_79 rfl (lv_at hl 0 rfl) ?_
      refine gM_X7_fewest X hK hP iX7 (List.mem_of_getElem? (i := 3) rfl) dX7_list_80 ?_
      refine lv_iconst (v := (0 : Int32)) hx hb dX7_list_83 (by decide) ?_
      refine lv_iconst (v := (0 : Int32)) hx hb dX7_list_84 (by decide) ?_
      obtain ⟨h1, hm⟩ := gd_ok hm
      refine sM_X7_fewest X hK hA hP hS h1 dX7_list_85 (fun H locs hP hS => ?_)
      refine lv_iconst (v := (0 : Int32)) hx hb dX7_list_86 (by decide) ?_
      refine lv_istore_n (lv' := [(2, .int (0 : Int32)), (0, .ref (a 0)), (1, .int r1)]) hx hb dX7_list_87 rfl hl (by decide) rfl (fun ls hl => ?_)
      have kb88 : ∀ (k x : ST → Int32 → Option (ST)), (∀ (S_88 : ST) (H : Heap) (locs : List Loc) (v2_88 : Int32) (ls : Array Slot), va_P D vwCl (wM a cI cZ S_88) H → va_S (AC 31 a s.heap.size) s.heap H locs → lv_has ls 4 [(0, .ref (a 0)), (1, .int r1), (2, .int v2_88)] → k S_88 v2_88 = some res → W p l e rmX7_list s m ([.ref (a 0)] : List Value).toArray below meth c H locs 0 0 (MQ below (va_Qv (fun T : ST => T = res) (PostW (wM a cI cZ) D cI cZ) (AC 31 a s.heap.size)) ([.ref (a 0)] : List Value).toArray s 0 0 (AC 31 a s.heap.size)) (F0 m 88 ls [])) → (∀ (S_88 : ST) (H : Heap) (locs : List Loc) (v2_88 : Int32) (ls : Array Slot), va_P D vwCl (wM a cI cZ S_88) H → va_S (AC 31 a s.heap.size) s.heap H locs → lv_has ls 4 [(0, .ref (a 0)), (1, .int r1), (2, .int v2_88)] → x S_88 v2_88 = some res → W p l e rmX7_list s m ([.ref (a 0)] : List Value).toArray below meth c H locs 0 0 (MQ below (va_Qv (fun T : ST => T = res) (PostW (wM a cI cZ) D cI cZ) (AC 31 a s.heap.size)) ([.ref (a 0)] : List Value).toArray s 0 0 (AC 31 a s.heap.size)) (F0 m 177 ls [])) → ∀ (S_88 : ST) (H : Heap) (locs : List Loc) (v2_88 : Int32) (ls : Array Slot), va_P D vwCl (wM a cI cZ S_88) H → va_S (AC 31 a s.heap.size) s.heap H locs → lv_has ls 4 [(0, .ref (a 0)), (1, .int r1), (2, .int v2_88)] → mX7_list_B88 k x r1 S_88 v2_88 = some res → W p l e rmX7_list s m ([.ref (a 0)] : List Value).toArray below meth c H locs 0 0 (MQ below (va_Qv (fun T : ST => T = res) (PostW (wM a cI cZ) D cI cZ) (AC 31 a s.heap.size)) ([.ref (a 0)] : List Value).toArray s 0 0 (AC 31 a s.heap.size)) (F0 m 88 ls []) := by
        intro k x ih kxh S_88 H locs v2_88 ls hP hS hl hm
        unfold mX7_list_B88 at hm
        refine lv_iload_n hx hb dX7_list_88 rfl (lv_at hl 2 rfl) ?_
        refine lv_iload_n hx hb dX7_list_89 rfl (lv_at hl 1 rfl) ?_
        refine lv_icmp_ge (tgt := 177) hx hb dX7_list_90 (by decide) (fun hc => ?_) (fun hc => ?_)
        · replace hm := (if_pos hc).symm.trans hm
          exact kxh S_88 H locs v2_88 ls hP hS (lv_sub hl [0, 1, 2] rfl) hm
        · replace hm := (if_neg hc).symm.trans hm
          refine lv_iconst (v := (1 : Int32)) hx hb dX7_list_93 (by decide) ?_
          refine lv_istore_n (lv' := [(3, .int (1 : Int32)), (0, .ref (a 0)), (1, .int r1), (2, .int v2_88)]) hx hb dX7_list_94 rfl hl (by decide) rfl (fun ls hl => ?_)
          have kb95 : ∀ (k x : ST → Int32 → Option (ST)), (∀ (S_95 : ST) (H : Heap) (locs : List Loc) (v3_95 : Int32) (ls : Array Slot), va_P D vwCl (wM a cI cZ S_95) H → va_S (AC 31 a s.heap.size) s.heap H locs → lv_has ls 4 [(0, .ref (a 0)), (1, .int r1), (2, .int v2_88), (3, .int v3_95)] → k S_95 v3_95 = some res → W p l e rmX7_list s m ([.ref (a 0)] : List Value).toArray below meth c H locs 0 0 (MQ below (va_Qv (fun T : ST => T = res) (PostW (wM a cI cZ) D cI cZ) (AC 31 a s.heap.size)) ([.ref (a 0)] : List Value).toArray s 0 0 (AC 31 a s.heap.size)) (F0 m 95 ls [])) → (∀ (S_95 : ST) (H : Heap) (locs : List Loc) (v3_95 : Int32) (ls : Array Slot), va_P D vwCl (wM a cI cZ S_95) H → va_S (AC 31 a s.heap.size) s.heap H locs → lv_has ls 4 [(0, .ref (a 0)), (1, .int r1), (2, .int v2_88), (3, .int v3_95)] → x S_95 v3_95 = some res → W p l e rmX7_list s m ([.ref (a 0)] : List Value).toArray below meth c H locs 0 0 (MQ below (va_Qv (fun T : ST => T = res) (PostW (wM a cI cZ) D cI cZ) (AC 31 a s.heap.size)) ([.ref (a 0)] : List Value).toArray s 0 0 (AC 31 a s.heap.size)) (F0 m 171 ls [])) → ∀ (S_95 : ST) (H : Heap) (locs : List Loc) (v3_95 : Int32) (ls : Array Slot), va_P D vwCl (wM a cI cZ S_95) H → va_S (AC 31 a s.heap.size) s.heap H locs → lv_has ls 4 [(0, .ref (a 0)), (1, .int r1), (2, .int v2_88), (3, .int v3_95)] → mX7_list_B95 k x r1 v2_88 S_95 v3_95 = some res → W p l e rmX7_list s m ([.ref (a 0)] : List Value).toArray below meth c H locs 0 0 (MQ below (va_Qv (fun T : ST => T = res) (PostW (wM a cI cZ) D cI cZ) (AC 31 a s.heap.size)) ([.ref (a 0)] : List Value).toArray s 0 0 (AC 31 a s.heap.size)) (F0 m 95 ls []) := by
            intro k x ih kxh S_95 H locs v3_95 ls hP hS hl hm
            unfold mX7_list_B95 at hm
            refine lv_iload_n hx hb dX7_list_95 rfl (lv_at hl 3 rfl) ?_
            refine lv_iload_n hx hb dX7_list_96 rfl (lv_at hl 1 rfl) ?_
            refine lv_iload_n hx hb dX7_list_97 rfl (lv_at hl 2 rfl) ?_
            refine lv_isub hx hb dX7_list_98 ?_
            refine lv_icmp_gt (tgt := 171) hx hb dX7_list_99 (by decide) (fun hc => ?_) (fun hc => ?_)
            · replace hm := (if_pos hc).symm.trans hm
              exact kxh S_95 H locs v3_95 ls hP hS (lv_sub hl [0, 1, 2, 3] rfl) hm
            · replace hm := (if_neg hc).symm.trans hm
              refine lv_aload_n hx hb dX7_list_102 rfl (lv_at hl 0 rfl) ?_
              refine gM_X7_prices X hK hP iX7 (List.mem_of_getElem? (i := 2) rfl) dX7_list_103 ?_
              refine lv_iload_n hx hb dX7_list_106 rfl (lv_at hl 2 rfl) ?_
              obtain ⟨h1, hm⟩ := gd_ok hm
              refine rM_X7_prices X hK hP h1 dX7_list_107 ?_
              refine lv_iconst (v := (-1 : Int32)) hx hb dX7_list_108 (by decide) ?_
              refine lv_icmp_eq (tgt := 171) hx hb dX7_list_109 (by decide) (fun hc => ?_) (fun hc => ?_)
              · replace hm := (if_pos hc).symm.trans hm
                exact kxh S_95 H locs v3_95 ls hP hS (lv_sub hl [0, 1, 2, 3] rfl) hm
              · replace hm := (if_neg hc).symm.trans hm
                refine lv_aload_n hx hb dX7_list_112 rfl (lv_at hl 0 rfl) ?_
                refine gM_X7_patternStock X hK hP iX7 (List.mem_of_getElem? (i := 4) rfl) dX7_list_113 ?_
                refine lv_iload_n hx hb dX7_list_116 rfl (lv_at hl 3 rfl) ?_
                obtain ⟨h1, hm⟩ := gd_ok hm
                refine rM_X7_patternStock X hK hP h1 dX7_list_117 ?_
                refine lv_iconst (v := (-1 : Int32)) hx hb dX7_list_118 (by decide) ?_
                refine lv_icmp_eq (tgt := 165) hx hb dX7_list_119 (by decide) (fun hc => ?_) (fun hc => ?_)
                · replace hm := (if_pos hc).symm.trans hm
                  refine lv_iinc (v := (v3_95 + (1 : Int32))) (lv' := [(3, .int (v3_95 + (1 : Int32))), (0, .ref (a 0)), (1, .int r1), (2, .int v2_88)]) hx hb dX7_list_165 hl (k := 3) rfl rfl (by decide) rfl (fun ls hl => ?_)
                  refine lv_goto (tgt := 95) hx hb dX7_list_168 (by decide) ?_
                  exact ih S_95 H locs (v3_95 + (1 : Int32)) ls hP hS (lv_sub hl [1, 2, 3, 0] rfl) hm
                · replace hm := (if_neg hc).symm.trans hm
                  refine lv_iload_n hx hb dX7_list_122 rfl (lv_at hl 3 rfl) ?_
                  refine lv_iload_n hx hb dX7_list_123 rfl (lv_at hl 1 rfl) ?_
                  refine lv_iload_n hx hb dX7_list_124 rfl (lv_at hl 2 rfl) ?_
                  refine lv_isub hx hb dX7_list_125 ?_
                  obtain ⟨r3, hr3, hm⟩ := bd_ok hm
                  refine callRS (rest := []) X hml hl.1 (kX7_isIn l v3_95 (r1 - v2_88) r3 hr3) (va_cwS 2 X.2.2.1 gX7_list_X7_isIn rfl rfl rfl (by decide +kernel) ⟨Nat.le_of_ble_eq_true rfl, Nat.le_of_ble_eq_true rfl⟩) rfl rfl (Nat.le_of_ble_eq_true rfl) dX7_list_126 ⟨Nat.zero_le _, Nat.zero_le _⟩ ?_
                  refine lv_if_eq (tgt := 165) hx hb dX7_list_129 (by decide) (fun hc => ?_) (fun hc => ?_)
                  · replace hm := (if_pos hc).symm.trans hm
                    refine lv_iinc (v := (v3_95 + (1 : Int32))) (lv' := [(3, .int (v3_95 + (1 : Int32))), (0, .ref (a 0)), (1, .int r1), (2, .int v2_88)]) hx hb dX7_list_165 hl (k := 3) rfl rfl (by decide) rfl (fun ls hl => ?_)
                    refine lv_goto (tgt := 95) hx hb dX7_list_168 (by decide) ?_
                    exact ih S_95 H locs (v3_95 + (1 : Int32)) ls hP hS (lv_sub hl [1, 2, 3, 0] rfl) hm
                  · replace hm := (if_neg hc).symm.trans hm
                    refine lv_aload_n hx hb dX7_list_132 rfl (lv_at hl 0 rfl) ?_
                    refine lv_iload_n hx hb dX7_list_133 rfl (lv_at hl 2 rfl) ?_
                    refine lv_iload_n hx hb dX7_list_134 rfl (lv_at hl 3 rfl) ?_
                    refine lv_iadd hx hb dX7_list_135 ?_
                    refine lv_aload_n hx hb dX7_list_136 rfl (lv_at hl 0 rfl) ?_
                    refine gM_X7_prices X hK hP iX7 (List.mem_of_getElem? (i := 2) rfl) dX7_list_137 ?_
                    refine lv_iload_n hx hb dX7_list_140 rfl (lv_at hl 2 rfl) ?_
                    obtain ⟨h1, hm⟩ := gd_ok hm
                    refine rM_X7_prices X hK hP h1 dX7_list_141 ?_
                    refine lv_aload_n hx hb dX7_list_142 rfl (lv_at hl 0 rfl) ?_
                    refine gM_X7_stockPrice X hK hP iX7 (List.mem_of_getElem? (i := 5) rfl) dX7_list_143 ?_
                    refine lv_aload_n hx hb dX7_list_146 rfl (lv_at hl 0 rfl) ?_
                    refine gM_X7_patternStock X hK hP iX7 (List.mem_of_getElem? (i := 4) rfl) dX7_list_147 ?_
                    refine lv_iload_n hx hb dX7_list_150 rfl (lv_at hl 3 rfl) ?_
                    obtain ⟨h1, hm⟩ := gd_ok hm
                    refine rM_X7_patternStock X hK hP h1 dX7_list_151 ?_
                    obtain ⟨h1, hm⟩ := gd_ok hm
                    refine rM_X7_stockPrice X hK hP h1 dX7_list_152 ?_
                    refine lv_iadd hx hb dX7_list_153 ?_
                    refine lv_aload_n hx hb dX7_list_154 rfl (lv_at hl 0 rfl) ?_
                    refine gM_X7_fewest X hK hP iX7 (List.mem_of_getElem? (i := 3) rfl) dX7_list_155 ?_
                    refine lv_iload_n hx hb dX7_list_158 rfl (lv_at hl 2 rfl) ?_
                    obtain ⟨h1, hm⟩ := gd_ok hm
                    refine rM_X7_fewest X hK hP h1 dX7_list_159 ?_
                    refine lv_iconst (v := (1 : Int32)) hx hb dX7_list_160 (by decide) ?_
                    refine lv_iadd hx hb dX7_list_161 ?_
                    obtain ⟨r4, hr4, hm⟩ := bd_ok hm
                    refine callWV (wf := wM a cI cZ) (rest := []) X hK hNW hml hP hS hl.1 (kX7_reach l D a cI cZ hA S_95 H.size (v2_88 + v3_95) ((S_95.2 25 v2_88.toNatClampNeg) + (S_95.2 22 (S_95.2 27 v3_95.toNatClampNeg).toNatClampNeg)) ((S_95.2 26 v2_88.toNatClampNeg) + (1 : Int32)) r4 hr4) (cwV 3 X.2.2.1 gX7_list_X7_reach rfl rfl rfl (by decide +kernel) ⟨Nat.le_of_ble_eq_true rfl, Nat.le_of_ble_eq_true rfl⟩) (vM_X7 hK hP) rfl rfl (Nat.le_of_ble_eq_true rfl) dX7_list_162 ⟨Nat.zero_le _, Nat.zero_le _⟩ (fun H locs hP hS => ?_)
                    refine lv_iinc (v := (v3_95 + (1 : Int32))) (lv' := [(3, .int (v3_95 + (1 : Int32))), (0, .ref (a 0)), (1, .int r1), (2, .int v2_88)]) hx hb dX7_list_165 hl (k := 3) rfl rfl (by decide) rfl (fun ls hl => ?_)
                    refine lv_goto (tgt := 95) hx hb dX7_list_168 (by decide) ?_
                    exact ih r4 H locs (v3_95 + (1 : Int32)) ls hP hS (lv_sub hl [1, 2, 3, 0] rfl) hm
          have kx95 : ∀ (S_95 : ST) (H : Heap) (locs : List Loc) (v3_95 : Int32) (ls : Array Slot), va_P D vwCl (wM a cI cZ S_95) H → va_S (AC 31 a s.heap.size) s.heap H locs → lv_has ls 4 [(0, .ref (a 0)), (1, .int r1), (2, .int v2_88), (3, .int v3_95)] → mX7_list_X95 k x r1 v2_88 S_95 v3_95 = some res → W p l e rmX7_list s m ([.ref (a 0)] : List Value).toArray below meth c H locs 0 0 (MQ below (va_Qv (fun T : ST => T = res) (PostW (wM a cI cZ) D cI cZ) (AC 31 a s.heap.size)) ([.ref (a 0)] : List Value).toArray s 0 0 (AC 31 a s.heap.size)) (F0 m 171 ls []) := by
            intro S_95 H locs v3_95 ls hP hS hl hm
            unfold mX7_list_X95 at hm
            refine lv_iinc (v := (v2_88 + (1 : Int32))) (lv' := [(2, .int (v2_88 + (1 : Int32))), (0, .ref (a 0)), (1, .int r1), (3, .int v3_95)]) hx hb dX7_list_171 hl (k := 2) rfl rfl (by decide) rfl (fun ls hl => ?_)
            refine lv_goto (tgt := 88) hx hb dX7_list_174 (by decide) ?_
            exact ih S_95 H locs (v2_88 + (1 : Int32)) ls hP hS (lv_sub hl [1, 2, 0] rfl) hm
          have lp95 : ∀ (n : Nat) (S_95 : ST) (H : Heap) (locs : List Loc) (v3_95 : Int32) (ls : Array Slot), va_P D vwCl (wM a cI cZ S_95) H → va_S (AC 31 a s.heap.size) s.heap H locs → lv_has ls 4 [(0, .ref (a 0)), (1, .int r1), (2, .int v2_88), (3, .int v3_95)] → LPf (κ := ST → Int32 → Option (ST)) (fun _ _ => none) (fun kk => mX7_list_B95 kk (mX7_list_X95 k x r1 v2_88) r1 v2_88) n S_95 v3_95 = some res → W p l e rmX7_list s m ([.ref (a 0)] : List Value).toArray below meth c H locs 0 0 (MQ below (va_Qv (fun T : ST => T = res) (PostW (wM a cI cZ) D cI cZ) (AC 31 a s.heap.size)) ([.ref (a 0)] : List Value).toArray s 0 0 (AC 31 a s.heap.size)) (F0 m 95 ls []) := by
            intro n
            induction n with
            | zero =>
              intro S_95 H locs v3_95 ls hP hS hl hm
              exact (noS (show (none : Option (ST)) = some res from hm)).elim
            | succ n ih =>
              intro S_95 H locs v3_95 ls hP hS hl hm
              exact kb95 _ _ ih kx95 S_95 H locs v3_95 ls hP hS hl hm
          exact lp95 FU S_88 H locs (1 : Int32) ls hP hS (lv_sub hl [1, 2, 3, 0] rfl) hm
      have kx88 : ∀ (S_88 : ST) (H : Heap) (locs : List Loc) (v2_88 : Int32) (ls : Array Slot), va_P D vwCl (wM a cI cZ S_88) H → va_S (AC 31 a s.heap.size) s.heap H locs → lv_has ls 4 [(0, .ref (a 0)), (1, .int r1), (2, .int v2_88)] → mX7_list_X88  r1 S_88 v2_88 = some res → W p l e rmX7_list s m ([.ref (a 0)] : List Value).toArray below meth c H locs 0 0 (MQ below (va_Qv (fun T : ST => T = res) (PostW (wM a cI cZ) D cI cZ) (AC 31 a s.heap.size)) ([.ref (a 0)] : List Value).toArray s 0 0 (AC 31 a s.heap.size)) (F0 m 177 ls []) := by
        intro S_88 H locs v2_88 ls hP hS hl hm
        unfold mX7_list_X88 at hm
        refine lv_aload_n hx hb dX7_list_177 rfl (lv_at hl 0 rfl) ?_
        refine lv_aload_n hx hb dX7_list_178 rfl (lv_at hl 0 rfl) ?_
        refine gM_X7_prices X hK hP iX7 (List.mem_of_getElem? (i := 2) rfl) dX7_list_179 ?_
        refine lv_iload_n hx hb dX7_list_182 rfl (lv_at hl 1 rfl) ?_
        obtain ⟨h1, hm⟩ := gd_ok hm
        refine rM_X7_prices X hK hP h1 dX7_list_183 ?_
        refine lv_iconst (v := (-1 : Int32)) hx hb dX7_list_184 (by decide) ?_
        have kJ193 : ∀ (t0_193 : Int32) (ls : Array Slot), lv_has ls 4 [(0, .ref (a 0)), (1, .int r1), (2, .int v2_88)] → mX7_list_J193  S_88 r1 v2_88 t0_193 = some res → W p l e rmX7_list s m ([.ref (a 0)] : List Value).toArray below meth c H locs 0 0 (MQ below (va_Qv (fun T : ST => T = res) (PostW (wM a cI cZ) D cI cZ) (AC 31 a s.heap.size)) ([.ref (a 0)] : List Value).toArray s 0 0 (AC 31 a s.heap.size)) (F0 m 193 ls [.int t0_193, .ref (a 0)]) := by
          intro t0_193 ls hl hm
          unfold mX7_list_J193 at hm
          obtain ⟨h1, hm⟩ := gd_ok hm
          refine pM_X7_isShort X hK hA hP hS iX7 (List.mem_of_getElem? (i := 6) rfl) (zB_ok h1) dX7_list_193 (fun H locs hP hS => ?_)
          refine lv_aload_n hx hb dX7_list_196 rfl (lv_at hl 0 rfl) ?_
          refine lv_iconst (v := (0 : Int32)) hx hb dX7_list_197 (by decide) ?_
          refine pM_X7_barMany X hK hA hP hS iX7 (List.mem_of_getElem? (i := 7) rfl) dX7_list_198 (fun H locs hP hS => ?_)
          refine lv_iload_n hx hb dX7_list_201 rfl (lv_at hl 1 rfl) ?_
          refine lv_istore_n (lv' := [(2, .int r1), (0, .ref (a 0)), (1, .int r1)]) hx hb dX7_list_202 rfl hl (by decide) rfl (fun ls hl => ?_)
          have kb203 : ∀ (k x : ST → Int32 → Option (ST)), (∀ (S_203 : ST) (H : Heap) (locs : List Loc) (v2_203 : Int32) (ls : Array Slot), va_P D vwCl (wM a cI cZ S_203) H → va_S (AC 31 a s.heap.size) s.heap H locs → lv_has ls 4 [(0, .ref (a 0)), (1, .int r1), (2, .int v2_203)] → k S_203 v2_203 = some res → W p l e rmX7_list s m ([.ref (a 0)] : List Value).toArray below meth c H locs 0 0 (MQ below (va_Qv (fun T : ST => T = res) (PostW (wM a cI cZ) D cI cZ) (AC 31 a s.heap.size)) ([.ref (a 0)] : List Value).toArray s 0 0 (AC 31 a s.heap.size)) (F0 m 203 ls [])) → (∀ (S_203 : ST) (H : Heap) (locs : List Loc) (v2_203 : Int32) (ls : Array Slot), va_P D vwCl (wM a cI cZ S_203) H → va_S (AC 31 a s.heap.size) s.heap H locs → lv_has ls 4 [(0, .ref (a 0)), (1, .int r1), (2, .int v2_203)] → x S_203 v2_203 = some res → W p l e rmX7_list s m ([.ref (a 0)] : List Value).toArray below meth c H locs 0 0 (MQ below (va_Qv (fun T : ST => T = res) (PostW (wM a cI cZ) D cI cZ) (AC 31 a s.heap.size)) ([.ref (a 0)] : List Value).toArray s 0 0 (AC 31 a s.heap.size)) (F0 m 258 ls [])) → ∀ (S_203 : ST) (H : Heap) (locs : List Loc) (v2_203 : Int32) (ls : Array Slot), va_P D vwCl (wM a cI cZ S_203) H → va_S (AC 31 a s.heap.size) s.heap H locs → lv_has ls 4 [(0, .ref (a 0)), (1, .int r1), (2, .int v2_203)] → mX7_list_B203 k x r1 S_203 v2_203 = some res → W p l e rmX7_list s m ([.ref (a 0)] : List Value).toArray below meth c H locs 0 0 (MQ below (va_Qv (fun T : ST => T = res) (PostW (wM a cI cZ) D cI cZ) (AC 31 a s.heap.size)) ([.ref (a 0)] : List Value).toArray s 0 0 (AC 31 a s.heap.size)) (F0 m 203 ls []) := by
            intro k x ih kxh S_203 H locs v2_203 ls hP hS hl hm
            unfold mX7_list_B203 at hm
            refine lv_iload_n hx hb dX7_list_203 rfl (lv_at hl 2 rfl) ?_
            refine lv_if_le (tgt := 258) hx hb dX7_list_204 (by decide) (fun hc => ?_) (fun hc => ?_)
            · replace hm := (if_pos hc).symm.trans hm
              exact kxh S_203 H locs v2_203 ls hP hS (lv_sub hl [0, 1, 2] rfl) hm
            · replace hm := (if_neg hc).symm.trans hm
              refine lv_aload_n hx hb dX7_list_207 rfl (lv_at hl 0 rfl) ?_
              refine gM_X7_isShort X hK hP iX7 (List.mem_of_getElem? (i := 6) rfl) dX7_list_208 ?_
              refine lv_if_ne (tgt := 258) hx hb dX7_list_211 (by decide) (fun hc => ?_) (fun hc => ?_)
              · replace hm := (if_neg hc).symm.trans hm
                exact kxh S_203 H locs v2_203 ls hP hS (lv_sub hl [0, 1, 2] rfl) hm
              · replace hm := (if_pos hc).symm.trans hm
                refine lv_iload_n hx hb dX7_list_214 rfl (lv_at hl 2 rfl) ?_
                refine lv_istore_n (lv' := [(3, .int v2_203), (0, .ref (a 0)), (1, .int r1), (2, .int v2_203)]) hx hb dX7_list_215 rfl hl (by decide) rfl (fun ls hl => ?_)
                have kb216 : ∀ (k x : Int32 → Option (ST)), (∀ (v3_216 : Int32) (ls : Array Slot), lv_has ls 4 [(0, .ref (a 0)), (1, .int r1), (2, .int v2_203), (3, .int v3_216)] → k v3_216 = some res → W p l e rmX7_list s m ([.ref (a 0)] : List Value).toArray below meth c H locs 0 0 (MQ below (va_Qv (fun T : ST => T = res) (PostW (wM a cI cZ) D cI cZ) (AC 31 a s.heap.size)) ([.ref (a 0)] : List Value).toArray s 0 0 (AC 31 a s.heap.size)) (F0 m 216 ls [])) → (∀ (v3_216 : Int32) (ls : Array Slot), lv_has ls 4 [(0, .ref (a 0)), (1, .int r1), (2, .int v2_203), (3, .int v3_216)] → x v3_216 = some res → W p l e rmX7_list s m ([.ref (a 0)] : List Value).toArray below meth c H locs 0 0 (MQ below (va_Qv (fun T : ST => T = res) (PostW (wM a cI cZ) D cI cZ) (AC 31 a s.heap.size)) ([.ref (a 0)] : List Value).toArray s 0 0 (AC 31 a s.heap.size)) (F0 m 231 ls [])) → ∀ (v3_216 : Int32) (ls : Array Slot), lv_has ls 4 [(0, .ref (a 0)), (1, .int r1), (2, .int v2_203), (3, .int v3_216)] → mX7_list_B216 k x S_203 r1 v2_203 v3_216 = some res → W p l e rmX7_list s m ([.ref (a 0)] : List Value).toArray below meth c H locs 0 0 (MQ below (va_Qv (fun T : ST => T = res) (PostW (wM a cI cZ) D cI cZ) (AC 31 a s.heap.size)) ([.ref (a 0)] : List Value).toArray s 0 0 (AC 31 a s.heap.size)) (F0 m 216 ls []) := by
                  intro k x ih kxh v3_216 ls hl hm
                  unfold mX7_list_B216 at hm
                  refine lv_aload_n hx hb dX7_list_216 rfl (lv_at hl 0 rfl) ?_
                  refine lv_iload_n hx hb dX7_list_217 rfl (lv_at hl 3 rfl) ?_
                  refine lv_iload_n hx hb dX7_list_218 rfl (lv_at hl 2 rfl) ?_
                  obtain ⟨r2, hr2, hm⟩ := bd_ok hm
                  refine callRV (rest := []) X hK hNW hml hP hl.1 (kX7_isBest l D a cI cZ S_203 v3_216 v2_203 r2 hr2) (cwV 2 X.2.2.1 gX7_list_X7_isBest rfl rfl rfl (by decide +kernel) ⟨Nat.le_of_ble_eq_true rfl, Nat.le_of_ble_eq_true rfl⟩) (vM_X7 hK hP) rfl rfl (Nat.le_of_ble_eq_true rfl) dX7_list_219 ⟨Nat.zero_le _, Nat.zero_le _⟩ ?_
                  refine lv_if_ne (tgt := 231) hx hb dX7_list_222 (by decide) (fun hc => ?_) (fun hc => ?_)
                  · replace hm := (if_neg hc).symm.trans hm
                    exact kxh v3_216 ls (lv_sub hl [0, 1, 2, 3] rfl) hm
                  · replace hm := (if_pos hc).symm.trans hm
                    refine lv_iinc (v := (v3_216 + (-1 : Int32))) (lv' := [(3, .int (v3_216 + (-1 : Int32))), (0, .ref (a 0)), (1, .int r1), (2, .int v2_203)]) hx hb dX7_list_225 hl (k := 3) rfl rfl (by decide) rfl (fun ls hl => ?_)
                    refine lv_goto (tgt := 216) hx hb dX7_list_228 (by decide) ?_
                    exact ih (v3_216 + (-1 : Int32)) ls (lv_sub hl [1, 2, 3, 0] rfl) hm
                have kx216 : ∀ (v3_216 : Int32) (ls : Array Slot), lv_has ls 4 [(0, .ref (a 0)), (1, .int r1), (2, .int v2_203), (3, .int v3_216)] → mX7_list_X216 k x S_203 r1 v2_203 v3_216 = some res → W p l e rmX7_list s m ([.ref (a 0)] : List Value).toArray below meth c H locs 0 0 (MQ below (va_Qv (fun T : ST => T = res) (PostW (wM a cI cZ) D cI cZ) (AC 31 a s.heap.size)) ([.ref (a 0)] : List Value).toArray s 0 0 (AC 31 a s.heap.size)) (F0 m 231 ls []) := by
                  intro v3_216 ls hl hm
                  unfold mX7_list_X216 at hm
                  refine lv_aload_n hx hb dX7_list_231 rfl (lv_at hl 0 rfl) ?_
                  refine gM_X7_barPattern X hK hP iX7 (List.mem_of_getElem? (i := 8) rfl) dX7_list_232 ?_
                  refine lv_aload_n hx hb dX7_list_235 rfl (lv_at hl 0 rfl) ?_
                  refine gM_X7_barMany X hK hP iX7 (List.mem_of_getElem? (i := 7) rfl) dX7_list_236 ?_
                  refine lv_iload_n hx hb dX7_list_239 rfl (lv_at hl 3 rfl) ?_
                  obtain ⟨h1, hm⟩ := gd_ok hm
                  refine sM_X7_barPattern X hK hA hP hS h1 dX7_list_240 (fun H locs hP hS => ?_)
                  refine lv_aload_n hx hb dX7_list_241 rfl (lv_at hl 0 rfl) ?_
                  refine lv_dup hx hb dX7_list_242 rfl ?_
                  refine gM_X7_barMany X hK hP iX7 (List.mem_of_getElem? (i := 7) rfl) dX7_list_243 ?_
                  refine lv_iconst (v := (1 : Int32)) hx hb dX7_list_246 (by decide) ?_
                  refine lv_iadd hx hb dX7_list_247 ?_
                  refine pM_X7_barMany X hK hA hP hS iX7 (List.mem_of_getElem? (i := 7) rfl) dX7_list_248 (fun H locs hP hS => ?_)
                  refine lv_iload_n hx hb dX7_list_251 rfl (lv_at hl 2 rfl) ?_
                  refine lv_iload_n hx hb dX7_list_252 rfl (lv_at hl 3 rfl) ?_
                  refine lv_isub hx hb dX7_list_253 ?_
                  refine lv_istore_n (lv' := [(2, .int (v2_203 - v3_216)), (0, .ref (a 0)), (1, .int r1), (3, .int v3_216)]) hx hb dX7_list_254 rfl hl (by decide) rfl (fun ls hl => ?_)
                  refine lv_goto (tgt := 203) hx hb dX7_list_255 (by decide) ?_
                  exact ih (sI (sG S_203 29 (S_203.1 16) v3_216) 16 ((S_203.1 16) + (1 : Int32))) H locs (v2_203 - v3_216) ls hP hS (lv_sub hl [1, 2, 0] rfl) hm
                have lp216 : ∀ (n : Nat) (v3_216 : Int32) (ls : Array Slot), lv_has ls 4 [(0, .ref (a 0)), (1, .int r1), (2, .int v2_203), (3, .int v3_216)] → LPf (κ := Int32 → Option (ST)) (fun _ => none) (fun kk => mX7_list_B216 kk (mX7_list_X216 k x S_203 r1 v2_203) S_203 r1 v2_203) n v3_216 = some res → W p l e rmX7_list s m ([.ref (a 0)] : List Value).toArray below meth c H locs 0 0 (MQ below (va_Qv (fun T : ST => T = res) (PostW (wM a cI cZ) D cI cZ) (AC 31 a s.heap.size)) ([.ref (a 0)] : List Value).toArray s 0 0 (AC 31 a s.heap.size)) (F0 m 216 ls []) := by
                  intro n
                  induction n with
                  | zero =>
                    intro v3_216 ls hl hm
                    exact (noS (show (none : Option (ST)) = some res from hm)).elim
                  | succ n ih =>
                    intro v3_216 ls hl hm
                    exact kb216 _ _ ih kx216 v3_216 ls hl hm
                exact lp216 FU v2_203 ls (lv_sub hl [1, 2, 3, 0] rfl) hm
          have kx203 : ∀ (S_203 : ST) (H : Heap) (locs : List Loc) (v2_203 : Int32) (ls : Array Slot), va_P D vwCl (wM a cI cZ S_203) H → va_S (AC 31 a s.heap.size) s.heap H locs → lv_has ls 4 [(0, .ref (a 0)), (1, .int r1), (2, .int v2_203)] → mX7_list_X203  r1 S_203 v2_203 = some res → W p l e rmX7_list s m ([.ref (a 0)] : List Value).toArray below meth c H locs 0 0 (MQ below (va_Qv (fun T : ST => T = res) (PostW (wM a cI cZ) D cI cZ) (AC 31 a s.heap.size)) ([.ref (a 0)] : List Value).toArray s 0 0 (AC 31 a s.heap.size)) (F0 m 258 ls []) := by
            intro S_203 H locs v2_203 ls hP hS hl hm
            unfold mX7_list_X203 at hm
            exact endV X hK hr hlocks hm hP hS dX7_list_258
          have lp203 : ∀ (n : Nat) (S_203 : ST) (H : Heap) (locs : List Loc) (v2_203 : Int32) (ls : Array Slot), va_P D vwCl (wM a cI cZ S_203) H → va_S (AC 31 a s.heap.size) s.heap H locs → lv_has ls 4 [(0, .ref (a 0)), (1, .int r1), (2, .int v2_203)] → LPf (κ := ST → Int32 → Option (ST)) (fun _ _ => none) (fun kk => mX7_list_B203 kk (mX7_list_X203  r1) r1) n S_203 v2_203 = some res → W p l e rmX7_list s m ([.ref (a 0)] : List Value).toArray below meth c H locs 0 0 (MQ below (va_Qv (fun T : ST => T = res) (PostW (wM a cI cZ) D cI cZ) (AC 31 a s.heap.size)) ([.ref (a 0)] : List Value).toArray s 0 0 (AC 31 a s.heap.size)) (F0 m 203 ls []) := by
            intro n
            induction n with
            | zero =>
              intro S_203 H locs v2_203 ls hP hS hl hm
              exact (noS (show (none : Option (ST)) = some res from hm)).elim
            | succ n ih =>
              intro S_203 H locs v2_203 ls hP hS hl hm
              exact kb203 _ _ ih kx203 S_203 H locs v2_203 ls hP hS hl hm
          exact lp203 FU (sI (sI S_88 15 t0_193) 16 (0 : Int32)) H locs r1 ls hP hS (lv_sub hl [1, 2, 0] rfl) hm
        refine lv_icmp_ne (tgt := 192) hx hb dX7_list_185 (by decide) (fun hc => ?_) (fun hc => ?_)
        · replace hm := (if_neg hc).symm.trans hm
          refine lv_iconst (v := (0 : Int32)) hx hb dX7_list_192 (by decide) ?_
          exact kJ193 (0 : Int32) ls (lv_sub hl [0, 1, 2] rfl) hm
        · replace hm := (if_pos hc).symm.trans hm
          refine lv_iconst (v := (1 : Int32)) hx hb dX7_list_188 (by decide) ?_
          refine lv_goto (tgt := 193) hx hb dX7_list_189 (by decide) ?_
          exact kJ193 (1 : Int32) ls (lv_sub hl [0, 1, 2] rfl) hm
      have lp88 : ∀ (n : Nat) (S_88 : ST) (H : Heap) (locs : List Loc) (v2_88 : Int32) (ls : Array Slot), va_P D vwCl (wM a cI cZ S_88) H → va_S (AC 31 a s.heap.size) s.heap H locs → lv_has ls 4 [(0, .ref (a 0)), (1, .int r1), (2, .int v2_88)] → LPf (κ := ST → Int32 → Option (ST)) (fun _ _ => none) (fun kk => mX7_list_B88 kk (mX7_list_X88  r1) r1) n S_88 v2_88 = some res → W p l e rmX7_list s m ([.ref (a 0)] : List Value).toArray below meth c H locs 0 0 (MQ below (va_Qv (fun T : ST => T = res) (PostW (wM a cI cZ) D cI cZ) (AC 31 a s.heap.size)) ([.ref (a 0)] : List Value).toArray s 0 0 (AC 31 a s.heap.size)) (F0 m 88 ls []) := by
        intro n
        induction n with
        | zero =>
          intro S_88 H locs v2_88 ls hP hS hl hm
          exact (noS (show (none : Option (ST)) = some res from hm)).elim
        | succ n ih =>
          intro S_88 H locs v2_88 ls hP hS hl hm
          exact kb88 _ _ ih kx88 S_88 H locs v2_88 ls hP hS hl hm
      exact lp88 FU (sG (sG S_20 25 (0 : Int32) (0 : Int32)) 26 (0 : Int32) (0 : Int32)) H locs (0 : Int32) ls hP hS (lv_sub hl [1, 2, 0] rfl) hm
    have lp20 : ∀ (n : Nat) (S_20 : ST) (H : Heap) (locs : List Loc) (v2_20 : Int32) (ls : Array Slot), va_P D vwCl (wM a cI cZ S_20) H → va_S (AC 31 a s.heap.size) s.heap H locs → lv_has ls 4 [(0, .ref (a 0)), (1, .int r1), (2, .int v2_20)] → LPf (κ := ST → Int32 → Option (ST)) (fun _ _ => none) (fun kk => mX7_list_B20 kk (mX7_list_X20  r1) r1) n S_20 v2_20 = some res → W p l e rmX7_list s m ([.ref (a 0)] : List Value).toArray below meth c H locs 0 0 (MQ below (va_Qv (fun T : ST => T = res) (PostW (wM a cI cZ) D cI cZ) (AC 31 a s.heap.size)) ([.ref (a 0)] : List Value).toArray s 0 0 (AC 31 a s.heap.size)) (F0 m 20 ls []) := by
      intro n
      induction n with
      | zero =>
        intro S_20 H locs v2_20 ls hP hS hl hm
        exact (noS (show (none : Option (ST)) = some res from hm)).elim
      | succ n ih =>
        intro S_20 H locs v2_20 ls hP hS hl hm
        exact kb20 _ _ ih kx20 S_20 H locs v2_20 ls hP hS hl hm
    exact lp20 FU (sI S 14 (1 : Int32)) H locs (0 : Int32) ls hP hS (lv_sub hl [2, 1, 0] rfl) hm
  · replace hm := (if_neg hc).symm.trans hm
    exact endV X hK hr hlocks hm hP hS dX7_list_7

def rmX7_price : Room := { frames := 4, cells := 0, slots := 0, locals := 91 }
set_option maxHeartbeats 4000000 in
set_option maxRecDepth 100000 in
theorem kX7_price (l : Launch) (D : va_G) (a : Nat → Nat) (cI cZ : ClassId) (hA : AP 31 a) (S : ST) (sz : Nat)  (res : Int32 × ST) (hm : mX7_price S  = some res) : Met l yX7_price wsX7_price rmX7_price (va_Pc [.ref (a 0)] (PreW (wM a cI cZ S) D cI cZ sz)) (va_Qi (fun (r : Int32) (T : ST) => (r, T) = res) (PostW (wM a cI cZ) D cI cZ) (AC 31 a sz)) 0 0 (AC 31 a sz) := by
  refine metB (cc := cX7_price) (maxL := 1) (ret := (some .int)) (by decide) rfl (Nat.le_of_ble_eq_true rfl) ?_
  intro p e s m below meth c ls X hml hr hlocks hin hv hl
  replace X : CX p m c cX7_price s ([.ref (a 0)] : List Value).toArray wsX7_price RX7 := X
  obtain ⟨hsz, hP, hK, hNW⟩ := hv
  subst hsz
  have hS : va_S (AC 31 a s.heap.size) s.heap s.heap [] := va_S.rf
  have hx := X.1
  have hb := X.2.1
  replace hl : lv_has ls 1 [(0, .ref (a 0))] := hl
  have iX7 : ∀ w ∈ wsX70, w ∈ wsX7_price := fun w h => List.mem_cons_of_mem _ (List.mem_append_right _ h)
  suffices kS : ∀ (H : Heap) (locs : List Loc), va_P D vwCl (wM a cI cZ S) H → va_S (AC 31 a s.heap.size) s.heap H locs → W p l e rmX7_price s m ([.ref (a 0)] : List Value).toArray below meth c H locs 0 0 (MQ below (va_Qi (fun (r : Int32) (T : ST) => (r, T) = res) (PostW (wM a cI cZ) D cI cZ) (AC 31 a s.heap.size)) ([.ref (a 0)] : List Value).toArray s 0 0 (AC 31 a s.heap.size)) (F0 m 0 ls []) by exact kS s.heap [] hP hS
  intro H locs hP hS
  unfold mX7_price at hm
  refine lv_aload_n hx hb dX7_price_0 rfl (lv_at hl 0 rfl) ?_
  obtain ⟨r1, hr1, hm⟩ := bd_ok hm
  refine callWV (wf := wM a cI cZ) (rest := []) X hK hNW hml hP hS hl.1 (kX7_list l D a cI cZ hA S H.size  r1 hr1) (cwV 0 X.2.2.1 gX7_price_X7_list rfl rfl rfl (by decide +kernel) ⟨Nat.le_of_ble_eq_true rfl, Nat.le_of_ble_eq_true rfl⟩) (vM_X7 hK hP) rfl rfl (Nat.le_of_ble_eq_true rfl) dX7_price_1 ⟨Nat.zero_le _, Nat.zero_le _⟩ (fun H locs hP hS => ?_)
  refine lv_aload_n hx hb dX7_price_4 rfl (lv_at hl 0 rfl) ?_
  refine gM_X7_isShort X hK hP iX7 (List.mem_of_getElem? (i := 1) rfl) dX7_price_5 ?_
  refine lv_if_eq (tgt := 15) hx hb dX7_price_8 (by decide) (fun hc => ?_) (fun hc => ?_)
  · replace hm := (if_pos hc).symm.trans hm
    refine lv_aload_n hx hb dX7_price_15 rfl (lv_at hl 0 rfl) ?_
    refine gM_X7_prices X hK hP iX7 (List.mem_of_getElem? (i := 2) rfl) dX7_price_16 ?_
    refine lv_aload_n hx hb dX7_price_19 rfl (lv_at hl 0 rfl) ?_
    obtain ⟨r2, hr2, hm⟩ := bd_ok hm
    refine callRV (rest := [.ref (a 26)]) X hK hNW hml hP hl.1 (kX7_all l D a cI cZ r1  r2 hr2) (cwV 0 X.2.2.1 gX7_price_X7_all rfl rfl rfl (by decide +kernel) ⟨Nat.le_of_ble_eq_true rfl, Nat.le_of_ble_eq_true rfl⟩) (vM_X7 hK hP) rfl rfl (Nat.le_of_ble_eq_true rfl) dX7_price_20 ⟨Nat.zero_le _, Nat.zero_le _⟩ ?_
    obtain ⟨h1, hm⟩ := gd_ok hm
    refine rM_X7_prices X hK hP h1 dX7_price_23 ?_
    exact endI X hK hr rfl hlocks hm hP hS dX7_price_24
  · replace hm := (if_neg hc).symm.trans hm
    refine lv_iconst (v := (-1 : Int32)) hx hb dX7_price_11 (by decide) ?_
    refine lv_goto (tgt := 24) hx hb dX7_price_12 (by decide) ?_
    exact endI X hK hr rfl hlocks hm hP hS dX7_price_24

def rmX7_bars : Room := { frames := 4, cells := 0, slots := 0, locals := 91 }
set_option maxHeartbeats 4000000 in
set_option maxRecDepth 100000 in
theorem kX7_bars (l : Launch) (D : va_G) (a : Nat → Nat) (cI cZ : ClassId) (hA : AP 31 a) (S : ST) (sz : Nat)  (res : Int32 × ST) (hm : mX7_bars S  = some res) : Met l yX7_bars wsX7_bars rmX7_bars (va_Pc [.ref (a 0)] (PreW (wM a cI cZ S) D cI cZ sz)) (va_Qi (fun (r : Int32) (T : ST) => (r, T) = res) (PostW (wM a cI cZ) D cI cZ) (AC 31 a sz)) 0 0 (AC 31 a sz) := by
  refine metB (cc := cX7_bars) (maxL := 1) (ret := (some .int)) (by decide) rfl (Nat.le_of_ble_eq_true rfl) ?_
  intro p e s m below meth c ls X hml hr hlocks hin hv hl
  replace X : CX p m c cX7_bars s ([.ref (a 0)] : List Value).toArray wsX7_bars RX7 := X
  obtain ⟨hsz, hP, hK, hNW⟩ := hv
  subst hsz
  have hS : va_S (AC 31 a s.heap.size) s.heap s.heap [] := va_S.rf
  have hx := X.1
  have hb := X.2.1
  replace hl : lv_has ls 1 [(0, .ref (a 0))] := hl
  have iX7 : ∀ w ∈ wsX70, w ∈ wsX7_bars := fun w h => List.mem_cons_of_mem _ (List.mem_append_right _ h)
  suffices kS : ∀ (H : Heap) (locs : List Loc), va_P D vwCl (wM a cI cZ S) H → va_S (AC 31 a s.heap.size) s.heap H locs → W p l e rmX7_bars s m ([.ref (a 0)] : List Value).toArray below meth c H locs 0 0 (MQ below (va_Qi (fun (r : Int32) (T : ST) => (r, T) = res) (PostW (wM a cI cZ) D cI cZ) (AC 31 a s.heap.size)) ([.ref (a 0)] : List Value).toArray s 0 0 (AC 31 a s.heap.size)) (F0 m 0 ls []) by exact kS s.heap [] hP hS
  intro H locs hP hS
  unfold mX7_bars at hm
  refine lv_aload_n hx hb dX7_bars_0 rfl (lv_at hl 0 rfl) ?_
  obtain ⟨r1, hr1, hm⟩ := bd_ok hm
  refine callWV (wf := wM a cI cZ) (rest := []) X hK hNW hml hP hS hl.1 (kX7_list l D a cI cZ hA S H.size  r1 hr1) (cwV 0 X.2.2.1 gX7_bars_X7_list rfl rfl rfl (by decide +kernel) ⟨Nat.le_of_ble_eq_true rfl, Nat.le_of_ble_eq_true rfl⟩) (vM_X7 hK hP) rfl rfl (Nat.le_of_ble_eq_true rfl) dX7_bars_1 ⟨Nat.zero_le _, Nat.zero_le _⟩ (fun H locs hP hS => ?_)
  refine lv_aload_n hx hb dX7_bars_4 rfl (lv_at hl 0 rfl) ?_
  refine gM_X7_isShort X hK hP iX7 (List.mem_of_getElem? (i := 1) rfl) dX7_bars_5 ?_
  refine lv_if_eq (tgt := 15) hx hb dX7_bars_8 (by decide) (fun hc => ?_) (fun hc => ?_)
  · replace hm := (if_pos hc).symm.trans hm
    refine lv_aload_n hx hb dX7_bars_15 rfl (lv_at hl 0 rfl) ?_
    refine gM_X7_barMany X hK hP iX7 (List.mem_of_getElem? (i := 2) rfl) dX7_bars_16 ?_
    exact endI X hK hr rfl hlocks hm hP hS dX7_bars_19
  · replace hm := (if_neg hc).symm.trans hm
    refine lv_iconst (v := (-1 : Int32)) hx hb dX7_bars_11 (by decide) ?_
    refine lv_goto (tgt := 19) hx hb dX7_bars_12 (by decide) ?_
    exact endI X hK hr rfl hlocks hm hP hS dX7_bars_19

def rmX7_bar : Room := { frames := 4, cells := 0, slots := 0, locals := 91 }
set_option maxHeartbeats 4000000 in
set_option maxRecDepth 100000 in
theorem kX7_bar (l : Launch) (D : va_G) (a : Nat → Nat) (cI cZ : ClassId) (hA : AP 31 a) (S : ST) (sz : Nat) (p1 : Int32) (p2 : Int32) (res : Int32 × ST) (hm : mX7_bar S p1 p2 = some res) : Met l yX7_bar wsX7_bar rmX7_bar (va_Pc [.ref (a 0), .int p1, .int p2] (PreW (wM a cI cZ S) D cI cZ sz)) (va_Qi (fun (r : Int32) (T : ST) => (r, T) = res) (PostW (wM a cI cZ) D cI cZ) (AC 31 a sz)) 0 0 (AC 31 a sz) := by
  refine metB (cc := cX7_bar) (maxL := 4) (ret := (some .int)) (by decide) rfl (Nat.le_of_ble_eq_true rfl) ?_
  intro p e s m below meth c ls X hml hr hlocks hin hv hl
  replace X : CX p m c cX7_bar s ([.ref (a 0), .int p1, .int p2] : List Value).toArray wsX7_bar RX7 := X
  obtain ⟨hsz, hP, hK, hNW⟩ := hv
  subst hsz
  have hS : va_S (AC 31 a s.heap.size) s.heap s.heap [] := va_S.rf
  have hx := X.1
  have hb := X.2.1
  replace hl : lv_has ls 4 [(0, .ref (a 0)), (1, .int p1), (2, .int p2)] := hl
  have iX7 : ∀ w ∈ wsX70, w ∈ wsX7_bar := fun w h => List.mem_cons_of_mem _ (List.mem_append_right _ h)
  suffices kS : ∀ (H : Heap) (locs : List Loc), va_P D vwCl (wM a cI cZ S) H → va_S (AC 31 a s.heap.size) s.heap H locs → W p l e rmX7_bar s m ([.ref (a 0), .int p1, .int p2] : List Value).toArray below meth c H locs 0 0 (MQ below (va_Qi (fun (r : Int32) (T : ST) => (r, T) = res) (PostW (wM a cI cZ) D cI cZ) (AC 31 a s.heap.size)) ([.ref (a 0), .int p1, .int p2] : List Value).toArray s 0 0 (AC 31 a s.heap.size)) (F0 m 0 ls []) by exact kS s.heap [] hP hS
  intro H locs hP hS
  unfold mX7_bar at hm
  refine lv_iload_n hx hb dX7_bar_0 rfl (lv_at hl 2 rfl) ?_
  refine lv_iconst (v := (0 : Int32)) hx hb dX7_bar_1 (by decide) ?_
  refine lv_iconst (v := (5 : Int32)) hx hb dX7_bar_2 (by decide) ?_
  obtain ⟨r1, hr1, hm⟩ := bd_ok hm
  refine callRS (rest := []) X hml hl.1 (kX7_within l p2 (0 : Int32) (5 : Int32) r1 hr1) (va_cwS 3 X.2.2.1 gX7_bar_X7_within rfl rfl rfl (by decide +kernel) ⟨Nat.le_of_ble_eq_true rfl, Nat.le_of_ble_eq_true rfl⟩) rfl rfl (Nat.le_of_ble_eq_true rfl) dX7_bar_3 ⟨Nat.zero_le _, Nat.zero_le _⟩ ?_
  refine lv_if_ne (tgt := 12) hx hb dX7_bar_6 (by decide) (fun hc => ?_) (fun hc => ?_)
  · replace hm := (if_neg hc).symm.trans hm
    refine lv_aload_n hx hb dX7_bar_12 rfl (lv_at hl 0 rfl) ?_
    obtain ⟨r2, hr2, hm⟩ := bd_ok hm
    refine callWV (wf := wM a cI cZ) (rest := []) X hK hNW hml hP hS hl.1 (kX7_list l D a cI cZ hA S H.size  r2 hr2) (cwV 0 X.2.2.1 gX7_bar_X7_list rfl rfl rfl (by decide +kernel) ⟨Nat.le_of_ble_eq_true rfl, Nat.le_of_ble_eq_true rfl⟩) (vM_X7 hK hP) rfl rfl (Nat.le_of_ble_eq_true rfl) dX7_bar_13 ⟨Nat.zero_le _, Nat.zero_le _⟩ (fun H locs hP hS => ?_)
    refine lv_iload_n hx hb dX7_bar_16 rfl (lv_at hl 1 rfl) ?_
    refine lv_iconst (v := (0 : Int32)) hx hb dX7_bar_17 (by decide) ?_
    refine lv_aload_n hx hb dX7_bar_18 rfl (lv_at hl 0 rfl) ?_
    refine gM_X7_barMany X hK hP iX7 (List.mem_of_getElem? (i := 1) rfl) dX7_bar_19 ?_
    refine lv_iconst (v := (1 : Int32)) hx hb dX7_bar_22 (by decide) ?_
    refine lv_isub hx hb dX7_bar_23 ?_
    obtain ⟨r3, hr3, hm⟩ := bd_ok hm
    refine callRS (rest := []) X hml hl.1 (kX7_within l p1 (0 : Int32) ((r2.1 16) - (1 : Int32)) r3 hr3) (va_cwS 3 X.2.2.1 gX7_bar_X7_within rfl rfl rfl (by decide +kernel) ⟨Nat.le_of_ble_eq_true rfl, Nat.le_of_ble_eq_true rfl⟩) rfl rfl (Nat.le_of_ble_eq_true rfl) dX7_bar_24 ⟨Nat.zero_le _, Nat.zero_le _⟩ ?_
    refine lv_if_ne (tgt := 32) hx hb dX7_bar_27 (by decide) (fun hc => ?_) (fun hc => ?_)
    · replace hm := (if_neg hc).symm.trans hm
      refine lv_aload_n hx hb dX7_bar_32 rfl (lv_at hl 0 rfl) ?_
      refine gM_X7_barPattern X hK hP iX7 (List.mem_of_getElem? (i := 2) rfl) dX7_bar_33 ?_
      refine lv_iload_n hx hb dX7_bar_36 rfl (lv_at hl 1 rfl) ?_
      obtain ⟨h1, hm⟩ := gd_ok hm
      refine rM_X7_barPattern X hK hP h1 dX7_bar_37 ?_
      refine lv_istore_n (lv' := [(3, .int (r2.2 29 p1.toNatClampNeg)), (0, .ref (a 0)), (1, .int p1), (2, .int p2)]) hx hb dX7_bar_38 rfl hl (by decide) rfl (fun ls hl => ?_)
      refine lv_iload_n hx hb dX7_bar_39 rfl (lv_at hl 3 rfl) ?_
      refine lv_if_ne (tgt := 50) hx hb dX7_bar_40 (by decide) (fun hc => ?_) (fun hc => ?_)
      · replace hm := (if_neg hc).symm.trans hm
        refine lv_iload_n hx hb dX7_bar_50 rfl (lv_at hl 3 rfl) ?_
        refine lv_iconst (v := (1 : Int32)) hx hb dX7_bar_51 (by decide) ?_
        refine lv_icmp_ne (tgt := 76) hx hb dX7_bar_52 (by decide) (fun hc => ?_) (fun hc => ?_)
        · replace hm := (if_neg hc).symm.trans hm
          refine lv_iload_n hx hb dX7_bar_76 rfl (lv_at hl 0 rfl) ?_
          refine lv_iload_n hx hb dX7_bar_77 rfl (lv_at hl 3 rfl) ?_
          refine lv_iconst (v := (2 : Int32)) hx hb dX7_bar_78 (by decide) ?_
          refine lv_isub hx hb dX7_bar_79 ?_
          obtain ⟨r4, hr4, hm⟩ := bd_ok hm
          refine callRS (rest := []) X hml hl.1 (kX7_digit l (r2.2 29 p1.toNatClampNeg) (p2 - (2 : Int32)) r4 hr4) (va_cwS 2 X.2.2.1 gX7_bar_X7_digit rfl rfl rfl (by decide +kernel) ⟨Nat.le_of_ble_eq_true rfl, Nat.le_of_ble_eq_true rfl⟩) rfl rfl (Nat.le_of_ble_eq_true rfl) dX7_bar_80 ⟨Nat.zero_le _, Nat.zero_le _⟩ ?_
          exact endI X hK hr rfl hlocks hm hP hS dX7_bar_83
        · replace hm := (if_pos hc).symm.trans hm
          refine lv_aload_n hx hb dX7_bar_55 rfl (lv_at hl 1 rfl) ?_
          refine gM_X7_stockLength X hK hP iX7 (List.mem_of_getElem? (i := 4) rfl) dX7_bar_56 ?_
          refine lv_aload_n hx hb dX7_bar_59 rfl (lv_at hl 1 rfl) ?_
          refine gM_X7_patternStock X hK hP iX7 (List.mem_of_getElem? (i := 3) rfl) dX7_bar_60 ?_
          refine lv_iload_n hx hb dX7_bar_63 rfl (lv_at hl 0 rfl) ?_
          obtain ⟨h1, hm⟩ := gd_ok hm
          refine rM_X7_patternStock X hK hP h1 dX7_bar_64 ?_
          obtain ⟨h1, hm⟩ := gd_ok hm
          refine rM_X7_stockLength X hK hP h1 dX7_bar_65 ?_
          refine lv_aload_n hx hb dX7_bar_66 rfl (lv_at hl 1 rfl) ?_
          refine gM_X7_patternWants X hK hP iX7 (List.mem_of_getElem? (i := 5) rfl) dX7_bar_67 ?_
          refine lv_iload_n hx hb dX7_bar_70 rfl (lv_at hl 0 rfl) ?_
          obtain ⟨h1, hm⟩ := gd_ok hm
          refine rM_X7_patternWants X hK hP h1 dX7_bar_71 ?_
          refine lv_isub hx hb dX7_bar_72 ?_
          refine lv_goto (tgt := 83) hx hb dX7_bar_73 (by decide) ?_
          exact endI X hK hr rfl hlocks hm hP hS dX7_bar_83
      · replace hm := (if_pos hc).symm.trans hm
        refine lv_aload_n hx hb dX7_bar_43 rfl (lv_at hl 1 rfl) ?_
        refine gM_X7_patternStock X hK hP iX7 (List.mem_of_getElem? (i := 3) rfl) dX7_bar_44 ?_
        refine lv_iload_n hx hb dX7_bar_47 rfl (lv_at hl 0 rfl) ?_
        obtain ⟨h1, hm⟩ := gd_ok hm
        refine rM_X7_patternStock X hK hP h1 dX7_bar_48 ?_
        exact endI X hK hr rfl hlocks hm hP hS dX7_bar_49
    · replace hm := (if_pos hc).symm.trans hm
      refine lv_iconst (v := (-1 : Int32)) hx hb dX7_bar_30 (by decide) ?_
      exact endI X hK hr rfl hlocks hm hP hS dX7_bar_31
  · replace hm := (if_pos hc).symm.trans hm
    refine lv_bipush (v := (-3 : Int32)) hx hb dX7_bar_9 (by decide) ?_
    exact endI X hK hr rfl hlocks hm hP hS dX7_bar_11

def rmX7_told : Room := { frames := 0, cells := 0, slots := 0, locals := 0 }
set_option maxHeartbeats 4000000 in
set_option maxRecDepth 100000 in
theorem kX7_told (l : Launch) (D : va_G) (a : Nat → Nat) (cI cZ : ClassId) (S : ST) (p1 : Int32) (res : Int32) (hm : mX7_told S p1 = some res) : Met l yX7_told wsX7_told rmX7_told (va_Pc [.ref (a 0), .int p1] (PreR (wM a cI cZ S) D cI cZ)) (vp_Si (fun r => r = res)) 0 0 (fun _ => False) := by
  refine metB (cc := cX7_told) (maxL := 2) (ret := (some .int)) (by decide) rfl (Nat.le_of_ble_eq_true rfl) ?_
  intro p e s m below meth c ls X hml hr hlocks hin hv hl
  replace X : CX p m c cX7_told s ([.ref (a 0), .int p1] : List Value).toArray wsX7_told RX7 := X
  obtain ⟨hP, hK, hNW⟩ := hv
  have hx := X.1
  have hb := X.2.1
  replace hl : lv_has ls 2 [(0, .ref (a 0)), (1, .int p1)] := hl
  have iX7 : ∀ w ∈ wsX70, w ∈ wsX7_told := fun w h => List.mem_cons_of_mem _ (List.mem_append_right _ h)
  unfold mX7_told at hm
  refine lv_iload_n hx hb dX7_told_0 rfl (lv_at hl 1 rfl) ?_
  by_cases hq0 : p1 = (0 : Int32)
  · replace hm := (if_pos hq0).symm.trans hm
    refine lv_tableIn (off := 51) (tgt := 52) hx hb dX7_told_1 (by rw [hq0]; decide) (by rw [hq0]; decide) (by rw [hq0]; rfl) (by decide) ?_
    refine lv_aload_n hx hb dX7_told_52 rfl (lv_at hl 0 rfl) ?_
    refine gM_X7_wide X hK hP iX7 (List.mem_of_getElem? (i := 1) rfl) dX7_told_53 ?_
    exact endR X hr rfl hlocks hm dX7_told_56
  · replace hm := (if_neg hq0).symm.trans hm
    by_cases hq1 : p1 = (1 : Int32)
    · replace hm := (if_pos hq1).symm.trans hm
      refine lv_tableIn (off := 56) (tgt := 57) hx hb dX7_told_1 (by rw [hq1]; decide) (by rw [hq1]; decide) (by rw [hq1]; rfl) (by decide) ?_
      refine lv_aload_n hx hb dX7_told_57 rfl (lv_at hl 0 rfl) ?_
      refine gM_X7_high X hK hP iX7 (List.mem_of_getElem? (i := 2) rfl) dX7_told_58 ?_
      exact endR X hr rfl hlocks hm dX7_told_61
    · replace hm := (if_neg hq1).symm.trans hm
      by_cases hq2 : p1 = (2 : Int32)
      · replace hm := (if_pos hq2).symm.trans hm
        refine lv_tableIn (off := 61) (tgt := 62) hx hb dX7_told_1 (by rw [hq2]; decide) (by rw [hq2]; decide) (by rw [hq2]; rfl) (by decide) ?_
        refine lv_aload_n hx hb dX7_told_62 rfl (lv_at hl 0 rfl) ?_
        refine gM_X7_kerf X hK hP iX7 (List.mem_of_getElem? (i := 3) rfl) dX7_told_63 ?_
        exact endR X hr rfl hlocks hm dX7_told_66
      · replace hm := (if_neg hq2).symm.trans hm
        by_cases hq3 : p1 = (3 : Int32)
        · replace hm := (if_pos hq3).symm.trans hm
          refine lv_tableIn (off := 66) (tgt := 67) hx hb dX7_told_1 (by rw [hq3]; decide) (by rw [hq3]; decide) (by rw [hq3]; rfl) (by decide) ?_
          refine lv_aload_n hx hb dX7_told_67 rfl (lv_at hl 0 rfl) ?_
          refine gM_X7_stages X hK hP iX7 (List.mem_of_getElem? (i := 4) rfl) dX7_told_68 ?_
          exact endR X hr rfl hlocks hm dX7_told_71
        · replace hm := (if_neg hq3).symm.trans hm
          by_cases hq4 : p1 = (4 : Int32)
          · replace hm := (if_pos hq4).symm.trans hm
            refine lv_tableIn (off := 71) (tgt := 72) hx hb dX7_told_1 (by rw [hq4]; decide) (by rw [hq4]; decide) (by rw [hq4]; rfl) (by decide) ?_
            refine lv_aload_n hx hb dX7_told_72 rfl (lv_at hl 0 rfl) ?_
            refine gM_X7_firstWay X hK hP iX7 (List.mem_of_getElem? (i := 5) rfl) dX7_told_73 ?_
            exact endR X hr rfl hlocks hm dX7_told_76
          · replace hm := (if_neg hq4).symm.trans hm
            by_cases hq5 : p1 = (5 : Int32)
            · replace hm := (if_pos hq5).symm.trans hm
              refine lv_tableIn (off := 76) (tgt := 77) hx hb dX7_told_1 (by rw [hq5]; decide) (by rw [hq5]; decide) (by rw [hq5]; rfl) (by decide) ?_
              refine lv_aload_n hx hb dX7_told_77 rfl (lv_at hl 0 rfl) ?_
              refine gM_X7_defects X hK hP iX7 (List.mem_of_getElem? (i := 6) rfl) dX7_told_78 ?_
              exact endR X hr rfl hlocks hm dX7_told_81
            · replace hm := (if_neg hq5).symm.trans hm
              by_cases hq6 : p1 = (6 : Int32)
              · replace hm := (if_pos hq6).symm.trans hm
                refine lv_tableIn (off := 81) (tgt := 82) hx hb dX7_told_1 (by rw [hq6]; decide) (by rw [hq6]; decide) (by rw [hq6]; rfl) (by decide) ?_
                refine lv_aload_n hx hb dX7_told_82 rfl (lv_at hl 0 rfl) ?_
                refine gM_X7_kinds X hK hP iX7 (List.mem_of_getElem? (i := 7) rfl) dX7_told_83 ?_
                exact endR X hr rfl hlocks hm dX7_told_86
              · replace hm := (if_neg hq6).symm.trans hm
                by_cases hq7 : p1 = (7 : Int32)
                · replace hm := (if_pos hq7).symm.trans hm
                  refine lv_tableIn (off := 86) (tgt := 87) hx hb dX7_told_1 (by rw [hq7]; decide) (by rw [hq7]; decide) (by rw [hq7]; rfl) (by decide) ?_
                  refine lv_aload_n hx hb dX7_told_87 rfl (lv_at hl 0 rfl) ?_
                  refine gM_X7_stocks X hK hP iX7 (List.mem_of_getElem? (i := 8) rfl) dX7_told_88 ?_
                  exact endR X hr rfl hlocks hm dX7_told_91
                · replace hm := (if_neg hq7).symm.trans hm
                  by_cases hq8 : p1 = (8 : Int32)
                  · replace hm := (if_pos hq8).symm.trans hm
                    refine lv_tableIn (off := 91) (tgt := 92) hx hb dX7_told_1 (by rw [hq8]; decide) (by rw [hq8]; decide) (by rw [hq8]; rfl) (by decide) ?_
                    refine lv_aload_n hx hb dX7_told_92 rfl (lv_at hl 0 rfl) ?_
                    refine gM_X7_orders X hK hP iX7 (List.mem_of_getElem? (i := 9) rfl) dX7_told_93 ?_
                    exact endR X hr rfl hlocks hm dX7_told_96
                  · replace hm := (if_neg hq8).symm.trans hm
                    refine lv_tableOut (tgt := 97) hx hb dX7_told_1 (tbOut (n := 8) rfl (fun k hk => ?_)) (by decide) ?_
                    · match k, hk with
                      | 0, _ => exact hq0
                      | 1, _ => exact hq1
                      | 2, _ => exact hq2
                      | 3, _ => exact hq3
                      | 4, _ => exact hq4
                      | 5, _ => exact hq5
                      | 6, _ => exact hq6
                      | 7, _ => exact hq7
                      | 8, _ => exact hq8
                      | k + 9, hk => exact absurd hk (by omega)
                    · refine lv_iload_n hx hb dX7_told_97 rfl (lv_at hl 1 rfl) ?_
                      refine lv_bipush (v := (9 : Int32)) hx hb dX7_told_98 (by decide) ?_
                      refine lv_icmp_ne (tgt := 110) hx hb dX7_told_100 (by decide) (fun hc => ?_) (fun hc => ?_)
                      · replace hm := (if_neg hc).symm.trans hm
                        refine lv_bipush (v := (-3 : Int32)) hx hb dX7_told_110 (by decide) ?_
                        exact endR X hr rfl hlocks hm dX7_told_112
                      · replace hm := (if_pos hc).symm.trans hm
                        refine lv_aload_n hx hb dX7_told_103 rfl (lv_at hl 0 rfl) ?_
                        refine gM_X7_blade X hK hP iX7 (List.mem_of_getElem? (i := 10) rfl) dX7_told_104 ?_
                        refine lv_goto (tgt := 112) hx hb dX7_told_107 (by decide) ?_
                        exact endR X hr rfl hlocks hm dX7_told_112

def rmX7_noKinds : Room := { frames := 0, cells := 0, slots := 0, locals := 0 }
set_option maxHeartbeats 4000000 in
set_option maxRecDepth 100000 in
theorem kX7_noKinds (l : Launch) (D : va_G) (a : Nat → Nat) (cI cZ : ClassId) (hA : AP 31 a) (S : ST) (sz : Nat)  (res : Int32 × ST) (hm : mX7_noKinds S  = some res) : Met l yX7_noKinds wsX7_noKinds rmX7_noKinds (va_Pc [.ref (a 0)] (PreW (wM a cI cZ S) D cI cZ sz)) (va_Qi (fun (r : Int32) (T : ST) => (r, T) = res) (PostW (wM a cI cZ) D cI cZ) (AC 31 a sz)) 0 0 (AC 31 a sz) := by
  refine metB (cc := cX7_noKinds) (maxL := 2) (ret := (some .int)) (by decide) rfl (Nat.le_of_ble_eq_true rfl) ?_
  intro p e s m below meth c ls X hml hr hlocks hin hv hl
  replace X : CX p m c cX7_noKinds s ([.ref (a 0)] : List Value).toArray wsX7_noKinds RX7 := X
  obtain ⟨hsz, hP, hK, hNW⟩ := hv
  subst hsz
  have hS : va_S (AC 31 a s.heap.size) s.heap s.heap [] := va_S.rf
  have hx := X.1
  have hb := X.2.1
  replace hl : lv_has ls 2 [(0, .ref (a 0))] := hl
  have iX7 : ∀ w ∈ wsX70, w ∈ wsX7_noKinds := fun w h => List.mem_cons_of_mem _ (List.mem_append_right _ h)
  suffices kS : ∀ (H : Heap) (locs : List Loc), va_P D vwCl (wM a cI cZ S) H → va_S (AC 31 a s.heap.size) s.heap H locs → W p l e rmX7_noKinds s m ([.ref (a 0)] : List Value).toArray below meth c H locs 0 0 (MQ below (va_Qi (fun (r : Int32) (T : ST) => (r, T) = res) (PostW (wM a cI cZ) D cI cZ) (AC 31 a s.heap.size)) ([.ref (a 0)] : List Value).toArray s 0 0 (AC 31 a s.heap.size)) (F0 m 0 ls []) by exact kS s.heap [] hP hS
  intro H locs hP hS
  unfold mX7_noKinds at hm
  refine lv_aload_n hx hb dX7_noKinds_0 rfl (lv_at hl 0 rfl) ?_
  refine gM_X7_kinds X hK hP iX7 (List.mem_of_getElem? (i := 1) rfl) dX7_noKinds_1 ?_
  refine lv_istore_n (lv' := [(1, .int (S.1 6)), (0, .ref (a 0))]) hx hb dX7_noKinds_4 rfl hl (by decide) rfl (fun ls hl => ?_)
  refine lv_aload_n hx hb dX7_noKinds_5 rfl (lv_at hl 1 rfl) ?_
  refine lv_iconst (v := (0 : Int32)) hx hb dX7_noKinds_6 (by decide) ?_
  refine pM_X7_kinds X hK hA hP hS iX7 (List.mem_of_getElem? (i := 1) rfl) dX7_noKinds_7 (fun H locs hP hS => ?_)
  refine lv_aload_n hx hb dX7_noKinds_10 rfl (lv_at hl 1 rfl) ?_
  refine lv_iconst (v := (0 : Int32)) hx hb dX7_noKinds_11 (by decide) ?_
  refine pM_X7_isWorked X hK hA hP hS iX7 (List.mem_of_getElem? (i := 2) rfl) ⟨rfl, rfl⟩ dX7_noKinds_12 (fun H locs hP hS => ?_)
  refine lv_iload_n hx hb dX7_noKinds_15 rfl (lv_at hl 0 rfl) ?_
  exact endI X hK hr rfl hlocks hm hP hS dX7_noKinds_16

def rmX7_noBars : Room := { frames := 0, cells := 0, slots := 0, locals := 0 }
set_option maxHeartbeats 4000000 in
set_option maxRecDepth 100000 in
theorem kX7_noBars (l : Launch) (D : va_G) (a : Nat → Nat) (cI cZ : ClassId) (hA : AP 31 a) (S : ST) (sz : Nat)  (res : Int32 × ST) (hm : mX7_noBars S  = some res) : Met l yX7_noBars wsX7_noBars rmX7_noBars (va_Pc [.ref (a 0)] (PreW (wM a cI cZ S) D cI cZ sz)) (va_Qi (fun (r : Int32) (T : ST) => (r, T) = res) (PostW (wM a cI cZ) D cI cZ) (AC 31 a sz)) 0 0 (AC 31 a sz) := by
  refine metB (cc := cX7_noBars) (maxL := 2) (ret := (some .int)) (by decide) rfl (Nat.le_of_ble_eq_true rfl) ?_
  intro p e s m below meth c ls X hml hr hlocks hin hv hl
  replace X : CX p m c cX7_noBars s ([.ref (a 0)] : List Value).toArray wsX7_noBars RX7 := X
  obtain ⟨hsz, hP, hK, hNW⟩ := hv
  subst hsz
  have hS : va_S (AC 31 a s.heap.size) s.heap s.heap [] := va_S.rf
  have hx := X.1
  have hb := X.2.1
  replace hl : lv_has ls 2 [(0, .ref (a 0))] := hl
  have iX7 : ∀ w ∈ wsX70, w ∈ wsX7_noBars := fun w h => List.mem_cons_of_mem _ (List.mem_append_right _ h)
  suffices kS : ∀ (H : Heap) (locs : List Loc), va_P D vwCl (wM a cI cZ S) H → va_S (AC 31 a s.heap.size) s.heap H locs → W p l e rmX7_noBars s m ([.ref (a 0)] : List Value).toArray below meth c H locs 0 0 (MQ below (va_Qi (fun (r : Int32) (T : ST) => (r, T) = res) (PostW (wM a cI cZ) D cI cZ) (AC 31 a s.heap.size)) ([.ref (a 0)] : List Value).toArray s 0 0 (AC 31 a s.heap.size)) (F0 m 0 ls []) by exact kS s.heap [] hP hS
  intro H locs hP hS
  unfold mX7_noBars at hm
  refine lv_aload_n hx hb dX7_noBars_0 rfl (lv_at hl 0 rfl) ?_
  refine gM_X7_stocks X hK hP iX7 (List.mem_of_getElem? (i := 1) rfl) dX7_noBars_1 ?_
  refine lv_aload_n hx hb dX7_noBars_4 rfl (lv_at hl 0 rfl) ?_
  refine gM_X7_orders X hK hP iX7 (List.mem_of_getElem? (i := 2) rfl) dX7_noBars_5 ?_
  refine lv_iadd hx hb dX7_noBars_8 ?_
  refine lv_istore_n (lv' := [(1, .int ((S.1 11) + (S.1 12))), (0, .ref (a 0))]) hx hb dX7_noBars_9 rfl hl (by decide) rfl (fun ls hl => ?_)
  refine lv_aload_n hx hb dX7_noBars_10 rfl (lv_at hl 1 rfl) ?_
  refine lv_iconst (v := (0 : Int32)) hx hb dX7_noBars_11 (by decide) ?_
  refine pM_X7_stocks X hK hA hP hS iX7 (List.mem_of_getElem? (i := 1) rfl) dX7_noBars_12 (fun H locs hP hS => ?_)
  refine lv_aload_n hx hb dX7_noBars_15 rfl (lv_at hl 1 rfl) ?_
  refine lv_iconst (v := (0 : Int32)) hx hb dX7_noBars_16 (by decide) ?_
  refine pM_X7_orders X hK hA hP hS iX7 (List.mem_of_getElem? (i := 2) rfl) dX7_noBars_17 (fun H locs hP hS => ?_)
  refine lv_aload_n hx hb dX7_noBars_20 rfl (lv_at hl 1 rfl) ?_
  refine lv_iconst (v := (0 : Int32)) hx hb dX7_noBars_21 (by decide) ?_
  refine pM_X7_isListed X hK hA hP hS iX7 (List.mem_of_getElem? (i := 3) rfl) ⟨rfl, rfl⟩ dX7_noBars_22 (fun H locs hP hS => ?_)
  refine lv_iload_n hx hb dX7_noBars_25 rfl (lv_at hl 0 rfl) ?_
  exact endI X hK hr rfl hlocks hm hP hS dX7_noBars_26
