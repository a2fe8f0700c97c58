/-! ROWS of the reference's world. By gen.py. -/
def wM (a : Nat → Nat) (cI cZ : ClassId) (S : ST) : va_W := [(a 0, .inr (7, [.int (S.1 0), .int (S.1 1), .int (S.1 2), .int (S.1 3), .int (S.1 4), .int (S.1 5), .ref (a 1), .ref (a 2), .ref (a 3), .ref (a 4), .int (S.1 6), .ref (a 5), .ref (a 6), .ref (a 7), .ref (a 8), .ref (a 9), .ref (a 10), .int (S.1 7), .int (S.1 8), .ref (a 11), .ref (a 12), .ref (a 13), .ref (a 14), .int (S.1 9), .ref (a 15), .ref (a 16), .ref (a 17), .ref (a 18), .ref (a 19), .ref (a 20), .ref (a 21), .int (S.1 10), .int (S.1 11), .ref (a 22), .ref (a 23), .int (S.1 12), .ref (a 24), .ref (a 25), .int (S.1 13), .int (S.1 14), .int (S.1 15), .ref (a 26), .ref (a 27), .ref (a 28), .ref (a 29), .int (S.1 16), .ref (a 30)])),
  (a 1, .inl (cI, 6, .inl (S.2 0))),
  (a 2, .inl (cI, 6, .inl (S.2 1))),
  (a 3, .inl (cI, 6, .inl (S.2 2))),
  (a 4, .inl (cI, 6, .inl (S.2 3))),
  (a 5, .inl (cI, 8, .inl (S.2 4))),
  (a 6, .inl (cI, 8, .inl (S.2 5))),
  (a 7, .inl (cI, 8, .inl (S.2 6))),
  (a 8, .inl (cZ, 8, .inl (S.2 7))),
  (a 9, .inl (cI, 256, .inl (S.2 8))),
  (a 10, .inl (cI, 73984, .inl (S.2 9))),
  (a 11, .inl (cI, 256, .inl (S.2 10))),
  (a 12, .inl (cI, 256, .inl (S.2 11))),
  (a 13, .inl (cI, 256, .inl (S.2 12))),
  (a 14, .inl (cI, 256, .inl (S.2 13))),
  (a 15, .inl (cI, 256, .inl (S.2 14))),
  (a 16, .inl (cI, 256, .inl (S.2 15))),
  (a 17, .inl (cI, 256, .inl (S.2 16))),
  (a 18, .inl (cI, 256, .inl (S.2 17))),
  (a 19, .inl (cI, 256, .inl (S.2 18))),
  (a 20, .inl (cI, 256, .inl (S.2 19))),
  (a 21, .inl (cI, 1300, .inl (S.2 20))),
  (a 22, .inl (cI, 3, .inl (S.2 21))),
  (a 23, .inl (cI, 3, .inl (S.2 22))),
  (a 24, .inl (cI, 4, .inl (S.2 23))),
  (a 25, .inl (cI, 4, .inl (S.2 24))),
  (a 26, .inl (cI, 1296, .inl (S.2 25))),
  (a 27, .inl (cI, 1296, .inl (S.2 26))),
  (a 28, .inl (cI, 1296, .inl (S.2 27))),
  (a 29, .inl (cI, 1296, .inl (S.2 28))),
  (a 30, .inl (cI, 20, .inl (S.2 29)))]
section ROWSM
variable {p : Program} {l : Launch} {e : Env} {R : Room} {s : State} {m : MethodId} {args : Array Value} {below : List Frame} {meth : Method} {c : Code} {H H0 : Heap} {locs : List Loc} {cells slots sz : Nat} {Q : State → Prop} {Ts : List Cond} {cc : ByteArray} {index pc : Nat} {own : String} {rest : List Value} {ls : Array Slot} {D : va_G} {cI cZ : ClassId} {a : Nat → Nat} {S : ST}
theorem wM_D {A : Nat → Prop} (hA : AP 31 a) (hq : ∀ k, k < 31 → A (a k)) : va_D A (wM a cI cZ S) := by
  have key : ∀ (k : Nat) (q : Nat × va_E), (wM a cI cZ S)[k]? = some q → k < 31 ∧ q.1 = a k := by
    intro k q h
    have hk : k < 31 := by
      have h2 := (List.getElem?_eq_some_iff.mp h).1
      exact h2
    refine ⟨hk, ?_⟩
    match k, hk, h with
    | 0, _, h => cases h; rfl
    | 1, _, h => cases h; rfl
    | 2, _, h => cases h; rfl
    | 3, _, h => cases h; rfl
    | 4, _, h => cases h; rfl
    | 5, _, h => cases h; rfl
    | 6, _, h => cases h; rfl
    | 7, _, h => cases h; rfl
    | 8, _, h => cases h; rfl
    | 9, _, h => cases h; rfl
    | 10, _, h => cases h; rfl
    | 11, _, h => cases h; rfl
    | 12, _, h => cases h; rfl
    | 13, _, h => cases h; rfl
    | 14, _, h => cases h; rfl
    | 15, _, h => cases h; rfl
    | 16, _, h => cases h; rfl
    | 17, _, h => cases h; rfl
    | 18, _, h => cases h; rfl
    | 19, _, h => cases h; rfl
    | 20, _, h => cases h; rfl
    | 21, _, h => cases h; rfl
    | 22, _, h => cases h; rfl
    | 23, _, h => cases h; rfl
    | 24, _, h => cases h; rfl
    | 25, _, h => cases h; rfl
    | 26, _, h => cases h; rfl
    | 27, _, h => cases h; rfl
    | 28, _, h => cases h; rfl
    | 29, _, h => cases h; rfl
    | 30, _, h => cases h; rfl
    | k + 31, hk, _ => omega
  refine ⟨fun i j p q h1 h2 h3 => ?_, fun k q h => ?_⟩
  · obtain ⟨k1, e1⟩ := key i p h1
    obtain ⟨k2, e2⟩ := key j q h2
    exact hA i j k1 k2 (by rw [← e1, ← e2]; exact h3)
  · obtain ⟨k1, e1⟩ := key k q h
    rw [e1]
    exact hq k k1
theorem wM_DA (hA : AP 31 a) : va_D (AC 31 a sz) (wM a cI cZ S) := wM_D hA (fun k hk => Or.inl ⟨k, hk, rfl⟩)
theorem gM_X7_wide (X : CX p m c cc s args Ts own) (hK : va_K D vwCl (TYS cI cZ) s) (hP : va_P D vwCl (wM a cI cZ S) H) (hin : ∀ w ∈ wsX70, w ∈ Ts) (hl : Cond.fieldLink own index "CuttingRulesModel" "wide" "I" ∈ Ts) (hdg : decode cc pc = .ok (.getfield index, 3))
    (kk : W p l e R s m args below meth c H locs cells slots Q (F0 m (pc + 3) ls (.int (S.1 0) :: rest))) : W p l e R s m args below meth c H locs cells slots Q (F0 m pc ls (.ref (a 0) :: rest)) :=
  va_get (D := D) (ci := 7) (v := .int (S.1 0)) (C := RX7) (T := TX7) (N := 47) X.1 X.2.1 X.2.2.1 hin X.2.2.2 hK hP 0 rfl rfl 0 (by decide) (X.2.2.1 _ hl) (fun _ h9 => h9) rfl hdg kk
theorem pM_X7_wide (X : CX p m c cc s args Ts own) (hK : va_K D vwCl (TYS cI cZ) s) (hA : AP 31 a) (hP : va_P D vwCl (wM a cI cZ S) H) (hS : va_S (AC 31 a sz) H0 H locs) (hin : ∀ w ∈ wsX70, w ∈ Ts) (hl : Cond.fieldLink own index "CuttingRulesModel" "wide" "I" ∈ Ts) {v : Int32} (hdg : decode cc pc = .ok (.putfield index, 3))
    (kk : ∀ (H1 : Heap) (locs1 : List Loc), va_P D vwCl (wM a cI cZ (sI S 0 v)) H1 → va_S (AC 31 a sz) H0 H1 locs1 → W p l e R s m args below meth c H1 locs1 cells slots Q (F0 m (pc + 3) ls rest)) : W p l e R s m args below meth c H locs cells slots Q (F0 m pc ls (.int v :: .ref (a 0) :: rest)) :=
  va_put (D := D) (ci := 7) (v := .int v) (ty := .int) (C := RX7) (T := TX7) (N := 47) X.1 X.2.1 X.2.2.1 hin tyX7 tyX7_ok nmX7 X.2.2.2 hK hP (wM_DA hA) hS 0 rfl rfl 0 (by decide) (X.2.2.1 _ hl) (fun _ h9 => h9) rfl (by decide +kernel) rfl rfl (Nat.le_of_ble_eq_true rfl) hdg (fun H1 locs1 hP1 _ hS1 => kk H1 locs1 hP1 hS1)
theorem gM_X7_high (X : CX p m c cc s args Ts own) (hK : va_K D vwCl (TYS cI cZ) s) (hP : va_P D vwCl (wM a cI cZ S) H) (hin : ∀ w ∈ wsX70, w ∈ Ts) (hl : Cond.fieldLink own index "CuttingRulesModel" "high" "I" ∈ Ts) (hdg : decode cc pc = .ok (.getfield index, 3))
    (kk : W p l e R s m args below meth c H locs cells slots Q (F0 m (pc + 3) ls (.int (S.1 1) :: rest))) : W p l e R s m args below meth c H locs cells slots Q (F0 m pc ls (.ref (a 0) :: rest)) :=
  va_get (D := D) (ci := 7) (v := .int (S.1 1)) (C := RX7) (T := TX7) (N := 47) X.1 X.2.1 X.2.2.1 hin X.2.2.2 hK hP 0 rfl rfl 1 (by decide) (X.2.2.1 _ hl) (fun _ h9 => h9) rfl hdg kk
theorem pM_X7_high (X : CX p m c cc s args Ts own) (hK : va_K D vwCl (TYS cI cZ) s) (hA : AP 31 a) (hP : va_P D vwCl (wM a cI cZ S) H) (hS : va_S (AC 31 a sz) H0 H locs) (hin : ∀ w ∈ wsX70, w ∈ Ts) (hl : Cond.fieldLink own index "CuttingRulesModel" "high" "I" ∈ Ts) {v : Int32} (hdg : decode cc pc = .ok (.putfield index, 3))
    (kk : ∀ (H1 : Heap) (locs1 : List Loc), va_P D vwCl (wM a cI cZ (sI S 1 v)) H1 → va_S (AC 31 a sz) H0 H1 locs1 → W p l e R s m args below meth c H1 locs1 cells slots Q (F0 m (pc + 3) ls rest)) : W p l e R s m args below meth c H locs cells slots Q (F0 m pc ls (.int v :: .ref (a 0) :: rest)) :=
  va_put (D := D) (ci := 7) (v := .int v) (ty := .int) (C := RX7) (T := TX7) (N := 47) X.1 X.2.1 X.2.2.1 hin tyX7 tyX7_ok nmX7 X.2.2.2 hK hP (wM_DA hA) hS 0 rfl rfl 1 (by decide) (X.2.2.1 _ hl) (fun _ h9 => h9) rfl (by decide +kernel) rfl rfl (Nat.le_of_ble_eq_true rfl) hdg (fun H1 locs1 hP1 _ hS1 => kk H1 locs1 hP1 hS1)
theorem gM_X7_kerf (X : CX p m c cc s args Ts own) (hK : va_K D vwCl (TYS cI cZ) s) (hP : va_P D vwCl (wM a cI cZ S) H) (hin : ∀ w ∈ wsX70, w ∈ Ts) (hl : Cond.fieldLink own index "CuttingRulesModel" "kerf" "I" ∈ Ts) (hdg : decode cc pc = .ok (.getfield index, 3))
    (kk : W p l e R s m args below meth c H locs cells slots Q (F0 m (pc + 3) ls (.int (S.1 2) :: rest))) : W p l e R s m args below meth c H locs cells slots Q (F0 m pc ls (.ref (a 0) :: rest)) :=
  va_get (D := D) (ci := 7) (v := .int (S.1 2)) (C := RX7) (T := TX7) (N := 47) X.1 X.2.1 X.2.2.1 hin X.2.2.2 hK hP 0 rfl rfl 2 (by decide) (X.2.2.1 _ hl) (fun _ h9 => h9) rfl hdg kk
theorem pM_X7_kerf (X : CX p m c cc s args Ts own) (hK : va_K D vwCl (TYS cI cZ) s) (hA : AP 31 a) (hP : va_P D vwCl (wM a cI cZ S) H) (hS : va_S (AC 31 a sz) H0 H locs) (hin : ∀ w ∈ wsX70, w ∈ Ts) (hl : Cond.fieldLink own index "CuttingRulesModel" "kerf" "I" ∈ Ts) {v : Int32} (hdg : decode cc pc = .ok (.putfield index, 3))
    (kk : ∀ (H1 : Heap) (locs1 : List Loc), va_P D vwCl (wM a cI cZ (sI S 2 v)) H1 → va_S (AC 31 a sz) H0 H1 locs1 → W p l e R s m args below meth c H1 locs1 cells slots Q (F0 m (pc + 3) ls rest)) : W p l e R s m args below meth c H locs cells slots Q (F0 m pc ls (.int v :: .ref (a 0) :: rest)) :=
  va_put (D := D) (ci := 7) (v := .int v) (ty := .int) (C := RX7) (T := TX7) (N := 47) X.1 X.2.1 X.2.2.1 hin tyX7 tyX7_ok nmX7 X.2.2.2 hK hP (wM_DA hA) hS 0 rfl rfl 2 (by decide) (X.2.2.1 _ hl) (fun _ h9 => h9) rfl (by decide +kernel) rfl rfl (Nat.le_of_ble_eq_true rfl) hdg (fun H1 locs1 hP1 _ hS1 => kk H1 locs1 hP1 hS1)
theorem gM_X7_stages (X : CX p m c cc s args Ts own) (hK : va_K D vwCl (TYS cI cZ) s) (hP : va_P D vwCl (wM a cI cZ S) H) (hin : ∀ w ∈ wsX70, w ∈ Ts) (hl : Cond.fieldLink own index "CuttingRulesModel" "stages" "I" ∈ Ts) (hdg : decode cc pc = .ok (.getfield index, 3))
    (kk : W p l e R s m args below meth c H locs cells slots Q (F0 m (pc + 3) ls (.int (S.1 3) :: rest))) : W p l e R s m args below meth c H locs cells slots Q (F0 m pc ls (.ref (a 0) :: rest)) :=
  va_get (D := D) (ci := 7) (v := .int (S.1 3)) (C := RX7) (T := TX7) (N := 47) X.1 X.2.1 X.2.2.1 hin X.2.2.2 hK hP 0 rfl rfl 3 (by decide) (X.2.2.1 _ hl) (fun _ h9 => h9) rfl hdg kk
theorem pM_X7_stages (X : CX p m c cc s args Ts own) (hK : va_K D vwCl (TYS cI cZ) s) (hA : AP 31 a) (hP : va_P D vwCl (wM a cI cZ S) H) (hS : va_S (AC 31 a sz) H0 H locs) (hin : ∀ w ∈ wsX70, w ∈ Ts) (hl : Cond.fieldLink own index "CuttingRulesModel" "stages" "I" ∈ Ts) {v : Int32} (hdg : decode cc pc = .ok (.putfield index, 3))
    (kk : ∀ (H1 : Heap) (locs1 : List Loc), va_P D vwCl (wM a cI cZ (sI S 3 v)) H1 → va_S (AC 31 a sz) H0 H1 locs1 → W p l e R s m args below meth c H1 locs1 cells slots Q (F0 m (pc + 3) ls rest)) : W p l e R s m args below meth c H locs cells slots Q (F0 m pc ls (.int v :: .ref (a 0) :: rest)) :=
  va_put (D := D) (ci := 7) (v := .int v) (ty := .int) (C := RX7) (T := TX7) (N := 47) X.1 X.2.1 X.2.2.1 hin tyX7 tyX7_ok nmX7 X.2.2.2 hK hP (wM_DA hA) hS 0 rfl rfl 3 (by decide) (X.2.2.1 _ hl) (fun _ h9 => h9) rfl (by decide +kernel) rfl rfl (Nat.le_of_ble_eq_true rfl) hdg (fun H1 locs1 hP1 _ hS1 => kk H1 locs1 hP1 hS1)
theorem gM_X7_firstWay (X : CX p m c cc s args Ts own) (hK : va_K D vwCl (TYS cI cZ) s) (hP : va_P D vwCl (wM a cI cZ S) H) (hin : ∀ w ∈ wsX70, w ∈ Ts) (hl : Cond.fieldLink own index "CuttingRulesModel" "firstWay" "I" ∈ Ts) (hdg : decode cc pc = .ok (.getfield index, 3))
    (kk : W p l e R s m args below meth c H locs cells slots Q (F0 m (pc + 3) ls (.int (S.1 4) :: rest))) : W p l e R s m args below meth c H locs cells slots Q (F0 m pc ls (.ref (a 0) :: rest)) :=
  va_get (D := D) (ci := 7) (v := .int (S.1 4)) (C := RX7) (T := TX7) (N := 47) X.1 X.2.1 X.2.2.1 hin X.2.2.2 hK hP 0 rfl rfl 4 (by decide) (X.2.2.1 _ hl) (fun _ h9 => h9) rfl hdg kk
theorem pM_X7_firstWay (X : CX p m c cc s args Ts own) (hK : va_K D vwCl (TYS cI cZ) s) (hA : AP 31 a) (hP : va_P D vwCl (wM a cI cZ S) H) (hS : va_S (AC 31 a sz) H0 H locs) (hin : ∀ w ∈ wsX70, w ∈ Ts) (hl : Cond.fieldLink own index "CuttingRulesModel" "firstWay" "I" ∈ Ts) {v : Int32} (hdg : decode cc pc = .ok (.putfield index, 3))
    (kk : ∀ (H1 : Heap) (locs1 : List Loc), va_P D vwCl (wM a cI cZ (sI S 4 v)) H1 → va_S (AC 31 a sz) H0 H1 locs1 → W p l e R s m args below meth c H1 locs1 cells slots Q (F0 m (pc + 3) ls rest)) : W p l e R s m args below meth c H locs cells slots Q (F0 m pc ls (.int v :: .ref (a 0) :: rest)) :=
  va_put (D := D) (ci := 7) (v := .int v) (ty := .int) (C := RX7) (T := TX7) (N := 47) X.1 X.2.1 X.2.2.1 hin tyX7 tyX7_ok nmX7 X.2.2.2 hK hP (wM_DA hA) hS 0 rfl rfl 4 (by decide) (X.2.2.1 _ hl) (fun _ h9 => h9) rfl (by decide +kernel) rfl rfl (Nat.le_of_ble_eq_true rfl) hdg (fun H1 locs1 hP1 _ hS1 => kk H1 locs1 hP1 hS1)
theorem gM_X7_defects (X : CX p m c cc s args Ts own) (hK : va_K D vwCl (TYS cI cZ) s) (hP : va_P D vwCl (wM a cI cZ S) H) (hin : ∀ w ∈ wsX70, w ∈ Ts) (hl : Cond.fieldLink own index "CuttingRulesModel" "defects" "I" ∈ Ts) (hdg : decode cc pc = .ok (.getfield index, 3))
    (kk : W p l e R s m args below meth c H locs cells slots Q (F0 m (pc + 3) ls (.int (S.1 5) :: rest))) : W p l e R s m args below meth c H locs cells slots Q (F0 m pc ls (.ref (a 0) :: rest)) :=
  va_get (D := D) (ci := 7) (v := .int (S.1 5)) (C := RX7) (T := TX7) (N := 47) X.1 X.2.1 X.2.2.1 hin X.2.2.2 hK hP 0 rfl rfl 5 (by decide) (X.2.2.1 _ hl) (fun _ h9 => h9) rfl hdg kk
theorem pM_X7_defects (X : CX p m c cc s args Ts own) (hK : va_K D vwCl (TYS cI cZ) s) (hA : AP 31 a) (hP : va_P D vwCl (wM a cI cZ S) H) (hS : va_S (AC 31 a sz) H0 H locs) (hin : ∀ w ∈ wsX70, w ∈ Ts) (hl : Cond.fieldLink own index "CuttingRulesModel" "defects" "I" ∈ Ts) {v : Int32} (hdg : decode cc pc = .ok (.putfield index, 3))
    (kk : ∀ (H1 : Heap) (locs1 : List Loc), va_P D vwCl (wM a cI cZ (sI S 5 v)) H1 → va_S (AC 31 a sz) H0 H1 locs1 → W p l e R s m args below meth c H1 locs1 cells slots Q (F0 m (pc + 3) ls rest)) : W p l e R s m args below meth c H locs cells slots Q (F0 m pc ls (.int v :: .ref (a 0) :: rest)) :=
  va_put (D := D) (ci := 7) (v := .int v) (ty := .int) (C := RX7) (T := TX7) (N := 47) X.1 X.2.1 X.2.2.1 hin tyX7 tyX7_ok nmX7 X.2.2.2 hK hP (wM_DA hA) hS 0 rfl rfl 5 (by decide) (X.2.2.1 _ hl) (fun _ h9 => h9) rfl (by decide +kernel) rfl rfl (Nat.le_of_ble_eq_true rfl) hdg (fun H1 locs1 hP1 _ hS1 => kk H1 locs1 hP1 hS1)
theorem gM_X7_defectX (X : CX p m c cc s args Ts own) (hK : va_K D vwCl (TYS cI cZ) s) (hP : va_P D vwCl (wM a cI cZ S) H) (hin : ∀ w ∈ wsX70, w ∈ Ts) (hl : Cond.fieldLink own index "CuttingRulesModel" "defectX" "[I" ∈ Ts) (hdg : decode cc pc = .ok (.getfield index, 3))
    (kk : W p l e R s m args below meth c H locs cells slots Q (F0 m (pc + 3) ls (.ref (a 1) :: rest))) : W p l e R s m args below meth c H locs cells slots Q (F0 m pc ls (.ref (a 0) :: rest)) :=
  va_get (D := D) (ci := 7) (v := .ref (a 1)) (C := RX7) (T := TX7) (N := 47) X.1 X.2.1 X.2.2.1 hin X.2.2.2 hK hP 0 rfl rfl 6 (by decide) (X.2.2.1 _ hl) (fun _ h9 => h9) rfl hdg kk
theorem gM_X7_defectY (X : CX p m c cc s args Ts own) (hK : va_K D vwCl (TYS cI cZ) s) (hP : va_P D vwCl (wM a cI cZ S) H) (hin : ∀ w ∈ wsX70, w ∈ Ts) (hl : Cond.fieldLink own index "CuttingRulesModel" "defectY" "[I" ∈ Ts) (hdg : decode cc pc = .ok (.getfield index, 3))
    (kk : W p l e R s m args below meth c H locs cells slots Q (F0 m (pc + 3) ls (.ref (a 2) :: rest))) : W p l e R s m args below meth c H locs cells slots Q (F0 m pc ls (.ref (a 0) :: rest)) :=
  va_get (D := D) (ci := 7) (v := .ref (a 2)) (C := RX7) (T := TX7) (N := 47) X.1 X.2.1 X.2.2.1 hin X.2.2.2 hK hP 0 rfl rfl 7 (by decide) (X.2.2.1 _ hl) (fun _ h9 => h9) rfl hdg kk
theorem gM_X7_defectW (X : CX p m c cc s args Ts own) (hK : va_K D vwCl (TYS cI cZ) s) (hP : va_P D vwCl (wM a cI cZ S) H) (hin : ∀ w ∈ wsX70, w ∈ Ts) (hl : Cond.fieldLink own index "CuttingRulesModel" "defectW" "[I" ∈ Ts) (hdg : decode cc pc = .ok (.getfield index, 3))
    (kk : W p l e R s m args below meth c H locs cells slots Q (F0 m (pc + 3) ls (.ref (a 3) :: rest))) : W p l e R s m args below meth c H locs cells slots Q (F0 m pc ls (.ref (a 0) :: rest)) :=
  va_get (D := D) (ci := 7) (v := .ref (a 3)) (C := RX7) (T := TX7) (N := 47) X.1 X.2.1 X.2.2.1 hin X.2.2.2 hK hP 0 rfl rfl 8 (by decide) (X.2.2.1 _ hl) (fun _ h9 => h9) rfl hdg kk
theorem gM_X7_defectH (X : CX p m c cc s args Ts own) (hK : va_K D vwCl (TYS cI cZ) s) (hP : va_P D vwCl (wM a cI cZ S) H) (hin : ∀ w ∈ wsX70, w ∈ Ts) (hl : Cond.fieldLink own index "CuttingRulesModel" "defectH" "[I" ∈ Ts) (hdg : decode cc pc = .ok (.getfield index, 3))
    (kk : W p l e R s m args below meth c H locs cells slots Q (F0 m (pc + 3) ls (.ref (a 4) :: rest))) : W p l e R s m args below meth c H locs cells slots Q (F0 m pc ls (.ref (a 0) :: rest)) :=
  va_get (D := D) (ci := 7) (v := .ref (a 4)) (C := RX7) (T := TX7) (N := 47) X.1 X.2.1 X.2.2.1 hin X.2.2.2 hK hP 0 rfl rfl 9 (by decide) (X.2.2.1 _ hl) (fun _ h9 => h9) rfl hdg kk
theorem gM_X7_kinds (X : CX p m c cc s args Ts own) (hK : va_K D vwCl (TYS cI cZ) s) (hP : va_P D vwCl (wM a cI cZ S) H) (hin : ∀ w ∈ wsX70, w ∈ Ts) (hl : Cond.fieldLink own index "CuttingRulesModel" "kinds" "I" ∈ Ts) (hdg : decode cc pc = .ok (.getfield index, 3))
    (kk : W p l e R s m args below meth c H locs cells slots Q (F0 m (pc + 3) ls (.int (S.1 6) :: rest))) : W p l e R s m args below meth c H locs cells slots Q (F0 m pc ls (.ref (a 0) :: rest)) :=
  va_get (D := D) (ci := 7) (v := .int (S.1 6)) (C := RX7) (T := TX7) (N := 47) X.1 X.2.1 X.2.2.1 hin X.2.2.2 hK hP 0 rfl rfl 10 (by decide) (X.2.2.1 _ hl) (fun _ h9 => h9) rfl hdg kk
theorem pM_X7_kinds (X : CX p m c cc s args Ts own) (hK : va_K D vwCl (TYS cI cZ) s) (hA : AP 31 a) (hP : va_P D vwCl (wM a cI cZ S) H) (hS : va_S (AC 31 a sz) H0 H locs) (hin : ∀ w ∈ wsX70, w ∈ Ts) (hl : Cond.fieldLink own index "CuttingRulesModel" "kinds" "I" ∈ Ts) {v : Int32} (hdg : decode cc pc = .ok (.putfield index, 3))
    (kk : ∀ (H1 : Heap) (locs1 : List Loc), va_P D vwCl (wM a cI cZ (sI S 6 v)) H1 → va_S (AC 31 a sz) H0 H1 locs1 → W p l e R s m args below meth c H1 locs1 cells slots Q (F0 m (pc + 3) ls rest)) : W p l e R s m args below meth c H locs cells slots Q (F0 m pc ls (.int v :: .ref (a 0) :: rest)) :=
  va_put (D := D) (ci := 7) (v := .int v) (ty := .int) (C := RX7) (T := TX7) (N := 47) X.1 X.2.1 X.2.2.1 hin tyX7 tyX7_ok nmX7 X.2.2.2 hK hP (wM_DA hA) hS 0 rfl rfl 10 (by decide) (X.2.2.1 _ hl) (fun _ h9 => h9) rfl (by decide +kernel) rfl rfl (Nat.le_of_ble_eq_true rfl) hdg (fun H1 locs1 hP1 _ hS1 => kk H1 locs1 hP1 hS1)
theorem gM_X7_kindW (X : CX p m c cc s args Ts own) (hK : va_K D vwCl (TYS cI cZ) s) (hP : va_P D vwCl (wM a cI cZ S) H) (hin : ∀ w ∈ wsX70, w ∈ Ts) (hl : Cond.fieldLink own index "CuttingRulesModel" "kindW" "[I" ∈ Ts) (hdg : decode cc pc = .ok (.getfield index, 3))
    (kk : W p l e R s m args below meth c H locs cells slots Q (F0 m (pc + 3) ls (.ref (a 5) :: rest))) : W p l e R s m args below meth c H locs cells slots Q (F0 m pc ls (.ref (a 0) :: rest)) :=
  va_get (D := D) (ci := 7) (v := .ref (a 5)) (C := RX7) (T := TX7) (N := 47) X.1 X.2.1 X.2.2.1 hin X.2.2.2 hK hP 0 rfl rfl 11 (by decide) (X.2.2.1 _ hl) (fun _ h9 => h9) rfl hdg kk
theorem gM_X7_kindH (X : CX p m c cc s args Ts own) (hK : va_K D vwCl (TYS cI cZ) s) (hP : va_P D vwCl (wM a cI cZ S) H) (hin : ∀ w ∈ wsX70, w ∈ Ts) (hl : Cond.fieldLink own index "CuttingRulesModel" "kindH" "[I" ∈ Ts) (hdg : decode cc pc = .ok (.getfield index, 3))
    (kk : W p l e R s m args below meth c H locs cells slots Q (F0 m (pc + 3) ls (.ref (a 6) :: rest))) : W p l e R s m args below meth c H locs cells slots Q (F0 m pc ls (.ref (a 0) :: rest)) :=
  va_get (D := D) (ci := 7) (v := .ref (a 6)) (C := RX7) (T := TX7) (N := 47) X.1 X.2.1 X.2.2.1 hin X.2.2.2 hK hP 0 rfl rfl 12 (by decide) (X.2.2.1 _ hl) (fun _ h9 => h9) rfl hdg kk
theorem gM_X7_kindValue (X : CX p m c cc s args Ts own) (hK : va_K D vwCl (TYS cI cZ) s) (hP : va_P D vwCl (wM a cI cZ S) H) (hin : ∀ w ∈ wsX70, w ∈ Ts) (hl : Cond.fieldLink own index "CuttingRulesModel" "kindValue" "[I" ∈ Ts) (hdg : decode cc pc = .ok (.getfield index, 3))
    (kk : W p l e R s m args below meth c H locs cells slots Q (F0 m (pc + 3) ls (.ref (a 7) :: rest))) : W p l e R s m args below meth c H locs cells slots Q (F0 m pc ls (.ref (a 0) :: rest)) :=
  va_get (D := D) (ci := 7) (v := .ref (a 7)) (C := RX7) (T := TX7) (N := 47) X.1 X.2.1 X.2.2.1 hin X.2.2.2 hK hP 0 rfl rfl 13 (by decide) (X.2.2.1 _ hl) (fun _ h9 => h9) rfl hdg kk
theorem gM_X7_kindTurns (X : CX p m c cc s args Ts own) (hK : va_K D vwCl (TYS cI cZ) s) (hP : va_P D vwCl (wM a cI cZ S) H) (hin : ∀ w ∈ wsX70, w ∈ Ts) (hl : Cond.fieldLink own index "CuttingRulesModel" "kindTurns" "[Z" ∈ Ts) (hdg : decode cc pc = .ok (.getfield index, 3))
    (kk : W p l e R s m args below meth c H locs cells slots Q (F0 m (pc + 3) ls (.ref (a 8) :: rest))) : W p l e R s m args below meth c H locs cells slots Q (F0 m pc ls (.ref (a 0) :: rest)) :=
  va_get (D := D) (ci := 7) (v := .ref (a 8)) (C := RX7) (T := TX7) (N := 47) X.1 X.2.1 X.2.2.1 hin X.2.2.2 hK hP 0 rfl rfl 14 (by decide) (X.2.2.1 _ hl) (fun _ h9 => h9) rfl hdg kk
theorem gM_X7_spanAt (X : CX p m c cc s args Ts own) (hK : va_K D vwCl (TYS cI cZ) s) (hP : va_P D vwCl (wM a cI cZ S) H) (hin : ∀ w ∈ wsX70, w ∈ Ts) (hl : Cond.fieldLink own index "CuttingRulesModel" "spanAt" "[I" ∈ Ts) (hdg : decode cc pc = .ok (.getfield index, 3))
    (kk : W p l e R s m args below meth c H locs cells slots Q (F0 m (pc + 3) ls (.ref (a 9) :: rest))) : W p l e R s m args below meth c H locs cells slots Q (F0 m pc ls (.ref (a 0) :: rest)) :=
  va_get (D := D) (ci := 7) (v := .ref (a 9)) (C := RX7) (T := TX7) (N := 47) X.1 X.2.1 X.2.2.1 hin X.2.2.2 hK hP 0 rfl rfl 15 (by decide) (X.2.2.1 _ hl) (fun _ h9 => h9) rfl hdg kk
theorem gM_X7_worths (X : CX p m c cc s args Ts own) (hK : va_K D vwCl (TYS cI cZ) s) (hP : va_P D vwCl (wM a cI cZ S) H) (hin : ∀ w ∈ wsX70, w ∈ Ts) (hl : Cond.fieldLink own index "CuttingRulesModel" "worths" "[I" ∈ Ts) (hdg : decode cc pc = .ok (.getfield index, 3))
    (kk : W p l e R s m args below meth c H locs cells slots Q (F0 m (pc + 3) ls (.ref (a 10) :: rest))) : W p l e R s m args below meth c H locs cells slots Q (F0 m pc ls (.ref (a 0) :: rest)) :=
  va_get (D := D) (ci := 7) (v := .ref (a 10)) (C := RX7) (T := TX7) (N := 47) X.1 X.2.1 X.2.2.1 hin X.2.2.2 hK hP 0 rfl rfl 16 (by decide) (X.2.2.1 _ hl) (fun _ h9 => h9) rfl hdg kk
theorem gM_X7_isWorked (X : CX p m c cc s args Ts own) (hK : va_K D vwCl (TYS cI cZ) s) (hP : va_P D vwCl (wM a cI cZ S) H) (hin : ∀ w ∈ wsX70, w ∈ Ts) (hl : Cond.fieldLink own index "CuttingRulesModel" "isWorked" "Z" ∈ Ts) (hdg : decode cc pc = .ok (.getfield index, 3))
    (kk : W p l e R s m args below meth c H locs cells slots Q (F0 m (pc + 3) ls (.int (S.1 7) :: rest))) : W p l e R s m args below meth c H locs cells slots Q (F0 m pc ls (.ref (a 0) :: rest)) :=
  va_get (D := D) (ci := 7) (v := .int (S.1 7)) (C := RX7) (T := TX7) (N := 47) X.1 X.2.1 X.2.2.1 hin X.2.2.2 hK hP 0 rfl rfl 17 (by decide) (X.2.2.1 _ hl) (fun _ h9 => h9) rfl hdg kk
theorem pM_X7_isWorked (X : CX p m c cc s args Ts own) (hK : va_K D vwCl (TYS cI cZ) s) (hA : AP 31 a) (hP : va_P D vwCl (wM a cI cZ S) H) (hS : va_S (AC 31 a sz) H0 H locs) (hin : ∀ w ∈ wsX70, w ∈ Ts) (hl : Cond.fieldLink own index "CuttingRulesModel" "isWorked" "Z" ∈ Ts) {v : Int32} (hz : narrow .boolean (.int v) = .int v ∧ fits .boolean (.int v) = true) (hdg : decode cc pc = .ok (.putfield index, 3))
    (kk : ∀ (H1 : Heap) (locs1 : List Loc), va_P D vwCl (wM a cI cZ (sI S 7 v)) H1 → va_S (AC 31 a sz) H0 H1 locs1 → W p l e R s m args below meth c H1 locs1 cells slots Q (F0 m (pc + 3) ls rest)) : W p l e R s m args below meth c H locs cells slots Q (F0 m pc ls (.int v :: .ref (a 0) :: rest)) :=
  va_put (D := D) (ci := 7) (v := .int v) (ty := .boolean) (C := RX7) (T := TX7) (N := 47) X.1 X.2.1 X.2.2.1 hin tyX7 tyX7_ok nmX7 X.2.2.2 hK hP (wM_DA hA) hS 0 rfl rfl 17 (by decide) (X.2.2.1 _ hl) (fun _ h9 => h9) rfl (by decide +kernel) hz.1 hz.2 (Nat.le_of_ble_eq_true rfl) hdg (fun H1 locs1 hP1 _ hS1 => kk H1 locs1 hP1 hS1)
theorem gM_X7_pieceMany (X : CX p m c cc s args Ts own) (hK : va_K D vwCl (TYS cI cZ) s) (hP : va_P D vwCl (wM a cI cZ S) H) (hin : ∀ w ∈ wsX70, w ∈ Ts) (hl : Cond.fieldLink own index "CuttingRulesModel" "pieceMany" "I" ∈ Ts) (hdg : decode cc pc = .ok (.getfield index, 3))
    (kk : W p l e R s m args below meth c H locs cells slots Q (F0 m (pc + 3) ls (.int (S.1 8) :: rest))) : W p l e R s m args below meth c H locs cells slots Q (F0 m pc ls (.ref (a 0) :: rest)) :=
  va_get (D := D) (ci := 7) (v := .int (S.1 8)) (C := RX7) (T := TX7) (N := 47) X.1 X.2.1 X.2.2.1 hin X.2.2.2 hK hP 0 rfl rfl 18 (by decide) (X.2.2.1 _ hl) (fun _ h9 => h9) rfl hdg kk
theorem pM_X7_pieceMany (X : CX p m c cc s args Ts own) (hK : va_K D vwCl (TYS cI cZ) s) (hA : AP 31 a) (hP : va_P D vwCl (wM a cI cZ S) H) (hS : va_S (AC 31 a sz) H0 H locs) (hin : ∀ w ∈ wsX70, w ∈ Ts) (hl : Cond.fieldLink own index "CuttingRulesModel" "pieceMany" "I" ∈ Ts) {v : Int32} (hdg : decode cc pc = .ok (.putfield index, 3))
    (kk : ∀ (H1 : Heap) (locs1 : List Loc), va_P D vwCl (wM a cI cZ (sI S 8 v)) H1 → va_S (AC 31 a sz) H0 H1 locs1 → W p l e R s m args below meth c H1 locs1 cells slots Q (F0 m (pc + 3) ls rest)) : W p l e R s m args below meth c H locs cells slots Q (F0 m pc ls (.int v :: .ref (a 0) :: rest)) :=
  va_put (D := D) (ci := 7) (v := .int v) (ty := .int) (C := RX7) (T := TX7) (N := 47) X.1 X.2.1 X.2.2.1 hin tyX7 tyX7_ok nmX7 X.2.2.2 hK hP (wM_DA hA) hS 0 rfl rfl 18 (by decide) (X.2.2.1 _ hl) (fun _ h9 => h9) rfl (by decide +kernel) rfl rfl (Nat.le_of_ble_eq_true rfl) hdg (fun H1 locs1 hP1 _ hS1 => kk H1 locs1 hP1 hS1)
theorem gM_X7_pieceKind (X : CX p m c cc s args Ts own) (hK : va_K D vwCl (TYS cI cZ) s) (hP : va_P D vwCl (wM a cI cZ S) H) (hin : ∀ w ∈ wsX70, w ∈ Ts) (hl : Cond.fieldLink own index "CuttingRulesModel" "pieceKind" "[I" ∈ Ts) (hdg : decode cc pc = .ok (.getfield index, 3))
    (kk : W p l e R s m args below meth c H locs cells slots Q (F0 m (pc + 3) ls (.ref (a 11) :: rest))) : W p l e R s m args below meth c H locs cells slots Q (F0 m pc ls (.ref (a 0) :: rest)) :=
  va_get (D := D) (ci := 7) (v := .ref (a 11)) (C := RX7) (T := TX7) (N := 47) X.1 X.2.1 X.2.2.1 hin X.2.2.2 hK hP 0 rfl rfl 19 (by decide) (X.2.2.1 _ hl) (fun _ h9 => h9) rfl hdg kk
theorem gM_X7_pieceX (X : CX p m c cc s args Ts own) (hK : va_K D vwCl (TYS cI cZ) s) (hP : va_P D vwCl (wM a cI cZ S) H) (hin : ∀ w ∈ wsX70, w ∈ Ts) (hl : Cond.fieldLink own index "CuttingRulesModel" "pieceX" "[I" ∈ Ts) (hdg : decode cc pc = .ok (.getfield index, 3))
    (kk : W p l e R s m args below meth c H locs cells slots Q (F0 m (pc + 3) ls (.ref (a 12) :: rest))) : W p l e R s m args below meth c H locs cells slots Q (F0 m pc ls (.ref (a 0) :: rest)) :=
  va_get (D := D) (ci := 7) (v := .ref (a 12)) (C := RX7) (T := TX7) (N := 47) X.1 X.2.1 X.2.2.1 hin X.2.2.2 hK hP 0 rfl rfl 20 (by decide) (X.2.2.1 _ hl) (fun _ h9 => h9) rfl hdg kk
theorem gM_X7_pieceY (X : CX p m c cc s args Ts own) (hK : va_K D vwCl (TYS cI cZ) s) (hP : va_P D vwCl (wM a cI cZ S) H) (hin : ∀ w ∈ wsX70, w ∈ Ts) (hl : Cond.fieldLink own index "CuttingRulesModel" "pieceY" "[I" ∈ Ts) (hdg : decode cc pc = .ok (.getfield index, 3))
    (kk : W p l e R s m args below meth c H locs cells slots Q (F0 m (pc + 3) ls (.ref (a 13) :: rest))) : W p l e R s m args below meth c H locs cells slots Q (F0 m pc ls (.ref (a 0) :: rest)) :=
  va_get (D := D) (ci := 7) (v := .ref (a 13)) (C := RX7) (T := TX7) (N := 47) X.1 X.2.1 X.2.2.1 hin X.2.2.2 hK hP 0 rfl rfl 21 (by decide) (X.2.2.1 _ hl) (fun _ h9 => h9) rfl hdg kk
theorem gM_X7_pieceTurned (X : CX p m c cc s args Ts own) (hK : va_K D vwCl (TYS cI cZ) s) (hP : va_P D vwCl (wM a cI cZ S) H) (hin : ∀ w ∈ wsX70, w ∈ Ts) (hl : Cond.fieldLink own index "CuttingRulesModel" "pieceTurned" "[I" ∈ Ts) (hdg : decode cc pc = .ok (.getfield index, 3))
    (kk : W p l e R s m args below meth c H locs cells slots Q (F0 m (pc + 3) ls (.ref (a 14) :: rest))) : W p l e R s m args below meth c H locs cells slots Q (F0 m pc ls (.ref (a 0) :: rest)) :=
  va_get (D := D) (ci := 7) (v := .ref (a 14)) (C := RX7) (T := TX7) (N := 47) X.1 X.2.1 X.2.2.1 hin X.2.2.2 hK hP 0 rfl rfl 22 (by decide) (X.2.2.1 _ hl) (fun _ h9 => h9) rfl hdg kk
theorem gM_X7_cutMany (X : CX p m c cc s args Ts own) (hK : va_K D vwCl (TYS cI cZ) s) (hP : va_P D vwCl (wM a cI cZ S) H) (hin : ∀ w ∈ wsX70, w ∈ Ts) (hl : Cond.fieldLink own index "CuttingRulesModel" "cutMany" "I" ∈ Ts) (hdg : decode cc pc = .ok (.getfield index, 3))
    (kk : W p l e R s m args below meth c H locs cells slots Q (F0 m (pc + 3) ls (.int (S.1 9) :: rest))) : W p l e R s m args below meth c H locs cells slots Q (F0 m pc ls (.ref (a 0) :: rest)) :=
  va_get (D := D) (ci := 7) (v := .int (S.1 9)) (C := RX7) (T := TX7) (N := 47) X.1 X.2.1 X.2.2.1 hin X.2.2.2 hK hP 0 rfl rfl 23 (by decide) (X.2.2.1 _ hl) (fun _ h9 => h9) rfl hdg kk
theorem pM_X7_cutMany (X : CX p m c cc s args Ts own) (hK : va_K D vwCl (TYS cI cZ) s) (hA : AP 31 a) (hP : va_P D vwCl (wM a cI cZ S) H) (hS : va_S (AC 31 a sz) H0 H locs) (hin : ∀ w ∈ wsX70, w ∈ Ts) (hl : Cond.fieldLink own index "CuttingRulesModel" "cutMany" "I" ∈ Ts) {v : Int32} (hdg : decode cc pc = .ok (.putfield index, 3))
    (kk : ∀ (H1 : Heap) (locs1 : List Loc), va_P D vwCl (wM a cI cZ (sI S 9 v)) H1 → va_S (AC 31 a sz) H0 H1 locs1 → W p l e R s m args below meth c H1 locs1 cells slots Q (F0 m (pc + 3) ls rest)) : W p l e R s m args below meth c H locs cells slots Q (F0 m pc ls (.int v :: .ref (a 0) :: rest)) :=
  va_put (D := D) (ci := 7) (v := .int v) (ty := .int) (C := RX7) (T := TX7) (N := 47) X.1 X.2.1 X.2.2.1 hin tyX7 tyX7_ok nmX7 X.2.2.2 hK hP (wM_DA hA) hS 0 rfl rfl 23 (by decide) (X.2.2.1 _ hl) (fun _ h9 => h9) rfl (by decide +kernel) rfl rfl (Nat.le_of_ble_eq_true rfl) hdg (fun H1 locs1 hP1 _ hS1 => kk H1 locs1 hP1 hS1)
theorem gM_X7_cutStage (X : CX p m c cc s args Ts own) (hK : va_K D vwCl (TYS cI cZ) s) (hP : va_P D vwCl (wM a cI cZ S) H) (hin : ∀ w ∈ wsX70, w ∈ Ts) (hl : Cond.fieldLink own index "CuttingRulesModel" "cutStage" "[I" ∈ Ts) (hdg : decode cc pc = .ok (.getfield index, 3))
    (kk : W p l e R s m args below meth c H locs cells slots Q (F0 m (pc + 3) ls (.ref (a 15) :: rest))) : W p l e R s m args below meth c H locs cells slots Q (F0 m pc ls (.ref (a 0) :: rest)) :=
  va_get (D := D) (ci := 7) (v := .ref (a 15)) (C := RX7) (T := TX7) (N := 47) X.1 X.2.1 X.2.2.1 hin X.2.2.2 hK hP 0 rfl rfl 24 (by decide) (X.2.2.1 _ hl) (fun _ h9 => h9) rfl hdg kk
theorem gM_X7_cutAt (X : CX p m c cc s args Ts own) (hK : va_K D vwCl (TYS cI cZ) s) (hP : va_P D vwCl (wM a cI cZ S) H) (hin : ∀ w ∈ wsX70, w ∈ Ts) (hl : Cond.fieldLink own index "CuttingRulesModel" "cutAt" "[I" ∈ Ts) (hdg : decode cc pc = .ok (.getfield index, 3))
    (kk : W p l e R s m args below meth c H locs cells slots Q (F0 m (pc + 3) ls (.ref (a 16) :: rest))) : W p l e R s m args below meth c H locs cells slots Q (F0 m pc ls (.ref (a 0) :: rest)) :=
  va_get (D := D) (ci := 7) (v := .ref (a 16)) (C := RX7) (T := TX7) (N := 47) X.1 X.2.1 X.2.2.1 hin X.2.2.2 hK hP 0 rfl rfl 25 (by decide) (X.2.2.1 _ hl) (fun _ h9 => h9) rfl hdg kk
theorem gM_X7_cutX (X : CX p m c cc s args Ts own) (hK : va_K D vwCl (TYS cI cZ) s) (hP : va_P D vwCl (wM a cI cZ S) H) (hin : ∀ w ∈ wsX70, w ∈ Ts) (hl : Cond.fieldLink own index "CuttingRulesModel" "cutX" "[I" ∈ Ts) (hdg : decode cc pc = .ok (.getfield index, 3))
    (kk : W p l e R s m args below meth c H locs cells slots Q (F0 m (pc + 3) ls (.ref (a 17) :: rest))) : W p l e R s m args below meth c H locs cells slots Q (F0 m pc ls (.ref (a 0) :: rest)) :=
  va_get (D := D) (ci := 7) (v := .ref (a 17)) (C := RX7) (T := TX7) (N := 47) X.1 X.2.1 X.2.2.1 hin X.2.2.2 hK hP 0 rfl rfl 26 (by decide) (X.2.2.1 _ hl) (fun _ h9 => h9) rfl hdg kk
theorem gM_X7_cutY (X : CX p m c cc s args Ts own) (hK : va_K D vwCl (TYS cI cZ) s) (hP : va_P D vwCl (wM a cI cZ S) H) (hin : ∀ w ∈ wsX70, w ∈ Ts) (hl : Cond.fieldLink own index "CuttingRulesModel" "cutY" "[I" ∈ Ts) (hdg : decode cc pc = .ok (.getfield index, 3))
    (kk : W p l e R s m args below meth c H locs cells slots Q (F0 m (pc + 3) ls (.ref (a 18) :: rest))) : W p l e R s m args below meth c H locs cells slots Q (F0 m pc ls (.ref (a 0) :: rest)) :=
  va_get (D := D) (ci := 7) (v := .ref (a 18)) (C := RX7) (T := TX7) (N := 47) X.1 X.2.1 X.2.2.1 hin X.2.2.2 hK hP 0 rfl rfl 27 (by decide) (X.2.2.1 _ hl) (fun _ h9 => h9) rfl hdg kk
theorem gM_X7_cutW (X : CX p m c cc s args Ts own) (hK : va_K D vwCl (TYS cI cZ) s) (hP : va_P D vwCl (wM a cI cZ S) H) (hin : ∀ w ∈ wsX70, w ∈ Ts) (hl : Cond.fieldLink own index "CuttingRulesModel" "cutW" "[I" ∈ Ts) (hdg : decode cc pc = .ok (.getfield index, 3))
    (kk : W p l e R s m args below meth c H locs cells slots Q (F0 m (pc + 3) ls (.ref (a 19) :: rest))) : W p l e R s m args below meth c H locs cells slots Q (F0 m pc ls (.ref (a 0) :: rest)) :=
  va_get (D := D) (ci := 7) (v := .ref (a 19)) (C := RX7) (T := TX7) (N := 47) X.1 X.2.1 X.2.2.1 hin X.2.2.2 hK hP 0 rfl rfl 28 (by decide) (X.2.2.1 _ hl) (fun _ h9 => h9) rfl hdg kk
theorem gM_X7_cutH (X : CX p m c cc s args Ts own) (hK : va_K D vwCl (TYS cI cZ) s) (hP : va_P D vwCl (wM a cI cZ S) H) (hin : ∀ w ∈ wsX70, w ∈ Ts) (hl : Cond.fieldLink own index "CuttingRulesModel" "cutH" "[I" ∈ Ts) (hdg : decode cc pc = .ok (.getfield index, 3))
    (kk : W p l e R s m args below meth c H locs cells slots Q (F0 m (pc + 3) ls (.ref (a 20) :: rest))) : W p l e R s m args below meth c H locs cells slots Q (F0 m pc ls (.ref (a 0) :: rest)) :=
  va_get (D := D) (ci := 7) (v := .ref (a 20)) (C := RX7) (T := TX7) (N := 47) X.1 X.2.1 X.2.2.1 hin X.2.2.2 hK hP 0 rfl rfl 29 (by decide) (X.2.2.1 _ hl) (fun _ h9 => h9) rfl hdg kk
theorem gM_X7_pile (X : CX p m c cc s args Ts own) (hK : va_K D vwCl (TYS cI cZ) s) (hP : va_P D vwCl (wM a cI cZ S) H) (hin : ∀ w ∈ wsX70, w ∈ Ts) (hl : Cond.fieldLink own index "CuttingRulesModel" "pile" "[I" ∈ Ts) (hdg : decode cc pc = .ok (.getfield index, 3))
    (kk : W p l e R s m args below meth c H locs cells slots Q (F0 m (pc + 3) ls (.ref (a 21) :: rest))) : W p l e R s m args below meth c H locs cells slots Q (F0 m pc ls (.ref (a 0) :: rest)) :=
  va_get (D := D) (ci := 7) (v := .ref (a 21)) (C := RX7) (T := TX7) (N := 47) X.1 X.2.1 X.2.2.1 hin X.2.2.2 hK hP 0 rfl rfl 30 (by decide) (X.2.2.1 _ hl) (fun _ h9 => h9) rfl hdg kk
theorem gM_X7_piled (X : CX p m c cc s args Ts own) (hK : va_K D vwCl (TYS cI cZ) s) (hP : va_P D vwCl (wM a cI cZ S) H) (hin : ∀ w ∈ wsX70, w ∈ Ts) (hl : Cond.fieldLink own index "CuttingRulesModel" "piled" "I" ∈ Ts) (hdg : decode cc pc = .ok (.getfield index, 3))
    (kk : W p l e R s m args below meth c H locs cells slots Q (F0 m (pc + 3) ls (.int (S.1 10) :: rest))) : W p l e R s m args below meth c H locs cells slots Q (F0 m pc ls (.ref (a 0) :: rest)) :=
  va_get (D := D) (ci := 7) (v := .int (S.1 10)) (C := RX7) (T := TX7) (N := 47) X.1 X.2.1 X.2.2.1 hin X.2.2.2 hK hP 0 rfl rfl 31 (by decide) (X.2.2.1 _ hl) (fun _ h9 => h9) rfl hdg kk
theorem pM_X7_piled (X : CX p m c cc s args Ts own) (hK : va_K D vwCl (TYS cI cZ) s) (hA : AP 31 a) (hP : va_P D vwCl (wM a cI cZ S) H) (hS : va_S (AC 31 a sz) H0 H locs) (hin : ∀ w ∈ wsX70, w ∈ Ts) (hl : Cond.fieldLink own index "CuttingRulesModel" "piled" "I" ∈ Ts) {v : Int32} (hdg : decode cc pc = .ok (.putfield index, 3))
    (kk : ∀ (H1 : Heap) (locs1 : List Loc), va_P D vwCl (wM a cI cZ (sI S 10 v)) H1 → va_S (AC 31 a sz) H0 H1 locs1 → W p l e R s m args below meth c H1 locs1 cells slots Q (F0 m (pc + 3) ls rest)) : W p l e R s m args below meth c H locs cells slots Q (F0 m pc ls (.int v :: .ref (a 0) :: rest)) :=
  va_put (D := D) (ci := 7) (v := .int v) (ty := .int) (C := RX7) (T := TX7) (N := 47) X.1 X.2.1 X.2.2.1 hin tyX7 tyX7_ok nmX7 X.2.2.2 hK hP (wM_DA hA) hS 0 rfl rfl 31 (by decide) (X.2.2.1 _ hl) (fun _ h9 => h9) rfl (by decide +kernel) rfl rfl (Nat.le_of_ble_eq_true rfl) hdg (fun H1 locs1 hP1 _ hS1 => kk H1 locs1 hP1 hS1)
theorem gM_X7_stocks (X : CX p m c cc s args Ts own) (hK : va_K D vwCl (TYS cI cZ) s) (hP : va_P D vwCl (wM a cI cZ S) H) (hin : ∀ w ∈ wsX70, w ∈ Ts) (hl : Cond.fieldLink own index "CuttingRulesModel" "stocks" "I" ∈ Ts) (hdg : decode cc pc = .ok (.getfield index, 3))
    (kk : W p l e R s m args below meth c H locs cells slots Q (F0 m (pc + 3) ls (.int (S.1 11) :: rest))) : W p l e R s m args below meth c H locs cells slots Q (F0 m pc ls (.ref (a 0) :: rest)) :=
  va_get (D := D) (ci := 7) (v := .int (S.1 11)) (C := RX7) (T := TX7) (N := 47) X.1 X.2.1 X.2.2.1 hin X.2.2.2 hK hP 0 rfl rfl 32 (by decide) (X.2.2.1 _ hl) (fun _ h9 => h9) rfl hdg kk
theorem pM_X7_stocks (X : CX p m c cc s args Ts own) (hK : va_K D vwCl (TYS cI cZ) s) (hA : AP 31 a) (hP : va_P D vwCl (wM a cI cZ S) H) (hS : va_S (AC 31 a sz) H0 H locs) (hin : ∀ w ∈ wsX70, w ∈ Ts) (hl : Cond.fieldLink own index "CuttingRulesModel" "stocks" "I" ∈ Ts) {v : Int32} (hdg : decode cc pc = .ok (.putfield index, 3))
    (kk : ∀ (H1 : Heap) (locs1 : List Loc), va_P D vwCl (wM a cI cZ (sI S 11 v)) H1 → va_S (AC 31 a sz) H0 H1 locs1 → W p l e R s m args below meth c H1 locs1 cells slots Q (F0 m (pc + 3) ls rest)) : W p l e R s m args below meth c H locs cells slots Q (F0 m pc ls (.int v :: .ref (a 0) :: rest)) :=
  va_put (D := D) (ci := 7) (v := .int v) (ty := .int) (C := RX7) (T := TX7) (N := 47) X.1 X.2.1 X.2.2.1 hin tyX7 tyX7_ok nmX7 X.2.2.2 hK hP (wM_DA hA) hS 0 rfl rfl 32 (by decide) (X.2.2.1 _ hl) (fun _ h9 => h9) rfl (by decide +kernel) rfl rfl (Nat.le_of_ble_eq_true rfl) hdg (fun H1 locs1 hP1 _ hS1 => kk H1 locs1 hP1 hS1)
theorem gM_X7_stockLength (X : CX p m c cc s args Ts own) (hK : va_K D vwCl (TYS cI cZ) s) (hP : va_P D vwCl (wM a cI cZ S) H) (hin : ∀ w ∈ wsX70, w ∈ Ts) (hl : Cond.fieldLink own index "CuttingRulesModel" "stockLength" "[I" ∈ Ts) (hdg : decode cc pc = .ok (.getfield index, 3))
    (kk : W p l e R s m args below meth c H locs cells slots Q (F0 m (pc + 3) ls (.ref (a 22) :: rest))) : W p l e R s m args below meth c H locs cells slots Q (F0 m pc ls (.ref (a 0) :: rest)) :=
  va_get (D := D) (ci := 7) (v := .ref (a 22)) (C := RX7) (T := TX7) (N := 47) X.1 X.2.1 X.2.2.1 hin X.2.2.2 hK hP 0 rfl rfl 33 (by decide) (X.2.2.1 _ hl) (fun _ h9 => h9) rfl hdg kk
theorem gM_X7_stockPrice (X : CX p m c cc s args Ts own) (hK : va_K D vwCl (TYS cI cZ) s) (hP : va_P D vwCl (wM a cI cZ S) H) (hin : ∀ w ∈ wsX70, w ∈ Ts) (hl : Cond.fieldLink own index "CuttingRulesModel" "stockPrice" "[I" ∈ Ts) (hdg : decode cc pc = .ok (.getfield index, 3))
    (kk : W p l e R s m args below meth c H locs cells slots Q (F0 m (pc + 3) ls (.ref (a 23) :: rest))) : W p l e R s m args below meth c H locs cells slots Q (F0 m pc ls (.ref (a 0) :: rest)) :=
  va_get (D := D) (ci := 7) (v := .ref (a 23)) (C := RX7) (T := TX7) (N := 47) X.1 X.2.1 X.2.2.1 hin X.2.2.2 hK hP 0 rfl rfl 34 (by decide) (X.2.2.1 _ hl) (fun _ h9 => h9) rfl hdg kk
theorem gM_X7_orders (X : CX p m c cc s args Ts own) (hK : va_K D vwCl (TYS cI cZ) s) (hP : va_P D vwCl (wM a cI cZ S) H) (hin : ∀ w ∈ wsX70, w ∈ Ts) (hl : Cond.fieldLink own index "CuttingRulesModel" "orders" "I" ∈ Ts) (hdg : decode cc pc = .ok (.getfield index, 3))
    (kk : W p l e R s m args below meth c H locs cells slots Q (F0 m (pc + 3) ls (.int (S.1 12) :: rest))) : W p l e R s m args below meth c H locs cells slots Q (F0 m pc ls (.ref (a 0) :: rest)) :=
  va_get (D := D) (ci := 7) (v := .int (S.1 12)) (C := RX7) (T := TX7) (N := 47) X.1 X.2.1 X.2.2.1 hin X.2.2.2 hK hP 0 rfl rfl 35 (by decide) (X.2.2.1 _ hl) (fun _ h9 => h9) rfl hdg kk
theorem pM_X7_orders (X : CX p m c cc s args Ts own) (hK : va_K D vwCl (TYS cI cZ) s) (hA : AP 31 a) (hP : va_P D vwCl (wM a cI cZ S) H) (hS : va_S (AC 31 a sz) H0 H locs) (hin : ∀ w ∈ wsX70, w ∈ Ts) (hl : Cond.fieldLink own index "CuttingRulesModel" "orders" "I" ∈ Ts) {v : Int32} (hdg : decode cc pc = .ok (.putfield index, 3))
    (kk : ∀ (H1 : Heap) (locs1 : List Loc), va_P D vwCl (wM a cI cZ (sI S 12 v)) H1 → va_S (AC 31 a sz) H0 H1 locs1 → W p l e R s m args below meth c H1 locs1 cells slots Q (F0 m (pc + 3) ls rest)) : W p l e R s m args below meth c H locs cells slots Q (F0 m pc ls (.int v :: .ref (a 0) :: rest)) :=
  va_put (D := D) (ci := 7) (v := .int v) (ty := .int) (C := RX7) (T := TX7) (N := 47) X.1 X.2.1 X.2.2.1 hin tyX7 tyX7_ok nmX7 X.2.2.2 hK hP (wM_DA hA) hS 0 rfl rfl 35 (by decide) (X.2.2.1 _ hl) (fun _ h9 => h9) rfl (by decide +kernel) rfl rfl (Nat.le_of_ble_eq_true rfl) hdg (fun H1 locs1 hP1 _ hS1 => kk H1 locs1 hP1 hS1)
theorem gM_X7_orderLength (X : CX p m c cc s args Ts own) (hK : va_K D vwCl (TYS cI cZ) s) (hP : va_P D vwCl (wM a cI cZ S) H) (hin : ∀ w ∈ wsX70, w ∈ Ts) (hl : Cond.fieldLink own index "CuttingRulesModel" "orderLength" "[I" ∈ Ts) (hdg : decode cc pc = .ok (.getfield index, 3))
    (kk : W p l e R s m args below meth c H locs cells slots Q (F0 m (pc + 3) ls (.ref (a 24) :: rest))) : W p l e R s m args below meth c H locs cells slots Q (F0 m pc ls (.ref (a 0) :: rest)) :=
  va_get (D := D) (ci := 7) (v := .ref (a 24)) (C := RX7) (T := TX7) (N := 47) X.1 X.2.1 X.2.2.1 hin X.2.2.2 hK hP 0 rfl rfl 36 (by decide) (X.2.2.1 _ hl) (fun _ h9 => h9) rfl hdg kk
theorem gM_X7_orderDemand (X : CX p m c cc s args Ts own) (hK : va_K D vwCl (TYS cI cZ) s) (hP : va_P D vwCl (wM a cI cZ S) H) (hin : ∀ w ∈ wsX70, w ∈ Ts) (hl : Cond.fieldLink own index "CuttingRulesModel" "orderDemand" "[I" ∈ Ts) (hdg : decode cc pc = .ok (.getfield index, 3))
    (kk : W p l e R s m args below meth c H locs cells slots Q (F0 m (pc + 3) ls (.ref (a 25) :: rest))) : W p l e R s m args below meth c H locs cells slots Q (F0 m pc ls (.ref (a 0) :: rest)) :=
  va_get (D := D) (ci := 7) (v := .ref (a 25)) (C := RX7) (T := TX7) (N := 47) X.1 X.2.1 X.2.2.1 hin X.2.2.2 hK hP 0 rfl rfl 37 (by decide) (X.2.2.1 _ hl) (fun _ h9 => h9) rfl hdg kk
theorem gM_X7_blade (X : CX p m c cc s args Ts own) (hK : va_K D vwCl (TYS cI cZ) s) (hP : va_P D vwCl (wM a cI cZ S) H) (hin : ∀ w ∈ wsX70, w ∈ Ts) (hl : Cond.fieldLink own index "CuttingRulesModel" "blade" "I" ∈ Ts) (hdg : decode cc pc = .ok (.getfield index, 3))
    (kk : W p l e R s m args below meth c H locs cells slots Q (F0 m (pc + 3) ls (.int (S.1 13) :: rest))) : W p l e R s m args below meth c H locs cells slots Q (F0 m pc ls (.ref (a 0) :: rest)) :=
  va_get (D := D) (ci := 7) (v := .int (S.1 13)) (C := RX7) (T := TX7) (N := 47) X.1 X.2.1 X.2.2.1 hin X.2.2.2 hK hP 0 rfl rfl 38 (by decide) (X.2.2.1 _ hl) (fun _ h9 => h9) rfl hdg kk
theorem pM_X7_blade (X : CX p m c cc s args Ts own) (hK : va_K D vwCl (TYS cI cZ) s) (hA : AP 31 a) (hP : va_P D vwCl (wM a cI cZ S) H) (hS : va_S (AC 31 a sz) H0 H locs) (hin : ∀ w ∈ wsX70, w ∈ Ts) (hl : Cond.fieldLink own index "CuttingRulesModel" "blade" "I" ∈ Ts) {v : Int32} (hdg : decode cc pc = .ok (.putfield index, 3))
    (kk : ∀ (H1 : Heap) (locs1 : List Loc), va_P D vwCl (wM a cI cZ (sI S 13 v)) H1 → va_S (AC 31 a sz) H0 H1 locs1 → W p l e R s m args below meth c H1 locs1 cells slots Q (F0 m (pc + 3) ls rest)) : W p l e R s m args below meth c H locs cells slots Q (F0 m pc ls (.int v :: .ref (a 0) :: rest)) :=
  va_put (D := D) (ci := 7) (v := .int v) (ty := .int) (C := RX7) (T := TX7) (N := 47) X.1 X.2.1 X.2.2.1 hin tyX7 tyX7_ok nmX7 X.2.2.2 hK hP (wM_DA hA) hS 0 rfl rfl 38 (by decide) (X.2.2.1 _ hl) (fun _ h9 => h9) rfl (by decide +kernel) rfl rfl (Nat.le_of_ble_eq_true rfl) hdg (fun H1 locs1 hP1 _ hS1 => kk H1 locs1 hP1 hS1)
theorem gM_X7_isListed (X : CX p m c cc s args Ts own) (hK : va_K D vwCl (TYS cI cZ) s) (hP : va_P D vwCl (wM a cI cZ S) H) (hin : ∀ w ∈ wsX70, w ∈ Ts) (hl : Cond.fieldLink own index "CuttingRulesModel" "isListed" "Z" ∈ Ts) (hdg : decode cc pc = .ok (.getfield index, 3))
    (kk : W p l e R s m args below meth c H locs cells slots Q (F0 m (pc + 3) ls (.int (S.1 14) :: rest))) : W p l e R s m args below meth c H locs cells slots Q (F0 m pc ls (.ref (a 0) :: rest)) :=
  va_get (D := D) (ci := 7) (v := .int (S.1 14)) (C := RX7) (T := TX7) (N := 47) X.1 X.2.1 X.2.2.1 hin X.2.2.2 hK hP 0 rfl rfl 39 (by decide) (X.2.2.1 _ hl) (fun _ h9 => h9) rfl hdg kk
theorem pM_X7_isListed (X : CX p m c cc s args Ts own) (hK : va_K D vwCl (TYS cI cZ) s) (hA : AP 31 a) (hP : va_P D vwCl (wM a cI cZ S) H) (hS : va_S (AC 31 a sz) H0 H locs) (hin : ∀ w ∈ wsX70, w ∈ Ts) (hl : Cond.fieldLink own index "CuttingRulesModel" "isListed" "Z" ∈ Ts) {v : Int32} (hz : narrow .boolean (.int v) = .int v ∧ fits .boolean (.int v) = true) (hdg : decode cc pc = .ok (.putfield index, 3))
    (kk : ∀ (H1 : Heap) (locs1 : List Loc), va_P D vwCl (wM a cI cZ (sI S 14 v)) H1 → va_S (AC 31 a sz) H0 H1 locs1 → W p l e R s m args below meth c H1 locs1 cells slots Q (F0 m (pc + 3) ls rest)) : W p l e R s m args below meth c H locs cells slots Q (F0 m pc ls (.int v :: .ref (a 0) :: rest)) :=
  va_put (D := D) (ci := 7) (v := .int v) (ty := .boolean) (C := RX7) (T := TX7) (N := 47) X.1 X.2.1 X.2.2.1 hin tyX7 tyX7_ok nmX7 X.2.2.2 hK hP (wM_DA hA) hS 0 rfl rfl 39 (by decide) (X.2.2.1 _ hl) (fun _ h9 => h9) rfl (by decide +kernel) hz.1 hz.2 (Nat.le_of_ble_eq_true rfl) hdg (fun H1 locs1 hP1 _ hS1 => kk H1 locs1 hP1 hS1)
theorem gM_X7_isShort (X : CX p m c cc s args Ts own) (hK : va_K D vwCl (TYS cI cZ) s) (hP : va_P D vwCl (wM a cI cZ S) H) (hin : ∀ w ∈ wsX70, w ∈ Ts) (hl : Cond.fieldLink own index "CuttingRulesModel" "isShort" "Z" ∈ Ts) (hdg : decode cc pc = .ok (.getfield index, 3))
    (kk : W p l e R s m args below meth c H locs cells slots Q (F0 m (pc + 3) ls (.int (S.1 15) :: rest))) : W p l e R s m args below meth c H locs cells slots Q (F0 m pc ls (.ref (a 0) :: rest)) :=
  va_get (D := D) (ci := 7) (v := .int (S.1 15)) (C := RX7) (T := TX7) (N := 47) X.1 X.2.1 X.2.2.1 hin X.2.2.2 hK hP 0 rfl rfl 40 (by decide) (X.2.2.1 _ hl) (fun _ h9 => h9) rfl hdg kk
theorem pM_X7_isShort (X : CX p m c cc s args Ts own) (hK : va_K D vwCl (TYS cI cZ) s) (hA : AP 31 a) (hP : va_P D vwCl (wM a cI cZ S) H) (hS : va_S (AC 31 a sz) H0 H locs) (hin : ∀ w ∈ wsX70, w ∈ Ts) (hl : Cond.fieldLink own index "CuttingRulesModel" "isShort" "Z" ∈ Ts) {v : Int32} (hz : narrow .boolean (.int v) = .int v ∧ fits .boolean (.int v) = true) (hdg : decode cc pc = .ok (.putfield index, 3))
    (kk : ∀ (H1 : Heap) (locs1 : List Loc), va_P D vwCl (wM a cI cZ (sI S 15 v)) H1 → va_S (AC 31 a sz) H0 H1 locs1 → W p l e R s m args below meth c H1 locs1 cells slots Q (F0 m (pc + 3) ls rest)) : W p l e R s m args below meth c H locs cells slots Q (F0 m pc ls (.int v :: .ref (a 0) :: rest)) :=
  va_put (D := D) (ci := 7) (v := .int v) (ty := .boolean) (C := RX7) (T := TX7) (N := 47) X.1 X.2.1 X.2.2.1 hin tyX7 tyX7_ok nmX7 X.2.2.2 hK hP (wM_DA hA) hS 0 rfl rfl 40 (by decide) (X.2.2.1 _ hl) (fun _ h9 => h9) rfl (by decide +kernel) hz.1 hz.2 (Nat.le_of_ble_eq_true rfl) hdg (fun H1 locs1 hP1 _ hS1 => kk H1 locs1 hP1 hS1)
theorem gM_X7_prices (X : CX p m c cc s args Ts own) (hK : va_K D vwCl (TYS cI cZ) s) (hP : va_P D vwCl (wM a cI cZ S) H) (hin : ∀ w ∈ wsX70, w ∈ Ts) (hl : Cond.fieldLink own index "CuttingRulesModel" "prices" "[I" ∈ Ts) (hdg : decode cc pc = .ok (.getfield index, 3))
    (kk : W p l e R s m args below meth c H locs cells slots Q (F0 m (pc + 3) ls (.ref (a 26) :: rest))) : W p l e R s m args below meth c H locs cells slots Q (F0 m pc ls (.ref (a 0) :: rest)) :=
  va_get (D := D) (ci := 7) (v := .ref (a 26)) (C := RX7) (T := TX7) (N := 47) X.1 X.2.1 X.2.2.1 hin X.2.2.2 hK hP 0 rfl rfl 41 (by decide) (X.2.2.1 _ hl) (fun _ h9 => h9) rfl hdg kk
theorem gM_X7_fewest (X : CX p m c cc s args Ts own) (hK : va_K D vwCl (TYS cI cZ) s) (hP : va_P D vwCl (wM a cI cZ S) H) (hin : ∀ w ∈ wsX70, w ∈ Ts) (hl : Cond.fieldLink own index "CuttingRulesModel" "fewest" "[I" ∈ Ts) (hdg : decode cc pc = .ok (.getfield index, 3))
    (kk : W p l e R s m args below meth c H locs cells slots Q (F0 m (pc + 3) ls (.ref (a 27) :: rest))) : W p l e R s m args below meth c H locs cells slots Q (F0 m pc ls (.ref (a 0) :: rest)) :=
  va_get (D := D) (ci := 7) (v := .ref (a 27)) (C := RX7) (T := TX7) (N := 47) X.1 X.2.1 X.2.2.1 hin X.2.2.2 hK hP 0 rfl rfl 42 (by decide) (X.2.2.1 _ hl) (fun _ h9 => h9) rfl hdg kk
theorem gM_X7_patternStock (X : CX p m c cc s args Ts own) (hK : va_K D vwCl (TYS cI cZ) s) (hP : va_P D vwCl (wM a cI cZ S) H) (hin : ∀ w ∈ wsX70, w ∈ Ts) (hl : Cond.fieldLink own index "CuttingRulesModel" "patternStock" "[I" ∈ Ts) (hdg : decode cc pc = .ok (.getfield index, 3))
    (kk : W p l e R s m args below meth c H locs cells slots Q (F0 m (pc + 3) ls (.ref (a 28) :: rest))) : W p l e R s m args below meth c H locs cells slots Q (F0 m pc ls (.ref (a 0) :: rest)) :=
  va_get (D := D) (ci := 7) (v := .ref (a 28)) (C := RX7) (T := TX7) (N := 47) X.1 X.2.1 X.2.2.1 hin X.2.2.2 hK hP 0 rfl rfl 43 (by decide) (X.2.2.1 _ hl) (fun _ h9 => h9) rfl hdg kk
theorem gM_X7_patternWants (X : CX p m c cc s args Ts own) (hK : va_K D vwCl (TYS cI cZ) s) (hP : va_P D vwCl (wM a cI cZ S) H) (hin : ∀ w ∈ wsX70, w ∈ Ts) (hl : Cond.fieldLink own index "CuttingRulesModel" "patternWants" "[I" ∈ Ts) (hdg : decode cc pc = .ok (.getfield index, 3))
    (kk : W p l e R s m args below meth c H locs cells slots Q (F0 m (pc + 3) ls (.ref (a 29) :: rest))) : W p l e R s m args below meth c H locs cells slots Q (F0 m pc ls (.ref (a 0) :: rest)) :=
  va_get (D := D) (ci := 7) (v := .ref (a 29)) (C := RX7) (T := TX7) (N := 47) X.1 X.2.1 X.2.2.1 hin X.2.2.2 hK hP 0 rfl rfl 44 (by decide) (X.2.2.1 _ hl) (fun _ h9 => h9) rfl hdg kk
theorem gM_X7_barMany (X : CX p m c cc s args Ts own) (hK : va_K D vwCl (TYS cI cZ) s) (hP : va_P D vwCl (wM a cI cZ S) H) (hin : ∀ w ∈ wsX70, w ∈ Ts) (hl : Cond.fieldLink own index "CuttingRulesModel" "barMany" "I" ∈ Ts) (hdg : decode cc pc = .ok (.getfield index, 3))
    (kk : W p l e R s m args below meth c H locs cells slots Q (F0 m (pc + 3) ls (.int (S.1 16) :: rest))) : W p l e R s m args below meth c H locs cells slots Q (F0 m pc ls (.ref (a 0) :: rest)) :=
  va_get (D := D) (ci := 7) (v := .int (S.1 16)) (C := RX7) (T := TX7) (N := 47) X.1 X.2.1 X.2.2.1 hin X.2.2.2 hK hP 0 rfl rfl 45 (by decide) (X.2.2.1 _ hl) (fun _ h9 => h9) rfl hdg kk
theorem pM_X7_barMany (X : CX p m c cc s args Ts own) (hK : va_K D vwCl (TYS cI cZ) s) (hA : AP 31 a) (hP : va_P D vwCl (wM a cI cZ S) H) (hS : va_S (AC 31 a sz) H0 H locs) (hin : ∀ w ∈ wsX70, w ∈ Ts) (hl : Cond.fieldLink own index "CuttingRulesModel" "barMany" "I" ∈ Ts) {v : Int32} (hdg : decode cc pc = .ok (.putfield index, 3))
    (kk : ∀ (H1 : Heap) (locs1 : List Loc), va_P D vwCl (wM a cI cZ (sI S 16 v)) H1 → va_S (AC 31 a sz) H0 H1 locs1 → W p l e R s m args below meth c H1 locs1 cells slots Q (F0 m (pc + 3) ls rest)) : W p l e R s m args below meth c H locs cells slots Q (F0 m pc ls (.int v :: .ref (a 0) :: rest)) :=
  va_put (D := D) (ci := 7) (v := .int v) (ty := .int) (C := RX7) (T := TX7) (N := 47) X.1 X.2.1 X.2.2.1 hin tyX7 tyX7_ok nmX7 X.2.2.2 hK hP (wM_DA hA) hS 0 rfl rfl 45 (by decide) (X.2.2.1 _ hl) (fun _ h9 => h9) rfl (by decide +kernel) rfl rfl (Nat.le_of_ble_eq_true rfl) hdg (fun H1 locs1 hP1 _ hS1 => kk H1 locs1 hP1 hS1)
theorem gM_X7_barPattern (X : CX p m c cc s args Ts own) (hK : va_K D vwCl (TYS cI cZ) s) (hP : va_P D vwCl (wM a cI cZ S) H) (hin : ∀ w ∈ wsX70, w ∈ Ts) (hl : Cond.fieldLink own index "CuttingRulesModel" "barPattern" "[I" ∈ Ts) (hdg : decode cc pc = .ok (.getfield index, 3))
    (kk : W p l e R s m args below meth c H locs cells slots Q (F0 m (pc + 3) ls (.ref (a 30) :: rest))) : W p l e R s m args below meth c H locs cells slots Q (F0 m pc ls (.ref (a 0) :: rest)) :=
  va_get (D := D) (ci := 7) (v := .ref (a 30)) (C := RX7) (T := TX7) (N := 47) X.1 X.2.1 X.2.2.1 hin X.2.2.2 hK hP 0 rfl rfl 46 (by decide) (X.2.2.1 _ hl) (fun _ h9 => h9) rfl hdg kk
theorem rM_X7_defectX (X : CX p m c cc s args Ts own) (hK : va_K D vwCl (TYS cI cZ) s) (hP : va_P D vwCl (wM a cI cZ S) H) {i : Int32} (hin : inB i 6 = true) (hdg : decode cc pc = .ok (.iaload, 1))
    (kk : W p l e R s m args below meth c H locs cells slots Q (F0 m (pc + 1) ls (.int (S.2 0 i.toNatClampNeg) :: rest))) : W p l e R s m args below meth c H locs cells slots Q (F0 m pc ls (.int i :: .ref (a 1) :: rest)) :=
  va_iald X.1 X.2.1 hK hP 1 0 rfl rfl (inB_ok hin) hdg kk
theorem sM_X7_defectX (X : CX p m c cc s args Ts own) (hK : va_K D vwCl (TYS cI cZ) s) (hA : AP 31 a) (hP : va_P D vwCl (wM a cI cZ S) H) (hS : va_S (AC 31 a sz) H0 H locs) {i x : Int32} (hin : inB i 6 = true) (hdg : decode cc pc = .ok (.iastore, 1))
    (kk : ∀ (H1 : Heap) (locs1 : List Loc), va_P D vwCl (wM a cI cZ (sG S 0 i x)) H1 → va_S (AC 31 a sz) H0 H1 locs1 → W p l e R s m args below meth c H1 locs1 cells slots Q (F0 m (pc + 1) ls rest)) : W p l e R s m args below meth c H locs cells slots Q (F0 m pc ls (.int x :: .int i :: .ref (a 1) :: rest)) :=
  va_iast X.1 X.2.1 hK hP (wM_DA hA) hS 1 0 rfl rfl (inB_ok hin) hdg (fun H1 locs1 hP1 _ hS1 => kk H1 locs1 hP1 hS1)
theorem nM_X7_defectX (X : CX p m c cc s args Ts own) (hK : va_K D vwCl (TYS cI cZ) s) (hP : va_P D vwCl (wM a cI cZ S) H) (hdg : decode cc pc = .ok (.arraylength, 1))
    (kk : W p l e R s m args below meth c H locs cells slots Q (F0 m (pc + 1) ls (.int (6 : Int32) :: rest))) : W p l e R s m args below meth c H locs cells slots Q (F0 m pc ls (.ref (a 1) :: rest)) :=
  va_alen X.1 X.2.1 hK hP 1 0 rfl rfl rfl hdg kk
theorem rM_X7_defectY (X : CX p m c cc s args Ts own) (hK : va_K D vwCl (TYS cI cZ) s) (hP : va_P D vwCl (wM a cI cZ S) H) {i : Int32} (hin : inB i 6 = true) (hdg : decode cc pc = .ok (.iaload, 1))
    (kk : W p l e R s m args below meth c H locs cells slots Q (F0 m (pc + 1) ls (.int (S.2 1 i.toNatClampNeg) :: rest))) : W p l e R s m args below meth c H locs cells slots Q (F0 m pc ls (.int i :: .ref (a 2) :: rest)) :=
  va_iald X.1 X.2.1 hK hP 2 0 rfl rfl (inB_ok hin) hdg kk
theorem sM_X7_defectY (X : CX p m c cc s args Ts own) (hK : va_K D vwCl (TYS cI cZ) s) (hA : AP 31 a) (hP : va_P D vwCl (wM a cI cZ S) H) (hS : va_S (AC 31 a sz) H0 H locs) {i x : Int32} (hin : inB i 6 = true) (hdg : decode cc pc = .ok (.iastore, 1))
    (kk : ∀ (H1 : Heap) (locs1 : List Loc), va_P D vwCl (wM a cI cZ (sG S 1 i x)) H1 → va_S (AC 31 a sz) H0 H1 locs1 → W p l e R s m args below meth c H1 locs1 cells slots Q (F0 m (pc + 1) ls rest)) : W p l e R s m args below meth c H locs cells slots Q (F0 m pc ls (.int x :: .int i :: .ref (a 2) :: rest)) :=
  va_iast X.1 X.2.1 hK hP (wM_DA hA) hS 2 0 rfl rfl (inB_ok hin) hdg (fun H1 locs1 hP1 _ hS1 => kk H1 locs1 hP1 hS1)
theorem nM_X7_defectY (X : CX p m c cc s args Ts own) (hK : va_K D vwCl (TYS cI cZ) s) (hP : va_P D vwCl (wM a cI cZ S) H) (hdg : decode cc pc = .ok (.arraylength, 1))
    (kk : W p l e R s m args below meth c H locs cells slots Q (F0 m (pc + 1) ls (.int (6 : Int32) :: rest))) : W p l e R s m args below meth c H locs cells slots Q (F0 m pc ls (.ref (a 2) :: rest)) :=
  va_alen X.1 X.2.1 hK hP 2 0 rfl rfl rfl hdg kk
theorem rM_X7_defectW (X : CX p m c cc s args Ts own) (hK : va_K D vwCl (TYS cI cZ) s) (hP : va_P D vwCl (wM a cI cZ S) H) {i : Int32} (hin : inB i 6 = true) (hdg : decode cc pc = .ok (.iaload, 1))
    (kk : W p l e R s m args below meth c H locs cells slots Q (F0 m (pc + 1) ls (.int (S.2 2 i.toNatClampNeg) :: rest))) : W p l e R s m args below meth c H locs cells slots Q (F0 m pc ls (.int i :: .ref (a 3) :: rest)) :=
  va_iald X.1 X.2.1 hK hP 3 0 rfl rfl (inB_ok hin) hdg kk
theorem sM_X7_defectW (X : CX p m c cc s args Ts own) (hK : va_K D vwCl (TYS cI cZ) s) (hA : AP 31 a) (hP : va_P D vwCl (wM a cI cZ S) H) (hS : va_S (AC 31 a sz) H0 H locs) {i x : Int32} (hin : inB i 6 = true) (hdg : decode cc pc = .ok (.iastore, 1))
    (kk : ∀ (H1 : Heap) (locs1 : List Loc), va_P D vwCl (wM a cI cZ (sG S 2 i x)) H1 → va_S (AC 31 a sz) H0 H1 locs1 → W p l e R s m args below meth c H1 locs1 cells slots Q (F0 m (pc + 1) ls rest)) : W p l e R s m args below meth c H locs cells slots Q (F0 m pc ls (.int x :: .int i :: .ref (a 3) :: rest)) :=
  va_iast X.1 X.2.1 hK hP (wM_DA hA) hS 3 0 rfl rfl (inB_ok hin) hdg (fun H1 locs1 hP1 _ hS1 => kk H1 locs1 hP1 hS1)
theorem nM_X7_defectW (X : CX p m c cc s args Ts own) (hK : va_K D vwCl (TYS cI cZ) s) (hP : va_P D vwCl (wM a cI cZ S) H) (hdg : decode cc pc = .ok (.arraylength, 1))
    (kk : W p l e R s m args below meth c H locs cells slots Q (F0 m (pc + 1) ls (.int (6 : Int32) :: rest))) : W p l e R s m args below meth c H locs cells slots Q (F0 m pc ls (.ref (a 3) :: rest)) :=
  va_alen X.1 X.2.1 hK hP 3 0 rfl rfl rfl hdg kk
theorem rM_X7_defectH (X : CX p m c cc s args Ts own) (hK : va_K D vwCl (TYS cI cZ) s) (hP : va_P D vwCl (wM a cI cZ S) H) {i : Int32} (hin : inB i 6 = true) (hdg : decode cc pc = .ok (.iaload, 1))
    (kk : W p l e R s m args below meth c H locs cells slots Q (F0 m (pc + 1) ls (.int (S.2 3 i.toNatClampNeg) :: rest))) : W p l e R s m args below meth c H locs cells slots Q (F0 m pc ls (.int i :: .ref (a 4) :: rest)) :=
  va_iald X.1 X.2.1 hK hP 4 0 rfl rfl (inB_ok hin) hdg kk
theorem sM_X7_defectH (X : CX p m c cc s args Ts own) (hK : va_K D vwCl (TYS cI cZ) s) (hA : AP 31 a) (hP : va_P D vwCl (wM a cI cZ S) H) (hS : va_S (AC 31 a sz) H0 H locs) {i x : Int32} (hin : inB i 6 = true) (hdg : decode cc pc = .ok (.iastore, 1))
    (kk : ∀ (H1 : Heap) (locs1 : List Loc), va_P D vwCl (wM a cI cZ (sG S 3 i x)) H1 → va_S (AC 31 a sz) H0 H1 locs1 → W p l e R s m args below meth c H1 locs1 cells slots Q (F0 m (pc + 1) ls rest)) : W p l e R s m args below meth c H locs cells slots Q (F0 m pc ls (.int x :: .int i :: .ref (a 4) :: rest)) :=
  va_iast X.1 X.2.1 hK hP (wM_DA hA) hS 4 0 rfl rfl (inB_ok hin) hdg (fun H1 locs1 hP1 _ hS1 => kk H1 locs1 hP1 hS1)
theorem nM_X7_defectH (X : CX p m c cc s args Ts own) (hK : va_K D vwCl (TYS cI cZ) s) (hP : va_P D vwCl (wM a cI cZ S) H) (hdg : decode cc pc = .ok (.arraylength, 1))
    (kk : W p l e R s m args below meth c H locs cells slots Q (F0 m (pc + 1) ls (.int (6 : Int32) :: rest))) : W p l e R s m args below meth c H locs cells slots Q (F0 m pc ls (.ref (a 4) :: rest)) :=
  va_alen X.1 X.2.1 hK hP 4 0 rfl rfl rfl hdg kk
theorem rM_X7_kindW (X : CX p m c cc s args Ts own) (hK : va_K D vwCl (TYS cI cZ) s) (hP : va_P D vwCl (wM a cI cZ S) H) {i : Int32} (hin : inB i 8 = true) (hdg : decode cc pc = .ok (.iaload, 1))
    (kk : W p l e R s m args below meth c H locs cells slots Q (F0 m (pc + 1) ls (.int (S.2 4 i.toNatClampNeg) :: rest))) : W p l e R s m args below meth c H locs cells slots Q (F0 m pc ls (.int i :: .ref (a 5) :: rest)) :=
  va_iald X.1 X.2.1 hK hP 5 0 rfl rfl (inB_ok hin) hdg kk
theorem sM_X7_kindW (X : CX p m c cc s args Ts own) (hK : va_K D vwCl (TYS cI cZ) s) (hA : AP 31 a) (hP : va_P D vwCl (wM a cI cZ S) H) (hS : va_S (AC 31 a sz) H0 H locs) {i x : Int32} (hin : inB i 8 = true) (hdg : decode cc pc = .ok (.iastore, 1))
    (kk : ∀ (H1 : Heap) (locs1 : List Loc), va_P D vwCl (wM a cI cZ (sG S 4 i x)) H1 → va_S (AC 31 a sz) H0 H1 locs1 → W p l e R s m args below meth c H1 locs1 cells slots Q (F0 m (pc + 1) ls rest)) : W p l e R s m args below meth c H locs cells slots Q (F0 m pc ls (.int x :: .int i :: .ref (a 5) :: rest)) :=
  va_iast X.1 X.2.1 hK hP (wM_DA hA) hS 5 0 rfl rfl (inB_ok hin) hdg (fun H1 locs1 hP1 _ hS1 => kk H1 locs1 hP1 hS1)
theorem nM_X7_kindW (X : CX p m c cc s args Ts own) (hK : va_K D vwCl (TYS cI cZ) s) (hP : va_P D vwCl (wM a cI cZ S) H) (hdg : decode cc pc = .ok (.arraylength, 1))
    (kk : W p l e R s m args below meth c H locs cells slots Q (F0 m (pc + 1) ls (.int (8 : Int32) :: rest))) : W p l e R s m args below meth c H locs cells slots Q (F0 m pc ls (.ref (a 5) :: rest)) :=
  va_alen X.1 X.2.1 hK hP 5 0 rfl rfl rfl hdg kk
theorem rM_X7_kindH (X : CX p m c cc s args Ts own) (hK : va_K D vwCl (TYS cI cZ) s) (hP : va_P D vwCl (wM a cI cZ S) H) {i : Int32} (hin : inB i 8 = true) (hdg : decode cc pc = .ok (.iaload, 1))
    (kk : W p l e R s m args below meth c H locs cells slots Q (F0 m (pc + 1) ls (.int (S.2 5 i.toNatClampNeg) :: rest))) : W p l e R s m args below meth c H locs cells slots Q (F0 m pc ls (.int i :: .ref (a 6) :: rest)) :=
  va_iald X.1 X.2.1 hK hP 6 0 rfl rfl (inB_ok hin) hdg kk
theorem sM_X7_kindH (X : CX p m c cc s args Ts own) (hK : va_K D vwCl (TYS cI cZ) s) (hA : AP 31 a) (hP : va_P D vwCl (wM a cI cZ S) H) (hS : va_S (AC 31 a sz) H0 H locs) {i x : Int32} (hin : inB i 8 = true) (hdg : decode cc pc = .ok (.iastore, 1))
    (kk : ∀ (H1 : Heap) (locs1 : List Loc), va_P D vwCl (wM a cI cZ (sG S 5 i x)) H1 → va_S (AC 31 a sz) H0 H1 locs1 → W p l e R s m args below meth c H1 locs1 cells slots Q (F0 m (pc + 1) ls rest)) : W p l e R s m args below meth c H locs cells slots Q (F0 m pc ls (.int x :: .int i :: .ref (a 6) :: rest)) :=
  va_iast X.1 X.2.1 hK hP (wM_DA hA) hS 6 0 rfl rfl (inB_ok hin) hdg (fun H1 locs1 hP1 _ hS1 => kk H1 locs1 hP1 hS1)
theorem nM_X7_kindH (X : CX p m c cc s args Ts own) (hK : va_K D vwCl (TYS cI cZ) s) (hP : va_P D vwCl (wM a cI cZ S) H) (hdg : decode cc pc = .ok (.arraylength, 1))
    (kk : W p l e R s m args below meth c H locs cells slots Q (F0 m (pc + 1) ls (.int (8 : Int32) :: rest))) : W p l e R s m args below meth c H locs cells slots Q (F0 m pc ls (.ref (a 6) :: rest)) :=
  va_alen X.1 X.2.1 hK hP 6 0 rfl rfl rfl hdg kk
theorem rM_X7_kindValue (X : CX p m c cc s args Ts own) (hK : va_K D vwCl (TYS cI cZ) s) (hP : va_P D vwCl (wM a cI cZ S) H) {i : Int32} (hin : inB i 8 = true) (hdg : decode cc pc = .ok (.iaload, 1))
    (kk : W p l e R s m args below meth c H locs cells slots Q (F0 m (pc + 1) ls (.int (S.2 6 i.toNatClampNeg) :: rest))) : W p l e R s m args below meth c H locs cells slots Q (F0 m pc ls (.int i :: .ref (a 7) :: rest)) :=
  va_iald X.1 X.2.1 hK hP 7 0 rfl rfl (inB_ok hin) hdg kk
theorem sM_X7_kindValue (X : CX p m c cc s args Ts own) (hK : va_K D vwCl (TYS cI cZ) s) (hA : AP 31 a) (hP : va_P D vwCl (wM a cI cZ S) H) (hS : va_S (AC 31 a sz) H0 H locs) {i x : Int32} (hin : inB i 8 = true) (hdg : decode cc pc = .ok (.iastore, 1))
    (kk : ∀ (H1 : Heap) (locs1 : List Loc), va_P D vwCl (wM a cI cZ (sG S 6 i x)) H1 → va_S (AC 31 a sz) H0 H1 locs1 → W p l e R s m args below meth c H1 locs1 cells slots Q (F0 m (pc + 1) ls rest)) : W p l e R s m args below meth c H locs cells slots Q (F0 m pc ls (.int x :: .int i :: .ref (a 7) :: rest)) :=
  va_iast X.1 X.2.1 hK hP (wM_DA hA) hS 7 0 rfl rfl (inB_ok hin) hdg (fun H1 locs1 hP1 _ hS1 => kk H1 locs1 hP1 hS1)
theorem nM_X7_kindValue (X : CX p m c cc s args Ts own) (hK : va_K D vwCl (TYS cI cZ) s) (hP : va_P D vwCl (wM a cI cZ S) H) (hdg : decode cc pc = .ok (.arraylength, 1))
    (kk : W p l e R s m args below meth c H locs cells slots Q (F0 m (pc + 1) ls (.int (8 : Int32) :: rest))) : W p l e R s m args below meth c H locs cells slots Q (F0 m pc ls (.ref (a 7) :: rest)) :=
  va_alen X.1 X.2.1 hK hP 7 0 rfl rfl rfl hdg kk
theorem rM_X7_kindTurns (X : CX p m c cc s args Ts own) (hK : va_K D vwCl (TYS cI cZ) s) (hP : va_P D vwCl (wM a cI cZ S) H) {i : Int32} (hin : inB i 8 = true) (hdg : decode cc pc = .ok (.baload, 1))
    (kk : W p l e R s m args below meth c H locs cells slots Q (F0 m (pc + 1) ls (.int (S.2 7 i.toNatClampNeg) :: rest))) : W p l e R s m args below meth c H locs cells slots Q (F0 m pc ls (.int i :: .ref (a 8) :: rest)) :=
  va_zald X.1 X.2.1 hK hP 8 1 rfl rfl (inB_ok hin) hdg kk
theorem sM_X7_kindTurns (X : CX p m c cc s args Ts own) (hK : va_K D vwCl (TYS cI cZ) s) (hA : AP 31 a) (hP : va_P D vwCl (wM a cI cZ S) H) (hS : va_S (AC 31 a sz) H0 H locs) {i x : Int32} (hin : inB i 8 = true) (hdg : decode cc pc = .ok (.bastore, 1))
    (kk : ∀ (H1 : Heap) (locs1 : List Loc), va_P D vwCl (wM a cI cZ (sG S 7 i (vp_nar .boolean x))) H1 → va_S (AC 31 a sz) H0 H1 locs1 → W p l e R s m args below meth c H1 locs1 cells slots Q (F0 m (pc + 1) ls rest)) : W p l e R s m args below meth c H locs cells slots Q (F0 m pc ls (.int x :: .int i :: .ref (a 8) :: rest)) :=
  va_zast X.1 X.2.1 hK hP (wM_DA hA) hS 8 1 rfl rfl (inB_ok hin) hdg (fun H1 locs1 hP1 _ hS1 => kk H1 locs1 hP1 hS1)
theorem nM_X7_kindTurns (X : CX p m c cc s args Ts own) (hK : va_K D vwCl (TYS cI cZ) s) (hP : va_P D vwCl (wM a cI cZ S) H) (hdg : decode cc pc = .ok (.arraylength, 1))
    (kk : W p l e R s m args below meth c H locs cells slots Q (F0 m (pc + 1) ls (.int (8 : Int32) :: rest))) : W p l e R s m args below meth c H locs cells slots Q (F0 m pc ls (.ref (a 8) :: rest)) :=
  va_alen X.1 X.2.1 hK hP 8 1 rfl rfl rfl hdg kk
theorem rM_X7_spanAt (X : CX p m c cc s args Ts own) (hK : va_K D vwCl (TYS cI cZ) s) (hP : va_P D vwCl (wM a cI cZ S) H) {i : Int32} (hin : inB i 256 = true) (hdg : decode cc pc = .ok (.iaload, 1))
    (kk : W p l e R s m args below meth c H locs cells slots Q (F0 m (pc + 1) ls (.int (S.2 8 i.toNatClampNeg) :: rest))) : W p l e R s m args below meth c H locs cells slots Q (F0 m pc ls (.int i :: .ref (a 9) :: rest)) :=
  va_iald X.1 X.2.1 hK hP 9 0 rfl rfl (inB_ok hin) hdg kk
theorem sM_X7_spanAt (X : CX p m c cc s args Ts own) (hK : va_K D vwCl (TYS cI cZ) s) (hA : AP 31 a) (hP : va_P D vwCl (wM a cI cZ S) H) (hS : va_S (AC 31 a sz) H0 H locs) {i x : Int32} (hin : inB i 256 = true) (hdg : decode cc pc = .ok (.iastore, 1))
    (kk : ∀ (H1 : Heap) (locs1 : List Loc), va_P D vwCl (wM a cI cZ (sG S 8 i x)) H1 → va_S (AC 31 a sz) H0 H1 locs1 → W p l e R s m args below meth c H1 locs1 cells slots Q (F0 m (pc + 1) ls rest)) : W p l e R s m args below meth c H locs cells slots Q (F0 m pc ls (.int x :: .int i :: .ref (a 9) :: rest)) :=
  va_iast X.1 X.2.1 hK hP (wM_DA hA) hS 9 0 rfl rfl (inB_ok hin) hdg (fun H1 locs1 hP1 _ hS1 => kk H1 locs1 hP1 hS1)
theorem nM_X7_spanAt (X : CX p m c cc s args Ts own) (hK : va_K D vwCl (TYS cI cZ) s) (hP : va_P D vwCl (wM a cI cZ S) H) (hdg : decode cc pc = .ok (.arraylength, 1))
    (kk : W p l e R s m args below meth c H locs cells slots Q (F0 m (pc + 1) ls (.int (256 : Int32) :: rest))) : W p l e R s m args below meth c H locs cells slots Q (F0 m pc ls (.ref (a 9) :: rest)) :=
  va_alen X.1 X.2.1 hK hP 9 0 rfl rfl rfl hdg kk
theorem rM_X7_worths (X : CX p m c cc s args Ts own) (hK : va_K D vwCl (TYS cI cZ) s) (hP : va_P D vwCl (wM a cI cZ S) H) {i : Int32} (hin : inB i 73984 = true) (hdg : decode cc pc = .ok (.iaload, 1))
    (kk : W p l e R s m args below meth c H locs cells slots Q (F0 m (pc + 1) ls (.int (S.2 9 i.toNatClampNeg) :: rest))) : W p l e R s m args below meth c H locs cells slots Q (F0 m pc ls (.int i :: .ref (a 10) :: rest)) :=
  va_iald X.1 X.2.1 hK hP 10 0 rfl rfl (inB_ok hin) hdg kk
theorem sM_X7_worths (X : CX p m c cc s args Ts own) (hK : va_K D vwCl (TYS cI cZ) s) (hA : AP 31 a) (hP : va_P D vwCl (wM a cI cZ S) H) (hS : va_S (AC 31 a sz) H0 H locs) {i x : Int32} (hin : inB i 73984 = true) (hdg : decode cc pc = .ok (.iastore, 1))
    (kk : ∀ (H1 : Heap) (locs1 : List Loc), va_P D vwCl (wM a cI cZ (sG S 9 i x)) H1 → va_S (AC 31 a sz) H0 H1 locs1 → W p l e R s m args below meth c H1 locs1 cells slots Q (F0 m (pc + 1) ls rest)) : W p l e R s m args below meth c H locs cells slots Q (F0 m pc ls (.int x :: .int i :: .ref (a 10) :: rest)) :=
  va_iast X.1 X.2.1 hK hP (wM_DA hA) hS 10 0 rfl rfl (inB_ok hin) hdg (fun H1 locs1 hP1 _ hS1 => kk H1 locs1 hP1 hS1)
theorem nM_X7_worths (X : CX p m c cc s args Ts own) (hK : va_K D vwCl (TYS cI cZ) s) (hP : va_P D vwCl (wM a cI cZ S) H) (hdg : decode cc pc = .ok (.arraylength, 1))
    (kk : W p l e R s m args below meth c H locs cells slots Q (F0 m (pc + 1) ls (.int (73984 : Int32) :: rest))) : W p l e R s m args below meth c H locs cells slots Q (F0 m pc ls (.ref (a 10) :: rest)) :=
  va_alen X.1 X.2.1 hK hP 10 0 rfl rfl rfl hdg kk
theorem rM_X7_pieceKind (X : CX p m c cc s args Ts own) (hK : va_K D vwCl (TYS cI cZ) s) (hP : va_P D vwCl (wM a cI cZ S) H) {i : Int32} (hin : inB i 256 = true) (hdg : decode cc pc = .ok (.iaload, 1))
    (kk : W p l e R s m args below meth c H locs cells slots Q (F0 m (pc + 1) ls (.int (S.2 10 i.toNatClampNeg) :: rest))) : W p l e R s m args below meth c H locs cells slots Q (F0 m pc ls (.int i :: .ref (a 11) :: rest)) :=
  va_iald X.1 X.2.1 hK hP 11 0 rfl rfl (inB_ok hin) hdg kk
theorem sM_X7_pieceKind (X : CX p m c cc s args Ts own) (hK : va_K D vwCl (TYS cI cZ) s) (hA : AP 31 a) (hP : va_P D vwCl (wM a cI cZ S) H) (hS : va_S (AC 31 a sz) H0 H locs) {i x : Int32} (hin : inB i 256 = true) (hdg : decode cc pc = .ok (.iastore, 1))
    (kk : ∀ (H1 : Heap) (locs1 : List Loc), va_P D vwCl (wM a cI cZ (sG S 10 i x)) H1 → va_S (AC 31 a sz) H0 H1 locs1 → W p l e R s m args below meth c H1 locs1 cells slots Q (F0 m (pc + 1) ls rest)) : W p l e R s m args below meth c H locs cells slots Q (F0 m pc ls (.int x :: .int i :: .ref (a 11) :: rest)) :=
  va_iast X.1 X.2.1 hK hP (wM_DA hA) hS 11 0 rfl rfl (inB_ok hin) hdg (fun H1 locs1 hP1 _ hS1 => kk H1 locs1 hP1 hS1)
theorem nM_X7_pieceKind (X : CX p m c cc s args Ts own) (hK : va_K D vwCl (TYS cI cZ) s) (hP : va_P D vwCl (wM a cI cZ S) H) (hdg : decode cc pc = .ok (.arraylength, 1))
    (kk : W p l e R s m args below meth c H locs cells slots Q (F0 m (pc + 1) ls (.int (256 : Int32) :: rest))) : W p l e R s m args below meth c H locs cells slots Q (F0 m pc ls (.ref (a 11) :: rest)) :=
  va_alen X.1 X.2.1 hK hP 11 0 rfl rfl rfl hdg kk
theorem rM_X7_pieceX (X : CX p m c cc s args Ts own) (hK : va_K D vwCl (TYS cI cZ) s) (hP : va_P D vwCl (wM a cI cZ S) H) {i : Int32} (hin : inB i 256 = true) (hdg : decode cc pc = .ok (.iaload, 1))
    (kk : W p l e R s m args below meth c H locs cells slots Q (F0 m (pc + 1) ls (.int (S.2 11 i.toNatClampNeg) :: rest))) : W p l e R s m args below meth c H locs cells slots Q (F0 m pc ls (.int i :: .ref (a 12) :: rest)) :=
  va_iald X.1 X.2.1 hK hP 12 0 rfl rfl (inB_ok hin) hdg kk
theorem sM_X7_pieceX (X : CX p m c cc s args Ts own) (hK : va_K D vwCl (TYS cI cZ) s) (hA : AP 31 a) (hP : va_P D vwCl (wM a cI cZ S) H) (hS : va_S (AC 31 a sz) H0 H locs) {i x : Int32} (hin : inB i 256 = true) (hdg : decode cc pc = .ok (.iastore, 1))
    (kk : ∀ (H1 : Heap) (locs1 : List Loc), va_P D vwCl (wM a cI cZ (sG S 11 i x)) H1 → va_S (AC 31 a sz) H0 H1 locs1 → W p l e R s m args below meth c H1 locs1 cells slots Q (F0 m (pc + 1) ls rest)) : W p l e R s m args below meth c H locs cells slots Q (F0 m pc ls (.int x :: .int i :: .ref (a 12) :: rest)) :=
  va_iast X.1 X.2.1 hK hP (wM_DA hA) hS 12 0 rfl rfl (inB_ok hin) hdg (fun H1 locs1 hP1 _ hS1 => kk H1 locs1 hP1 hS1)
theorem nM_X7_pieceX (X : CX p m c cc s args Ts own) (hK : va_K D vwCl (TYS cI cZ) s) (hP : va_P D vwCl (wM a cI cZ S) H) (hdg : decode cc pc = .ok (.arraylength, 1))
    (kk : W p l e R s m args below meth c H locs cells slots Q (F0 m (pc + 1) ls (.int (256 : Int32) :: rest))) : W p l e R s m args below meth c H locs cells slots Q (F0 m pc ls (.ref (a 12) :: rest)) :=
  va_alen X.1 X.2.1 hK hP 12 0 rfl rfl rfl hdg kk
theorem rM_X7_pieceY (X : CX p m c cc s args Ts own) (hK : va_K D vwCl (TYS cI cZ) s) (hP : va_P D vwCl (wM a cI cZ S) H) {i : Int32} (hin : inB i 256 = true) (hdg : decode cc pc = .ok (.iaload, 1))
    (kk : W p l e R s m args below meth c H locs cells slots Q (F0 m (pc + 1) ls (.int (S.2 12 i.toNatClampNeg) :: rest))) : W p l e R s m args below meth c H locs cells slots Q (F0 m pc ls (.int i :: .ref (a 13) :: rest)) :=
  va_iald X.1 X.2.1 hK hP 13 0 rfl rfl (inB_ok hin) hdg kk
theorem sM_X7_pieceY (X : CX p m c cc s args Ts own) (hK : va_K D vwCl (TYS cI cZ) s) (hA : AP 31 a) (hP : va_P D vwCl (wM a cI cZ S) H) (hS : va_S (AC 31 a sz) H0 H locs) {i x : Int32} (hin : inB i 256 = true) (hdg : decode cc pc = .ok (.iastore, 1))
    (kk : ∀ (H1 : Heap) (locs1 : List Loc), va_P D vwCl (wM a cI cZ (sG S 12 i x)) H1 → va_S (AC 31 a sz) H0 H1 locs1 → W p l e R s m args below meth c H1 locs1 cells slots Q (F0 m (pc + 1) ls rest)) : W p l e R s m args below meth c H locs cells slots Q (F0 m pc ls (.int x :: .int i :: .ref (a 13) :: rest)) :=
  va_iast X.1 X.2.1 hK hP (wM_DA hA) hS 13 0 rfl rfl (inB_ok hin) hdg (fun H1 locs1 hP1 _ hS1 => kk H1 locs1 hP1 hS1)
theorem nM_X7_pieceY (X : CX p m c cc s args Ts own) (hK : va_K D vwCl (TYS cI cZ) s) (hP : va_P D vwCl (wM a cI cZ S) H) (hdg : decode cc pc = .ok (.arraylength, 1))
    (kk : W p l e R s m args below meth c H locs cells slots Q (F0 m (pc + 1) ls (.int (256 : Int32) :: rest))) : W p l e R s m args below meth c H locs cells slots Q (F0 m pc ls (.ref (a 13) :: rest)) :=
  va_alen X.1 X.2.1 hK hP 13 0 rfl rfl rfl hdg kk
theorem rM_X7_pieceTurned (X : CX p m c cc s args Ts own) (hK : va_K D vwCl (TYS cI cZ) s) (hP : va_P D vwCl (wM a cI cZ S) H) {i : Int32} (hin : inB i 256 = true) (hdg : decode cc pc = .ok (.iaload, 1))
    (kk : W p l e R s m args below meth c H locs cells slots Q (F0 m (pc + 1) ls (.int (S.2 13 i.toNatClampNeg) :: rest))) : W p l e R s m args below meth c H locs cells slots Q (F0 m pc ls (.int i :: .ref (a 14) :: rest)) :=
  va_iald X.1 X.2.1 hK hP 14 0 rfl rfl (inB_ok hin) hdg kk
theorem sM_X7_pieceTurned (X : CX p m c cc s args Ts own) (hK : va_K D vwCl (TYS cI cZ) s) (hA : AP 31 a) (hP : va_P D vwCl (wM a cI cZ S) H) (hS : va_S (AC 31 a sz) H0 H locs) {i x : Int32} (hin : inB i 256 = true) (hdg : decode cc pc = .ok (.iastore, 1))
    (kk : ∀ (H1 : Heap) (locs1 : List Loc), va_P D vwCl (wM a cI cZ (sG S 13 i x)) H1 → va_S (AC 31 a sz) H0 H1 locs1 → W p l e R s m args below meth c H1 locs1 cells slots Q (F0 m (pc + 1) ls rest)) : W p l e R s m args below meth c H locs cells slots Q (F0 m pc ls (.int x :: .int i :: .ref (a 14) :: rest)) :=
  va_iast X.1 X.2.1 hK hP (wM_DA hA) hS 14 0 rfl rfl (inB_ok hin) hdg (fun H1 locs1 hP1 _ hS1 => kk H1 locs1 hP1 hS1)
theorem nM_X7_pieceTurned (X : CX p m c cc s args Ts own) (hK : va_K D vwCl (TYS cI cZ) s) (hP : va_P D vwCl (wM a cI cZ S) H) (hdg : decode cc pc = .ok (.arraylength, 1))
    (kk : W p l e R s m args below meth c H locs cells slots Q (F0 m (pc + 1) ls (.int (256 : Int32) :: rest))) : W p l e R s m args below meth c H locs cells slots Q (F0 m pc ls (.ref (a 14) :: rest)) :=
  va_alen X.1 X.2.1 hK hP 14 0 rfl rfl rfl hdg kk
theorem rM_X7_cutStage (X : CX p m c cc s args Ts own) (hK : va_K D vwCl (TYS cI cZ) s) (hP : va_P D vwCl (wM a cI cZ S) H) {i : Int32} (hin : inB i 256 = true) (hdg : decode cc pc = .ok (.iaload, 1))
    (kk : W p l e R s m args below meth c H locs cells slots Q (F0 m (pc + 1) ls (.int (S.2 14 i.toNatClampNeg) :: rest))) : W p l e R s m args below meth c H locs cells slots Q (F0 m pc ls (.int i :: .ref (a 15) :: rest)) :=
  va_iald X.1 X.2.1 hK hP 15 0 rfl rfl (inB_ok hin) hdg kk
theorem sM_X7_cutStage (X : CX p m c cc s args Ts own) (hK : va_K D vwCl (TYS cI cZ) s) (hA : AP 31 a) (hP : va_P D vwCl (wM a cI cZ S) H) (hS : va_S (AC 31 a sz) H0 H locs) {i x : Int32} (hin : inB i 256 = true) (hdg : decode cc pc = .ok (.iastore, 1))
    (kk : ∀ (H1 : Heap) (locs1 : List Loc), va_P D vwCl (wM a cI cZ (sG S 14 i x)) H1 → va_S (AC 31 a sz) H0 H1 locs1 → W p l e R s m args below meth c H1 locs1 cells slots Q (F0 m (pc + 1) ls rest)) : W p l e R s m args below meth c H locs cells slots Q (F0 m pc ls (.int x :: .int i :: .ref (a 15) :: rest)) :=
  va_iast X.1 X.2.1 hK hP (wM_DA hA) hS 15 0 rfl rfl (inB_ok hin) hdg (fun H1 locs1 hP1 _ hS1 => kk H1 locs1 hP1 hS1)
theorem nM_X7_cutStage (X : CX p m c cc s args Ts own) (hK : va_K D vwCl (TYS cI cZ) s) (hP : va_P D vwCl (wM a cI cZ S) H) (hdg : decode cc pc = .ok (.arraylength, 1))
    (kk : W p l e R s m args below meth c H locs cells slots Q (F0 m (pc + 1) ls (.int (256 : Int32) :: rest))) : W p l e R s m args below meth c H locs cells slots Q (F0 m pc ls (.ref (a 15) :: rest)) :=
  va_alen X.1 X.2.1 hK hP 15 0 rfl rfl rfl hdg kk
theorem rM_X7_cutAt (X : CX p m c cc s args Ts own) (hK : va_K D vwCl (TYS cI cZ) s) (hP : va_P D vwCl (wM a cI cZ S) H) {i : Int32} (hin : inB i 256 = true) (hdg : decode cc pc = .ok (.iaload, 1))
    (kk : W p l e R s m args below meth c H locs cells slots Q (F0 m (pc + 1) ls (.int (S.2 15 i.toNatClampNeg) :: rest))) : W p l e R s m args below meth c H locs cells slots Q (F0 m pc ls (.int i :: .ref (a 16) :: rest)) :=
  va_iald X.1 X.2.1 hK hP 16 0 rfl rfl (inB_ok hin) hdg kk
theorem sM_X7_cutAt (X : CX p m c cc s args Ts own) (hK : va_K D vwCl (TYS cI cZ) s) (hA : AP 31 a) (hP : va_P D vwCl (wM a cI cZ S) H) (hS : va_S (AC 31 a sz) H0 H locs) {i x : Int32} (hin : inB i 256 = true) (hdg : decode cc pc = .ok (.iastore, 1))
    (kk : ∀ (H1 : Heap) (locs1 : List Loc), va_P D vwCl (wM a cI cZ (sG S 15 i x)) H1 → va_S (AC 31 a sz) H0 H1 locs1 → W p l e R s m args below meth c H1 locs1 cells slots Q (F0 m (pc + 1) ls rest)) : W p l e R s m args below meth c H locs cells slots Q (F0 m pc ls (.int x :: .int i :: .ref (a 16) :: rest)) :=
  va_iast X.1 X.2.1 hK hP (wM_DA hA) hS 16 0 rfl rfl (inB_ok hin) hdg (fun H1 locs1 hP1 _ hS1 => kk H1 locs1 hP1 hS1)
theorem nM_X7_cutAt (X : CX p m c cc s args Ts own) (hK : va_K D vwCl (TYS cI cZ) s) (hP : va_P D vwCl (wM a cI cZ S) H) (hdg : decode cc pc = .ok (.arraylength, 1))
    (kk : W p l e R s m args below meth c H locs cells slots Q (F0 m (pc + 1) ls (.int (256 : Int32) :: rest))) : W p l e R s m args below meth c H locs cells slots Q (F0 m pc ls (.ref (a 16) :: rest)) :=
  va_alen X.1 X.2.1 hK hP 16 0 rfl rfl rfl hdg kk
theorem rM_X7_cutX (X : CX p m c cc s args Ts own) (hK : va_K D vwCl (TYS cI cZ) s) (hP : va_P D vwCl (wM a cI cZ S) H) {i : Int32} (hin : inB i 256 = true) (hdg : decode cc pc = .ok (.iaload, 1))
    (kk : W p l e R s m args below meth c H locs cells slots Q (F0 m (pc + 1) ls (.int (S.2 16 i.toNatClampNeg) :: rest))) : W p l e R s m args below meth c H locs cells slots Q (F0 m pc ls (.int i :: .ref (a 17) :: rest)) :=
  va_iald X.1 X.2.1 hK hP 17 0 rfl rfl (inB_ok hin) hdg kk
theorem sM_X7_cutX (X : CX p m c cc s args Ts own) (hK : va_K D vwCl (TYS cI cZ) s) (hA : AP 31 a) (hP : va_P D vwCl (wM a cI cZ S) H) (hS : va_S (AC 31 a sz) H0 H locs) {i x : Int32} (hin : inB i 256 = true) (hdg : decode cc pc = .ok (.iastore, 1))
    (kk : ∀ (H1 : Heap) (locs1 : List Loc), va_P D vwCl (wM a cI cZ (sG S 16 i x)) H1 → va_S (AC 31 a sz) H0 H1 locs1 → W p l e R s m args below meth c H1 locs1 cells slots Q (F0 m (pc + 1) ls rest)) : W p l e R s m args below meth c H locs cells slots Q (F0 m pc ls (.int x :: .int i :: .ref (a 17) :: rest)) :=
  va_iast X.1 X.2.1 hK hP (wM_DA hA) hS 17 0 rfl rfl (inB_ok hin) hdg (fun H1 locs1 hP1 _ hS1 => kk H1 locs1 hP1 hS1)
theorem nM_X7_cutX (X : CX p m c cc s args Ts own) (hK : va_K D vwCl (TYS cI cZ) s) (hP : va_P D vwCl (wM a cI cZ S) H) (hdg : decode cc pc = .ok (.arraylength, 1))
    (kk : W p l e R s m args below meth c H locs cells slots Q (F0 m (pc + 1) ls (.int (256 : Int32) :: rest))) : W p l e R s m args below meth c H locs cells slots Q (F0 m pc ls (.ref (a 17) :: rest)) :=
  va_alen X.1 X.2.1 hK hP 17 0 rfl rfl rfl hdg kk
theorem rM_X7_cutY (X : CX p m c cc s args Ts own) (hK : va_K D vwCl (TYS cI cZ) s) (hP : va_P D vwCl (wM a cI cZ S) H) {i : Int32} (hin : inB i 256 = true) (hdg : decode cc pc = .ok (.iaload, 1))
    (kk : W p l e R s m args below meth c H locs cells slots Q (F0 m (pc + 1) ls (.int (S.2 17 i.toNatClampNeg) :: rest))) : W p l e R s m args below meth c H locs cells slots Q (F0 m pc ls (.int i :: .ref (a 18) :: rest)) :=
  va_iald X.1 X.2.1 hK hP 18 0 rfl rfl (inB_ok hin) hdg kk
theorem sM_X7_cutY (X : CX p m c cc s args Ts own) (hK : va_K D vwCl (TYS cI cZ) s) (hA : AP 31 a) (hP : va_P D vwCl (wM a cI cZ S) H) (hS : va_S (AC 31 a sz) H0 H locs) {i x : Int32} (hin : inB i 256 = true) (hdg : decode cc pc = .ok (.iastore, 1))
    (kk : ∀ (H1 : Heap) (locs1 : List Loc), va_P D vwCl (wM a cI cZ (sG S 17 i x)) H1 → va_S (AC 31 a sz) H0 H1 locs1 → W p l e R s m args below meth c H1 locs1 cells slots Q (F0 m (pc + 1) ls rest)) : W p l e R s m args below meth c H locs cells slots Q (F0 m pc ls (.int x :: .int i :: .ref (a 18) :: rest)) :=
  va_iast X.1 X.2.1 hK hP (wM_DA hA) hS 18 0 rfl rfl (inB_ok hin) hdg (fun H1 locs1 hP1 _ hS1 => kk H1 locs1 hP1 hS1)
theorem nM_X7_cutY (X : CX p m c cc s args Ts own) (hK : va_K D vwCl (TYS cI cZ) s) (hP : va_P D vwCl (wM a cI cZ S) H) (hdg : decode cc pc = .ok (.arraylength, 1))
    (kk : W p l e R s m args below meth c H locs cells slots Q (F0 m (pc + 1) ls (.int (256 : Int32) :: rest))) : W p l e R s m args below meth c H locs cells slots Q (F0 m pc ls (.ref (a 18) :: rest)) :=
  va_alen X.1 X.2.1 hK hP 18 0 rfl rfl rfl hdg kk
theorem rM_X7_cutW (X : CX p m c cc s args Ts own) (hK : va_K D vwCl (TYS cI cZ) s) (hP : va_P D vwCl (wM a cI cZ S) H) {i : Int32} (hin : inB i 256 = true) (hdg : decode cc pc = .ok (.iaload, 1))
    (kk : W p l e R s m args below meth c H locs cells slots Q (F0 m (pc + 1) ls (.int (S.2 18 i.toNatClampNeg) :: rest))) : W p l e R s m args below meth c H locs cells slots Q (F0 m pc ls (.int i :: .ref (a 19) :: rest)) :=
  va_iald X.1 X.2.1 hK hP 19 0 rfl rfl (inB_ok hin) hdg kk
theorem sM_X7_cutW (X : CX p m c cc s args Ts own) (hK : va_K D vwCl (TYS cI cZ) s) (hA : AP 31 a) (hP : va_P D vwCl (wM a cI cZ S) H) (hS : va_S (AC 31 a sz) H0 H locs) {i x : Int32} (hin : inB i 256 = true) (hdg : decode cc pc = .ok (.iastore, 1))
    (kk : ∀ (H1 : Heap) (locs1 : List Loc), va_P D vwCl (wM a cI cZ (sG S 18 i x)) H1 → va_S (AC 31 a sz) H0 H1 locs1 → W p l e R s m args below meth c H1 locs1 cells slots Q (F0 m (pc + 1) ls rest)) : W p l e R s m args below meth c H locs cells slots Q (F0 m pc ls (.int x :: .int i :: .ref (a 19) :: rest)) :=
  va_iast X.1 X.2.1 hK hP (wM_DA hA) hS 19 0 rfl rfl (inB_ok hin) hdg (fun H1 locs1 hP1 _ hS1 => kk H1 locs1 hP1 hS1)
theorem nM_X7_cutW (X : CX p m c cc s args Ts own) (hK : va_K D vwCl (TYS cI cZ) s) (hP : va_P D vwCl (wM a cI cZ S) H) (hdg : decode cc pc = .ok (.arraylength, 1))
    (kk : W p l e R s m args below meth c H locs cells slots Q (F0 m (pc + 1) ls (.int (256 : Int32) :: rest))) : W p l e R s m args below meth c H locs cells slots Q (F0 m pc ls (.ref (a 19) :: rest)) :=
  va_alen X.1 X.2.1 hK hP 19 0 rfl rfl rfl hdg kk
theorem rM_X7_cutH (X : CX p m c cc s args Ts own) (hK : va_K D vwCl (TYS cI cZ) s) (hP : va_P D vwCl (wM a cI cZ S) H) {i : Int32} (hin : inB i 256 = true) (hdg : decode cc pc = .ok (.iaload, 1))
    (kk : W p l e R s m args below meth c H locs cells slots Q (F0 m (pc + 1) ls (.int (S.2 19 i.toNatClampNeg) :: rest))) : W p l e R s m args below meth c H locs cells slots Q (F0 m pc ls (.int i :: .ref (a 20) :: rest)) :=
  va_iald X.1 X.2.1 hK hP 20 0 rfl rfl (inB_ok hin) hdg kk
theorem sM_X7_cutH (X : CX p m c cc s args Ts own) (hK : va_K D vwCl (TYS cI cZ) s) (hA : AP 31 a) (hP : va_P D vwCl (wM a cI cZ S) H) (hS : va_S (AC 31 a sz) H0 H locs) {i x : Int32} (hin : inB i 256 = true) (hdg : decode cc pc = .ok (.iastore, 1))
    (kk : ∀ (H1 : Heap) (locs1 : List Loc), va_P D vwCl (wM a cI cZ (sG S 19 i x)) H1 → va_S (AC 31 a sz) H0 H1 locs1 → W p l e R s m args below meth c H1 locs1 cells slots Q (F0 m (pc + 1) ls rest)) : W p l e R s m args below meth c H locs cells slots Q (F0 m pc ls (.int x :: .int i :: .ref (a 20) :: rest)) :=
  va_iast X.1 X.2.1 hK hP (wM_DA hA) hS 20 0 rfl rfl (inB_ok hin) hdg (fun H1 locs1 hP1 _ hS1 => kk H1 locs1 hP1 hS1)
theorem nM_X7_cutH (X : CX p m c cc s args Ts own) (hK : va_K D vwCl (TYS cI cZ) s) (hP : va_P D vwCl (wM a cI cZ S) H) (hdg : decode cc pc = .ok (.arraylength, 1))
    (kk : W p l e R s m args below meth c H locs cells slots Q (F0 m (pc + 1) ls (.int (256 : Int32) :: rest))) : W p l e R s m args below meth c H locs cells slots Q (F0 m pc ls (.ref (a 20) :: rest)) :=
  va_alen X.1 X.2.1 hK hP 20 0 rfl rfl rfl hdg kk
theorem rM_X7_pile (X : CX p m c cc s args Ts own) (hK : va_K D vwCl (TYS cI cZ) s) (hP : va_P D vwCl (wM a cI cZ S) H) {i : Int32} (hin : inB i 1300 = true) (hdg : decode cc pc = .ok (.iaload, 1))
    (kk : W p l e R s m args below meth c H locs cells slots Q (F0 m (pc + 1) ls (.int (S.2 20 i.toNatClampNeg) :: rest))) : W p l e R s m args below meth c H locs cells slots Q (F0 m pc ls (.int i :: .ref (a 21) :: rest)) :=
  va_iald X.1 X.2.1 hK hP 21 0 rfl rfl (inB_ok hin) hdg kk
theorem sM_X7_pile (X : CX p m c cc s args Ts own) (hK : va_K D vwCl (TYS cI cZ) s) (hA : AP 31 a) (hP : va_P D vwCl (wM a cI cZ S) H) (hS : va_S (AC 31 a sz) H0 H locs) {i x : Int32} (hin : inB i 1300 = true) (hdg : decode cc pc = .ok (.iastore, 1))
    (kk : ∀ (H1 : Heap) (locs1 : List Loc), va_P D vwCl (wM a cI cZ (sG S 20 i x)) H1 → va_S (AC 31 a sz) H0 H1 locs1 → W p l e R s m args below meth c H1 locs1 cells slots Q (F0 m (pc + 1) ls rest)) : W p l e R s m args below meth c H locs cells slots Q (F0 m pc ls (.int x :: .int i :: .ref (a 21) :: rest)) :=
  va_iast X.1 X.2.1 hK hP (wM_DA hA) hS 21 0 rfl rfl (inB_ok hin) hdg (fun H1 locs1 hP1 _ hS1 => kk H1 locs1 hP1 hS1)
theorem nM_X7_pile (X : CX p m c cc s args Ts own) (hK : va_K D vwCl (TYS cI cZ) s) (hP : va_P D vwCl (wM a cI cZ S) H) (hdg : decode cc pc = .ok (.arraylength, 1))
    (kk : W p l e R s m args below meth c H locs cells slots Q (F0 m (pc + 1) ls (.int (1300 : Int32) :: rest))) : W p l e R s m args below meth c H locs cells slots Q (F0 m pc ls (.ref (a 21) :: rest)) :=
  va_alen X.1 X.2.1 hK hP 21 0 rfl rfl rfl hdg kk
theorem rM_X7_stockLength (X : CX p m c cc s args Ts own) (hK : va_K D vwCl (TYS cI cZ) s) (hP : va_P D vwCl (wM a cI cZ S) H) {i : Int32} (hin : inB i 3 = true) (hdg : decode cc pc = .ok (.iaload, 1))
    (kk : W p l e R s m args below meth c H locs cells slots Q (F0 m (pc + 1) ls (.int (S.2 21 i.toNatClampNeg) :: rest))) : W p l e R s m args below meth c H locs cells slots Q (F0 m pc ls (.int i :: .ref (a 22) :: rest)) :=
  va_iald X.1 X.2.1 hK hP 22 0 rfl rfl (inB_ok hin) hdg kk
theorem sM_X7_stockLength (X : CX p m c cc s args Ts own) (hK : va_K D vwCl (TYS cI cZ) s) (hA : AP 31 a) (hP : va_P D vwCl (wM a cI cZ S) H) (hS : va_S (AC 31 a sz) H0 H locs) {i x : Int32} (hin : inB i 3 = true) (hdg : decode cc pc = .ok (.iastore, 1))
    (kk : ∀ (H1 : Heap) (locs1 : List Loc), va_P D vwCl (wM a cI cZ (sG S 21 i x)) H1 → va_S (AC 31 a sz) H0 H1 locs1 → W p l e R s m args below meth c H1 locs1 cells slots Q (F0 m (pc + 1) ls rest)) : W p l e R s m args below meth c H locs cells slots Q (F0 m pc ls (.int x :: .int i :: .ref (a 22) :: rest)) :=
  va_iast X.1 X.2.1 hK hP (wM_DA hA) hS 22 0 rfl rfl (inB_ok hin) hdg (fun H1 locs1 hP1 _ hS1 => kk H1 locs1 hP1 hS1)
theorem nM_X7_stockLength (X : CX p m c cc s args Ts own) (hK : va_K D vwCl (TYS cI cZ) s) (hP : va_P D vwCl (wM a cI cZ S) H) (hdg : decode cc pc = .ok (.arraylength, 1))
    (kk : W p l e R s m args below meth c H locs cells slots Q (F0 m (pc + 1) ls (.int (3 : Int32) :: rest))) : W p l e R s m args below meth c H locs cells slots Q (F0 m pc ls (.ref (a 22) :: rest)) :=
  va_alen X.1 X.2.1 hK hP 22 0 rfl rfl rfl hdg kk
theorem rM_X7_stockPrice (X : CX p m c cc s args Ts own) (hK : va_K D vwCl (TYS cI cZ) s) (hP : va_P D vwCl (wM a cI cZ S) H) {i : Int32} (hin : inB i 3 = true) (hdg : decode cc pc = .ok (.iaload, 1))
    (kk : W p l e R s m args below meth c H locs cells slots Q (F0 m (pc + 1) ls (.int (S.2 22 i.toNatClampNeg) :: rest))) : W p l e R s m args below meth c H locs cells slots Q (F0 m pc ls (.int i :: .ref (a 23) :: rest)) :=
  va_iald X.1 X.2.1 hK hP 23 0 rfl rfl (inB_ok hin) hdg kk
theorem sM_X7_stockPrice (X : CX p m c cc s args Ts own) (hK : va_K D vwCl (TYS cI cZ) s) (hA : AP 31 a) (hP : va_P D vwCl (wM a cI cZ S) H) (hS : va_S (AC 31 a sz) H0 H locs) {i x : Int32} (hin : inB i 3 = true) (hdg : decode cc pc = .ok (.iastore, 1))
    (kk : ∀ (H1 : Heap) (locs1 : List Loc), va_P D vwCl (wM a cI cZ (sG S 22 i x)) H1 → va_S (AC 31 a sz) H0 H1 locs1 → W p l e R s m args below meth c H1 locs1 cells slots Q (F0 m (pc + 1) ls rest)) : W p l e R s m args below meth c H locs cells slots Q (F0 m pc ls (.int x :: .int i :: .ref (a 23) :: rest)) :=
  va_iast X.1 X.2.1 hK hP (wM_DA hA) hS 23 0 rfl rfl (inB_ok hin) hdg (fun H1 locs1 hP1 _ hS1 => kk H1 locs1 hP1 hS1)
theorem nM_X7_stockPrice (X : CX p m c cc s args Ts own) (hK : va_K D vwCl (TYS cI cZ) s) (hP : va_P D vwCl (wM a cI cZ S) H) (hdg : decode cc pc = .ok (.arraylength, 1))
    (kk : W p l e R s m args below meth c H locs cells slots Q (F0 m (pc + 1) ls (.int (3 : Int32) :: rest))) : W p l e R s m args below meth c H locs cells slots Q (F0 m pc ls (.ref (a 23) :: rest)) :=
  va_alen X.1 X.2.1 hK hP 23 0 rfl rfl rfl hdg kk
theorem rM_X7_orderLength (X : CX p m c cc s args Ts own) (hK : va_K D vwCl (TYS cI cZ) s) (hP : va_P D vwCl (wM a cI cZ S) H) {i : Int32} (hin : inB i 4 = true) (hdg : decode cc pc = .ok (.iaload, 1))
    (kk : W p l e R s m args below meth c H locs cells slots Q (F0 m (pc + 1) ls (.int (S.2 23 i.toNatClampNeg) :: rest))) : W p l e R s m args below meth c H locs cells slots Q (F0 m pc ls (.int i :: .ref (a 24) :: rest)) :=
  va_iald X.1 X.2.1 hK hP 24 0 rfl rfl (inB_ok hin) hdg kk
theorem sM_X7_orderLength (X : CX p m c cc s args Ts own) (hK : va_K D vwCl (TYS cI cZ) s) (hA : AP 31 a) (hP : va_P D vwCl (wM a cI cZ S) H) (hS : va_S (AC 31 a sz) H0 H locs) {i x : Int32} (hin : inB i 4 = true) (hdg : decode cc pc = .ok (.iastore, 1))
    (kk : ∀ (H1 : Heap) (locs1 : List Loc), va_P D vwCl (wM a cI cZ (sG S 23 i x)) H1 → va_S (AC 31 a sz) H0 H1 locs1 → W p l e R s m args below meth c H1 locs1 cells slots Q (F0 m (pc + 1) ls rest)) : W p l e R s m args below meth c H locs cells slots Q (F0 m pc ls (.int x :: .int i :: .ref (a 24) :: rest)) :=
  va_iast X.1 X.2.1 hK hP (wM_DA hA) hS 24 0 rfl rfl (inB_ok hin) hdg (fun H1 locs1 hP1 _ hS1 => kk H1 locs1 hP1 hS1)
theorem nM_X7_orderLength (X : CX p m c cc s args Ts own) (hK : va_K D vwCl (TYS cI cZ) s) (hP : va_P D vwCl (wM a cI cZ S) H) (hdg : decode cc pc = .ok (.arraylength, 1))
    (kk : W p l e R s m args below meth c H locs cells slots Q (F0 m (pc + 1) ls (.int (4 : Int32) :: rest))) : W p l e R s m args below meth c H locs cells slots Q (F0 m pc ls (.ref (a 24) :: rest)) :=
  va_alen X.1 X.2.1 hK hP 24 0 rfl rfl rfl hdg kk
theorem rM_X7_orderDemand (X : CX p m c cc s args Ts own) (hK : va_K D vwCl (TYS cI cZ) s) (hP : va_P D vwCl (wM a cI cZ S) H) {i : Int32} (hin : inB i 4 = true) (hdg : decode cc pc = .ok (.iaload, 1))
    (kk : W p l e R s m args below meth c H locs cells slots Q (F0 m (pc + 1) ls (.int (S.2 24 i.toNatClampNeg) :: rest))) : W p l e R s m args below meth c H locs cells slots Q (F0 m pc ls (.int i :: .ref (a 25) :: rest)) :=
  va_iald X.1 X.2.1 hK hP 25 0 rfl rfl (inB_ok hin) hdg kk
theorem sM_X7_orderDemand (X : CX p m c cc s args Ts own) (hK : va_K D vwCl (TYS cI cZ) s) (hA : AP 31 a) (hP : va_P D vwCl (wM a cI cZ S) H) (hS : va_S (AC 31 a sz) H0 H locs) {i x : Int32} (hin : inB i 4 = true) (hdg : decode cc pc = .ok (.iastore, 1))
    (kk : ∀ (H1 : Heap) (locs1 : List Loc), va_P D vwCl (wM a cI cZ (sG S 24 i x)) H1 → va_S (AC 31 a sz) H0 H1 locs1 → W p l e R s m args below meth c H1 locs1 cells slots Q (F0 m (pc + 1) ls rest)) : W p l e R s m args below meth c H locs cells slots Q (F0 m pc ls (.int x :: .int i :: .ref (a 25) :: rest)) :=
  va_iast X.1 X.2.1 hK hP (wM_DA hA) hS 25 0 rfl rfl (inB_ok hin) hdg (fun H1 locs1 hP1 _ hS1 => kk H1 locs1 hP1 hS1)
theorem nM_X7_orderDemand (X : CX p m c cc s args Ts own) (hK : va_K D vwCl (TYS cI cZ) s) (hP : va_P D vwCl (wM a cI cZ S) H) (hdg : decode cc pc = .ok (.arraylength, 1))
    (kk : W p l e R s m args below meth c H locs cells slots Q (F0 m (pc + 1) ls (.int (4 : Int32) :: rest))) : W p l e R s m args below meth c H locs cells slots Q (F0 m pc ls (.ref (a 25) :: rest)) :=
  va_alen X.1 X.2.1 hK hP 25 0 rfl rfl rfl hdg kk
theorem rM_X7_prices (X : CX p m c cc s args Ts own) (hK : va_K D vwCl (TYS cI cZ) s) (hP : va_P D vwCl (wM a cI cZ S) H) {i : Int32} (hin : inB i 1296 = true) (hdg : decode cc pc = .ok (.iaload, 1))
    (kk : W p l e R s m args below meth c H locs cells slots Q (F0 m (pc + 1) ls (.int (S.2 25 i.toNatClampNeg) :: rest))) : W p l e R s m args below meth c H locs cells slots Q (F0 m pc ls (.int i :: .ref (a 26) :: rest)) :=
  va_iald X.1 X.2.1 hK hP 26 0 rfl rfl (inB_ok hin) hdg kk
theorem sM_X7_prices (X : CX p m c cc s args Ts own) (hK : va_K D vwCl (TYS cI cZ) s) (hA : AP 31 a) (hP : va_P D vwCl (wM a cI cZ S) H) (hS : va_S (AC 31 a sz) H0 H locs) {i x : Int32} (hin : inB i 1296 = true) (hdg : decode cc pc = .ok (.iastore, 1))
    (kk : ∀ (H1 : Heap) (locs1 : List Loc), va_P D vwCl (wM a cI cZ (sG S 25 i x)) H1 → va_S (AC 31 a sz) H0 H1 locs1 → W p l e R s m args below meth c H1 locs1 cells slots Q (F0 m (pc + 1) ls rest)) : W p l e R s m args below meth c H locs cells slots Q (F0 m pc ls (.int x :: .int i :: .ref (a 26) :: rest)) :=
  va_iast X.1 X.2.1 hK hP (wM_DA hA) hS 26 0 rfl rfl (inB_ok hin) hdg (fun H1 locs1 hP1 _ hS1 => kk H1 locs1 hP1 hS1)
theorem nM_X7_prices (X : CX p m c cc s args Ts own) (hK : va_K D vwCl (TYS cI cZ) s) (hP : va_P D vwCl (wM a cI cZ S) H) (hdg : decode cc pc = .ok (.arraylength, 1))
    (kk : W p l e R s m args below meth c H locs cells slots Q (F0 m (pc + 1) ls (.int (1296 : Int32) :: rest))) : W p l e R s m args below meth c H locs cells slots Q (F0 m pc ls (.ref (a 26) :: rest)) :=
  va_alen X.1 X.2.1 hK hP 26 0 rfl rfl rfl hdg kk
theorem rM_X7_fewest (X : CX p m c cc s args Ts own) (hK : va_K D vwCl (TYS cI cZ) s) (hP : va_P D vwCl (wM a cI cZ S) H) {i : Int32} (hin : inB i 1296 = true) (hdg : decode cc pc = .ok (.iaload, 1))
    (kk : W p l e R s m args below meth c H locs cells slots Q (F0 m (pc + 1) ls (.int (S.2 26 i.toNatClampNeg) :: rest))) : W p l e R s m args below meth c H locs cells slots Q (F0 m pc ls (.int i :: .ref (a 27) :: rest)) :=
  va_iald X.1 X.2.1 hK hP 27 0 rfl rfl (inB_ok hin) hdg kk
theorem sM_X7_fewest (X : CX p m c cc s args Ts own) (hK : va_K D vwCl (TYS cI cZ) s) (hA : AP 31 a) (hP : va_P D vwCl (wM a cI cZ S) H) (hS : va_S (AC 31 a sz) H0 H locs) {i x : Int32} (hin : inB i 1296 = true) (hdg : decode cc pc = .ok (.iastore, 1))
    (kk : ∀ (H1 : Heap) (locs1 : List Loc), va_P D vwCl (wM a cI cZ (sG S 26 i x)) H1 → va_S (AC 31 a sz) H0 H1 locs1 → W p l e R s m args below meth c H1 locs1 cells slots Q (F0 m (pc + 1) ls rest)) : W p l e R s m args below meth c H locs cells slots Q (F0 m pc ls (.int x :: .int i :: .ref (a 27) :: rest)) :=
  va_iast X.1 X.2.1 hK hP (wM_DA hA) hS 27 0 rfl rfl (inB_ok hin) hdg (fun H1 locs1 hP1 _ hS1 => kk H1 locs1 hP1 hS1)
theorem nM_X7_fewest (X : CX p m c cc s args Ts own) (hK : va_K D vwCl (TYS cI cZ) s) (hP : va_P D vwCl (wM a cI cZ S) H) (hdg : decode cc pc = .ok (.arraylength, 1))
    (kk : W p l e R s m args below meth c H locs cells slots Q (F0 m (pc + 1) ls (.int (1296 : Int32) :: rest))) : W p l e R s m args below meth c H locs cells slots Q (F0 m pc ls (.ref (a 27) :: rest)) :=
  va_alen X.1 X.2.1 hK hP 27 0 rfl rfl rfl hdg kk
theorem rM_X7_patternStock (X : CX p m c cc s args Ts own) (hK : va_K D vwCl (TYS cI cZ) s) (hP : va_P D vwCl (wM a cI cZ S) H) {i : Int32} (hin : inB i 1296 = true) (hdg : decode cc pc = .ok (.iaload, 1))
    (kk : W p l e R s m args below meth c H locs cells slots Q (F0 m (pc + 1) ls (.int (S.2 27 i.toNatClampNeg) :: rest))) : W p l e R s m args below meth c H locs cells slots Q (F0 m pc ls (.int i :: .ref (a 28) :: rest)) :=
  va_iald X.1 X.2.1 hK hP 28 0 rfl rfl (inB_ok hin) hdg kk
theorem sM_X7_patternStock (X : CX p m c cc s args Ts own) (hK : va_K D vwCl (TYS cI cZ) s) (hA : AP 31 a) (hP : va_P D vwCl (wM a cI cZ S) H) (hS : va_S (AC 31 a sz) H0 H locs) {i x : Int32} (hin : inB i 1296 = true) (hdg : decode cc pc = .ok (.iastore, 1))
    (kk : ∀ (H1 : Heap) (locs1 : List Loc), va_P D vwCl (wM a cI cZ (sG S 27 i x)) H1 → va_S (AC 31 a sz) H0 H1 locs1 → W p l e R s m args below meth c H1 locs1 cells slots Q (F0 m (pc + 1) ls rest)) : W p l e R s m args below meth c H locs cells slots Q (F0 m pc ls (.int x :: .int i :: .ref (a 28) :: rest)) :=
  va_iast X.1 X.2.1 hK hP (wM_DA hA) hS 28 0 rfl rfl (inB_ok hin) hdg (fun H1 locs1 hP1 _ hS1 => kk H1 locs1 hP1 hS1)
theorem nM_X7_patternStock (X : CX p m c cc s args Ts own) (hK : va_K D vwCl (TYS cI cZ) s) (hP : va_P D vwCl (wM a cI cZ S) H) (hdg : decode cc pc = .ok (.arraylength, 1))
    (kk : W p l e R s m args below meth c H locs cells slots Q (F0 m (pc + 1) ls (.int (1296 : Int32) :: rest))) : W p l e R s m args below meth c H locs cells slots Q (F0 m pc ls (.ref (a 28) :: rest)) :=
  va_alen X.1 X.2.1 hK hP 28 0 rfl rfl rfl hdg kk
theorem rM_X7_patternWants (X : CX p m c cc s args Ts own) (hK : va_K D vwCl (TYS cI cZ) s) (hP : va_P D vwCl (wM a cI cZ S) H) {i : Int32} (hin : inB i 1296 = true) (hdg : decode cc pc = .ok (.iaload, 1))
    (kk : W p l e R s m args below meth c H locs cells slots Q (F0 m (pc + 1) ls (.int (S.2 28 i.toNatClampNeg) :: rest))) : W p l e R s m args below meth c H locs cells slots Q (F0 m pc ls (.int i :: .ref (a 29) :: rest)) :=
  va_iald X.1 X.2.1 hK hP 29 0 rfl rfl (inB_ok hin) hdg kk
theorem sM_X7_patternWants (X : CX p m c cc s args Ts own) (hK : va_K D vwCl (TYS cI cZ) s) (hA : AP 31 a) (hP : va_P D vwCl (wM a cI cZ S) H) (hS : va_S (AC 31 a sz) H0 H locs) {i x : Int32} (hin : inB i 1296 = true) (hdg : decode cc pc = .ok (.iastore, 1))
    (kk : ∀ (H1 : Heap) (locs1 : List Loc), va_P D vwCl (wM a cI cZ (sG S 28 i x)) H1 → va_S (AC 31 a sz) H0 H1 locs1 → W p l e R s m args below meth c H1 locs1 cells slots Q (F0 m (pc + 1) ls rest)) : W p l e R s m args below meth c H locs cells slots Q (F0 m pc ls (.int x :: .int i :: .ref (a 29) :: rest)) :=
  va_iast X.1 X.2.1 hK hP (wM_DA hA) hS 29 0 rfl rfl (inB_ok hin) hdg (fun H1 locs1 hP1 _ hS1 => kk H1 locs1 hP1 hS1)
theorem nM_X7_patternWants (X : CX p m c cc s args Ts own) (hK : va_K D vwCl (TYS cI cZ) s) (hP : va_P D vwCl (wM a cI cZ S) H) (hdg : decode cc pc = .ok (.arraylength, 1))
    (kk : W p l e R s m args below meth c H locs cells slots Q (F0 m (pc + 1) ls (.int (1296 : Int32) :: rest))) : W p l e R s m args below meth c H locs cells slots Q (F0 m pc ls (.ref (a 29) :: rest)) :=
  va_alen X.1 X.2.1 hK hP 29 0 rfl rfl rfl hdg kk
theorem rM_X7_barPattern (X : CX p m c cc s args Ts own) (hK : va_K D vwCl (TYS cI cZ) s) (hP : va_P D vwCl (wM a cI cZ S) H) {i : Int32} (hin : inB i 20 = true) (hdg : decode cc pc = .ok (.iaload, 1))
    (kk : W p l e R s m args below meth c H locs cells slots Q (F0 m (pc + 1) ls (.int (S.2 29 i.toNatClampNeg) :: rest))) : W p l e R s m args below meth c H locs cells slots Q (F0 m pc ls (.int i :: .ref (a 30) :: rest)) :=
  va_iald X.1 X.2.1 hK hP 30 0 rfl rfl (inB_ok hin) hdg kk
theorem sM_X7_barPattern (X : CX p m c cc s args Ts own) (hK : va_K D vwCl (TYS cI cZ) s) (hA : AP 31 a) (hP : va_P D vwCl (wM a cI cZ S) H) (hS : va_S (AC 31 a sz) H0 H locs) {i x : Int32} (hin : inB i 20 = true) (hdg : decode cc pc = .ok (.iastore, 1))
    (kk : ∀ (H1 : Heap) (locs1 : List Loc), va_P D vwCl (wM a cI cZ (sG S 29 i x)) H1 → va_S (AC 31 a sz) H0 H1 locs1 → W p l e R s m args below meth c H1 locs1 cells slots Q (F0 m (pc + 1) ls rest)) : W p l e R s m args below meth c H locs cells slots Q (F0 m pc ls (.int x :: .int i :: .ref (a 30) :: rest)) :=
  va_iast X.1 X.2.1 hK hP (wM_DA hA) hS 30 0 rfl rfl (inB_ok hin) hdg (fun H1 locs1 hP1 _ hS1 => kk H1 locs1 hP1 hS1)
theorem nM_X7_barPattern (X : CX p m c cc s args Ts own) (hK : va_K D vwCl (TYS cI cZ) s) (hP : va_P D vwCl (wM a cI cZ S) H) (hdg : decode cc pc = .ok (.arraylength, 1))
    (kk : W p l e R s m args below meth c H locs cells slots Q (F0 m (pc + 1) ls (.int (20 : Int32) :: rest))) : W p l e R s m args below meth c H locs cells slots Q (F0 m pc ls (.ref (a 30) :: rest)) :=
  va_alen X.1 X.2.1 hK hP 30 0 rfl rfl rfl hdg kk
theorem vM_X7 (hK : va_K D vwCl (TYS cI cZ) s) (hP : va_P D vwCl (wM a cI cZ S) H) : ∃ cell : Cell, H[a 0]? = some cell ∧ cell.vm.isStatics = false ∧ s.vm.findClass RX7 = some cell.cls := va_recv hK hP (ci := 7) (q0 := 0) rfl rfl
end ROWSM
