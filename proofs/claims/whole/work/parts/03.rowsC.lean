/-! ROWS of the class's world: a row a field and an array. By gen.py. -/
theorem tbOut {x : Int32} {n : Nat} {hi : Int} (e : hi = (n : Int)) (h : ∀ k : Nat, k ≤ n → ¬ x = Int32.ofNat k) : x.toInt < 0 ∨ hi < x.toInt := by
  subst e
  by_cases h0 : x.toInt < 0
  · exact Or.inl h0
  · right
    have hx : ¬ x < 0 := fun q => h0 (by have := Int32.lt_iff_toInt_lt.mp q; simpa using this)
    obtain ⟨j, hj, rfl⟩ := nI_of hx
    by_cases h1 : j ≤ n
    · exact absurd rfl (h j h1)
    · rw [nI_toInt hj]
      omega
def wC (a : Nat → Nat) (cI cZ : ClassId) (S : ST) : va_W := [(a 0, .inr (6, [.ref (a 1), .ref (a 3), .ref (a 8), .ref (a 11), .ref (a 14), .ref (a 19)])),
  (a 1, .inr (4, [.int (S.1 0), .int (S.1 1), .int (S.1 2), .int (S.1 3), .int (S.1 4), .int (S.1 5), .ref (a 2)])),
  (a 2, .inl (cI, 24, .inl (S.2 0))),
  (a 3, .inr (1, [.int (S.1 6), .ref (a 4), .ref (a 5), .ref (a 6), .ref (a 7)])),
  (a 4, .inl (cI, 8, .inl (S.2 1))),
  (a 5, .inl (cI, 8, .inl (S.2 2))),
  (a 6, .inl (cI, 8, .inl (S.2 3))),
  (a 7, .inl (cZ, 8, .inl (S.2 4))),
  (a 8, .inr (5, [.ref (a 1), .ref (a 3), .ref (a 9), .ref (a 10), .int (S.1 7)])),
  (a 9, .inl (cI, 1024, .inl (S.2 5))),
  (a 10, .inl (cI, 73984, .inl (S.2 6))),
  (a 11, .inr (2, [.ref (a 1), .ref (a 3), .ref (a 8), .ref (a 12), .ref (a 13), .int (S.1 8), .int (S.1 9), .int (S.1 10), .int (S.1 11)])),
  (a 12, .inl (cI, 1536, .inl (S.2 7))),
  (a 13, .inl (cI, 1785, .inl (S.2 8))),
  (a 14, .inr (3, [.int (S.1 12), .int (S.1 13), .int (S.1 14), .ref (a 15), .ref (a 16), .ref (a 17), .ref (a 18)])),
  (a 15, .inl (cI, 3, .inl (S.2 9))),
  (a 16, .inl (cI, 3, .inl (S.2 10))),
  (a 17, .inl (cI, 4, .inl (S.2 11))),
  (a 18, .inl (cI, 4, .inl (S.2 12))),
  (a 19, .inr (0, [.ref (a 14), .ref (a 20), .ref (a 21), .ref (a 22), .ref (a 23), .int (S.1 15), .int (S.1 16), .int (S.1 17), .int (S.1 18), .int (S.1 19)])),
  (a 20, .inl (cI, 4096, .inl (S.2 13))),
  (a 21, .inl (cI, 4096, .inl (S.2 14))),
  (a 22, .inl (cI, 4096, .inl (S.2 15))),
  (a 23, .inl (cI, 20, .inl (S.2 16)))]
section ROWSC
variable {p : Program} {l : Launch} {e : Env} {R : Room} {s : State} {m : MethodId} {args : Array Value} {below : List Frame} {meth : Method} {c : Code} {H H0 : Heap} {locs : List Loc} {cells slots sz : Nat} {Q : State → Prop} {Ts : List Cond} {cc : ByteArray} {index pc : Nat} {own : String} {rest : List Value} {ls : Array Slot} {D : va_G} {cI cZ : ClassId} {a : Nat → Nat} {S : ST}
theorem wC_D {A : Nat → Prop} (hA : AP 24 a) (hq : ∀ k, k < 24 → A (a k)) : va_D A (wC a cI cZ S) := by
  have key : ∀ (k : Nat) (q : Nat × va_E), (wC a cI cZ S)[k]? = some q → k < 24 ∧ q.1 = a k := by
    intro k q h
    have hk : k < 24 := by
      have h2 := (List.getElem?_eq_some_iff.mp h).1
      exact h2
    refine ⟨hk, ?_⟩
    match k, hk, h with
    | 0, _, h => cases h; rfl
    | 1, _, h => cases h; rfl
    | 2, _, h => cases h; rfl
    | 3, _, h => cases h; rfl
    | 4, _, h => cases h; rfl
    | 5, _, h => cases h; rfl
    | 6, _, h => cases h; rfl
    | 7, _, h => cases h; rfl
    | 8, _, h => cases h; rfl
    | 9, _, h => cases h; rfl
    | 10, _, h => cases h; rfl
    | 11, _, h => cases h; rfl
    | 12, _, h => cases h; rfl
    | 13, _, h => cases h; rfl
    | 14, _, h => cases h; rfl
    | 15, _, h => cases h; rfl
    | 16, _, h => cases h; rfl
    | 17, _, h => cases h; rfl
    | 18, _, h => cases h; rfl
    | 19, _, h => cases h; rfl
    | 20, _, h => cases h; rfl
    | 21, _, h => cases h; rfl
    | 22, _, h => cases h; rfl
    | 23, _, h => cases h; rfl
    | k + 24, hk, _ => omega
  refine ⟨fun i j p q h1 h2 h3 => ?_, fun k q h => ?_⟩
  · obtain ⟨k1, e1⟩ := key i p h1
    obtain ⟨k2, e2⟩ := key j q h2
    exact hA i j k1 k2 (by rw [← e1, ← e2]; exact h3)
  · obtain ⟨k1, e1⟩ := key k q h
    rw [e1]
    exact hq k k1
theorem wC_DA (hA : AP 24 a) : va_D (AC 24 a sz) (wC a cI cZ S) := wC_D hA (fun k hk => Or.inl ⟨k, hk, rfl⟩)
theorem gC_X6_sheet (X : CX p m c cc s args Ts own) (hK : va_K D vwCl (TYS cI cZ) s) (hP : va_P D vwCl (wC a cI cZ S) H) (hin : ∀ w ∈ wsX60, w ∈ Ts) (hl : Cond.fieldLink own index "CuttingRules" "sheet" "LCuttingRules$Sheet;" ∈ Ts) (hdg : decode cc pc = .ok (.getfield index, 3))
    (kk : W p l e R s m args below meth c H locs cells slots Q (F0 m (pc + 3) ls (.ref (a 1) :: rest))) : W p l e R s m args below meth c H locs cells slots Q (F0 m pc ls (.ref (a 0) :: rest)) :=
  va_get (D := D) (ci := 6) (v := .ref (a 1)) (C := RX6) (T := TX6) (N := 6) X.1 X.2.1 X.2.2.1 hin X.2.2.2 hK hP 0 rfl rfl 0 (by decide) (X.2.2.1 _ hl) (fun _ h9 => h9) rfl hdg kk
theorem gC_X6_kinds (X : CX p m c cc s args Ts own) (hK : va_K D vwCl (TYS cI cZ) s) (hP : va_P D vwCl (wC a cI cZ S) H) (hin : ∀ w ∈ wsX60, w ∈ Ts) (hl : Cond.fieldLink own index "CuttingRules" "kinds" "LCuttingRules$Kinds;" ∈ Ts) (hdg : decode cc pc = .ok (.getfield index, 3))
    (kk : W p l e R s m args below meth c H locs cells slots Q (F0 m (pc + 3) ls (.ref (a 3) :: rest))) : W p l e R s m args below meth c H locs cells slots Q (F0 m pc ls (.ref (a 0) :: rest)) :=
  va_get (D := D) (ci := 6) (v := .ref (a 3)) (C := RX6) (T := TX6) (N := 6) X.1 X.2.1 X.2.2.1 hin X.2.2.2 hK hP 0 rfl rfl 1 (by decide) (X.2.2.1 _ hl) (fun _ h9 => h9) rfl hdg kk
theorem gC_X6_worths (X : CX p m c cc s args Ts own) (hK : va_K D vwCl (TYS cI cZ) s) (hP : va_P D vwCl (wC a cI cZ S) H) (hin : ∀ w ∈ wsX60, w ∈ Ts) (hl : Cond.fieldLink own index "CuttingRules" "worths" "LCuttingRules$Worths;" ∈ Ts) (hdg : decode cc pc = .ok (.getfield index, 3))
    (kk : W p l e R s m args below meth c H locs cells slots Q (F0 m (pc + 3) ls (.ref (a 8) :: rest))) : W p l e R s m args below meth c H locs cells slots Q (F0 m pc ls (.ref (a 0) :: rest)) :=
  va_get (D := D) (ci := 6) (v := .ref (a 8)) (C := RX6) (T := TX6) (N := 6) X.1 X.2.1 X.2.2.1 hin X.2.2.2 hK hP 0 rfl rfl 2 (by decide) (X.2.2.1 _ hl) (fun _ h9 => h9) rfl hdg kk
theorem gC_X6_plan (X : CX p m c cc s args Ts own) (hK : va_K D vwCl (TYS cI cZ) s) (hP : va_P D vwCl (wC a cI cZ S) H) (hin : ∀ w ∈ wsX60, w ∈ Ts) (hl : Cond.fieldLink own index "CuttingRules" "plan" "LCuttingRules$Plan;" ∈ Ts) (hdg : decode cc pc = .ok (.getfield index, 3))
    (kk : W p l e R s m args below meth c H locs cells slots Q (F0 m (pc + 3) ls (.ref (a 11) :: rest))) : W p l e R s m args below meth c H locs cells slots Q (F0 m pc ls (.ref (a 0) :: rest)) :=
  va_get (D := D) (ci := 6) (v := .ref (a 11)) (C := RX6) (T := TX6) (N := 6) X.1 X.2.1 X.2.2.1 hin X.2.2.2 hK hP 0 rfl rfl 3 (by decide) (X.2.2.1 _ hl) (fun _ h9 => h9) rfl hdg kk
theorem gC_X6_rack (X : CX p m c cc s args Ts own) (hK : va_K D vwCl (TYS cI cZ) s) (hP : va_P D vwCl (wC a cI cZ S) H) (hin : ∀ w ∈ wsX60, w ∈ Ts) (hl : Cond.fieldLink own index "CuttingRules" "rack" "LCuttingRules$Rack;" ∈ Ts) (hdg : decode cc pc = .ok (.getfield index, 3))
    (kk : W p l e R s m args below meth c H locs cells slots Q (F0 m (pc + 3) ls (.ref (a 14) :: rest))) : W p l e R s m args below meth c H locs cells slots Q (F0 m pc ls (.ref (a 0) :: rest)) :=
  va_get (D := D) (ci := 6) (v := .ref (a 14)) (C := RX6) (T := TX6) (N := 6) X.1 X.2.1 X.2.2.1 hin X.2.2.2 hK hP 0 rfl rfl 4 (by decide) (X.2.2.1 _ hl) (fun _ h9 => h9) rfl hdg kk
theorem gC_X6_list (X : CX p m c cc s args Ts own) (hK : va_K D vwCl (TYS cI cZ) s) (hP : va_P D vwCl (wC a cI cZ S) H) (hin : ∀ w ∈ wsX60, w ∈ Ts) (hl : Cond.fieldLink own index "CuttingRules" "list" "LCuttingRules$BarList;" ∈ Ts) (hdg : decode cc pc = .ok (.getfield index, 3))
    (kk : W p l e R s m args below meth c H locs cells slots Q (F0 m (pc + 3) ls (.ref (a 19) :: rest))) : W p l e R s m args below meth c H locs cells slots Q (F0 m pc ls (.ref (a 0) :: rest)) :=
  va_get (D := D) (ci := 6) (v := .ref (a 19)) (C := RX6) (T := TX6) (N := 6) X.1 X.2.1 X.2.2.1 hin X.2.2.2 hK hP 0 rfl rfl 5 (by decide) (X.2.2.1 _ hl) (fun _ h9 => h9) rfl hdg kk
theorem gC_X4_width (X : CX p m c cc s args Ts own) (hK : va_K D vwCl (TYS cI cZ) s) (hP : va_P D vwCl (wC a cI cZ S) H) (hin : ∀ w ∈ wsX40, w ∈ Ts) (hl : Cond.fieldLink own index "CuttingRules$Sheet" "width" "I" ∈ Ts) (hdg : decode cc pc = .ok (.getfield index, 3))
    (kk : W p l e R s m args below meth c H locs cells slots Q (F0 m (pc + 3) ls (.int (S.1 0) :: rest))) : W p l e R s m args below meth c H locs cells slots Q (F0 m pc ls (.ref (a 1) :: rest)) :=
  va_get (D := D) (ci := 4) (v := .int (S.1 0)) (C := RX4) (T := TX4) (N := 7) X.1 X.2.1 X.2.2.1 hin X.2.2.2 hK hP 1 rfl rfl 0 (by decide) (X.2.2.1 _ hl) (fun _ h9 => h9) rfl hdg kk
theorem pC_X4_width (X : CX p m c cc s args Ts own) (hK : va_K D vwCl (TYS cI cZ) s) (hA : AP 24 a) (hP : va_P D vwCl (wC a cI cZ S) H) (hS : va_S (AC 24 a sz) H0 H locs) (hin : ∀ w ∈ wsX40, w ∈ Ts) (hl : Cond.fieldLink own index "CuttingRules$Sheet" "width" "I" ∈ Ts) {v : Int32} (hdg : decode cc pc = .ok (.putfield index, 3))
    (kk : ∀ (H1 : Heap) (locs1 : List Loc), va_P D vwCl (wC a cI cZ (sI S 0 v)) H1 → va_S (AC 24 a sz) H0 H1 locs1 → W p l e R s m args below meth c H1 locs1 cells slots Q (F0 m (pc + 3) ls rest)) : W p l e R s m args below meth c H locs cells slots Q (F0 m pc ls (.int v :: .ref (a 1) :: rest)) :=
  va_put (D := D) (ci := 4) (v := .int v) (ty := .int) (C := RX4) (T := TX4) (N := 7) X.1 X.2.1 X.2.2.1 hin tyX4 tyX4_ok nmX4 X.2.2.2 hK hP (wC_DA hA) hS 1 rfl rfl 0 (by decide) (X.2.2.1 _ hl) (fun _ h9 => h9) rfl (by decide +kernel) rfl rfl (Nat.le_of_ble_eq_true rfl) hdg (fun H1 locs1 hP1 _ hS1 => kk H1 locs1 hP1 hS1)
theorem gC_X4_height (X : CX p m c cc s args Ts own) (hK : va_K D vwCl (TYS cI cZ) s) (hP : va_P D vwCl (wC a cI cZ S) H) (hin : ∀ w ∈ wsX40, w ∈ Ts) (hl : Cond.fieldLink own index "CuttingRules$Sheet" "height" "I" ∈ Ts) (hdg : decode cc pc = .ok (.getfield index, 3))
    (kk : W p l e R s m args below meth c H locs cells slots Q (F0 m (pc + 3) ls (.int (S.1 1) :: rest))) : W p l e R s m args below meth c H locs cells slots Q (F0 m pc ls (.ref (a 1) :: rest)) :=
  va_get (D := D) (ci := 4) (v := .int (S.1 1)) (C := RX4) (T := TX4) (N := 7) X.1 X.2.1 X.2.2.1 hin X.2.2.2 hK hP 1 rfl rfl 1 (by decide) (X.2.2.1 _ hl) (fun _ h9 => h9) rfl hdg kk
theorem pC_X4_height (X : CX p m c cc s args Ts own) (hK : va_K D vwCl (TYS cI cZ) s) (hA : AP 24 a) (hP : va_P D vwCl (wC a cI cZ S) H) (hS : va_S (AC 24 a sz) H0 H locs) (hin : ∀ w ∈ wsX40, w ∈ Ts) (hl : Cond.fieldLink own index "CuttingRules$Sheet" "height" "I" ∈ Ts) {v : Int32} (hdg : decode cc pc = .ok (.putfield index, 3))
    (kk : ∀ (H1 : Heap) (locs1 : List Loc), va_P D vwCl (wC a cI cZ (sI S 1 v)) H1 → va_S (AC 24 a sz) H0 H1 locs1 → W p l e R s m args below meth c H1 locs1 cells slots Q (F0 m (pc + 3) ls rest)) : W p l e R s m args below meth c H locs cells slots Q (F0 m pc ls (.int v :: .ref (a 1) :: rest)) :=
  va_put (D := D) (ci := 4) (v := .int v) (ty := .int) (C := RX4) (T := TX4) (N := 7) X.1 X.2.1 X.2.2.1 hin tyX4 tyX4_ok nmX4 X.2.2.2 hK hP (wC_DA hA) hS 1 rfl rfl 1 (by decide) (X.2.2.1 _ hl) (fun _ h9 => h9) rfl (by decide +kernel) rfl rfl (Nat.le_of_ble_eq_true rfl) hdg (fun H1 locs1 hP1 _ hS1 => kk H1 locs1 hP1 hS1)
theorem gC_X4_kerf (X : CX p m c cc s args Ts own) (hK : va_K D vwCl (TYS cI cZ) s) (hP : va_P D vwCl (wC a cI cZ S) H) (hin : ∀ w ∈ wsX40, w ∈ Ts) (hl : Cond.fieldLink own index "CuttingRules$Sheet" "kerf" "I" ∈ Ts) (hdg : decode cc pc = .ok (.getfield index, 3))
    (kk : W p l e R s m args below meth c H locs cells slots Q (F0 m (pc + 3) ls (.int (S.1 2) :: rest))) : W p l e R s m args below meth c H locs cells slots Q (F0 m pc ls (.ref (a 1) :: rest)) :=
  va_get (D := D) (ci := 4) (v := .int (S.1 2)) (C := RX4) (T := TX4) (N := 7) X.1 X.2.1 X.2.2.1 hin X.2.2.2 hK hP 1 rfl rfl 2 (by decide) (X.2.2.1 _ hl) (fun _ h9 => h9) rfl hdg kk
theorem pC_X4_kerf (X : CX p m c cc s args Ts own) (hK : va_K D vwCl (TYS cI cZ) s) (hA : AP 24 a) (hP : va_P D vwCl (wC a cI cZ S) H) (hS : va_S (AC 24 a sz) H0 H locs) (hin : ∀ w ∈ wsX40, w ∈ Ts) (hl : Cond.fieldLink own index "CuttingRules$Sheet" "kerf" "I" ∈ Ts) {v : Int32} (hdg : decode cc pc = .ok (.putfield index, 3))
    (kk : ∀ (H1 : Heap) (locs1 : List Loc), va_P D vwCl (wC a cI cZ (sI S 2 v)) H1 → va_S (AC 24 a sz) H0 H1 locs1 → W p l e R s m args below meth c H1 locs1 cells slots Q (F0 m (pc + 3) ls rest)) : W p l e R s m args below meth c H locs cells slots Q (F0 m pc ls (.int v :: .ref (a 1) :: rest)) :=
  va_put (D := D) (ci := 4) (v := .int v) (ty := .int) (C := RX4) (T := TX4) (N := 7) X.1 X.2.1 X.2.2.1 hin tyX4 tyX4_ok nmX4 X.2.2.2 hK hP (wC_DA hA) hS 1 rfl rfl 2 (by decide) (X.2.2.1 _ hl) (fun _ h9 => h9) rfl (by decide +kernel) rfl rfl (Nat.le_of_ble_eq_true rfl) hdg (fun H1 locs1 hP1 _ hS1 => kk H1 locs1 hP1 hS1)
theorem gC_X4_stages (X : CX p m c cc s args Ts own) (hK : va_K D vwCl (TYS cI cZ) s) (hP : va_P D vwCl (wC a cI cZ S) H) (hin : ∀ w ∈ wsX40, w ∈ Ts) (hl : Cond.fieldLink own index "CuttingRules$Sheet" "stages" "I" ∈ Ts) (hdg : decode cc pc = .ok (.getfield index, 3))
    (kk : W p l e R s m args below meth c H locs cells slots Q (F0 m (pc + 3) ls (.int (S.1 3) :: rest))) : W p l e R s m args below meth c H locs cells slots Q (F0 m pc ls (.ref (a 1) :: rest)) :=
  va_get (D := D) (ci := 4) (v := .int (S.1 3)) (C := RX4) (T := TX4) (N := 7) X.1 X.2.1 X.2.2.1 hin X.2.2.2 hK hP 1 rfl rfl 3 (by decide) (X.2.2.1 _ hl) (fun _ h9 => h9) rfl hdg kk
theorem pC_X4_stages (X : CX p m c cc s args Ts own) (hK : va_K D vwCl (TYS cI cZ) s) (hA : AP 24 a) (hP : va_P D vwCl (wC a cI cZ S) H) (hS : va_S (AC 24 a sz) H0 H locs) (hin : ∀ w ∈ wsX40, w ∈ Ts) (hl : Cond.fieldLink own index "CuttingRules$Sheet" "stages" "I" ∈ Ts) {v : Int32} (hdg : decode cc pc = .ok (.putfield index, 3))
    (kk : ∀ (H1 : Heap) (locs1 : List Loc), va_P D vwCl (wC a cI cZ (sI S 3 v)) H1 → va_S (AC 24 a sz) H0 H1 locs1 → W p l e R s m args below meth c H1 locs1 cells slots Q (F0 m (pc + 3) ls rest)) : W p l e R s m args below meth c H locs cells slots Q (F0 m pc ls (.int v :: .ref (a 1) :: rest)) :=
  va_put (D := D) (ci := 4) (v := .int v) (ty := .int) (C := RX4) (T := TX4) (N := 7) X.1 X.2.1 X.2.2.1 hin tyX4 tyX4_ok nmX4 X.2.2.2 hK hP (wC_DA hA) hS 1 rfl rfl 3 (by decide) (X.2.2.1 _ hl) (fun _ h9 => h9) rfl (by decide +kernel) rfl rfl (Nat.le_of_ble_eq_true rfl) hdg (fun H1 locs1 hP1 _ hS1 => kk H1 locs1 hP1 hS1)
theorem gC_X4_first (X : CX p m c cc s args Ts own) (hK : va_K D vwCl (TYS cI cZ) s) (hP : va_P D vwCl (wC a cI cZ S) H) (hin : ∀ w ∈ wsX40, w ∈ Ts) (hl : Cond.fieldLink own index "CuttingRules$Sheet" "first" "I" ∈ Ts) (hdg : decode cc pc = .ok (.getfield index, 3))
    (kk : W p l e R s m args below meth c H locs cells slots Q (F0 m (pc + 3) ls (.int (S.1 4) :: rest))) : W p l e R s m args below meth c H locs cells slots Q (F0 m pc ls (.ref (a 1) :: rest)) :=
  va_get (D := D) (ci := 4) (v := .int (S.1 4)) (C := RX4) (T := TX4) (N := 7) X.1 X.2.1 X.2.2.1 hin X.2.2.2 hK hP 1 rfl rfl 4 (by decide) (X.2.2.1 _ hl) (fun _ h9 => h9) rfl hdg kk
theorem pC_X4_first (X : CX p m c cc s args Ts own) (hK : va_K D vwCl (TYS cI cZ) s) (hA : AP 24 a) (hP : va_P D vwCl (wC a cI cZ S) H) (hS : va_S (AC 24 a sz) H0 H locs) (hin : ∀ w ∈ wsX40, w ∈ Ts) (hl : Cond.fieldLink own index "CuttingRules$Sheet" "first" "I" ∈ Ts) {v : Int32} (hdg : decode cc pc = .ok (.putfield index, 3))
    (kk : ∀ (H1 : Heap) (locs1 : List Loc), va_P D vwCl (wC a cI cZ (sI S 4 v)) H1 → va_S (AC 24 a sz) H0 H1 locs1 → W p l e R s m args below meth c H1 locs1 cells slots Q (F0 m (pc + 3) ls rest)) : W p l e R s m args below meth c H locs cells slots Q (F0 m pc ls (.int v :: .ref (a 1) :: rest)) :=
  va_put (D := D) (ci := 4) (v := .int v) (ty := .int) (C := RX4) (T := TX4) (N := 7) X.1 X.2.1 X.2.2.1 hin tyX4 tyX4_ok nmX4 X.2.2.2 hK hP (wC_DA hA) hS 1 rfl rfl 4 (by decide) (X.2.2.1 _ hl) (fun _ h9 => h9) rfl (by decide +kernel) rfl rfl (Nat.le_of_ble_eq_true rfl) hdg (fun H1 locs1 hP1 _ hS1 => kk H1 locs1 hP1 hS1)
theorem gC_X4_defects (X : CX p m c cc s args Ts own) (hK : va_K D vwCl (TYS cI cZ) s) (hP : va_P D vwCl (wC a cI cZ S) H) (hin : ∀ w ∈ wsX40, w ∈ Ts) (hl : Cond.fieldLink own index "CuttingRules$Sheet" "defects" "I" ∈ Ts) (hdg : decode cc pc = .ok (.getfield index, 3))
    (kk : W p l e R s m args below meth c H locs cells slots Q (F0 m (pc + 3) ls (.int (S.1 5) :: rest))) : W p l e R s m args below meth c H locs cells slots Q (F0 m pc ls (.ref (a 1) :: rest)) :=
  va_get (D := D) (ci := 4) (v := .int (S.1 5)) (C := RX4) (T := TX4) (N := 7) X.1 X.2.1 X.2.2.1 hin X.2.2.2 hK hP 1 rfl rfl 5 (by decide) (X.2.2.1 _ hl) (fun _ h9 => h9) rfl hdg kk
theorem pC_X4_defects (X : CX p m c cc s args Ts own) (hK : va_K D vwCl (TYS cI cZ) s) (hA : AP 24 a) (hP : va_P D vwCl (wC a cI cZ S) H) (hS : va_S (AC 24 a sz) H0 H locs) (hin : ∀ w ∈ wsX40, w ∈ Ts) (hl : Cond.fieldLink own index "CuttingRules$Sheet" "defects" "I" ∈ Ts) {v : Int32} (hdg : decode cc pc = .ok (.putfield index, 3))
    (kk : ∀ (H1 : Heap) (locs1 : List Loc), va_P D vwCl (wC a cI cZ (sI S 5 v)) H1 → va_S (AC 24 a sz) H0 H1 locs1 → W p l e R s m args below meth c H1 locs1 cells slots Q (F0 m (pc + 3) ls rest)) : W p l e R s m args below meth c H locs cells slots Q (F0 m pc ls (.int v :: .ref (a 1) :: rest)) :=
  va_put (D := D) (ci := 4) (v := .int v) (ty := .int) (C := RX4) (T := TX4) (N := 7) X.1 X.2.1 X.2.2.1 hin tyX4 tyX4_ok nmX4 X.2.2.2 hK hP (wC_DA hA) hS 1 rfl rfl 5 (by decide) (X.2.2.1 _ hl) (fun _ h9 => h9) rfl (by decide +kernel) rfl rfl (Nat.le_of_ble_eq_true rfl) hdg (fun H1 locs1 hP1 _ hS1 => kk H1 locs1 hP1 hS1)
theorem gC_X4_spoiled (X : CX p m c cc s args Ts own) (hK : va_K D vwCl (TYS cI cZ) s) (hP : va_P D vwCl (wC a cI cZ S) H) (hin : ∀ w ∈ wsX40, w ∈ Ts) (hl : Cond.fieldLink own index "CuttingRules$Sheet" "spoiled" "[I" ∈ Ts) (hdg : decode cc pc = .ok (.getfield index, 3))
    (kk : W p l e R s m args below meth c H locs cells slots Q (F0 m (pc + 3) ls (.ref (a 2) :: rest))) : W p l e R s m args below meth c H locs cells slots Q (F0 m pc ls (.ref (a 1) :: rest)) :=
  va_get (D := D) (ci := 4) (v := .ref (a 2)) (C := RX4) (T := TX4) (N := 7) X.1 X.2.1 X.2.2.1 hin X.2.2.2 hK hP 1 rfl rfl 6 (by decide) (X.2.2.1 _ hl) (fun _ h9 => h9) rfl hdg kk
theorem rC_X4_spoiled (X : CX p m c cc s args Ts own) (hK : va_K D vwCl (TYS cI cZ) s) (hP : va_P D vwCl (wC a cI cZ S) H) {i : Int32} (hin : inB i 24 = true) (hdg : decode cc pc = .ok (.iaload, 1))
    (kk : W p l e R s m args below meth c H locs cells slots Q (F0 m (pc + 1) ls (.int (S.2 0 i.toNatClampNeg) :: rest))) : W p l e R s m args below meth c H locs cells slots Q (F0 m pc ls (.int i :: .ref (a 2) :: rest)) :=
  va_iald X.1 X.2.1 hK hP 2 0 rfl rfl (inB_ok hin) hdg kk
theorem sC_X4_spoiled (X : CX p m c cc s args Ts own) (hK : va_K D vwCl (TYS cI cZ) s) (hA : AP 24 a) (hP : va_P D vwCl (wC a cI cZ S) H) (hS : va_S (AC 24 a sz) H0 H locs) {i x : Int32} (hin : inB i 24 = true) (hdg : decode cc pc = .ok (.iastore, 1))
    (kk : ∀ (H1 : Heap) (locs1 : List Loc), va_P D vwCl (wC a cI cZ (sG S 0 i x)) H1 → va_S (AC 24 a sz) H0 H1 locs1 → W p l e R s m args below meth c H1 locs1 cells slots Q (F0 m (pc + 1) ls rest)) : W p l e R s m args below meth c H locs cells slots Q (F0 m pc ls (.int x :: .int i :: .ref (a 2) :: rest)) :=
  va_iast X.1 X.2.1 hK hP (wC_DA hA) hS 2 0 rfl rfl (inB_ok hin) hdg (fun H1 locs1 hP1 _ hS1 => kk H1 locs1 hP1 hS1)
theorem nC_X4_spoiled (X : CX p m c cc s args Ts own) (hK : va_K D vwCl (TYS cI cZ) s) (hP : va_P D vwCl (wC a cI cZ S) H) (hdg : decode cc pc = .ok (.arraylength, 1))
    (kk : W p l e R s m args below meth c H locs cells slots Q (F0 m (pc + 1) ls (.int (24 : Int32) :: rest))) : W p l e R s m args below meth c H locs cells slots Q (F0 m pc ls (.ref (a 2) :: rest)) :=
  va_alen X.1 X.2.1 hK hP 2 0 rfl rfl rfl hdg kk
theorem gC_X1_count (X : CX p m c cc s args Ts own) (hK : va_K D vwCl (TYS cI cZ) s) (hP : va_P D vwCl (wC a cI cZ S) H) (hin : ∀ w ∈ wsX10, w ∈ Ts) (hl : Cond.fieldLink own index "CuttingRules$Kinds" "count" "I" ∈ Ts) (hdg : decode cc pc = .ok (.getfield index, 3))
    (kk : W p l e R s m args below meth c H locs cells slots Q (F0 m (pc + 3) ls (.int (S.1 6) :: rest))) : W p l e R s m args below meth c H locs cells slots Q (F0 m pc ls (.ref (a 3) :: rest)) :=
  va_get (D := D) (ci := 1) (v := .int (S.1 6)) (C := RX1) (T := TX1) (N := 5) X.1 X.2.1 X.2.2.1 hin X.2.2.2 hK hP 3 rfl rfl 0 (by decide) (X.2.2.1 _ hl) (fun _ h9 => h9) rfl hdg kk
theorem pC_X1_count (X : CX p m c cc s args Ts own) (hK : va_K D vwCl (TYS cI cZ) s) (hA : AP 24 a) (hP : va_P D vwCl (wC a cI cZ S) H) (hS : va_S (AC 24 a sz) H0 H locs) (hin : ∀ w ∈ wsX10, w ∈ Ts) (hl : Cond.fieldLink own index "CuttingRules$Kinds" "count" "I" ∈ Ts) {v : Int32} (hdg : decode cc pc = .ok (.putfield index, 3))
    (kk : ∀ (H1 : Heap) (locs1 : List Loc), va_P D vwCl (wC a cI cZ (sI S 6 v)) H1 → va_S (AC 24 a sz) H0 H1 locs1 → W p l e R s m args below meth c H1 locs1 cells slots Q (F0 m (pc + 3) ls rest)) : W p l e R s m args below meth c H locs cells slots Q (F0 m pc ls (.int v :: .ref (a 3) :: rest)) :=
  va_put (D := D) (ci := 1) (v := .int v) (ty := .int) (C := RX1) (T := TX1) (N := 5) X.1 X.2.1 X.2.2.1 hin tyX1 tyX1_ok nmX1 X.2.2.2 hK hP (wC_DA hA) hS 3 rfl rfl 0 (by decide) (X.2.2.1 _ hl) (fun _ h9 => h9) rfl (by decide +kernel) rfl rfl (Nat.le_of_ble_eq_true rfl) hdg (fun H1 locs1 hP1 _ hS1 => kk H1 locs1 hP1 hS1)
theorem gC_X1_widths (X : CX p m c cc s args Ts own) (hK : va_K D vwCl (TYS cI cZ) s) (hP : va_P D vwCl (wC a cI cZ S) H) (hin : ∀ w ∈ wsX10, w ∈ Ts) (hl : Cond.fieldLink own index "CuttingRules$Kinds" "widths" "[I" ∈ Ts) (hdg : decode cc pc = .ok (.getfield index, 3))
    (kk : W p l e R s m args below meth c H locs cells slots Q (F0 m (pc + 3) ls (.ref (a 4) :: rest))) : W p l e R s m args below meth c H locs cells slots Q (F0 m pc ls (.ref (a 3) :: rest)) :=
  va_get (D := D) (ci := 1) (v := .ref (a 4)) (C := RX1) (T := TX1) (N := 5) X.1 X.2.1 X.2.2.1 hin X.2.2.2 hK hP 3 rfl rfl 1 (by decide) (X.2.2.1 _ hl) (fun _ h9 => h9) rfl hdg kk
theorem gC_X1_heights (X : CX p m c cc s args Ts own) (hK : va_K D vwCl (TYS cI cZ) s) (hP : va_P D vwCl (wC a cI cZ S) H) (hin : ∀ w ∈ wsX10, w ∈ Ts) (hl : Cond.fieldLink own index "CuttingRules$Kinds" "heights" "[I" ∈ Ts) (hdg : decode cc pc = .ok (.getfield index, 3))
    (kk : W p l e R s m args below meth c H locs cells slots Q (F0 m (pc + 3) ls (.ref (a 5) :: rest))) : W p l e R s m args below meth c H locs cells slots Q (F0 m pc ls (.ref (a 3) :: rest)) :=
  va_get (D := D) (ci := 1) (v := .ref (a 5)) (C := RX1) (T := TX1) (N := 5) X.1 X.2.1 X.2.2.1 hin X.2.2.2 hK hP 3 rfl rfl 2 (by decide) (X.2.2.1 _ hl) (fun _ h9 => h9) rfl hdg kk
theorem gC_X1_values (X : CX p m c cc s args Ts own) (hK : va_K D vwCl (TYS cI cZ) s) (hP : va_P D vwCl (wC a cI cZ S) H) (hin : ∀ w ∈ wsX10, w ∈ Ts) (hl : Cond.fieldLink own index "CuttingRules$Kinds" "values" "[I" ∈ Ts) (hdg : decode cc pc = .ok (.getfield index, 3))
    (kk : W p l e R s m args below meth c H locs cells slots Q (F0 m (pc + 3) ls (.ref (a 6) :: rest))) : W p l e R s m args below meth c H locs cells slots Q (F0 m pc ls (.ref (a 3) :: rest)) :=
  va_get (D := D) (ci := 1) (v := .ref (a 6)) (C := RX1) (T := TX1) (N := 5) X.1 X.2.1 X.2.2.1 hin X.2.2.2 hK hP 3 rfl rfl 3 (by decide) (X.2.2.1 _ hl) (fun _ h9 => h9) rfl hdg kk
theorem gC_X1_turning (X : CX p m c cc s args Ts own) (hK : va_K D vwCl (TYS cI cZ) s) (hP : va_P D vwCl (wC a cI cZ S) H) (hin : ∀ w ∈ wsX10, w ∈ Ts) (hl : Cond.fieldLink own index "CuttingRules$Kinds" "turning" "[Z" ∈ Ts) (hdg : decode cc pc = .ok (.getfield index, 3))
    (kk : W p l e R s m args below meth c H locs cells slots Q (F0 m (pc + 3) ls (.ref (a 7) :: rest))) : W p l e R s m args below meth c H locs cells slots Q (F0 m pc ls (.ref (a 3) :: rest)) :=
  va_get (D := D) (ci := 1) (v := .ref (a 7)) (C := RX1) (T := TX1) (N := 5) X.1 X.2.1 X.2.2.1 hin X.2.2.2 hK hP 3 rfl rfl 4 (by decide) (X.2.2.1 _ hl) (fun _ h9 => h9) rfl hdg kk
theorem rC_X1_widths (X : CX p m c cc s args Ts own) (hK : va_K D vwCl (TYS cI cZ) s) (hP : va_P D vwCl (wC a cI cZ S) H) {i : Int32} (hin : inB i 8 = true) (hdg : decode cc pc = .ok (.iaload, 1))
    (kk : W p l e R s m args below meth c H locs cells slots Q (F0 m (pc + 1) ls (.int (S.2 1 i.toNatClampNeg) :: rest))) : W p l e R s m args below meth c H locs cells slots Q (F0 m pc ls (.int i :: .ref (a 4) :: rest)) :=
  va_iald X.1 X.2.1 hK hP 4 0 rfl rfl (inB_ok hin) hdg kk
theorem sC_X1_widths (X : CX p m c cc s args Ts own) (hK : va_K D vwCl (TYS cI cZ) s) (hA : AP 24 a) (hP : va_P D vwCl (wC a cI cZ S) H) (hS : va_S (AC 24 a sz) H0 H locs) {i x : Int32} (hin : inB i 8 = true) (hdg : decode cc pc = .ok (.iastore, 1))
    (kk : ∀ (H1 : Heap) (locs1 : List Loc), va_P D vwCl (wC a cI cZ (sG S 1 i x)) H1 → va_S (AC 24 a sz) H0 H1 locs1 → W p l e R s m args below meth c H1 locs1 cells slots Q (F0 m (pc + 1) ls rest)) : W p l e R s m args below meth c H locs cells slots Q (F0 m pc ls (.int x :: .int i :: .ref (a 4) :: rest)) :=
  va_iast X.1 X.2.1 hK hP (wC_DA hA) hS 4 0 rfl rfl (inB_ok hin) hdg (fun H1 locs1 hP1 _ hS1 => kk H1 locs1 hP1 hS1)
theorem nC_X1_widths (X : CX p m c cc s args Ts own) (hK : va_K D vwCl (TYS cI cZ) s) (hP : va_P D vwCl (wC a cI cZ S) H) (hdg : decode cc pc = .ok (.arraylength, 1))
    (kk : W p l e R s m args below meth c H locs cells slots Q (F0 m (pc + 1) ls (.int (8 : Int32) :: rest))) : W p l e R s m args below meth c H locs cells slots Q (F0 m pc ls (.ref (a 4) :: rest)) :=
  va_alen X.1 X.2.1 hK hP 4 0 rfl rfl rfl hdg kk
theorem rC_X1_heights (X : CX p m c cc s args Ts own) (hK : va_K D vwCl (TYS cI cZ) s) (hP : va_P D vwCl (wC a cI cZ S) H) {i : Int32} (hin : inB i 8 = true) (hdg : decode cc pc = .ok (.iaload, 1))
    (kk : W p l e R s m args below meth c H locs cells slots Q (F0 m (pc + 1) ls (.int (S.2 2 i.toNatClampNeg) :: rest))) : W p l e R s m args below meth c H locs cells slots Q (F0 m pc ls (.int i :: .ref (a 5) :: rest)) :=
  va_iald X.1 X.2.1 hK hP 5 0 rfl rfl (inB_ok hin) hdg kk
theorem sC_X1_heights (X : CX p m c cc s args Ts own) (hK : va_K D vwCl (TYS cI cZ) s) (hA : AP 24 a) (hP : va_P D vwCl (wC a cI cZ S) H) (hS : va_S (AC 24 a sz) H0 H locs) {i x : Int32} (hin : inB i 8 = true) (hdg : decode cc pc = .ok (.iastore, 1))
    (kk : ∀ (H1 : Heap) (locs1 : List Loc), va_P D vwCl (wC a cI cZ (sG S 2 i x)) H1 → va_S (AC 24 a sz) H0 H1 locs1 → W p l e R s m args below meth c H1 locs1 cells slots Q (F0 m (pc + 1) ls rest)) : W p l e R s m args below meth c H locs cells slots Q (F0 m pc ls (.int x :: .int i :: .ref (a 5) :: rest)) :=
  va_iast X.1 X.2.1 hK hP (wC_DA hA) hS 5 0 rfl rfl (inB_ok hin) hdg (fun H1 locs1 hP1 _ hS1 => kk H1 locs1 hP1 hS1)
theorem nC_X1_heights (X : CX p m c cc s args Ts own) (hK : va_K D vwCl (TYS cI cZ) s) (hP : va_P D vwCl (wC a cI cZ S) H) (hdg : decode cc pc = .ok (.arraylength, 1))
    (kk : W p l e R s m args below meth c H locs cells slots Q (F0 m (pc + 1) ls (.int (8 : Int32) :: rest))) : W p l e R s m args below meth c H locs cells slots Q (F0 m pc ls (.ref (a 5) :: rest)) :=
  va_alen X.1 X.2.1 hK hP 5 0 rfl rfl rfl hdg kk
theorem rC_X1_values (X : CX p m c cc s args Ts own) (hK : va_K D vwCl (TYS cI cZ) s) (hP : va_P D vwCl (wC a cI cZ S) H) {i : Int32} (hin : inB i 8 = true) (hdg : decode cc pc = .ok (.iaload, 1))
    (kk : W p l e R s m args below meth c H locs cells slots Q (F0 m (pc + 1) ls (.int (S.2 3 i.toNatClampNeg) :: rest))) : W p l e R s m args below meth c H locs cells slots Q (F0 m pc ls (.int i :: .ref (a 6) :: rest)) :=
  va_iald X.1 X.2.1 hK hP 6 0 rfl rfl (inB_ok hin) hdg kk
theorem sC_X1_values (X : CX p m c cc s args Ts own) (hK : va_K D vwCl (TYS cI cZ) s) (hA : AP 24 a) (hP : va_P D vwCl (wC a cI cZ S) H) (hS : va_S (AC 24 a sz) H0 H locs) {i x : Int32} (hin : inB i 8 = true) (hdg : decode cc pc = .ok (.iastore, 1))
    (kk : ∀ (H1 : Heap) (locs1 : List Loc), va_P D vwCl (wC a cI cZ (sG S 3 i x)) H1 → va_S (AC 24 a sz) H0 H1 locs1 → W p l e R s m args below meth c H1 locs1 cells slots Q (F0 m (pc + 1) ls rest)) : W p l e R s m args below meth c H locs cells slots Q (F0 m pc ls (.int x :: .int i :: .ref (a 6) :: rest)) :=
  va_iast X.1 X.2.1 hK hP (wC_DA hA) hS 6 0 rfl rfl (inB_ok hin) hdg (fun H1 locs1 hP1 _ hS1 => kk H1 locs1 hP1 hS1)
theorem nC_X1_values (X : CX p m c cc s args Ts own) (hK : va_K D vwCl (TYS cI cZ) s) (hP : va_P D vwCl (wC a cI cZ S) H) (hdg : decode cc pc = .ok (.arraylength, 1))
    (kk : W p l e R s m args below meth c H locs cells slots Q (F0 m (pc + 1) ls (.int (8 : Int32) :: rest))) : W p l e R s m args below meth c H locs cells slots Q (F0 m pc ls (.ref (a 6) :: rest)) :=
  va_alen X.1 X.2.1 hK hP 6 0 rfl rfl rfl hdg kk
theorem rC_X1_turning (X : CX p m c cc s args Ts own) (hK : va_K D vwCl (TYS cI cZ) s) (hP : va_P D vwCl (wC a cI cZ S) H) {i : Int32} (hin : inB i 8 = true) (hdg : decode cc pc = .ok (.baload, 1))
    (kk : W p l e R s m args below meth c H locs cells slots Q (F0 m (pc + 1) ls (.int (S.2 4 i.toNatClampNeg) :: rest))) : W p l e R s m args below meth c H locs cells slots Q (F0 m pc ls (.int i :: .ref (a 7) :: rest)) :=
  va_zald X.1 X.2.1 hK hP 7 1 rfl rfl (inB_ok hin) hdg kk
theorem sC_X1_turning (X : CX p m c cc s args Ts own) (hK : va_K D vwCl (TYS cI cZ) s) (hA : AP 24 a) (hP : va_P D vwCl (wC a cI cZ S) H) (hS : va_S (AC 24 a sz) H0 H locs) {i x : Int32} (hin : inB i 8 = true) (hdg : decode cc pc = .ok (.bastore, 1))
    (kk : ∀ (H1 : Heap) (locs1 : List Loc), va_P D vwCl (wC a cI cZ (sG S 4 i (vp_nar .boolean x))) H1 → va_S (AC 24 a sz) H0 H1 locs1 → W p l e R s m args below meth c H1 locs1 cells slots Q (F0 m (pc + 1) ls rest)) : W p l e R s m args below meth c H locs cells slots Q (F0 m pc ls (.int x :: .int i :: .ref (a 7) :: rest)) :=
  va_zast X.1 X.2.1 hK hP (wC_DA hA) hS 7 1 rfl rfl (inB_ok hin) hdg (fun H1 locs1 hP1 _ hS1 => kk H1 locs1 hP1 hS1)
theorem nC_X1_turning (X : CX p m c cc s args Ts own) (hK : va_K D vwCl (TYS cI cZ) s) (hP : va_P D vwCl (wC a cI cZ S) H) (hdg : decode cc pc = .ok (.arraylength, 1))
    (kk : W p l e R s m args below meth c H locs cells slots Q (F0 m (pc + 1) ls (.int (8 : Int32) :: rest))) : W p l e R s m args below meth c H locs cells slots Q (F0 m pc ls (.ref (a 7) :: rest)) :=
  va_alen X.1 X.2.1 hK hP 7 1 rfl rfl rfl hdg kk
theorem gC_X5_sheet (X : CX p m c cc s args Ts own) (hK : va_K D vwCl (TYS cI cZ) s) (hP : va_P D vwCl (wC a cI cZ S) H) (hin : ∀ w ∈ wsX50, w ∈ Ts) (hl : Cond.fieldLink own index "CuttingRules$Worths" "sheet" "LCuttingRules$Sheet;" ∈ Ts) (hdg : decode cc pc = .ok (.getfield index, 3))
    (kk : W p l e R s m args below meth c H locs cells slots Q (F0 m (pc + 3) ls (.ref (a 1) :: rest))) : W p l e R s m args below meth c H locs cells slots Q (F0 m pc ls (.ref (a 8) :: rest)) :=
  va_get (D := D) (ci := 5) (v := .ref (a 1)) (C := RX5) (T := TX5) (N := 5) X.1 X.2.1 X.2.2.1 hin X.2.2.2 hK hP 8 rfl rfl 0 (by decide) (X.2.2.1 _ hl) (fun _ h9 => h9) rfl hdg kk
theorem gC_X5_kinds (X : CX p m c cc s args Ts own) (hK : va_K D vwCl (TYS cI cZ) s) (hP : va_P D vwCl (wC a cI cZ S) H) (hin : ∀ w ∈ wsX50, w ∈ Ts) (hl : Cond.fieldLink own index "CuttingRules$Worths" "kinds" "LCuttingRules$Kinds;" ∈ Ts) (hdg : decode cc pc = .ok (.getfield index, 3))
    (kk : W p l e R s m args below meth c H locs cells slots Q (F0 m (pc + 3) ls (.ref (a 3) :: rest))) : W p l e R s m args below meth c H locs cells slots Q (F0 m pc ls (.ref (a 8) :: rest)) :=
  va_get (D := D) (ci := 5) (v := .ref (a 3)) (C := RX5) (T := TX5) (N := 5) X.1 X.2.1 X.2.2.1 hin X.2.2.2 hK hP 8 rfl rfl 1 (by decide) (X.2.2.1 _ hl) (fun _ h9 => h9) rfl hdg kk
theorem gC_X5_ofSizes (X : CX p m c cc s args Ts own) (hK : va_K D vwCl (TYS cI cZ) s) (hP : va_P D vwCl (wC a cI cZ S) H) (hin : ∀ w ∈ wsX50, w ∈ Ts) (hl : Cond.fieldLink own index "CuttingRules$Worths" "ofSizes" "[I" ∈ Ts) (hdg : decode cc pc = .ok (.getfield index, 3))
    (kk : W p l e R s m args below meth c H locs cells slots Q (F0 m (pc + 3) ls (.ref (a 9) :: rest))) : W p l e R s m args below meth c H locs cells slots Q (F0 m pc ls (.ref (a 8) :: rest)) :=
  va_get (D := D) (ci := 5) (v := .ref (a 9)) (C := RX5) (T := TX5) (N := 5) X.1 X.2.1 X.2.2.1 hin X.2.2.2 hK hP 8 rfl rfl 2 (by decide) (X.2.2.1 _ hl) (fun _ h9 => h9) rfl hdg kk
theorem gC_X5_ofParts (X : CX p m c cc s args Ts own) (hK : va_K D vwCl (TYS cI cZ) s) (hP : va_P D vwCl (wC a cI cZ S) H) (hin : ∀ w ∈ wsX50, w ∈ Ts) (hl : Cond.fieldLink own index "CuttingRules$Worths" "ofParts" "[I" ∈ Ts) (hdg : decode cc pc = .ok (.getfield index, 3))
    (kk : W p l e R s m args below meth c H locs cells slots Q (F0 m (pc + 3) ls (.ref (a 10) :: rest))) : W p l e R s m args below meth c H locs cells slots Q (F0 m pc ls (.ref (a 8) :: rest)) :=
  va_get (D := D) (ci := 5) (v := .ref (a 10)) (C := RX5) (T := TX5) (N := 5) X.1 X.2.1 X.2.2.1 hin X.2.2.2 hK hP 8 rfl rfl 3 (by decide) (X.2.2.1 _ hl) (fun _ h9 => h9) rfl hdg kk
theorem gC_X5_stale (X : CX p m c cc s args Ts own) (hK : va_K D vwCl (TYS cI cZ) s) (hP : va_P D vwCl (wC a cI cZ S) H) (hin : ∀ w ∈ wsX50, w ∈ Ts) (hl : Cond.fieldLink own index "CuttingRules$Worths" "stale" "Z" ∈ Ts) (hdg : decode cc pc = .ok (.getfield index, 3))
    (kk : W p l e R s m args below meth c H locs cells slots Q (F0 m (pc + 3) ls (.int (S.1 7) :: rest))) : W p l e R s m args below meth c H locs cells slots Q (F0 m pc ls (.ref (a 8) :: rest)) :=
  va_get (D := D) (ci := 5) (v := .int (S.1 7)) (C := RX5) (T := TX5) (N := 5) X.1 X.2.1 X.2.2.1 hin X.2.2.2 hK hP 8 rfl rfl 4 (by decide) (X.2.2.1 _ hl) (fun _ h9 => h9) rfl hdg kk
theorem pC_X5_stale (X : CX p m c cc s args Ts own) (hK : va_K D vwCl (TYS cI cZ) s) (hA : AP 24 a) (hP : va_P D vwCl (wC a cI cZ S) H) (hS : va_S (AC 24 a sz) H0 H locs) (hin : ∀ w ∈ wsX50, w ∈ Ts) (hl : Cond.fieldLink own index "CuttingRules$Worths" "stale" "Z" ∈ Ts) {v : Int32} (hz : narrow .boolean (.int v) = .int v ∧ fits .boolean (.int v) = true) (hdg : decode cc pc = .ok (.putfield index, 3))
    (kk : ∀ (H1 : Heap) (locs1 : List Loc), va_P D vwCl (wC a cI cZ (sI S 7 v)) H1 → va_S (AC 24 a sz) H0 H1 locs1 → W p l e R s m args below meth c H1 locs1 cells slots Q (F0 m (pc + 3) ls rest)) : W p l e R s m args below meth c H locs cells slots Q (F0 m pc ls (.int v :: .ref (a 8) :: rest)) :=
  va_put (D := D) (ci := 5) (v := .int v) (ty := .boolean) (C := RX5) (T := TX5) (N := 5) X.1 X.2.1 X.2.2.1 hin tyX5 tyX5_ok nmX5 X.2.2.2 hK hP (wC_DA hA) hS 8 rfl rfl 4 (by decide) (X.2.2.1 _ hl) (fun _ h9 => h9) rfl (by decide +kernel) hz.1 hz.2 (Nat.le_of_ble_eq_true rfl) hdg (fun H1 locs1 hP1 _ hS1 => kk H1 locs1 hP1 hS1)
theorem rC_X5_ofSizes (X : CX p m c cc s args Ts own) (hK : va_K D vwCl (TYS cI cZ) s) (hP : va_P D vwCl (wC a cI cZ S) H) {i : Int32} (hin : inB i 1024 = true) (hdg : decode cc pc = .ok (.iaload, 1))
    (kk : W p l e R s m args below meth c H locs cells slots Q (F0 m (pc + 1) ls (.int (S.2 5 i.toNatClampNeg) :: rest))) : W p l e R s m args below meth c H locs cells slots Q (F0 m pc ls (.int i :: .ref (a 9) :: rest)) :=
  va_iald X.1 X.2.1 hK hP 9 0 rfl rfl (inB_ok hin) hdg kk
theorem sC_X5_ofSizes (X : CX p m c cc s args Ts own) (hK : va_K D vwCl (TYS cI cZ) s) (hA : AP 24 a) (hP : va_P D vwCl (wC a cI cZ S) H) (hS : va_S (AC 24 a sz) H0 H locs) {i x : Int32} (hin : inB i 1024 = true) (hdg : decode cc pc = .ok (.iastore, 1))
    (kk : ∀ (H1 : Heap) (locs1 : List Loc), va_P D vwCl (wC a cI cZ (sG S 5 i x)) H1 → va_S (AC 24 a sz) H0 H1 locs1 → W p l e R s m args below meth c H1 locs1 cells slots Q (F0 m (pc + 1) ls rest)) : W p l e R s m args below meth c H locs cells slots Q (F0 m pc ls (.int x :: .int i :: .ref (a 9) :: rest)) :=
  va_iast X.1 X.2.1 hK hP (wC_DA hA) hS 9 0 rfl rfl (inB_ok hin) hdg (fun H1 locs1 hP1 _ hS1 => kk H1 locs1 hP1 hS1)
theorem nC_X5_ofSizes (X : CX p m c cc s args Ts own) (hK : va_K D vwCl (TYS cI cZ) s) (hP : va_P D vwCl (wC a cI cZ S) H) (hdg : decode cc pc = .ok (.arraylength, 1))
    (kk : W p l e R s m args below meth c H locs cells slots Q (F0 m (pc + 1) ls (.int (1024 : Int32) :: rest))) : W p l e R s m args below meth c H locs cells slots Q (F0 m pc ls (.ref (a 9) :: rest)) :=
  va_alen X.1 X.2.1 hK hP 9 0 rfl rfl rfl hdg kk
theorem rC_X5_ofParts (X : CX p m c cc s args Ts own) (hK : va_K D vwCl (TYS cI cZ) s) (hP : va_P D vwCl (wC a cI cZ S) H) {i : Int32} (hin : inB i 73984 = true) (hdg : decode cc pc = .ok (.iaload, 1))
    (kk : W p l e R s m args below meth c H locs cells slots Q (F0 m (pc + 1) ls (.int (S.2 6 i.toNatClampNeg) :: rest))) : W p l e R s m args below meth c H locs cells slots Q (F0 m pc ls (.int i :: .ref (a 10) :: rest)) :=
  va_iald X.1 X.2.1 hK hP 10 0 rfl rfl (inB_ok hin) hdg kk
theorem sC_X5_ofParts (X : CX p m c cc s args Ts own) (hK : va_K D vwCl (TYS cI cZ) s) (hA : AP 24 a) (hP : va_P D vwCl (wC a cI cZ S) H) (hS : va_S (AC 24 a sz) H0 H locs) {i x : Int32} (hin : inB i 73984 = true) (hdg : decode cc pc = .ok (.iastore, 1))
    (kk : ∀ (H1 : Heap) (locs1 : List Loc), va_P D vwCl (wC a cI cZ (sG S 6 i x)) H1 → va_S (AC 24 a sz) H0 H1 locs1 → W p l e R s m args below meth c H1 locs1 cells slots Q (F0 m (pc + 1) ls rest)) : W p l e R s m args below meth c H locs cells slots Q (F0 m pc ls (.int x :: .int i :: .ref (a 10) :: rest)) :=
  va_iast X.1 X.2.1 hK hP (wC_DA hA) hS 10 0 rfl rfl (inB_ok hin) hdg (fun H1 locs1 hP1 _ hS1 => kk H1 locs1 hP1 hS1)
theorem nC_X5_ofParts (X : CX p m c cc s args Ts own) (hK : va_K D vwCl (TYS cI cZ) s) (hP : va_P D vwCl (wC a cI cZ S) H) (hdg : decode cc pc = .ok (.arraylength, 1))
    (kk : W p l e R s m args below meth c H locs cells slots Q (F0 m (pc + 1) ls (.int (73984 : Int32) :: rest))) : W p l e R s m args below meth c H locs cells slots Q (F0 m pc ls (.ref (a 10) :: rest)) :=
  va_alen X.1 X.2.1 hK hP 10 0 rfl rfl rfl hdg kk
theorem gC_X2_sheet (X : CX p m c cc s args Ts own) (hK : va_K D vwCl (TYS cI cZ) s) (hP : va_P D vwCl (wC a cI cZ S) H) (hin : ∀ w ∈ wsX20, w ∈ Ts) (hl : Cond.fieldLink own index "CuttingRules$Plan" "sheet" "LCuttingRules$Sheet;" ∈ Ts) (hdg : decode cc pc = .ok (.getfield index, 3))
    (kk : W p l e R s m args below meth c H locs cells slots Q (F0 m (pc + 3) ls (.ref (a 1) :: rest))) : W p l e R s m args below meth c H locs cells slots Q (F0 m pc ls (.ref (a 11) :: rest)) :=
  va_get (D := D) (ci := 2) (v := .ref (a 1)) (C := RX2) (T := TX2) (N := 9) X.1 X.2.1 X.2.2.1 hin X.2.2.2 hK hP 11 rfl rfl 0 (by decide) (X.2.2.1 _ hl) (fun _ h9 => h9) rfl hdg kk
theorem gC_X2_kinds (X : CX p m c cc s args Ts own) (hK : va_K D vwCl (TYS cI cZ) s) (hP : va_P D vwCl (wC a cI cZ S) H) (hin : ∀ w ∈ wsX20, w ∈ Ts) (hl : Cond.fieldLink own index "CuttingRules$Plan" "kinds" "LCuttingRules$Kinds;" ∈ Ts) (hdg : decode cc pc = .ok (.getfield index, 3))
    (kk : W p l e R s m args below meth c H locs cells slots Q (F0 m (pc + 3) ls (.ref (a 3) :: rest))) : W p l e R s m args below meth c H locs cells slots Q (F0 m pc ls (.ref (a 11) :: rest)) :=
  va_get (D := D) (ci := 2) (v := .ref (a 3)) (C := RX2) (T := TX2) (N := 9) X.1 X.2.1 X.2.2.1 hin X.2.2.2 hK hP 11 rfl rfl 1 (by decide) (X.2.2.1 _ hl) (fun _ h9 => h9) rfl hdg kk
theorem gC_X2_worths (X : CX p m c cc s args Ts own) (hK : va_K D vwCl (TYS cI cZ) s) (hP : va_P D vwCl (wC a cI cZ S) H) (hin : ∀ w ∈ wsX20, w ∈ Ts) (hl : Cond.fieldLink own index "CuttingRules$Plan" "worths" "LCuttingRules$Worths;" ∈ Ts) (hdg : decode cc pc = .ok (.getfield index, 3))
    (kk : W p l e R s m args below meth c H locs cells slots Q (F0 m (pc + 3) ls (.ref (a 8) :: rest))) : W p l e R s m args below meth c H locs cells slots Q (F0 m pc ls (.ref (a 11) :: rest)) :=
  va_get (D := D) (ci := 2) (v := .ref (a 8)) (C := RX2) (T := TX2) (N := 9) X.1 X.2.1 X.2.2.1 hin X.2.2.2 hK hP 11 rfl rfl 2 (by decide) (X.2.2.1 _ hl) (fun _ h9 => h9) rfl hdg kk
theorem gC_X2_pieceFacts (X : CX p m c cc s args Ts own) (hK : va_K D vwCl (TYS cI cZ) s) (hP : va_P D vwCl (wC a cI cZ S) H) (hin : ∀ w ∈ wsX20, w ∈ Ts) (hl : Cond.fieldLink own index "CuttingRules$Plan" "pieceFacts" "[I" ∈ Ts) (hdg : decode cc pc = .ok (.getfield index, 3))
    (kk : W p l e R s m args below meth c H locs cells slots Q (F0 m (pc + 3) ls (.ref (a 12) :: rest))) : W p l e R s m args below meth c H locs cells slots Q (F0 m pc ls (.ref (a 11) :: rest)) :=
  va_get (D := D) (ci := 2) (v := .ref (a 12)) (C := RX2) (T := TX2) (N := 9) X.1 X.2.1 X.2.2.1 hin X.2.2.2 hK hP 11 rfl rfl 3 (by decide) (X.2.2.1 _ hl) (fun _ h9 => h9) rfl hdg kk
theorem gC_X2_cutFacts (X : CX p m c cc s args Ts own) (hK : va_K D vwCl (TYS cI cZ) s) (hP : va_P D vwCl (wC a cI cZ S) H) (hin : ∀ w ∈ wsX20, w ∈ Ts) (hl : Cond.fieldLink own index "CuttingRules$Plan" "cutFacts" "[I" ∈ Ts) (hdg : decode cc pc = .ok (.getfield index, 3))
    (kk : W p l e R s m args below meth c H locs cells slots Q (F0 m (pc + 3) ls (.ref (a 13) :: rest))) : W p l e R s m args below meth c H locs cells slots Q (F0 m pc ls (.ref (a 11) :: rest)) :=
  va_get (D := D) (ci := 2) (v := .ref (a 13)) (C := RX2) (T := TX2) (N := 9) X.1 X.2.1 X.2.2.1 hin X.2.2.2 hK hP 11 rfl rfl 4 (by decide) (X.2.2.1 _ hl) (fun _ h9 => h9) rfl hdg kk
theorem gC_X2_pieceCount (X : CX p m c cc s args Ts own) (hK : va_K D vwCl (TYS cI cZ) s) (hP : va_P D vwCl (wC a cI cZ S) H) (hin : ∀ w ∈ wsX20, w ∈ Ts) (hl : Cond.fieldLink own index "CuttingRules$Plan" "pieceCount" "I" ∈ Ts) (hdg : decode cc pc = .ok (.getfield index, 3))
    (kk : W p l e R s m args below meth c H locs cells slots Q (F0 m (pc + 3) ls (.int (S.1 8) :: rest))) : W p l e R s m args below meth c H locs cells slots Q (F0 m pc ls (.ref (a 11) :: rest)) :=
  va_get (D := D) (ci := 2) (v := .int (S.1 8)) (C := RX2) (T := TX2) (N := 9) X.1 X.2.1 X.2.2.1 hin X.2.2.2 hK hP 11 rfl rfl 5 (by decide) (X.2.2.1 _ hl) (fun _ h9 => h9) rfl hdg kk
theorem pC_X2_pieceCount (X : CX p m c cc s args Ts own) (hK : va_K D vwCl (TYS cI cZ) s) (hA : AP 24 a) (hP : va_P D vwCl (wC a cI cZ S) H) (hS : va_S (AC 24 a sz) H0 H locs) (hin : ∀ w ∈ wsX20, w ∈ Ts) (hl : Cond.fieldLink own index "CuttingRules$Plan" "pieceCount" "I" ∈ Ts) {v : Int32} (hdg : decode cc pc = .ok (.putfield index, 3))
    (kk : ∀ (H1 : Heap) (locs1 : List Loc), va_P D vwCl (wC a cI cZ (sI S 8 v)) H1 → va_S (AC 24 a sz) H0 H1 locs1 → W p l e R s m args below meth c H1 locs1 cells slots Q (F0 m (pc + 3) ls rest)) : W p l e R s m args below meth c H locs cells slots Q (F0 m pc ls (.int v :: .ref (a 11) :: rest)) :=
  va_put (D := D) (ci := 2) (v := .int v) (ty := .int) (C := RX2) (T := TX2) (N := 9) X.1 X.2.1 X.2.2.1 hin tyX2 tyX2_ok nmX2 X.2.2.2 hK hP (wC_DA hA) hS 11 rfl rfl 5 (by decide) (X.2.2.1 _ hl) (fun _ h9 => h9) rfl (by decide +kernel) rfl rfl (Nat.le_of_ble_eq_true rfl) hdg (fun H1 locs1 hP1 _ hS1 => kk H1 locs1 hP1 hS1)
theorem gC_X2_cutCount (X : CX p m c cc s args Ts own) (hK : va_K D vwCl (TYS cI cZ) s) (hP : va_P D vwCl (wC a cI cZ S) H) (hin : ∀ w ∈ wsX20, w ∈ Ts) (hl : Cond.fieldLink own index "CuttingRules$Plan" "cutCount" "I" ∈ Ts) (hdg : decode cc pc = .ok (.getfield index, 3))
    (kk : W p l e R s m args below meth c H locs cells slots Q (F0 m (pc + 3) ls (.int (S.1 9) :: rest))) : W p l e R s m args below meth c H locs cells slots Q (F0 m pc ls (.ref (a 11) :: rest)) :=
  va_get (D := D) (ci := 2) (v := .int (S.1 9)) (C := RX2) (T := TX2) (N := 9) X.1 X.2.1 X.2.2.1 hin X.2.2.2 hK hP 11 rfl rfl 6 (by decide) (X.2.2.1 _ hl) (fun _ h9 => h9) rfl hdg kk
theorem pC_X2_cutCount (X : CX p m c cc s args Ts own) (hK : va_K D vwCl (TYS cI cZ) s) (hA : AP 24 a) (hP : va_P D vwCl (wC a cI cZ S) H) (hS : va_S (AC 24 a sz) H0 H locs) (hin : ∀ w ∈ wsX20, w ∈ Ts) (hl : Cond.fieldLink own index "CuttingRules$Plan" "cutCount" "I" ∈ Ts) {v : Int32} (hdg : decode cc pc = .ok (.putfield index, 3))
    (kk : ∀ (H1 : Heap) (locs1 : List Loc), va_P D vwCl (wC a cI cZ (sI S 9 v)) H1 → va_S (AC 24 a sz) H0 H1 locs1 → W p l e R s m args below meth c H1 locs1 cells slots Q (F0 m (pc + 3) ls rest)) : W p l e R s m args below meth c H locs cells slots Q (F0 m pc ls (.int v :: .ref (a 11) :: rest)) :=
  va_put (D := D) (ci := 2) (v := .int v) (ty := .int) (C := RX2) (T := TX2) (N := 9) X.1 X.2.1 X.2.2.1 hin tyX2 tyX2_ok nmX2 X.2.2.2 hK hP (wC_DA hA) hS 11 rfl rfl 6 (by decide) (X.2.2.1 _ hl) (fun _ h9 => h9) rfl (by decide +kernel) rfl rfl (Nat.le_of_ble_eq_true rfl) hdg (fun H1 locs1 hP1 _ hS1 => kk H1 locs1 hP1 hS1)
theorem gC_X2_unused (X : CX p m c cc s args Ts own) (hK : va_K D vwCl (TYS cI cZ) s) (hP : va_P D vwCl (wC a cI cZ S) H) (hin : ∀ w ∈ wsX20, w ∈ Ts) (hl : Cond.fieldLink own index "CuttingRules$Plan" "unused" "I" ∈ Ts) (hdg : decode cc pc = .ok (.getfield index, 3))
    (kk : W p l e R s m args below meth c H locs cells slots Q (F0 m (pc + 3) ls (.int (S.1 10) :: rest))) : W p l e R s m args below meth c H locs cells slots Q (F0 m pc ls (.ref (a 11) :: rest)) :=
  va_get (D := D) (ci := 2) (v := .int (S.1 10)) (C := RX2) (T := TX2) (N := 9) X.1 X.2.1 X.2.2.1 hin X.2.2.2 hK hP 11 rfl rfl 7 (by decide) (X.2.2.1 _ hl) (fun _ h9 => h9) rfl hdg kk
theorem pC_X2_unused (X : CX p m c cc s args Ts own) (hK : va_K D vwCl (TYS cI cZ) s) (hA : AP 24 a) (hP : va_P D vwCl (wC a cI cZ S) H) (hS : va_S (AC 24 a sz) H0 H locs) (hin : ∀ w ∈ wsX20, w ∈ Ts) (hl : Cond.fieldLink own index "CuttingRules$Plan" "unused" "I" ∈ Ts) {v : Int32} (hdg : decode cc pc = .ok (.putfield index, 3))
    (kk : ∀ (H1 : Heap) (locs1 : List Loc), va_P D vwCl (wC a cI cZ (sI S 10 v)) H1 → va_S (AC 24 a sz) H0 H1 locs1 → W p l e R s m args below meth c H1 locs1 cells slots Q (F0 m (pc + 3) ls rest)) : W p l e R s m args below meth c H locs cells slots Q (F0 m pc ls (.int v :: .ref (a 11) :: rest)) :=
  va_put (D := D) (ci := 2) (v := .int v) (ty := .int) (C := RX2) (T := TX2) (N := 9) X.1 X.2.1 X.2.2.1 hin tyX2 tyX2_ok nmX2 X.2.2.2 hK hP (wC_DA hA) hS 11 rfl rfl 7 (by decide) (X.2.2.1 _ hl) (fun _ h9 => h9) rfl (by decide +kernel) rfl rfl (Nat.le_of_ble_eq_true rfl) hdg (fun H1 locs1 hP1 _ hS1 => kk H1 locs1 hP1 hS1)
theorem gC_X2_stale (X : CX p m c cc s args Ts own) (hK : va_K D vwCl (TYS cI cZ) s) (hP : va_P D vwCl (wC a cI cZ S) H) (hin : ∀ w ∈ wsX20, w ∈ Ts) (hl : Cond.fieldLink own index "CuttingRules$Plan" "stale" "Z" ∈ Ts) (hdg : decode cc pc = .ok (.getfield index, 3))
    (kk : W p l e R s m args below meth c H locs cells slots Q (F0 m (pc + 3) ls (.int (S.1 11) :: rest))) : W p l e R s m args below meth c H locs cells slots Q (F0 m pc ls (.ref (a 11) :: rest)) :=
  va_get (D := D) (ci := 2) (v := .int (S.1 11)) (C := RX2) (T := TX2) (N := 9) X.1 X.2.1 X.2.2.1 hin X.2.2.2 hK hP 11 rfl rfl 8 (by decide) (X.2.2.1 _ hl) (fun _ h9 => h9) rfl hdg kk
theorem pC_X2_stale (X : CX p m c cc s args Ts own) (hK : va_K D vwCl (TYS cI cZ) s) (hA : AP 24 a) (hP : va_P D vwCl (wC a cI cZ S) H) (hS : va_S (AC 24 a sz) H0 H locs) (hin : ∀ w ∈ wsX20, w ∈ Ts) (hl : Cond.fieldLink own index "CuttingRules$Plan" "stale" "Z" ∈ Ts) {v : Int32} (hz : narrow .boolean (.int v) = .int v ∧ fits .boolean (.int v) = true) (hdg : decode cc pc = .ok (.putfield index, 3))
    (kk : ∀ (H1 : Heap) (locs1 : List Loc), va_P D vwCl (wC a cI cZ (sI S 11 v)) H1 → va_S (AC 24 a sz) H0 H1 locs1 → W p l e R s m args below meth c H1 locs1 cells slots Q (F0 m (pc + 3) ls rest)) : W p l e R s m args below meth c H locs cells slots Q (F0 m pc ls (.int v :: .ref (a 11) :: rest)) :=
  va_put (D := D) (ci := 2) (v := .int v) (ty := .boolean) (C := RX2) (T := TX2) (N := 9) X.1 X.2.1 X.2.2.1 hin tyX2 tyX2_ok nmX2 X.2.2.2 hK hP (wC_DA hA) hS 11 rfl rfl 8 (by decide) (X.2.2.1 _ hl) (fun _ h9 => h9) rfl (by decide +kernel) hz.1 hz.2 (Nat.le_of_ble_eq_true rfl) hdg (fun H1 locs1 hP1 _ hS1 => kk H1 locs1 hP1 hS1)
theorem rC_X2_pieceFacts (X : CX p m c cc s args Ts own) (hK : va_K D vwCl (TYS cI cZ) s) (hP : va_P D vwCl (wC a cI cZ S) H) {i : Int32} (hin : inB i 1536 = true) (hdg : decode cc pc = .ok (.iaload, 1))
    (kk : W p l e R s m args below meth c H locs cells slots Q (F0 m (pc + 1) ls (.int (S.2 7 i.toNatClampNeg) :: rest))) : W p l e R s m args below meth c H locs cells slots Q (F0 m pc ls (.int i :: .ref (a 12) :: rest)) :=
  va_iald X.1 X.2.1 hK hP 12 0 rfl rfl (inB_ok hin) hdg kk
theorem sC_X2_pieceFacts (X : CX p m c cc s args Ts own) (hK : va_K D vwCl (TYS cI cZ) s) (hA : AP 24 a) (hP : va_P D vwCl (wC a cI cZ S) H) (hS : va_S (AC 24 a sz) H0 H locs) {i x : Int32} (hin : inB i 1536 = true) (hdg : decode cc pc = .ok (.iastore, 1))
    (kk : ∀ (H1 : Heap) (locs1 : List Loc), va_P D vwCl (wC a cI cZ (sG S 7 i x)) H1 → va_S (AC 24 a sz) H0 H1 locs1 → W p l e R s m args below meth c H1 locs1 cells slots Q (F0 m (pc + 1) ls rest)) : W p l e R s m args below meth c H locs cells slots Q (F0 m pc ls (.int x :: .int i :: .ref (a 12) :: rest)) :=
  va_iast X.1 X.2.1 hK hP (wC_DA hA) hS 12 0 rfl rfl (inB_ok hin) hdg (fun H1 locs1 hP1 _ hS1 => kk H1 locs1 hP1 hS1)
theorem nC_X2_pieceFacts (X : CX p m c cc s args Ts own) (hK : va_K D vwCl (TYS cI cZ) s) (hP : va_P D vwCl (wC a cI cZ S) H) (hdg : decode cc pc = .ok (.arraylength, 1))
    (kk : W p l e R s m args below meth c H locs cells slots Q (F0 m (pc + 1) ls (.int (1536 : Int32) :: rest))) : W p l e R s m args below meth c H locs cells slots Q (F0 m pc ls (.ref (a 12) :: rest)) :=
  va_alen X.1 X.2.1 hK hP 12 0 rfl rfl rfl hdg kk
theorem rC_X2_cutFacts (X : CX p m c cc s args Ts own) (hK : va_K D vwCl (TYS cI cZ) s) (hP : va_P D vwCl (wC a cI cZ S) H) {i : Int32} (hin : inB i 1785 = true) (hdg : decode cc pc = .ok (.iaload, 1))
    (kk : W p l e R s m args below meth c H locs cells slots Q (F0 m (pc + 1) ls (.int (S.2 8 i.toNatClampNeg) :: rest))) : W p l e R s m args below meth c H locs cells slots Q (F0 m pc ls (.int i :: .ref (a 13) :: rest)) :=
  va_iald X.1 X.2.1 hK hP 13 0 rfl rfl (inB_ok hin) hdg kk
theorem sC_X2_cutFacts (X : CX p m c cc s args Ts own) (hK : va_K D vwCl (TYS cI cZ) s) (hA : AP 24 a) (hP : va_P D vwCl (wC a cI cZ S) H) (hS : va_S (AC 24 a sz) H0 H locs) {i x : Int32} (hin : inB i 1785 = true) (hdg : decode cc pc = .ok (.iastore, 1))
    (kk : ∀ (H1 : Heap) (locs1 : List Loc), va_P D vwCl (wC a cI cZ (sG S 8 i x)) H1 → va_S (AC 24 a sz) H0 H1 locs1 → W p l e R s m args below meth c H1 locs1 cells slots Q (F0 m (pc + 1) ls rest)) : W p l e R s m args below meth c H locs cells slots Q (F0 m pc ls (.int x :: .int i :: .ref (a 13) :: rest)) :=
  va_iast X.1 X.2.1 hK hP (wC_DA hA) hS 13 0 rfl rfl (inB_ok hin) hdg (fun H1 locs1 hP1 _ hS1 => kk H1 locs1 hP1 hS1)
theorem nC_X2_cutFacts (X : CX p m c cc s args Ts own) (hK : va_K D vwCl (TYS cI cZ) s) (hP : va_P D vwCl (wC a cI cZ S) H) (hdg : decode cc pc = .ok (.arraylength, 1))
    (kk : W p l e R s m args below meth c H locs cells slots Q (F0 m (pc + 1) ls (.int (1785 : Int32) :: rest))) : W p l e R s m args below meth c H locs cells slots Q (F0 m pc ls (.ref (a 13) :: rest)) :=
  va_alen X.1 X.2.1 hK hP 13 0 rfl rfl rfl hdg kk
theorem gC_X3_stocks (X : CX p m c cc s args Ts own) (hK : va_K D vwCl (TYS cI cZ) s) (hP : va_P D vwCl (wC a cI cZ S) H) (hin : ∀ w ∈ wsX30, w ∈ Ts) (hl : Cond.fieldLink own index "CuttingRules$Rack" "stocks" "I" ∈ Ts) (hdg : decode cc pc = .ok (.getfield index, 3))
    (kk : W p l e R s m args below meth c H locs cells slots Q (F0 m (pc + 3) ls (.int (S.1 12) :: rest))) : W p l e R s m args below meth c H locs cells slots Q (F0 m pc ls (.ref (a 14) :: rest)) :=
  va_get (D := D) (ci := 3) (v := .int (S.1 12)) (C := RX3) (T := TX3) (N := 7) X.1 X.2.1 X.2.2.1 hin X.2.2.2 hK hP 14 rfl rfl 0 (by decide) (X.2.2.1 _ hl) (fun _ h9 => h9) rfl hdg kk
theorem pC_X3_stocks (X : CX p m c cc s args Ts own) (hK : va_K D vwCl (TYS cI cZ) s) (hA : AP 24 a) (hP : va_P D vwCl (wC a cI cZ S) H) (hS : va_S (AC 24 a sz) H0 H locs) (hin : ∀ w ∈ wsX30, w ∈ Ts) (hl : Cond.fieldLink own index "CuttingRules$Rack" "stocks" "I" ∈ Ts) {v : Int32} (hdg : decode cc pc = .ok (.putfield index, 3))
    (kk : ∀ (H1 : Heap) (locs1 : List Loc), va_P D vwCl (wC a cI cZ (sI S 12 v)) H1 → va_S (AC 24 a sz) H0 H1 locs1 → W p l e R s m args below meth c H1 locs1 cells slots Q (F0 m (pc + 3) ls rest)) : W p l e R s m args below meth c H locs cells slots Q (F0 m pc ls (.int v :: .ref (a 14) :: rest)) :=
  va_put (D := D) (ci := 3) (v := .int v) (ty := .int) (C := RX3) (T := TX3) (N := 7) X.1 X.2.1 X.2.2.1 hin tyX3 tyX3_ok nmX3 X.2.2.2 hK hP (wC_DA hA) hS 14 rfl rfl 0 (by decide) (X.2.2.1 _ hl) (fun _ h9 => h9) rfl (by decide +kernel) rfl rfl (Nat.le_of_ble_eq_true rfl) hdg (fun H1 locs1 hP1 _ hS1 => kk H1 locs1 hP1 hS1)
theorem gC_X3_orders (X : CX p m c cc s args Ts own) (hK : va_K D vwCl (TYS cI cZ) s) (hP : va_P D vwCl (wC a cI cZ S) H) (hin : ∀ w ∈ wsX30, w ∈ Ts) (hl : Cond.fieldLink own index "CuttingRules$Rack" "orders" "I" ∈ Ts) (hdg : decode cc pc = .ok (.getfield index, 3))
    (kk : W p l e R s m args below meth c H locs cells slots Q (F0 m (pc + 3) ls (.int (S.1 13) :: rest))) : W p l e R s m args below meth c H locs cells slots Q (F0 m pc ls (.ref (a 14) :: rest)) :=
  va_get (D := D) (ci := 3) (v := .int (S.1 13)) (C := RX3) (T := TX3) (N := 7) X.1 X.2.1 X.2.2.1 hin X.2.2.2 hK hP 14 rfl rfl 1 (by decide) (X.2.2.1 _ hl) (fun _ h9 => h9) rfl hdg kk
theorem pC_X3_orders (X : CX p m c cc s args Ts own) (hK : va_K D vwCl (TYS cI cZ) s) (hA : AP 24 a) (hP : va_P D vwCl (wC a cI cZ S) H) (hS : va_S (AC 24 a sz) H0 H locs) (hin : ∀ w ∈ wsX30, w ∈ Ts) (hl : Cond.fieldLink own index "CuttingRules$Rack" "orders" "I" ∈ Ts) {v : Int32} (hdg : decode cc pc = .ok (.putfield index, 3))
    (kk : ∀ (H1 : Heap) (locs1 : List Loc), va_P D vwCl (wC a cI cZ (sI S 13 v)) H1 → va_S (AC 24 a sz) H0 H1 locs1 → W p l e R s m args below meth c H1 locs1 cells slots Q (F0 m (pc + 3) ls rest)) : W p l e R s m args below meth c H locs cells slots Q (F0 m pc ls (.int v :: .ref (a 14) :: rest)) :=
  va_put (D := D) (ci := 3) (v := .int v) (ty := .int) (C := RX3) (T := TX3) (N := 7) X.1 X.2.1 X.2.2.1 hin tyX3 tyX3_ok nmX3 X.2.2.2 hK hP (wC_DA hA) hS 14 rfl rfl 1 (by decide) (X.2.2.1 _ hl) (fun _ h9 => h9) rfl (by decide +kernel) rfl rfl (Nat.le_of_ble_eq_true rfl) hdg (fun H1 locs1 hP1 _ hS1 => kk H1 locs1 hP1 hS1)
theorem gC_X3_blade (X : CX p m c cc s args Ts own) (hK : va_K D vwCl (TYS cI cZ) s) (hP : va_P D vwCl (wC a cI cZ S) H) (hin : ∀ w ∈ wsX30, w ∈ Ts) (hl : Cond.fieldLink own index "CuttingRules$Rack" "blade" "I" ∈ Ts) (hdg : decode cc pc = .ok (.getfield index, 3))
    (kk : W p l e R s m args below meth c H locs cells slots Q (F0 m (pc + 3) ls (.int (S.1 14) :: rest))) : W p l e R s m args below meth c H locs cells slots Q (F0 m pc ls (.ref (a 14) :: rest)) :=
  va_get (D := D) (ci := 3) (v := .int (S.1 14)) (C := RX3) (T := TX3) (N := 7) X.1 X.2.1 X.2.2.1 hin X.2.2.2 hK hP 14 rfl rfl 2 (by decide) (X.2.2.1 _ hl) (fun _ h9 => h9) rfl hdg kk
theorem pC_X3_blade (X : CX p m c cc s args Ts own) (hK : va_K D vwCl (TYS cI cZ) s) (hA : AP 24 a) (hP : va_P D vwCl (wC a cI cZ S) H) (hS : va_S (AC 24 a sz) H0 H locs) (hin : ∀ w ∈ wsX30, w ∈ Ts) (hl : Cond.fieldLink own index "CuttingRules$Rack" "blade" "I" ∈ Ts) {v : Int32} (hdg : decode cc pc = .ok (.putfield index, 3))
    (kk : ∀ (H1 : Heap) (locs1 : List Loc), va_P D vwCl (wC a cI cZ (sI S 14 v)) H1 → va_S (AC 24 a sz) H0 H1 locs1 → W p l e R s m args below meth c H1 locs1 cells slots Q (F0 m (pc + 3) ls rest)) : W p l e R s m args below meth c H locs cells slots Q (F0 m pc ls (.int v :: .ref (a 14) :: rest)) :=
  va_put (D := D) (ci := 3) (v := .int v) (ty := .int) (C := RX3) (T := TX3) (N := 7) X.1 X.2.1 X.2.2.1 hin tyX3 tyX3_ok nmX3 X.2.2.2 hK hP (wC_DA hA) hS 14 rfl rfl 2 (by decide) (X.2.2.1 _ hl) (fun _ h9 => h9) rfl (by decide +kernel) rfl rfl (Nat.le_of_ble_eq_true rfl) hdg (fun H1 locs1 hP1 _ hS1 => kk H1 locs1 hP1 hS1)
theorem gC_X3_stockLengths (X : CX p m c cc s args Ts own) (hK : va_K D vwCl (TYS cI cZ) s) (hP : va_P D vwCl (wC a cI cZ S) H) (hin : ∀ w ∈ wsX30, w ∈ Ts) (hl : Cond.fieldLink own index "CuttingRules$Rack" "stockLengths" "[I" ∈ Ts) (hdg : decode cc pc = .ok (.getfield index, 3))
    (kk : W p l e R s m args below meth c H locs cells slots Q (F0 m (pc + 3) ls (.ref (a 15) :: rest))) : W p l e R s m args below meth c H locs cells slots Q (F0 m pc ls (.ref (a 14) :: rest)) :=
  va_get (D := D) (ci := 3) (v := .ref (a 15)) (C := RX3) (T := TX3) (N := 7) X.1 X.2.1 X.2.2.1 hin X.2.2.2 hK hP 14 rfl rfl 3 (by decide) (X.2.2.1 _ hl) (fun _ h9 => h9) rfl hdg kk
theorem gC_X3_stockPrices (X : CX p m c cc s args Ts own) (hK : va_K D vwCl (TYS cI cZ) s) (hP : va_P D vwCl (wC a cI cZ S) H) (hin : ∀ w ∈ wsX30, w ∈ Ts) (hl : Cond.fieldLink own index "CuttingRules$Rack" "stockPrices" "[I" ∈ Ts) (hdg : decode cc pc = .ok (.getfield index, 3))
    (kk : W p l e R s m args below meth c H locs cells slots Q (F0 m (pc + 3) ls (.ref (a 16) :: rest))) : W p l e R s m args below meth c H locs cells slots Q (F0 m pc ls (.ref (a 14) :: rest)) :=
  va_get (D := D) (ci := 3) (v := .ref (a 16)) (C := RX3) (T := TX3) (N := 7) X.1 X.2.1 X.2.2.1 hin X.2.2.2 hK hP 14 rfl rfl 4 (by decide) (X.2.2.1 _ hl) (fun _ h9 => h9) rfl hdg kk
theorem gC_X3_orderLengths (X : CX p m c cc s args Ts own) (hK : va_K D vwCl (TYS cI cZ) s) (hP : va_P D vwCl (wC a cI cZ S) H) (hin : ∀ w ∈ wsX30, w ∈ Ts) (hl : Cond.fieldLink own index "CuttingRules$Rack" "orderLengths" "[I" ∈ Ts) (hdg : decode cc pc = .ok (.getfield index, 3))
    (kk : W p l e R s m args below meth c H locs cells slots Q (F0 m (pc + 3) ls (.ref (a 17) :: rest))) : W p l e R s m args below meth c H locs cells slots Q (F0 m pc ls (.ref (a 14) :: rest)) :=
  va_get (D := D) (ci := 3) (v := .ref (a 17)) (C := RX3) (T := TX3) (N := 7) X.1 X.2.1 X.2.2.1 hin X.2.2.2 hK hP 14 rfl rfl 5 (by decide) (X.2.2.1 _ hl) (fun _ h9 => h9) rfl hdg kk
theorem gC_X3_demands (X : CX p m c cc s args Ts own) (hK : va_K D vwCl (TYS cI cZ) s) (hP : va_P D vwCl (wC a cI cZ S) H) (hin : ∀ w ∈ wsX30, w ∈ Ts) (hl : Cond.fieldLink own index "CuttingRules$Rack" "demands" "[I" ∈ Ts) (hdg : decode cc pc = .ok (.getfield index, 3))
    (kk : W p l e R s m args below meth c H locs cells slots Q (F0 m (pc + 3) ls (.ref (a 18) :: rest))) : W p l e R s m args below meth c H locs cells slots Q (F0 m pc ls (.ref (a 14) :: rest)) :=
  va_get (D := D) (ci := 3) (v := .ref (a 18)) (C := RX3) (T := TX3) (N := 7) X.1 X.2.1 X.2.2.1 hin X.2.2.2 hK hP 14 rfl rfl 6 (by decide) (X.2.2.1 _ hl) (fun _ h9 => h9) rfl hdg kk
theorem rC_X3_stockLengths (X : CX p m c cc s args Ts own) (hK : va_K D vwCl (TYS cI cZ) s) (hP : va_P D vwCl (wC a cI cZ S) H) {i : Int32} (hin : inB i 3 = true) (hdg : decode cc pc = .ok (.iaload, 1))
    (kk : W p l e R s m args below meth c H locs cells slots Q (F0 m (pc + 1) ls (.int (S.2 9 i.toNatClampNeg) :: rest))) : W p l e R s m args below meth c H locs cells slots Q (F0 m pc ls (.int i :: .ref (a 15) :: rest)) :=
  va_iald X.1 X.2.1 hK hP 15 0 rfl rfl (inB_ok hin) hdg kk
theorem sC_X3_stockLengths (X : CX p m c cc s args Ts own) (hK : va_K D vwCl (TYS cI cZ) s) (hA : AP 24 a) (hP : va_P D vwCl (wC a cI cZ S) H) (hS : va_S (AC 24 a sz) H0 H locs) {i x : Int32} (hin : inB i 3 = true) (hdg : decode cc pc = .ok (.iastore, 1))
    (kk : ∀ (H1 : Heap) (locs1 : List Loc), va_P D vwCl (wC a cI cZ (sG S 9 i x)) H1 → va_S (AC 24 a sz) H0 H1 locs1 → W p l e R s m args below meth c H1 locs1 cells slots Q (F0 m (pc + 1) ls rest)) : W p l e R s m args below meth c H locs cells slots Q (F0 m pc ls (.int x :: .int i :: .ref (a 15) :: rest)) :=
  va_iast X.1 X.2.1 hK hP (wC_DA hA) hS 15 0 rfl rfl (inB_ok hin) hdg (fun H1 locs1 hP1 _ hS1 => kk H1 locs1 hP1 hS1)
theorem nC_X3_stockLengths (X : CX p m c cc s args Ts own) (hK : va_K D vwCl (TYS cI cZ) s) (hP : va_P D vwCl (wC a cI cZ S) H) (hdg : decode cc pc = .ok (.arraylength, 1))
    (kk : W p l e R s m args below meth c H locs cells slots Q (F0 m (pc + 1) ls (.int (3 : Int32) :: rest))) : W p l e R s m args below meth c H locs cells slots Q (F0 m pc ls (.ref (a 15) :: rest)) :=
  va_alen X.1 X.2.1 hK hP 15 0 rfl rfl rfl hdg kk
theorem rC_X3_stockPrices (X : CX p m c cc s args Ts own) (hK : va_K D vwCl (TYS cI cZ) s) (hP : va_P D vwCl (wC a cI cZ S) H) {i : Int32} (hin : inB i 3 = true) (hdg : decode cc pc = .ok (.iaload, 1))
    (kk : W p l e R s m args below meth c H locs cells slots Q (F0 m (pc + 1) ls (.int (S.2 10 i.toNatClampNeg) :: rest))) : W p l e R s m args below meth c H locs cells slots Q (F0 m pc ls (.int i :: .ref (a 16) :: rest)) :=
  va_iald X.1 X.2.1 hK hP 16 0 rfl rfl (inB_ok hin) hdg kk
theorem sC_X3_stockPrices (X : CX p m c cc s args Ts own) (hK : va_K D vwCl (TYS cI cZ) s) (hA : AP 24 a) (hP : va_P D vwCl (wC a cI cZ S) H) (hS : va_S (AC 24 a sz) H0 H locs) {i x : Int32} (hin : inB i 3 = true) (hdg : decode cc pc = .ok (.iastore, 1))
    (kk : ∀ (H1 : Heap) (locs1 : List Loc), va_P D vwCl (wC a cI cZ (sG S 10 i x)) H1 → va_S (AC 24 a sz) H0 H1 locs1 → W p l e R s m args below meth c H1 locs1 cells slots Q (F0 m (pc + 1) ls rest)) : W p l e R s m args below meth c H locs cells slots Q (F0 m pc ls (.int x :: .int i :: .ref (a 16) :: rest)) :=
  va_iast X.1 X.2.1 hK hP (wC_DA hA) hS 16 0 rfl rfl (inB_ok hin) hdg (fun H1 locs1 hP1 _ hS1 => kk H1 locs1 hP1 hS1)
theorem nC_X3_stockPrices (X : CX p m c cc s args Ts own) (hK : va_K D vwCl (TYS cI cZ) s) (hP : va_P D vwCl (wC a cI cZ S) H) (hdg : decode cc pc = .ok (.arraylength, 1))
    (kk : W p l e R s m args below meth c H locs cells slots Q (F0 m (pc + 1) ls (.int (3 : Int32) :: rest))) : W p l e R s m args below meth c H locs cells slots Q (F0 m pc ls (.ref (a 16) :: rest)) :=
  va_alen X.1 X.2.1 hK hP 16 0 rfl rfl rfl hdg kk
theorem rC_X3_orderLengths (X : CX p m c cc s args Ts own) (hK : va_K D vwCl (TYS cI cZ) s) (hP : va_P D vwCl (wC a cI cZ S) H) {i : Int32} (hin : inB i 4 = true) (hdg : decode cc pc = .ok (.iaload, 1))
    (kk : W p l e R s m args below meth c H locs cells slots Q (F0 m (pc + 1) ls (.int (S.2 11 i.toNatClampNeg) :: rest))) : W p l e R s m args below meth c H locs cells slots Q (F0 m pc ls (.int i :: .ref (a 17) :: rest)) :=
  va_iald X.1 X.2.1 hK hP 17 0 rfl rfl (inB_ok hin) hdg kk
theorem sC_X3_orderLengths (X : CX p m c cc s args Ts own) (hK : va_K D vwCl (TYS cI cZ) s) (hA : AP 24 a) (hP : va_P D vwCl (wC a cI cZ S) H) (hS : va_S (AC 24 a sz) H0 H locs) {i x : Int32} (hin : inB i 4 = true) (hdg : decode cc pc = .ok (.iastore, 1))
    (kk : ∀ (H1 : Heap) (locs1 : List Loc), va_P D vwCl (wC a cI cZ (sG S 11 i x)) H1 → va_S (AC 24 a sz) H0 H1 locs1 → W p l e R s m args below meth c H1 locs1 cells slots Q (F0 m (pc + 1) ls rest)) : W p l e R s m args below meth c H locs cells slots Q (F0 m pc ls (.int x :: .int i :: .ref (a 17) :: rest)) :=
  va_iast X.1 X.2.1 hK hP (wC_DA hA) hS 17 0 rfl rfl (inB_ok hin) hdg (fun H1 locs1 hP1 _ hS1 => kk H1 locs1 hP1 hS1)
theorem nC_X3_orderLengths (X : CX p m c cc s args Ts own) (hK : va_K D vwCl (TYS cI cZ) s) (hP : va_P D vwCl (wC a cI cZ S) H) (hdg : decode cc pc = .ok (.arraylength, 1))
    (kk : W p l e R s m args below meth c H locs cells slots Q (F0 m (pc + 1) ls (.int (4 : Int32) :: rest))) : W p l e R s m args below meth c H locs cells slots Q (F0 m pc ls (.ref (a 17) :: rest)) :=
  va_alen X.1 X.2.1 hK hP 17 0 rfl rfl rfl hdg kk
theorem rC_X3_demands (X : CX p m c cc s args Ts own) (hK : va_K D vwCl (TYS cI cZ) s) (hP : va_P D vwCl (wC a cI cZ S) H) {i : Int32} (hin : inB i 4 = true) (hdg : decode cc pc = .ok (.iaload, 1))
    (kk : W p l e R s m args below meth c H locs cells slots Q (F0 m (pc + 1) ls (.int (S.2 12 i.toNatClampNeg) :: rest))) : W p l e R s m args below meth c H locs cells slots Q (F0 m pc ls (.int i :: .ref (a 18) :: rest)) :=
  va_iald X.1 X.2.1 hK hP 18 0 rfl rfl (inB_ok hin) hdg kk
theorem sC_X3_demands (X : CX p m c cc s args Ts own) (hK : va_K D vwCl (TYS cI cZ) s) (hA : AP 24 a) (hP : va_P D vwCl (wC a cI cZ S) H) (hS : va_S (AC 24 a sz) H0 H locs) {i x : Int32} (hin : inB i 4 = true) (hdg : decode cc pc = .ok (.iastore, 1))
    (kk : ∀ (H1 : Heap) (locs1 : List Loc), va_P D vwCl (wC a cI cZ (sG S 12 i x)) H1 → va_S (AC 24 a sz) H0 H1 locs1 → W p l e R s m args below meth c H1 locs1 cells slots Q (F0 m (pc + 1) ls rest)) : W p l e R s m args below meth c H locs cells slots Q (F0 m pc ls (.int x :: .int i :: .ref (a 18) :: rest)) :=
  va_iast X.1 X.2.1 hK hP (wC_DA hA) hS 18 0 rfl rfl (inB_ok hin) hdg (fun H1 locs1 hP1 _ hS1 => kk H1 locs1 hP1 hS1)
theorem nC_X3_demands (X : CX p m c cc s args Ts own) (hK : va_K D vwCl (TYS cI cZ) s) (hP : va_P D vwCl (wC a cI cZ S) H) (hdg : decode cc pc = .ok (.arraylength, 1))
    (kk : W p l e R s m args below meth c H locs cells slots Q (F0 m (pc + 1) ls (.int (4 : Int32) :: rest))) : W p l e R s m args below meth c H locs cells slots Q (F0 m pc ls (.ref (a 18) :: rest)) :=
  va_alen X.1 X.2.1 hK hP 18 0 rfl rfl rfl hdg kk
theorem gC_X0_rack (X : CX p m c cc s args Ts own) (hK : va_K D vwCl (TYS cI cZ) s) (hP : va_P D vwCl (wC a cI cZ S) H) (hin : ∀ w ∈ wsX00, w ∈ Ts) (hl : Cond.fieldLink own index "CuttingRules$BarList" "rack" "LCuttingRules$Rack;" ∈ Ts) (hdg : decode cc pc = .ok (.getfield index, 3))
    (kk : W p l e R s m args below meth c H locs cells slots Q (F0 m (pc + 3) ls (.ref (a 14) :: rest))) : W p l e R s m args below meth c H locs cells slots Q (F0 m pc ls (.ref (a 19) :: rest)) :=
  va_get (D := D) (ci := 0) (v := .ref (a 14)) (C := RX0) (T := TX0) (N := 10) X.1 X.2.1 X.2.2.1 hin X.2.2.2 hK hP 19 rfl rfl 0 (by decide) (X.2.2.1 _ hl) (fun _ h9 => h9) rfl hdg kk
theorem gC_X0_barCosts (X : CX p m c cc s args Ts own) (hK : va_K D vwCl (TYS cI cZ) s) (hP : va_P D vwCl (wC a cI cZ S) H) (hin : ∀ w ∈ wsX00, w ∈ Ts) (hl : Cond.fieldLink own index "CuttingRules$BarList" "barCosts" "[I" ∈ Ts) (hdg : decode cc pc = .ok (.getfield index, 3))
    (kk : W p l e R s m args below meth c H locs cells slots Q (F0 m (pc + 3) ls (.ref (a 20) :: rest))) : W p l e R s m args below meth c H locs cells slots Q (F0 m pc ls (.ref (a 19) :: rest)) :=
  va_get (D := D) (ci := 0) (v := .ref (a 20)) (C := RX0) (T := TX0) (N := 10) X.1 X.2.1 X.2.2.1 hin X.2.2.2 hK hP 19 rfl rfl 1 (by decide) (X.2.2.1 _ hl) (fun _ h9 => h9) rfl hdg kk
theorem gC_X0_leastCosts (X : CX p m c cc s args Ts own) (hK : va_K D vwCl (TYS cI cZ) s) (hP : va_P D vwCl (wC a cI cZ S) H) (hin : ∀ w ∈ wsX00, w ∈ Ts) (hl : Cond.fieldLink own index "CuttingRules$BarList" "leastCosts" "[I" ∈ Ts) (hdg : decode cc pc = .ok (.getfield index, 3))
    (kk : W p l e R s m args below meth c H locs cells slots Q (F0 m (pc + 3) ls (.ref (a 21) :: rest))) : W p l e R s m args below meth c H locs cells slots Q (F0 m pc ls (.ref (a 19) :: rest)) :=
  va_get (D := D) (ci := 0) (v := .ref (a 21)) (C := RX0) (T := TX0) (N := 10) X.1 X.2.1 X.2.2.1 hin X.2.2.2 hK hP 19 rfl rfl 2 (by decide) (X.2.2.1 _ hl) (fun _ h9 => h9) rfl hdg kk
theorem gC_X0_firstPatterns (X : CX p m c cc s args Ts own) (hK : va_K D vwCl (TYS cI cZ) s) (hP : va_P D vwCl (wC a cI cZ S) H) (hin : ∀ w ∈ wsX00, w ∈ Ts) (hl : Cond.fieldLink own index "CuttingRules$BarList" "firstPatterns" "[I" ∈ Ts) (hdg : decode cc pc = .ok (.getfield index, 3))
    (kk : W p l e R s m args below meth c H locs cells slots Q (F0 m (pc + 3) ls (.ref (a 22) :: rest))) : W p l e R s m args below meth c H locs cells slots Q (F0 m pc ls (.ref (a 19) :: rest)) :=
  va_get (D := D) (ci := 0) (v := .ref (a 22)) (C := RX0) (T := TX0) (N := 10) X.1 X.2.1 X.2.2.1 hin X.2.2.2 hK hP 19 rfl rfl 3 (by decide) (X.2.2.1 _ hl) (fun _ h9 => h9) rfl hdg kk
theorem gC_X0_patterns (X : CX p m c cc s args Ts own) (hK : va_K D vwCl (TYS cI cZ) s) (hP : va_P D vwCl (wC a cI cZ S) H) (hin : ∀ w ∈ wsX00, w ∈ Ts) (hl : Cond.fieldLink own index "CuttingRules$BarList" "patterns" "[I" ∈ Ts) (hdg : decode cc pc = .ok (.getfield index, 3))
    (kk : W p l e R s m args below meth c H locs cells slots Q (F0 m (pc + 3) ls (.ref (a 23) :: rest))) : W p l e R s m args below meth c H locs cells slots Q (F0 m pc ls (.ref (a 19) :: rest)) :=
  va_get (D := D) (ci := 0) (v := .ref (a 23)) (C := RX0) (T := TX0) (N := 10) X.1 X.2.1 X.2.2.1 hin X.2.2.2 hK hP 19 rfl rfl 4 (by decide) (X.2.2.1 _ hl) (fun _ h9 => h9) rfl hdg kk
theorem gC_X0_count (X : CX p m c cc s args Ts own) (hK : va_K D vwCl (TYS cI cZ) s) (hP : va_P D vwCl (wC a cI cZ S) H) (hin : ∀ w ∈ wsX00, w ∈ Ts) (hl : Cond.fieldLink own index "CuttingRules$BarList" "count" "I" ∈ Ts) (hdg : decode cc pc = .ok (.getfield index, 3))
    (kk : W p l e R s m args below meth c H locs cells slots Q (F0 m (pc + 3) ls (.int (S.1 15) :: rest))) : W p l e R s m args below meth c H locs cells slots Q (F0 m pc ls (.ref (a 19) :: rest)) :=
  va_get (D := D) (ci := 0) (v := .int (S.1 15)) (C := RX0) (T := TX0) (N := 10) X.1 X.2.1 X.2.2.1 hin X.2.2.2 hK hP 19 rfl rfl 5 (by decide) (X.2.2.1 _ hl) (fun _ h9 => h9) rfl hdg kk
theorem pC_X0_count (X : CX p m c cc s args Ts own) (hK : va_K D vwCl (TYS cI cZ) s) (hA : AP 24 a) (hP : va_P D vwCl (wC a cI cZ S) H) (hS : va_S (AC 24 a sz) H0 H locs) (hin : ∀ w ∈ wsX00, w ∈ Ts) (hl : Cond.fieldLink own index "CuttingRules$BarList" "count" "I" ∈ Ts) {v : Int32} (hdg : decode cc pc = .ok (.putfield index, 3))
    (kk : ∀ (H1 : Heap) (locs1 : List Loc), va_P D vwCl (wC a cI cZ (sI S 15 v)) H1 → va_S (AC 24 a sz) H0 H1 locs1 → W p l e R s m args below meth c H1 locs1 cells slots Q (F0 m (pc + 3) ls rest)) : W p l e R s m args below meth c H locs cells slots Q (F0 m pc ls (.int v :: .ref (a 19) :: rest)) :=
  va_put (D := D) (ci := 0) (v := .int v) (ty := .int) (C := RX0) (T := TX0) (N := 10) X.1 X.2.1 X.2.2.1 hin tyX0 tyX0_ok nmX0 X.2.2.2 hK hP (wC_DA hA) hS 19 rfl rfl 5 (by decide) (X.2.2.1 _ hl) (fun _ h9 => h9) rfl (by decide +kernel) rfl rfl (Nat.le_of_ble_eq_true rfl) hdg (fun H1 locs1 hP1 _ hS1 => kk H1 locs1 hP1 hS1)
theorem gC_X0_priceTogether (X : CX p m c cc s args Ts own) (hK : va_K D vwCl (TYS cI cZ) s) (hP : va_P D vwCl (wC a cI cZ S) H) (hin : ∀ w ∈ wsX00, w ∈ Ts) (hl : Cond.fieldLink own index "CuttingRules$BarList" "priceTogether" "I" ∈ Ts) (hdg : decode cc pc = .ok (.getfield index, 3))
    (kk : W p l e R s m args below meth c H locs cells slots Q (F0 m (pc + 3) ls (.int (S.1 16) :: rest))) : W p l e R s m args below meth c H locs cells slots Q (F0 m pc ls (.ref (a 19) :: rest)) :=
  va_get (D := D) (ci := 0) (v := .int (S.1 16)) (C := RX0) (T := TX0) (N := 10) X.1 X.2.1 X.2.2.1 hin X.2.2.2 hK hP 19 rfl rfl 6 (by decide) (X.2.2.1 _ hl) (fun _ h9 => h9) rfl hdg kk
theorem pC_X0_priceTogether (X : CX p m c cc s args Ts own) (hK : va_K D vwCl (TYS cI cZ) s) (hA : AP 24 a) (hP : va_P D vwCl (wC a cI cZ S) H) (hS : va_S (AC 24 a sz) H0 H locs) (hin : ∀ w ∈ wsX00, w ∈ Ts) (hl : Cond.fieldLink own index "CuttingRules$BarList" "priceTogether" "I" ∈ Ts) {v : Int32} (hdg : decode cc pc = .ok (.putfield index, 3))
    (kk : ∀ (H1 : Heap) (locs1 : List Loc), va_P D vwCl (wC a cI cZ (sI S 16 v)) H1 → va_S (AC 24 a sz) H0 H1 locs1 → W p l e R s m args below meth c H1 locs1 cells slots Q (F0 m (pc + 3) ls rest)) : W p l e R s m args below meth c H locs cells slots Q (F0 m pc ls (.int v :: .ref (a 19) :: rest)) :=
  va_put (D := D) (ci := 0) (v := .int v) (ty := .int) (C := RX0) (T := TX0) (N := 10) X.1 X.2.1 X.2.2.1 hin tyX0 tyX0_ok nmX0 X.2.2.2 hK hP (wC_DA hA) hS 19 rfl rfl 6 (by decide) (X.2.2.1 _ hl) (fun _ h9 => h9) rfl (by decide +kernel) rfl rfl (Nat.le_of_ble_eq_true rfl) hdg (fun H1 locs1 hP1 _ hS1 => kk H1 locs1 hP1 hS1)
theorem gC_X0_isShort (X : CX p m c cc s args Ts own) (hK : va_K D vwCl (TYS cI cZ) s) (hP : va_P D vwCl (wC a cI cZ S) H) (hin : ∀ w ∈ wsX00, w ∈ Ts) (hl : Cond.fieldLink own index "CuttingRules$BarList" "isShort" "Z" ∈ Ts) (hdg : decode cc pc = .ok (.getfield index, 3))
    (kk : W p l e R s m args below meth c H locs cells slots Q (F0 m (pc + 3) ls (.int (S.1 17) :: rest))) : W p l e R s m args below meth c H locs cells slots Q (F0 m pc ls (.ref (a 19) :: rest)) :=
  va_get (D := D) (ci := 0) (v := .int (S.1 17)) (C := RX0) (T := TX0) (N := 10) X.1 X.2.1 X.2.2.1 hin X.2.2.2 hK hP 19 rfl rfl 7 (by decide) (X.2.2.1 _ hl) (fun _ h9 => h9) rfl hdg kk
theorem pC_X0_isShort (X : CX p m c cc s args Ts own) (hK : va_K D vwCl (TYS cI cZ) s) (hA : AP 24 a) (hP : va_P D vwCl (wC a cI cZ S) H) (hS : va_S (AC 24 a sz) H0 H locs) (hin : ∀ w ∈ wsX00, w ∈ Ts) (hl : Cond.fieldLink own index "CuttingRules$BarList" "isShort" "Z" ∈ Ts) {v : Int32} (hz : narrow .boolean (.int v) = .int v ∧ fits .boolean (.int v) = true) (hdg : decode cc pc = .ok (.putfield index, 3))
    (kk : ∀ (H1 : Heap) (locs1 : List Loc), va_P D vwCl (wC a cI cZ (sI S 17 v)) H1 → va_S (AC 24 a sz) H0 H1 locs1 → W p l e R s m args below meth c H1 locs1 cells slots Q (F0 m (pc + 3) ls rest)) : W p l e R s m args below meth c H locs cells slots Q (F0 m pc ls (.int v :: .ref (a 19) :: rest)) :=
  va_put (D := D) (ci := 0) (v := .int v) (ty := .boolean) (C := RX0) (T := TX0) (N := 10) X.1 X.2.1 X.2.2.1 hin tyX0 tyX0_ok nmX0 X.2.2.2 hK hP (wC_DA hA) hS 19 rfl rfl 7 (by decide) (X.2.2.1 _ hl) (fun _ h9 => h9) rfl (by decide +kernel) hz.1 hz.2 (Nat.le_of_ble_eq_true rfl) hdg (fun H1 locs1 hP1 _ hS1 => kk H1 locs1 hP1 hS1)
theorem gC_X0_costsStale (X : CX p m c cc s args Ts own) (hK : va_K D vwCl (TYS cI cZ) s) (hP : va_P D vwCl (wC a cI cZ S) H) (hin : ∀ w ∈ wsX00, w ∈ Ts) (hl : Cond.fieldLink own index "CuttingRules$BarList" "costsStale" "Z" ∈ Ts) (hdg : decode cc pc = .ok (.getfield index, 3))
    (kk : W p l e R s m args below meth c H locs cells slots Q (F0 m (pc + 3) ls (.int (S.1 18) :: rest))) : W p l e R s m args below meth c H locs cells slots Q (F0 m pc ls (.ref (a 19) :: rest)) :=
  va_get (D := D) (ci := 0) (v := .int (S.1 18)) (C := RX0) (T := TX0) (N := 10) X.1 X.2.1 X.2.2.1 hin X.2.2.2 hK hP 19 rfl rfl 8 (by decide) (X.2.2.1 _ hl) (fun _ h9 => h9) rfl hdg kk
theorem pC_X0_costsStale (X : CX p m c cc s args Ts own) (hK : va_K D vwCl (TYS cI cZ) s) (hA : AP 24 a) (hP : va_P D vwCl (wC a cI cZ S) H) (hS : va_S (AC 24 a sz) H0 H locs) (hin : ∀ w ∈ wsX00, w ∈ Ts) (hl : Cond.fieldLink own index "CuttingRules$BarList" "costsStale" "Z" ∈ Ts) {v : Int32} (hz : narrow .boolean (.int v) = .int v ∧ fits .boolean (.int v) = true) (hdg : decode cc pc = .ok (.putfield index, 3))
    (kk : ∀ (H1 : Heap) (locs1 : List Loc), va_P D vwCl (wC a cI cZ (sI S 18 v)) H1 → va_S (AC 24 a sz) H0 H1 locs1 → W p l e R s m args below meth c H1 locs1 cells slots Q (F0 m (pc + 3) ls rest)) : W p l e R s m args below meth c H locs cells slots Q (F0 m pc ls (.int v :: .ref (a 19) :: rest)) :=
  va_put (D := D) (ci := 0) (v := .int v) (ty := .boolean) (C := RX0) (T := TX0) (N := 10) X.1 X.2.1 X.2.2.1 hin tyX0 tyX0_ok nmX0 X.2.2.2 hK hP (wC_DA hA) hS 19 rfl rfl 8 (by decide) (X.2.2.1 _ hl) (fun _ h9 => h9) rfl (by decide +kernel) hz.1 hz.2 (Nat.le_of_ble_eq_true rfl) hdg (fun H1 locs1 hP1 _ hS1 => kk H1 locs1 hP1 hS1)
theorem gC_X0_barsStale (X : CX p m c cc s args Ts own) (hK : va_K D vwCl (TYS cI cZ) s) (hP : va_P D vwCl (wC a cI cZ S) H) (hin : ∀ w ∈ wsX00, w ∈ Ts) (hl : Cond.fieldLink own index "CuttingRules$BarList" "barsStale" "Z" ∈ Ts) (hdg : decode cc pc = .ok (.getfield index, 3))
    (kk : W p l e R s m args below meth c H locs cells slots Q (F0 m (pc + 3) ls (.int (S.1 19) :: rest))) : W p l e R s m args below meth c H locs cells slots Q (F0 m pc ls (.ref (a 19) :: rest)) :=
  va_get (D := D) (ci := 0) (v := .int (S.1 19)) (C := RX0) (T := TX0) (N := 10) X.1 X.2.1 X.2.2.1 hin X.2.2.2 hK hP 19 rfl rfl 9 (by decide) (X.2.2.1 _ hl) (fun _ h9 => h9) rfl hdg kk
theorem pC_X0_barsStale (X : CX p m c cc s args Ts own) (hK : va_K D vwCl (TYS cI cZ) s) (hA : AP 24 a) (hP : va_P D vwCl (wC a cI cZ S) H) (hS : va_S (AC 24 a sz) H0 H locs) (hin : ∀ w ∈ wsX00, w ∈ Ts) (hl : Cond.fieldLink own index "CuttingRules$BarList" "barsStale" "Z" ∈ Ts) {v : Int32} (hz : narrow .boolean (.int v) = .int v ∧ fits .boolean (.int v) = true) (hdg : decode cc pc = .ok (.putfield index, 3))
    (kk : ∀ (H1 : Heap) (locs1 : List Loc), va_P D vwCl (wC a cI cZ (sI S 19 v)) H1 → va_S (AC 24 a sz) H0 H1 locs1 → W p l e R s m args below meth c H1 locs1 cells slots Q (F0 m (pc + 3) ls rest)) : W p l e R s m args below meth c H locs cells slots Q (F0 m pc ls (.int v :: .ref (a 19) :: rest)) :=
  va_put (D := D) (ci := 0) (v := .int v) (ty := .boolean) (C := RX0) (T := TX0) (N := 10) X.1 X.2.1 X.2.2.1 hin tyX0 tyX0_ok nmX0 X.2.2.2 hK hP (wC_DA hA) hS 19 rfl rfl 9 (by decide) (X.2.2.1 _ hl) (fun _ h9 => h9) rfl (by decide +kernel) hz.1 hz.2 (Nat.le_of_ble_eq_true rfl) hdg (fun H1 locs1 hP1 _ hS1 => kk H1 locs1 hP1 hS1)
theorem rC_X0_barCosts (X : CX p m c cc s args Ts own) (hK : va_K D vwCl (TYS cI cZ) s) (hP : va_P D vwCl (wC a cI cZ S) H) {i : Int32} (hin : inB i 4096 = true) (hdg : decode cc pc = .ok (.iaload, 1))
    (kk : W p l e R s m args below meth c H locs cells slots Q (F0 m (pc + 1) ls (.int (S.2 13 i.toNatClampNeg) :: rest))) : W p l e R s m args below meth c H locs cells slots Q (F0 m pc ls (.int i :: .ref (a 20) :: rest)) :=
  va_iald X.1 X.2.1 hK hP 20 0 rfl rfl (inB_ok hin) hdg kk
theorem sC_X0_barCosts (X : CX p m c cc s args Ts own) (hK : va_K D vwCl (TYS cI cZ) s) (hA : AP 24 a) (hP : va_P D vwCl (wC a cI cZ S) H) (hS : va_S (AC 24 a sz) H0 H locs) {i x : Int32} (hin : inB i 4096 = true) (hdg : decode cc pc = .ok (.iastore, 1))
    (kk : ∀ (H1 : Heap) (locs1 : List Loc), va_P D vwCl (wC a cI cZ (sG S 13 i x)) H1 → va_S (AC 24 a sz) H0 H1 locs1 → W p l e R s m args below meth c H1 locs1 cells slots Q (F0 m (pc + 1) ls rest)) : W p l e R s m args below meth c H locs cells slots Q (F0 m pc ls (.int x :: .int i :: .ref (a 20) :: rest)) :=
  va_iast X.1 X.2.1 hK hP (wC_DA hA) hS 20 0 rfl rfl (inB_ok hin) hdg (fun H1 locs1 hP1 _ hS1 => kk H1 locs1 hP1 hS1)
theorem nC_X0_barCosts (X : CX p m c cc s args Ts own) (hK : va_K D vwCl (TYS cI cZ) s) (hP : va_P D vwCl (wC a cI cZ S) H) (hdg : decode cc pc = .ok (.arraylength, 1))
    (kk : W p l e R s m args below meth c H locs cells slots Q (F0 m (pc + 1) ls (.int (4096 : Int32) :: rest))) : W p l e R s m args below meth c H locs cells slots Q (F0 m pc ls (.ref (a 20) :: rest)) :=
  va_alen X.1 X.2.1 hK hP 20 0 rfl rfl rfl hdg kk
theorem rC_X0_leastCosts (X : CX p m c cc s args Ts own) (hK : va_K D vwCl (TYS cI cZ) s) (hP : va_P D vwCl (wC a cI cZ S) H) {i : Int32} (hin : inB i 4096 = true) (hdg : decode cc pc = .ok (.iaload, 1))
    (kk : W p l e R s m args below meth c H locs cells slots Q (F0 m (pc + 1) ls (.int (S.2 14 i.toNatClampNeg) :: rest))) : W p l e R s m args below meth c H locs cells slots Q (F0 m pc ls (.int i :: .ref (a 21) :: rest)) :=
  va_iald X.1 X.2.1 hK hP 21 0 rfl rfl (inB_ok hin) hdg kk
theorem sC_X0_leastCosts (X : CX p m c cc s args Ts own) (hK : va_K D vwCl (TYS cI cZ) s) (hA : AP 24 a) (hP : va_P D vwCl (wC a cI cZ S) H) (hS : va_S (AC 24 a sz) H0 H locs) {i x : Int32} (hin : inB i 4096 = true) (hdg : decode cc pc = .ok (.iastore, 1))
    (kk : ∀ (H1 : Heap) (locs1 : List Loc), va_P D vwCl (wC a cI cZ (sG S 14 i x)) H1 → va_S (AC 24 a sz) H0 H1 locs1 → W p l e R s m args below meth c H1 locs1 cells slots Q (F0 m (pc + 1) ls rest)) : W p l e R s m args below meth c H locs cells slots Q (F0 m pc ls (.int x :: .int i :: .ref (a 21) :: rest)) :=
  va_iast X.1 X.2.1 hK hP (wC_DA hA) hS 21 0 rfl rfl (inB_ok hin) hdg (fun H1 locs1 hP1 _ hS1 => kk H1 locs1 hP1 hS1)
theorem nC_X0_leastCosts (X : CX p m c cc s args Ts own) (hK : va_K D vwCl (TYS cI cZ) s) (hP : va_P D vwCl (wC a cI cZ S) H) (hdg : decode cc pc = .ok (.arraylength, 1))
    (kk : W p l e R s m args below meth c H locs cells slots Q (F0 m (pc + 1) ls (.int (4096 : Int32) :: rest))) : W p l e R s m args below meth c H locs cells slots Q (F0 m pc ls (.ref (a 21) :: rest)) :=
  va_alen X.1 X.2.1 hK hP 21 0 rfl rfl rfl hdg kk
theorem rC_X0_firstPatterns (X : CX p m c cc s args Ts own) (hK : va_K D vwCl (TYS cI cZ) s) (hP : va_P D vwCl (wC a cI cZ S) H) {i : Int32} (hin : inB i 4096 = true) (hdg : decode cc pc = .ok (.iaload, 1))
    (kk : W p l e R s m args below meth c H locs cells slots Q (F0 m (pc + 1) ls (.int (S.2 15 i.toNatClampNeg) :: rest))) : W p l e R s m args below meth c H locs cells slots Q (F0 m pc ls (.int i :: .ref (a 22) :: rest)) :=
  va_iald X.1 X.2.1 hK hP 22 0 rfl rfl (inB_ok hin) hdg kk
theorem sC_X0_firstPatterns (X : CX p m c cc s args Ts own) (hK : va_K D vwCl (TYS cI cZ) s) (hA : AP 24 a) (hP : va_P D vwCl (wC a cI cZ S) H) (hS : va_S (AC 24 a sz) H0 H locs) {i x : Int32} (hin : inB i 4096 = true) (hdg : decode cc pc = .ok (.iastore, 1))
    (kk : ∀ (H1 : Heap) (locs1 : List Loc), va_P D vwCl (wC a cI cZ (sG S 15 i x)) H1 → va_S (AC 24 a sz) H0 H1 locs1 → W p l e R s m args below meth c H1 locs1 cells slots Q (F0 m (pc + 1) ls rest)) : W p l e R s m args below meth c H locs cells slots Q (F0 m pc ls (.int x :: .int i :: .ref (a 22) :: rest)) :=
  va_iast X.1 X.2.1 hK hP (wC_DA hA) hS 22 0 rfl rfl (inB_ok hin) hdg (fun H1 locs1 hP1 _ hS1 => kk H1 locs1 hP1 hS1)
theorem nC_X0_firstPatterns (X : CX p m c cc s args Ts own) (hK : va_K D vwCl (TYS cI cZ) s) (hP : va_P D vwCl (wC a cI cZ S) H) (hdg : decode cc pc = .ok (.arraylength, 1))
    (kk : W p l e R s m args below meth c H locs cells slots Q (F0 m (pc + 1) ls (.int (4096 : Int32) :: rest))) : W p l e R s m args below meth c H locs cells slots Q (F0 m pc ls (.ref (a 22) :: rest)) :=
  va_alen X.1 X.2.1 hK hP 22 0 rfl rfl rfl hdg kk
theorem rC_X0_patterns (X : CX p m c cc s args Ts own) (hK : va_K D vwCl (TYS cI cZ) s) (hP : va_P D vwCl (wC a cI cZ S) H) {i : Int32} (hin : inB i 20 = true) (hdg : decode cc pc = .ok (.iaload, 1))
    (kk : W p l e R s m args below meth c H locs cells slots Q (F0 m (pc + 1) ls (.int (S.2 16 i.toNatClampNeg) :: rest))) : W p l e R s m args below meth c H locs cells slots Q (F0 m pc ls (.int i :: .ref (a 23) :: rest)) :=
  va_iald X.1 X.2.1 hK hP 23 0 rfl rfl (inB_ok hin) hdg kk
theorem sC_X0_patterns (X : CX p m c cc s args Ts own) (hK : va_K D vwCl (TYS cI cZ) s) (hA : AP 24 a) (hP : va_P D vwCl (wC a cI cZ S) H) (hS : va_S (AC 24 a sz) H0 H locs) {i x : Int32} (hin : inB i 20 = true) (hdg : decode cc pc = .ok (.iastore, 1))
    (kk : ∀ (H1 : Heap) (locs1 : List Loc), va_P D vwCl (wC a cI cZ (sG S 16 i x)) H1 → va_S (AC 24 a sz) H0 H1 locs1 → W p l e R s m args below meth c H1 locs1 cells slots Q (F0 m (pc + 1) ls rest)) : W p l e R s m args below meth c H locs cells slots Q (F0 m pc ls (.int x :: .int i :: .ref (a 23) :: rest)) :=
  va_iast X.1 X.2.1 hK hP (wC_DA hA) hS 23 0 rfl rfl (inB_ok hin) hdg (fun H1 locs1 hP1 _ hS1 => kk H1 locs1 hP1 hS1)
theorem nC_X0_patterns (X : CX p m c cc s args Ts own) (hK : va_K D vwCl (TYS cI cZ) s) (hP : va_P D vwCl (wC a cI cZ S) H) (hdg : decode cc pc = .ok (.arraylength, 1))
    (kk : W p l e R s m args below meth c H locs cells slots Q (F0 m (pc + 1) ls (.int (20 : Int32) :: rest))) : W p l e R s m args below meth c H locs cells slots Q (F0 m pc ls (.ref (a 23) :: rest)) :=
  va_alen X.1 X.2.1 hK hP 23 0 rfl rfl rfl hdg kk
theorem vC_X6 (hK : va_K D vwCl (TYS cI cZ) s) (hP : va_P D vwCl (wC a cI cZ S) H) : ∃ cell : Cell, H[a 0]? = some cell ∧ cell.vm.isStatics = false ∧ s.vm.findClass RX6 = some cell.cls := va_recv hK hP (ci := 6) (q0 := 0) rfl rfl
theorem vC_X4 (hK : va_K D vwCl (TYS cI cZ) s) (hP : va_P D vwCl (wC a cI cZ S) H) : ∃ cell : Cell, H[a 1]? = some cell ∧ cell.vm.isStatics = false ∧ s.vm.findClass RX4 = some cell.cls := va_recv hK hP (ci := 4) (q0 := 1) rfl rfl
theorem vC_X1 (hK : va_K D vwCl (TYS cI cZ) s) (hP : va_P D vwCl (wC a cI cZ S) H) : ∃ cell : Cell, H[a 3]? = some cell ∧ cell.vm.isStatics = false ∧ s.vm.findClass RX1 = some cell.cls := va_recv hK hP (ci := 1) (q0 := 3) rfl rfl
theorem vC_X5 (hK : va_K D vwCl (TYS cI cZ) s) (hP : va_P D vwCl (wC a cI cZ S) H) : ∃ cell : Cell, H[a 8]? = some cell ∧ cell.vm.isStatics = false ∧ s.vm.findClass RX5 = some cell.cls := va_recv hK hP (ci := 5) (q0 := 8) rfl rfl
theorem vC_X2 (hK : va_K D vwCl (TYS cI cZ) s) (hP : va_P D vwCl (wC a cI cZ S) H) : ∃ cell : Cell, H[a 11]? = some cell ∧ cell.vm.isStatics = false ∧ s.vm.findClass RX2 = some cell.cls := va_recv hK hP (ci := 2) (q0 := 11) rfl rfl
theorem vC_X3 (hK : va_K D vwCl (TYS cI cZ) s) (hP : va_P D vwCl (wC a cI cZ S) H) : ∃ cell : Cell, H[a 14]? = some cell ∧ cell.vm.isStatics = false ∧ s.vm.findClass RX3 = some cell.cls := va_recv hK hP (ci := 3) (q0 := 14) rfl rfl
theorem vC_X0 (hK : va_K D vwCl (TYS cI cZ) s) (hP : va_P D vwCl (wC a cI cZ S) H) : ∃ cell : Cell, H[a 19]? = some cell ∧ cell.vm.isStatics = false ∧ s.vm.findClass RX0 = some cell.cls := va_recv hK hP (ci := 0) (q0 := 19) rfl rfl
end ROWSC
