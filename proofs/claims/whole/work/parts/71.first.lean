/-! MATH: how both begin -/
def TI (S : ST) (l b : Nat) (T : ST) : Prop := T.1 = S.1 ∧ (∀ a, a ≠ 8 → T.2 a = S.2 a) ∧ ∀ b' l', 1 ≤ l' → b' + l' ≤ 16 → (l' < l ∨ (l' = l ∧ b' < b)) → T.2 8 (16 * b' + l' - 1) = nI (spM b' l')
theorem spM_next : ∀ l, l < 17 → 1 ≤ l → spM (17 - l) l = spM 0 (l + 1) := by decide
theorem spM_b (b l : Nat) : spM b l + 1 = spM (b + 1) l := rfl
theorem tail_in {S : ST} {l : Nat} (h1 : 1 ≤ l) (h2 : l ≤ 16) (k x : ST → Int32 → Int32 → Option ST) : ∀ d b n T, b + d = 17 - l → d < n → TI S l b T → ∃ T', TI S (l + 1) 0 T' ∧ LPf (κ := ST → Int32 → Int32 → Option (ST)) (fun _ _ _ => none) (fun kk => mX7_init_B283 kk (mX7_init_X283 k x (nI l)) (nI l)) n T (nI (spM b l)) (nI b) = k T' (nI (spM 0 (l + 1))) (nI (l + 1)) := by
  intro d
  induction d with
  | zero =>
    intro b n T hb hn h
    obtain ⟨n, rfl⟩ : ∃ m, n = m + 1 := ⟨n - 1, by omega⟩
    obtain rfl : b = 17 - l := by omega
    refine ⟨T, ⟨h.1, h.2.1, fun b' l' a1 a2 a3 => h.2.2 b' l' a1 a2 (by omega)⟩, ?_⟩
    rw [LP_s]
    generalize LPf (κ := ST → Int32 → Int32 → Option (ST)) (fun _ _ _ => none) _ n = kk
    show mX7_init_B283 kk _ (nI l) T _ _ = _
    unfold mX7_init_B283
    rw [l16, nI_add, if_pos (by rw [ltI (by omega) (by omega)]; omega)]
    unfold mX7_init_X283
    rw [nI_1, spM_next l (by omega) h1]
  | succ d ih =>
    intro b n T hb hn h
    obtain ⟨n, rfl⟩ : ∃ m, n = m + 1 := ⟨n - 1, by omega⟩
    have T' : TI S l (b + 1) (sG T 8 (nI (16 * b + l - 1)) (nI (spM b l))) := by
      refine ⟨h.1, fun a ha => by rw [sGo ha]; exact h.2.1 a ha, fun b' l' a1 a2 a3 => ?_⟩
      rw [sGs (by omega)]
      by_cases e : 16 * b' + l' - 1 = 16 * b + l - 1
      · obtain rfl : l' = l := by omega
        obtain rfl : b' = b := by omega
        rw [if_pos rfl]
      · rw [if_neg e]
        exact h.2.2 b' l' a1 a2 (by omega)
    obtain ⟨T2, a1, a2⟩ := ih (b + 1) n _ (by omega) (by omega) T'
    refine ⟨T2, a1, ?_⟩
    rw [LP_s, ← a2]
    generalize LPf (κ := ST → Int32 → Int32 → Option (ST)) (fun _ _ _ => none) _ n = kk
    show mX7_init_B283 kk _ (nI l) T _ _ = _
    unfold mX7_init_B283
    rw [l16, nI_add, if_neg (by rw [ltI (by omega) (by omega)]; omega), pk_mul, nI_add, l1, pk_sub (by omega), gdI (by omega) (by omega), nI_add, nI_add, spM_b]
theorem tail_out {S : ST} : ∀ d l n T, l + d = 17 → 1 ≤ l → d < n → TI S l 0 T → ∃ T', TI S 17 0 T' ∧ LPf (κ := ST → Int32 → Int32 → Option (ST)) (fun _ _ _ => none) (fun kk => mX7_init_B275 kk (mX7_init_X275 ) ) n T (nI (spM 0 l)) (nI l) = some T' := by
  intro d
  induction d with
  | zero =>
    intro l n T hl l1' hn h
    obtain ⟨n, rfl⟩ : ∃ m, n = m + 1 := ⟨n - 1, by omega⟩
    obtain rfl : l = 17 := by omega
    refine ⟨T, h, ?_⟩
    rw [LP_s]
    generalize LPf (κ := ST → Int32 → Int32 → Option (ST)) (fun _ _ _ => none) _ n = kk
    show mX7_init_B275 kk _ T _ _ = _
    unfold mX7_init_B275
    rw [if_pos (by decide)]
    rfl
  | succ d ih =>
    intro l n T hl l1' hn h
    obtain ⟨n, rfl⟩ : ∃ m, n = m + 1 := ⟨n - 1, by omega⟩
    rw [LP_s]
    have ih' := fun T => ih (l + 1) n T (by omega) (by omega) (by omega)
    revert ih'
    generalize LPf (κ := ST → Int32 → Int32 → Option (ST)) (fun _ _ _ => none) _ n = kk
    intro ih'
    show ∃ T', _ ∧ mX7_init_B275 kk _ T _ _ = _
    unfold mX7_init_B275
    rw [l16, if_neg (by rw [ltI (by omega) (by omega)]; omega), l0]
    obtain ⟨T1, a1, a2⟩ := tail_in (S := S) l1' (by omega) kk (mX7_init_X275) (17 - l) 0 FU T (by omega) (FU_gt (by omega)) h
    rw [a2]
    exact ih' T1 a1
theorem whole_law : ∃ T0, mX7_tail S0M = some T0 ∧ ∀ (xs : Nat → Int32) (L : Nat), L ≤ 384 → ∃ n, mL xs L n S0C T0 0 = some 1 := by
  obtain ⟨T0, a1, a2⟩ := tail_out (S := S0M) 16 1 FU S0M (by omega) (by omega) (FU_gt (by omega)) ⟨rfl, fun _ _ => rfl, fun b' l' h1 h2 h3 => by omega⟩
  have sp : SPT T0 := fun b l h1 h2 => a1.2.2 b l h1 h2 (by omega)
  refine ⟨T0, a2, fun xs L hL => law_all xs hL L 0 S0C T0 (by omega) (by omega) ⟨?_, ?_⟩⟩
  · refine ⟨(fun k => ([1, 1, 0, 1, 0, 0, 0] : List Nat).getD k 0, fun _ _ => 0), ⟨by decide, by decide, by decide, by decide, by decide, by decide, by decide, fun k hk => absurd hk (Nat.not_lt_zero k), fun k hk => absurd hk (Nat.not_lt_zero k)⟩, ⟨⟨rfl, rfl, rfl, rfl, rfl, rfl, rfl⟩, fun k hk => absurd hk (Nat.not_lt_zero k), fun k hk => absurd hk (Nat.not_lt_zero k)⟩, ⟨?_, fun k hk => absurd hk (Nat.not_lt_zero k), fun k hk => absurd hk (Nat.not_lt_zero k)⟩, sp, fun q => absurd (show (1 : Int32) = 0 from q) one0, fun q => absurd (show (1 : Int32) = 0 from q) one0, fun q => absurd ?_ q⟩
    · rw [a1.1]
      exact ⟨rfl, rfl, rfl, rfl, rfl, rfl, rfl⟩
    · rw [a1.1]; rfl
  · refine ⟨(fun _ => 0, fun _ _ => 0), fun _ => 0, ⟨by decide, by decide, by decide, fun k hk => absurd hk (Nat.not_lt_zero k), fun k hk => absurd hk (Nat.not_lt_zero k)⟩, fun k hk => absurd hk (Nat.not_lt_zero k), ⟨⟨rfl, rfl, rfl, fun k hk => absurd hk (Nat.not_lt_zero k), fun k hk => absurd hk (Nat.not_lt_zero k)⟩, fun k hk => absurd hk (Nat.not_lt_zero k), fun q => absurd (show (1 : Int32) = 0 from q) one0, fun q => absurd (show (1 : Int32) = 0 from q) one0⟩, ⟨?_, ?_, ?_, fun k hk => absurd hk (Nat.not_lt_zero k), fun k hk => absurd hk (Nat.not_lt_zero k)⟩, fun k hk => absurd hk (Nat.not_lt_zero k), fun q => absurd ?_ q⟩
    · rw [a1.1]; rfl
    · rw [a1.1]; rfl
    · rw [a1.1]; rfl
    · rw [a1.1]; rfl
