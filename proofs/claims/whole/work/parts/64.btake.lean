/-! MATH, bars: the class reads its list off -/
theorem lf_0 (K : KB) (q : Nat) : lf K q 0 = q := rfl
theorem lf_s (K : KB) (q i : Nat) : lf K q (i + 1) = lf K q i - fpB K (lf K q i) := rfl
def LIST (K : KB) (q : Nat) (short price many : Int32) (row : Nat → Int32) : Prop :=
  (1048576 ≤ CB K q ∧ short = 1 ∧ many = 0) ∨ (CB K q < 1048576 ∧ short = 0 ∧ price = nI (CB K q / 21) ∧ ∃ n, n ≤ 20 ∧ many = nI n ∧ lf K q n = 0 ∧ ∀ i, i < n → lf K q i ≠ 0 ∧ row i = nI (fpB K (lf K q i)))
theorem c_takeBars {K : KB} {S : ST} (ok : OKK K) {q : Nat} (hv : VD K q) (hp : pcs q ≤ 20) (hc : COST K S) (hd : ∀ p, p ≠ 0 → inV p q → S.2 14 p ≠ 0) : ∃ S', mX0_takeBars S (nI q) = some S' ∧ (∀ k, k ≠ 15 → k ≠ 16 → k ≠ 17 → S'.1 k = S.1 k) ∧ (∀ a, a ≠ 16 → S'.2 a = S.2 a) ∧ LIST K q (S'.1 17) (S'.1 16) (S'.1 15) (S'.2 16) := by
  have hq := hv.1
  have e14 : S.2 14 q = nI (CB K q) := by
    by_cases c : q = 0
    · rw [c, CB_0]; exact hc.1
    · exact (hc.2 q c hv (hd q c (inV_rf q))).1
  have cl := CB_le K q
  unfold mX0_takeBars
  rw [w6b, if_pos ⟨nI_pos' (by omega), (nI_leI (b := 4095) (by omega) (by omega)).mpr (by omega)⟩, gdI (by omega) (by omega), clI (by omega), e14, show (1048576 : Int32) = nI 1048576 from rfl, ifLt (by omega) (by omega)]
  by_cases c : CB K q < 1048576
  · rw [if_pos c]
    unfold mX0_takeBars_J38
    rw [show zB 0 = true from rfl, gdT, if_pos rfl, gdI (by omega) (by omega)]
    have L : ∀ m i n T, m + i = 20 → m < n → (∀ j, j < i → lf K q j ≠ 0) → T.1 15 = nI i → T.2 15 = S.2 15 → (∀ k, k ≠ 15 → k ≠ 16 → k ≠ 17 → T.1 k = S.1 k) → (∀ a, a ≠ 16 → T.2 a = S.2 a) → (∀ j, j < i → T.2 16 j = nI (fpB K (lf K q j))) → T.1 17 = 0 → T.1 16 = nI (CB K q / 21) →
        ∃ S', LPf (κ := ST → Int32 → Option (ST)) (fun _ _ => none) (fun kk => mX0_takeBars_B64 kk (mX0_takeBars_X64 (nI q)) (nI q)) n T (nI (lf K q i)) = some S' ∧ (∀ k, k ≠ 15 → k ≠ 16 → k ≠ 17 → S'.1 k = S.1 k) ∧ (∀ a, a ≠ 16 → S'.2 a = S.2 a) ∧ LIST K q (S'.1 17) (S'.1 16) (S'.1 15) (S'.2 16) := by
      intro m
      induction m with
      | zero =>
        intro i n T hi hn hz t15 t15' tk ta tr t17 t16
        obtain ⟨n, rfl⟩ : ∃ m, n = m + 1 := ⟨n - 1, by omega⟩
        rw [LP_s]
        generalize LPf (κ := ST → Int32 → Option (ST)) (fun _ _ => none) _ n = k
        show ∃ S', mX0_takeBars_B64 k _ (nI q) T _ = some S' ∧ _
        unfold mX0_takeBars_B64
        rw [t15, show (20 : Int32) = nI 20 from rfl, if_pos (by rw [leI (by omega) (by omega)]; omega)]
        refine ⟨T, rfl, tk, ta, Or.inr ⟨c, t17, t16, i, by omega, t15, ?_, fun j hj => ⟨hz j hj, tr j hj⟩⟩⟩
        have := (lf_ok K c i hz).2.2
        by_cases z : lf K q i = 0
        · exact z
        · have := pcs_pos z
          omega
      | succ m ih =>
        intro i n T hi hn hz t15 t15' tk ta tr t17 t16
        obtain ⟨n, rfl⟩ : ∃ m, n = m + 1 := ⟨n - 1, by omega⟩
        have i31 : i < 2147483648 := by omega
        obtain ⟨li, lc, lp⟩ := lf_ok K c i hz
        have ll := inV_le li
        rw [LP_s]
        have ih' := fun T => ih (i + 1) n T (by omega) (by omega)
        revert ih'
        generalize LPf (κ := ST → Int32 → Option (ST)) (fun _ _ => none) _ n = k
        intro ih'
        show ∃ S', mX0_takeBars_B64 k _ (nI q) T _ = some S' ∧ _
        unfold mX0_takeBars_B64
        rw [t15, show (20 : Int32) = nI 20 from rfl, if_neg (by rw [leI (by omega) (by omega)]; omega), w6b]
        by_cases z : lf K q i = 0
        · rw [if_neg (by rw [z]; decide)]
          exact ⟨T, rfl, tk, ta, Or.inr ⟨c, t17, t16, i, by omega, t15, z, fun j hj => ⟨hz j hj, tr j hj⟩⟩⟩
        · obtain ⟨f0, f1, f2, -⟩ := fp_ok K z lc
          have fl := inV_le f1
          have ef : T.2 15 (lf K q i) = nI (fpB K (lf K q i)) := by
            rw [t15']
            exact (hc.2 _ z (VD_in li hv) (hd _ z li)).2.2 lc
          rw [if_pos ⟨by rw [l1]; exact (nI_leI (by omega) (by omega)).mpr (by omega), (nI_leI (b := 4095) (by omega) (by omega)).mpr (by omega)⟩, gdI (by omega) (by omega), gdI (by omega) (by omega), gdI (by omega) (by omega), clI (by omega), ef, pk_sub fl, nI_1, ← lf_s]
          have g1 : ∀ j, j < i + 1 → lf K q j ≠ 0 := fun j hj => by
            by_cases e : j = i
            · rw [e]; exact z
            · exact hz j (Nat.lt_of_le_of_ne (Nat.le_of_lt_succ hj) e)
          have g2 : ∀ j, j < i + 1 → (sI (sG T 16 (nI i) (nI (fpB K (lf K q i)))) 15 (nI (i + 1))).2 16 j = nI (fpB K (lf K q j)) := fun j hj => by
            rw [sI_g, sGs i31]
            by_cases e : j = i
            · rw [if_pos e, e]
            · rw [if_neg e]; exact tr j (Nat.lt_of_le_of_ne (Nat.le_of_lt_succ hj) e)
          have t17' : (sI (sG T 16 (nI i) (nI (fpB K (lf K q i)))) 15 (nI (i + 1))).1 17 = 0 := by rw [sI_i, if_neg (by decide), sG_i]; exact t17
          have t16' : (sI (sG T 16 (nI i) (nI (fpB K (lf K q i)))) 15 (nI (i + 1))).1 16 = nI (CB K q / 21) := by rw [sI_i, if_neg (by decide), sG_i]; exact t16
          have t15'' : (sI (sG T 16 (nI i) (nI (fpB K (lf K q i)))) 15 (nI (i + 1))).1 15 = nI (i + 1) := by rw [sI_i, if_pos rfl]
          have t15r : (sI (sG T 16 (nI i) (nI (fpB K (lf K q i)))) 15 (nI (i + 1))).2 15 = S.2 15 := by rw [sI_g, sGo (by decide)]; exact t15'
          have tk' : ∀ k, k ≠ 15 → k ≠ 16 → k ≠ 17 → (sI (sG T 16 (nI i) (nI (fpB K (lf K q i)))) 15 (nI (i + 1))).1 k = S.1 k := fun k k1 k2 k3 => by rw [sI_i, if_neg k1, sG_i]; exact tk k k1 k2 k3
          have ta' : ∀ a, a ≠ 16 → (sI (sG T 16 (nI i) (nI (fpB K (lf K q i)))) 15 (nI (i + 1))).2 a = S.2 a := fun a ha => by rw [sI_g, sGo ha]; exact ta a ha
          exact ih' _ g1 t15'' t15r tk' ta' g2 t17' t16'
    have hF : 20 < FU := FU_gt (by omega)
    generalize FU = F at hF ⊢
    have e16 : (sI (sI (sI (sI S 15 0) 16 0) 17 0) 16 ((sI (sI S 15 0) 16 0).2 14 (nI q).toNatClampNeg / 21)).1 16 = nI (CB K q / 21) := by
      rw [sI_i, if_pos rfl, clI (by omega)]
      show S.2 14 q / 21 = _
      rw [e14, l21, pk_div (by omega) (by omega) (by omega)]
    have t15 : (sI (sI (sI (sI S 15 0) 16 0) 17 0) 16 ((sI (sI S 15 0) 16 0).2 14 (nI q).toNatClampNeg / 21)).1 15 = nI 0 := by
      rw [sI_i, if_neg (by decide), sI_i, if_neg (by decide), sI_i, if_neg (by decide), sI_i, if_pos rfl]; rfl
    have t17 : (sI (sI (sI (sI S 15 0) 16 0) 17 0) 16 ((sI (sI S 15 0) 16 0).2 14 (nI q).toNatClampNeg / 21)).1 17 = 0 := by
      rw [sI_i, if_neg (by decide), sI_i, if_pos rfl]
    have LL := L 20 0 F (sI (sI (sI (sI S 15 0) 16 0) 17 0) 16 ((sI (sI S 15 0) 16 0).2 14 (nI q).toNatClampNeg / 21)) (by omega) hF (fun j hj => by omega) t15 (by rw [sI_g, sI_g, sI_g, sI_g]) (fun k k1 k2 k3 => by rw [sI_i, if_neg k2, sI_i, if_neg k3, sI_i, if_neg k2, sI_i, if_neg k1]) (fun _ _ => by rw [sI_g, sI_g, sI_g, sI_g]) (fun j hj => by omega) t17 e16
    rw [lf_0] at LL
    exact LL
  · rw [if_neg c]
    unfold mX0_takeBars_J38
    rw [show zB 1 = true from rfl, gdT, if_neg one0]
    refine ⟨_, rfl, fun k k1 k2 k3 => ?_, fun _ _ => rfl, Or.inl ⟨by omega, rfl, rfl⟩⟩
    rw [sI_i, if_neg k3, sI_i, if_neg k2, sI_i, if_neg k1]
