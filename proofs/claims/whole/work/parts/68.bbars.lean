/-! MATH, bars: the reference reads its list off -/
def DN (K : KB) (w : Nat) (T : ST) : Prop := KM K T ∧ (∀ r, r < w + 1 → PTr K w T r) ∧ ∀ r, r ≤ w → inV (cv r) (cv w) → REP T r (CB K (cv r))
theorem DN_of {K : KB} {w : Nat} {T T' : ST} (h1 : T'.1 11 = T.1 11 ∧ T'.1 12 = T.1 12 ∧ T'.1 13 = T.1 13) (h2 : ∀ a, a ≠ 29 → T'.2 a = T.2 a) (h : DN K w T) : DN K w T' := by
  refine ⟨KM_of h1 ⟨h2 21 (by decide), h2 22 (by decide), h2 23 (by decide)⟩ h.1, fun r hr => PTr_of (by rw [h2 27 (by decide)]) (by rw [h2 28 (by decide)]) (h.2.1 r hr), fun r hr g => ?_⟩
  unfold REP
  rw [h2 25 (by decide), h2 26 (by decide)]
  exact h.2.2 r hr g
theorem m_isBest {K : KB} {w : Nat} {T : ST} (ok : OKK K) (hw : w < 1296) (hp : pcs (cv w) ≤ 20) (h : DN K w T) {ρ v : Nat} (hρ : HH (inV (cv ρ) (cv w))) (hb : CB K (cv ρ) < 1048576) (hv : v ≤ ρ) (v0 : v ≠ 0) : mX7_isBest T (nI v) (nI ρ) = some (nI (decide (inV (cv v) (cv ρ) ∧ bc K (cv v) + CB K (cv (ρ - v)) = CB K (cv ρ))).toNat) := by
  have o3 := ok.1
  have rl := (cv_sub hρ).1
  have NO : ¬ (inV (cv v) (cv ρ) ∧ bc K (cv v) + CB K (cv (ρ - v)) = CB K (cv ρ)) → some (0 : Int32) = some (nI (decide (inV (cv v) (cv ρ) ∧ bc K (cv v) + CB K (cv (ρ - v)) = CB K (cv ρ))).toNat) := fun g => by rw [decide_eq_false g]; rfl
  unfold mX7_isBest
  rw [gdI (by omega) (by omega), clI (a := v) (by omega)]
  by_cases c : HH (inV (cv v) (cv w))
  · rw [((h.2.1 v (by omega)).1 ⟨v0, c⟩).1]
    by_cases z : sfB K (cv v) = 0
    · rw [z, gD_0, if_pos rfl]
      refine NO (fun g => ?_)
      have g2 := g.2
      clear g
      rcases bc_or ok (cv v) with ⟨-, b⟩ | ⟨b, -⟩ <;> omega
    · obtain ⟨-, b2, b3, b4, b5⟩ := (bc_or ok (cv v)).resolve_left (fun q => z q.1)
      rw [if_neg (gD_ne z (by omega)), m_isIn (r := v) (w := ρ) (by omega) (by omega), Option.bind_some, ifB]
      by_cases d : HH (inV (cv v) (cv ρ))
      · rw [if_pos (decide_eq_true (p := inV (cv v) (cv ρ)) d)]
        obtain ⟨s, hs⟩ : ∃ s, sfB K (cv v) = s + 1 := ⟨sfB K (cv v) - 1, by omega⟩
        have ks := (h.1.2.2.2.1 s (by omega)).2
        have kb := ok.2.2.2.1 s (by omega)
        rw [hs, Nat.add_sub_cancel] at b3
        have f2 : HH (inV (cv (ρ - v)) (cv w)) := (in_rest d hρ).2
        have R1 := h.2.2 (ρ - v) (by omega) f2
        have R2 := h.2.2 ρ rl hρ
        have p1 := pcs_sub d
        have p2 := pcs_sub hρ
        have p3 := pcs_pos (cv_ne v0)
        rw [← (cv_sub d).2] at p1
        rw [pk_sub hv, gdI (by omega) (by omega), clI (a := ρ - v) (by omega)]
        rcases R2 with ⟨e, -⟩ | ⟨-, e25, e26⟩
        · omega
        rcases R1 with ⟨e, e'⟩ | ⟨e, g25, g26⟩
        · rw [e', if_pos rfl]
          refine NO (fun g => ?_)
          have g2 := g.2
          clear g
          omega
        · have cb := CB_bnd ok (cv (ρ - v)) (by omega) e
          have IFF : bc K (cv v) + CB K (cv (ρ - v)) = CB K (cv ρ) ↔ CB K (cv ρ) / 21 = CB K (cv (ρ - v)) / 21 + K.2 1 s ∧ CB K (cv ρ) % 21 = CB K (cv (ρ - v)) % 21 + 1 := by
            rw [b3]
            omega
          rw [g25, if_neg (nI_nm1 (by omega)), gdI (by omega) (by omega), gdI (by omega) (by omega), gdI (by omega) (by omega), hs, gD_s, gdI (by omega) (by omega), clI (a := ρ) (by omega), clI (a := s) (by omega), e25, ks, nI_add, ifEq (by omega) (by omega)]
          by_cases c1 : CB K (cv ρ) / 21 = CB K (cv (ρ - v)) / 21 + K.2 1 s
          · rw [if_pos c1, gdI (by omega) (by omega), gdI (by omega) (by omega), e26, g26, nI_1, ifEq (by omega) (by omega)]
            by_cases c2 : CB K (cv ρ) % 21 = CB K (cv (ρ - v)) % 21 + 1
            · rw [if_pos c2, decide_eq_true ⟨d, IFF.mpr ⟨c1, c2⟩⟩]; rfl
            · rw [if_neg c2]; exact NO (fun g => c2 (IFF.mp g.2).2)
          · rw [if_neg c1]; exact NO (fun g => c1 (IFF.mp g.2).1)
      · rw [if_neg (fun q => d (of_decide_eq_true (p := inV (cv v) (cv ρ)) q))]
        exact NO (fun g => d g.1)
  · rw [(h.2.1 v (by omega)).2 (fun g => c g.2), if_pos rfl]
    exact NO (fun g => c (inV_tr g.1 hρ))
theorem m_find {K : KB} {w : Nat} {T : ST} (ok : OKK K) (hw : w < 1296) (hp : pcs (cv w) ≤ 20) (h : DN K w T) {ρ t : Nat} (hρ : HH (inV (cv ρ) (cv w))) (hb : CB K (cv ρ) < 1048576) (ρ0 : ρ ≠ 0) (ht : t ≠ 0) (hf : cv t = fpB K (cv ρ)) (X : Int32 → Option ST) : ∀ d v n, t + d = v → v ≤ ρ → d < n → LPf (κ := Int32 → Option (ST)) (fun _ => none) (fun kk => mX7_list_B216 kk X T (nI w) (nI ρ)) n (nI v) = X (nI t) := by
  have FP := fp_ok K (cv_ne ρ0) hb
  rw [← hf] at FP
  have f1 : HH (inV (cv t) (cv ρ)) := FP.2.1
  have f2 : bc K (cv t) + CB K (cv ρ - cv t) = CB K (cv ρ) := FP.2.2.1
  have f3 : ∀ p, p ≠ 0 → inV p (cv ρ) → bc K p + CB K (cv ρ - p) = CB K (cv ρ) → p ≤ cv t := FP.2.2.2
  clear FP
  intro d
  induction d with
  | zero =>
    intro v n hd hv hn
    obtain ⟨n, rfl⟩ : ∃ m, n = m + 1 := ⟨n - 1, by omega⟩
    obtain rfl : t = v := by omega
    rw [LP_s]
    generalize LPf (κ := Int32 → Option (ST)) (fun _ => none) _ n = k
    show mX7_list_B216 k X T (nI w) (nI ρ) (nI t) = _
    unfold mX7_list_B216
    rw [m_isBest ok hw hp h hρ hb hv ht, Option.bind_some, ifB, if_pos]
    rw [(cv_sub f1).2]
    exact decide_eq_true ⟨f1, f2⟩
  | succ d ih =>
    intro v n hd hv hn
    obtain ⟨n, rfl⟩ : ∃ m, n = m + 1 := ⟨n - 1, by omega⟩
    rw [LP_s]
    have ih' := ih (v - 1) n (by omega) (by omega) (by omega)
    revert ih'
    generalize LPf (κ := Int32 → Option (ST)) (fun _ => none) _ n = k
    intro ih'
    show mX7_list_B216 k X T (nI w) (nI ρ) (nI v) = _
    unfold mX7_list_B216
    rw [m_isBest ok hw hp h hρ hb hv (by omega), Option.bind_some, ifB, if_neg, decI (by omega)]
    · exact ih'
    · intro g
      obtain ⟨g1, g2⟩ := of_decide_eq_true g
      rw [(cv_sub g1).2] at g2
      have tv : t < v := by clear g1 g2 g; omega
      exact absurd (cv_lt tv) (Nat.not_lt.mpr (f3 (cv v) (cv_ne (Nat.ne_of_gt (Nat.lt_of_le_of_lt (Nat.zero_le t) tv))) g1 g2))
def LM (K : KB) (w : Nat) (T : ST) : Prop := (∀ r, r < w + 1 → PTr K w T r) ∧ ((1048576 ≤ CB K (cv w) ∧ T.1 15 = 1 ∧ T.1 16 = 0) ∨ (CB K (cv w) < 1048576 ∧ T.1 15 = 0 ∧ T.2 25 w = nI (CB K (cv w) / 21) ∧ ∃ n, n ≤ 20 ∧ T.1 16 = nI n ∧ lf K (cv w) n = 0 ∧ ∀ i, i < n → lf K (cv w) i ≠ 0 ∧ ∃ ρ, ρ ≤ w ∧ ρ ≠ 0 ∧ inV (cv ρ) (cv w) ∧ bc K (cv ρ) < 1048576 ∧ T.2 29 i = nI ρ ∧ cv ρ = fpB K (lf K (cv w) i)))
def BI (K : KB) (w i : Nat) (T0 T : ST) : Prop := (∀ k, k ≠ 16 → T.1 k = T0.1 k) ∧ (∀ a, a ≠ 29 → T.2 a = T0.2 a) ∧ T.1 16 = nI i ∧ ∀ j, j < i → lf K (cv w) j ≠ 0 ∧ ∃ ρ, ρ ≤ w ∧ ρ ≠ 0 ∧ inV (cv ρ) (cv w) ∧ bc K (cv ρ) < 1048576 ∧ T.2 29 j = nI ρ ∧ cv ρ = fpB K (lf K (cv w) j)
theorem m_take {K : KB} {w : Nat} {T0 : ST} (ok : OKK K) (hw : w < 1296) (hp : pcs (cv w) ≤ 20) (h : DN K w T0) (c : CB K (cv w) < 1048576) (h15 : T0.1 15 = 0) : ∀ m i n T ρ, m + i = 20 → m < n → BI K w i T0 T → cv ρ = lf K (cv w) i → ∃ T' n', n' ≤ 20 ∧ LPf (κ := ST → Int32 → Option (ST)) (fun _ _ => none) (fun kk => mX7_list_B203 kk (mX7_list_X203 (nI w)) (nI w)) n T (nI ρ) = some T' ∧ BI K w n' T0 T' ∧ lf K (cv w) n' = 0 := by
  intro m
  induction m with
  | zero =>
    intro i n T ρ hi hn hB hρ
    obtain ⟨n, rfl⟩ : ∃ m, n = m + 1 := ⟨n - 1, by omega⟩
    have lz : lf K (cv w) i = 0 := by
      have l3 := (lf_ok K c i (fun j hj => (hB.2.2.2 j hj).1)).2.2
      by_cases z : lf K (cv w) i = 0
      · exact z
      · have := pcs_pos z
        omega
    have r0 : ρ = 0 := by
      by_cases z : ρ = 0
      · exact z
      · exact absurd (hρ.trans lz) (cv_ne z)
    rw [LP_s]
    generalize LPf (κ := ST → Int32 → Option (ST)) (fun _ _ => none) _ n = k
    show ∃ T' n', _ ∧ mX7_list_B203 k _ (nI w) T _ = _ ∧ _
    unfold mX7_list_B203
    rw [r0, if_pos (by decide)]
    exact ⟨T, i, by omega, rfl, hB, lz⟩
  | succ m ih =>
    intro i n T ρ hi hn hB hρ
    obtain ⟨n, rfl⟩ : ∃ m, n = m + 1 := ⟨n - 1, by omega⟩
    have i31 : i < 2147483648 := by omega
    have LF := lf_ok K c i (fun j hj => (hB.2.2.2 j hj).1)
    have e := lf_s K (cv w) i
    rw [← hρ] at LF e
    have li : HH (inV (cv ρ) (cv w)) := LF.1
    have lc : CB K (cv ρ) < 1048576 := LF.2.1
    have lp : pcs (cv ρ) + i ≤ pcs (cv w) := LF.2.2
    clear LF
    have rl := (cv_sub li).1
    rw [LP_s]
    have ih' := fun T ρ => ih (i + 1) n T ρ (by omega) (by omega)
    revert ih'
    generalize LPf (κ := ST → Int32 → Option (ST)) (fun _ _ => none) _ n = k
    intro ih'
    show ∃ T' n', _ ∧ mX7_list_B203 k _ (nI w) T _ = _ ∧ _
    unfold mX7_list_B203
    rw [ifLe0 (by omega)]
    by_cases z : ρ ≤ 0
    · rw [if_pos z]
      refine ⟨T, i, by omega, rfl, hB, ?_⟩
      rw [← hρ, show ρ = 0 from Nat.le_zero.mp z]
      exact cv_0
    · have ρ0 : ρ ≠ 0 := fun q => z (Nat.le_of_eq q)
      rw [if_neg z, if_pos (by rw [hB.1 15 (by decide)]; exact h15)]
      have FP := fp_ok K (cv_ne ρ0) lc
      obtain ⟨t, ht, ht2⟩ := cv_sur FP.2.1
      rw [← ht2] at FP e
      have t0 : t ≠ 0 := fun q => FP.1 (by rw [q]; exact cv_0)
      have f1 : HH (inV (cv t) (cv ρ)) := FP.2.1
      have f2 : bc K (cv t) + CB K (cv ρ - cv t) = CB K (cv ρ) := FP.2.2.1
      have fb : bc K (cv t) < 1048576 := Nat.lt_of_le_of_lt (Nat.le_trans (Nat.le_add_right _ _) (Nat.le_of_eq f2)) lc
      clear FP f2
      have dn : DN K w T := DN_of ⟨hB.1 11 (by decide), hB.1 12 (by decide), hB.1 13 (by decide)⟩ hB.2.1 h
      rw [m_find ok hw hp dn li lc ρ0 t0 ht2 _ (ρ - t) ρ FU (by omega) (Nat.le_refl _) (FU_gt (by omega))]
      unfold mX7_list_X216
      rw [hB.2.2.1, gdI (by omega) (by omega), pk_sub ht, nI_1]
      refine ih' _ _ ⟨fun k hk => ?_, fun a ha => ?_, ?_, fun j hj => ?_⟩ ?_
      · rw [sI_i, if_neg hk, sG_i]; exact hB.1 k hk
      · rw [sI_g, sGo ha]; exact hB.2.1 a ha
      · rw [sI_i, if_pos rfl]
      · rw [sI_g, sGs i31]
        by_cases ej : j = i
        · rw [if_pos ej, ej]
          rw [← hρ]
          exact ⟨cv_ne ρ0, t, Nat.le_trans ht rl, t0, inV_tr f1 li, fb, rfl, ht2⟩
        · rw [if_neg ej]
          exact hB.2.2.2 j (Nat.lt_of_le_of_ne (Nat.le_of_lt_succ hj) ej)
      · rw [e]
        exact (cv_sub f1).2
theorem m_bars {K : KB} {w : Nat} {T : ST} (ok : OKK K) (hw : w < 1296) (hp : pcs (cv w) ≤ 20) (h : DN K w T) : ∃ T', mX7_list_X88 (nI w) T (nI w) = some T' ∧ (∀ k, k ≠ 15 → k ≠ 16 → T'.1 k = T.1 k) ∧ (∀ a, a ≠ 29 → T'.2 a = T.2 a) ∧ LM K w T' := by
  unfold mX7_list_X88
  rw [gdI (by omega) (by omega), clI (by omega)]
  rcases h.2.2 w (Nat.le_refl _) (inV_rf _) with ⟨e, e25⟩ | ⟨e, e25, e26⟩
  · rw [e25, if_pos rfl]
    unfold mX7_list_J193
    rw [show zB 1 = true from rfl, gdT]
    obtain ⟨F, hF⟩ : ∃ F, FU = F + 1 := ⟨99999, rfl⟩
    rw [hF, LP_s]
    generalize LPf (κ := ST → Int32 → Option (ST)) (fun _ _ => none) _ F = k'
    show ∃ T', mX7_list_B203 k' _ (nI w) _ (nI w) = _ ∧ _
    unfold mX7_list_B203 mX7_list_X203
    have R : (∀ k, k ≠ 15 → k ≠ 16 → (sI (sI T 15 1) 16 0).1 k = T.1 k) ∧ (∀ a, a ≠ 29 → (sI (sI T 15 1) 16 0).2 a = T.2 a) ∧ LM K w (sI (sI T 15 1) 16 0) := by
      refine ⟨fun k h1 h2 => by rw [sI_i, if_neg h2, sI_i, if_neg h1], fun _ _ => rfl, fun r hr => PTr_of rfl rfl (h.2.1 r hr), Or.inl ⟨Nat.le_of_eq e.symm, ?_, ?_⟩⟩
      · rw [sI_i, if_neg (by decide), sI_i, if_pos rfl]
      · rw [sI_i, if_pos rfl]
    rw [ifLe0 (by omega)]
    by_cases z : w ≤ 0
    · rw [if_pos z]
      exact ⟨_, rfl, R⟩
    · rw [if_neg z, if_neg (by rw [sI_i, if_neg (by decide), sI_i, if_pos rfl]; decide)]
      exact ⟨_, rfl, R⟩
  · rw [e25, if_neg (nI_nm1 (by omega))]
    unfold mX7_list_J193
    rw [show zB 0 = true from rfl, gdT]
    have dn : DN K w (sI (sI T 15 0) 16 0) := DN_of ⟨rfl, rfl, rfl⟩ (fun _ _ => rfl) h
    have h15 : (sI (sI T 15 0) 16 0).1 15 = 0 := by rw [sI_i, if_neg (by decide), sI_i, if_pos rfl]
    obtain ⟨T', n', a1, a2, a3, a4⟩ := m_take ok hw hp dn e h15 20 0 FU (sI (sI T 15 0) 16 0) w rfl (FU_gt (by omega)) ⟨fun _ _ => rfl, fun _ _ => rfl, by rw [sI_i, if_pos rfl]; rfl, fun j hj => by omega⟩ (lf_0 K (cv w)).symm
    refine ⟨T', a2, fun k h1 h2 => ?_, fun a ha => ?_, fun r hr => ?_, Or.inr ⟨e, ?_, ?_, n', a1, a3.2.2.1, a4, a3.2.2.2⟩⟩
    · rw [a3.1 k h2, sI_i, if_neg h2, sI_i, if_neg h1]
    · rw [a3.2.1 a ha]; rfl
    · exact PTr_of (by rw [a3.2.1 27 (by decide)]; rfl) (by rw [a3.2.1 28 (by decide)]; rfl) (h.2.1 r hr)
    · rw [a3.1 15 (by decide)]; exact h15
    · rw [a3.2.1 25 (by decide)]; exact e25
theorem m_list0 {K : KB} {D : Nat → Nat} {T : ST} (ok : OKK K) (okD : OKD K D) (h : KM K T) (hd : DM K D T) (h14 : T.1 14 = 0) : ∃ T', mX7_list T = some T' ∧ (∀ k, k < 14 → T'.1 k = T.1 k) ∧ T'.1 14 = 1 ∧ (∀ a, a < 25 → T'.2 a = T.2 a) ∧ LM K (rD K D) T' := by
  have hw := rD_lt okD
  have hv : VD K (cv (rD K D)) := by rw [cv_rD okD]; exact cD_VD okD
  have hp : pcs (cv (rD K D)) ≤ 20 := by rw [cv_rD okD]; exact cD_pcs okD
  unfold mX7_list
  rw [if_pos h14]
  have k1 : KM K (sI T 14 1) := KM_of ⟨rfl, rfl, rfl⟩ ⟨rfl, rfl, rfl⟩ h
  rw [m_all ok k1 (show DM K D (sI T 14 1) from hd), Option.bind_some, l0]
  generalize rD K D = w at *
  obtain ⟨T1, a1, a2⟩ := m_rows ok k1 hw hv
  have k2 : KM K T1 := KM_of ⟨by rw [a1.1.1], by rw [a1.1.1], by rw [a1.1.1]⟩ ⟨a1.1.2 21 (by decide), a1.1.2 22 (by decide), a1.1.2 23 (by decide)⟩ k1
  obtain ⟨T2, b1, b2⟩ := m_prices ok k2 a1 hw hp
  have dn : DN K w T2 := by
    refine ⟨KM_of ⟨by rw [b1.1], by rw [b1.1], by rw [b1.1]⟩ ⟨b1.2.1 21 (by decide) (by decide), b1.2.1 22 (by decide) (by decide), b1.2.1 23 (by decide) (by decide)⟩ k2, fun r hr => PTr_of (by rw [b1.2.1 27 (by decide) (by decide)]) (by rw [b1.2.1 28 (by decide) (by decide)]) (a1.2 r hr).2.2, fun r hr hin => (DP_done b1 hr hr).1 hin⟩
  obtain ⟨T3, c1, c2, c3, c4⟩ := m_bars ok hw hp dn
  refine ⟨T3, (a2.trans b2).trans c1, fun k hk => ?_, ?_, fun a ha => ?_, c4⟩
  · rw [c2 k (by omega) (by omega), b1.1, a1.1.1, sI_i, if_neg (by omega)]
  · rw [c2 14 (by omega) (by omega), b1.1, a1.1.1, sI_i, if_pos rfl]
  · rw [c3 a (by omega), b1.2.1 a (by omega) (by omega), a1.1.2 a ha, sI_g]
