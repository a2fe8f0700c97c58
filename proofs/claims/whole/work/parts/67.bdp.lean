/-! MATH, bars: the reference's prices -/
def PTr (K : KB) (w : Nat) (T : ST) (r : Nat) : Prop := (r ≠ 0 ∧ inV (cv r) (cv w) → T.2 27 r = gD (sfB K (cv r)) ∧ T.2 28 r = nI (lenB K (cv r))) ∧ (¬ (r ≠ 0 ∧ inV (cv r) (cv w)) → T.2 27 r = -1)
def FrM (T0 T : ST) : Prop := T.1 = T0.1 ∧ ∀ a, a < 25 → T.2 a = T0.2 a
def RI (K : KB) (w : Nat) (T0 : ST) (i : Nat) (T : ST) : Prop := FrM T0 T ∧ ∀ r, r < i → T.2 25 r = -1 ∧ T.2 26 r = -1 ∧ PTr K w T r
theorem PTr_of {K : KB} {w r : Nat} {T T' : ST} (h1 : T'.2 27 r = T.2 27 r) (h2 : T'.2 28 r = T.2 28 r) (h : PTr K w T r) : PTr K w T' r := by
  unfold PTr
  rw [h1, h2]
  exact h
theorem rows_step {K : KB} {w i : Nat} {T0 T T' : ST} (hT : RI K w T0 i T) (h1 : T'.1 = T.1) (h2 : ∀ a, a < 25 → T'.2 a = T.2 a) (h3 : ∀ a, 25 ≤ a → ∀ r, r ≠ i → T'.2 a r = T.2 a r) (h4 : T'.2 25 i = -1 ∧ T'.2 26 i = -1 ∧ PTr K w T' i) : RI K w T0 (i + 1) T' := by
  refine ⟨⟨h1.trans hT.1.1, fun a ha => (h2 a ha).trans (hT.1.2 a ha)⟩, fun r hr => ?_⟩
  by_cases e : r = i
  · rw [e]; exact h4
  · obtain ⟨a, b, c⟩ := hT.2 r (by omega)
    rw [h3 25 (by omega) r e, h3 26 (by omega) r e]
    exact ⟨a, b, PTr_of (h3 27 (by omega) r e) (h3 28 (by omega) r e) c⟩
theorem sG_ne {T : ST} {k a i r : Nat} {v : Int32} (hi : i < 2147483648) (h : r ≠ i) : (sG T k (nI i) v).2 a r = T.2 a r := by
  by_cases e : a = k
  · subst e; rw [sGs hi, if_neg h]
  · rw [sGo e]
theorem m_rows {K : KB} {T0 : ST} (ok : OKK K) (h : KM K T0) {w : Nat} (hw : w < 1296) (hv : VD K (cv w)) : ∃ T', RI K w T0 (w + 1) T' ∧ LPf (κ := ST → Int32 → Option (ST)) (fun _ _ => none) (fun kk => mX7_list_B20 kk (mX7_list_X20 (nI w)) (nI w)) FU T0 (nI 0) = mX7_list_X20 (nI w) T' (nI (w + 1)) := by
  refine loopG (fun kk => mX7_list_B20 kk (mX7_list_X20 (nI w)) (nI w)) (mX7_list_X20 (nI w)) (RI K w T0) (w + 1) (fun k T hT => ?_) (fun k T i hi hT => ?_) (w + 1) 0 FU T0 (by omega) (FU_gt (by omega)) ⟨⟨rfl, fun _ _ => rfl⟩, fun r hr => by omega⟩
  · show mX7_list_B20 k _ (nI w) T (nI (w + 1)) = _
    unfold mX7_list_B20
    rw [if_pos (by rw [ltI (by omega) (by omega)]; omega)]
  · have i31 : i < 2147483648 := by omega
    have sk : ¬ (i ≠ 0 ∧ inV (cv i) (cv w)) → RI K w T0 (i + 1) (sG (sG (sG T 25 (nI i) (-1)) 26 (nI i) (-1)) 27 (nI i) (-1)) := fun hn => by
      refine rows_step hT rfl (fun a ha => by rw [sGo (by omega), sGo (by omega), sGo (by omega)]) (fun a _ r hr => by rw [sG_ne i31 hr, sG_ne i31 hr, sG_ne i31 hr]) ⟨?_, ?_, fun g => absurd g hn, fun _ => ?_⟩
      · rw [sGo (by decide), sGo (by decide), sGs i31, if_pos rfl]
      · rw [sGo (by decide), sGs i31, if_pos rfl]
      · rw [sGs i31, if_pos rfl]
    show ∃ T', _ ∧ mX7_list_B20 k _ (nI w) T (nI i) = _
    unfold mX7_list_B20
    rw [if_neg (by rw [ltI (by omega) (by omega)]; omega), gdI (by omega) (by omega), gdI (by omega) (by omega), ifLe0 i31, nI_1]
    by_cases c : i ≤ 0
    · rw [if_pos c, gdI (by omega) (by omega)]
      exact ⟨_, sk (fun g => by omega), rfl⟩
    · rw [if_neg c, m_isIn (by omega) hw, Option.bind_some, ifB]
      by_cases g : inV (cv i) (cv w)
      · rw [if_pos (decide_eq_true g), m_findPattern ok (KM_of (S := T0) ⟨by rw [sG_i, sG_i, hT.1.1], by rw [sG_i, sG_i, hT.1.1], by rw [sG_i, sG_i, hT.1.1]⟩ ⟨by rw [sGo (by decide), sGo (by decide), hT.1.2 21 (by decide)], by rw [sGo (by decide), sGo (by decide), hT.1.2 22 (by decide)], by rw [sGo (by decide), sGo (by decide), hT.1.2 23 (by decide)]⟩ h) (by omega) (by omega) (VD_in g hv), Option.bind_some]
        refine ⟨sG (sG (sG (sG T 25 (nI i) (-1)) 26 (nI i) (-1)) 28 (nI i) (nI (lenB K (cv i)))) 27 (nI i) (gD (sfB K (cv i))), rows_step hT rfl (fun a ha => by rw [sGo (by omega), sGo (by omega), sGo (by omega), sGo (by omega)]) (fun a _ r hr => by rw [sG_ne i31 hr, sG_ne i31 hr, sG_ne i31 hr, sG_ne i31 hr]) ⟨?_, ?_, fun _ => ⟨?_, ?_⟩, fun q => absurd ⟨by omega, g⟩ q⟩, rfl⟩
        · rw [sGo (by decide), sGo (by decide), sGo (by decide), sGs i31, if_pos rfl]
        · rw [sGo (by decide), sGo (by decide), sGs i31, if_pos rfl]
        · rw [sGs i31, if_pos rfl]
        · rw [sGo (by decide), sGs i31, if_pos rfl]
      · rw [if_neg (by rw [decide_eq_false g]; decide), gdI (by omega) (by omega)]
        exact ⟨_, sk (fun q => g q.2), rfl⟩
/-- a price and bars, as one number -/
def REP (T : ST) (r m : Nat) : Prop := (m = 1048576 ∧ T.2 25 r = -1) ∨ (m < 1048576 ∧ T.2 25 r = nI (m / 21) ∧ T.2 26 r = nI (m % 21))
def IsM (K : KB) (r cut row m : Nat) : Prop := CB K (cv r) ≤ m ∧ m ≤ 1048576 ∧ ∀ x, x ≠ 0 → inV (cv x) (cv r) → (r - x < cut ∨ (r - x = cut ∧ x < row)) → m ≤ bc K (cv x) + CB K (cv (r - x))
theorem final_M {K : KB} {r cut row m : Nat} (h0 : r ≠ 0) (h : IsM K r cut row m) (a : r ≤ cut) : m = CB K (cv r) := by
  obtain ⟨h1, h2, h3⟩ := h
  rcases CB_ex K (cv_ne h0) with e | ⟨p, p0, pin, e⟩
  · omega
  · obtain ⟨x, hx, hp⟩ := cv_sur pin
    rw [← hp] at p0 pin e
    have x0 : x ≠ 0 := fun z => p0 (by rw [z]; exact cv_0)
    have s := cv_sub pin
    have b := h3 x x0 pin (Or.inl (by omega))
    rw [s.2] at b
    omega
theorem m_reach {T : ST} {r m s : Nat} (hr : r < 1296) (h : REP T r m) (hs : s < 1048576) : ∃ T', mX7_reach T (nI r) (nI (s / 21)) (nI (s % 21)) = some T' ∧ T'.1 = T.1 ∧ (∀ a, a ≠ 25 → a ≠ 26 → T'.2 a = T.2 a) ∧ (∀ j, j ≠ r → T'.2 25 j = T.2 25 j ∧ T'.2 26 j = T.2 26 j) ∧ REP T' r (if s < m then s else m) := by
  have r31 : r < 2147483648 := by omega
  have J : s < m → ∃ T', mX7_reach_J40 T (nI r) (nI (s / 21)) (nI (s % 21)) = some T' ∧ T'.1 = T.1 ∧ (∀ a, a ≠ 25 → a ≠ 26 → T'.2 a = T.2 a) ∧ (∀ j, j ≠ r → T'.2 25 j = T.2 25 j ∧ T'.2 26 j = T.2 26 j) ∧ REP T' r (if s < m then s else m) := fun hm => by
    unfold mX7_reach_J40
    rw [gdI (by omega) (by omega), gdI (by omega) (by omega), if_pos hm]
    refine ⟨_, rfl, rfl, fun a h1 h2 => by rw [sGo h2, sGo h1], fun j hj => ⟨by rw [sG_ne r31 hj, sG_ne r31 hj], by rw [sG_ne r31 hj, sG_ne r31 hj]⟩, Or.inr ⟨hs, ?_, ?_⟩⟩
    · rw [sGo (by decide), sGs r31, if_pos rfl]
    · rw [sGs r31, if_pos rfl]
  unfold mX7_reach
  rw [gdI (by omega) (by omega), clI r31]
  rcases id h with ⟨h1, h2⟩ | ⟨h1, h2, h3⟩
  · rw [h2, if_pos rfl]
    exact J (by omega)
  · rw [h2, h3, if_neg (nI_nm1 (by omega)), gdI (by omega) (by omega), ifLt (by omega) (by omega)]
    by_cases c : s / 21 < m / 21
    · rw [if_pos c]
      exact J (by omega)
    · rw [if_neg c, gdI (by omega) (by omega), ifEq (by omega) (by omega)]
      by_cases c2 : s / 21 = m / 21
      · rw [if_pos c2, gdI (by omega) (by omega), ifLe (by omega) (by omega)]
        by_cases c3 : m % 21 ≤ s % 21
        · rw [if_pos c3, if_neg (by omega)]
          exact ⟨T, rfl, rfl, fun _ _ _ => rfl, fun _ _ => ⟨rfl, rfl⟩, h⟩
        · rw [if_neg c3]
          exact J (by omega)
      · rw [if_neg c2, if_neg (by omega)]
        exact ⟨T, rfl, rfl, fun _ _ _ => rfl, fun _ _ => ⟨rfl, rfl⟩, h⟩
def RW (K : KB) (w cut row : Nat) (T : ST) : Prop := ∀ r, r ≠ 0 → r ≤ w → (¬ inV (cv r) (cv w) → T.2 25 r = -1) ∧ (inV (cv r) (cv w) → ∃ m, REP T r m ∧ IsM K r cut row m)
def DPI (K : KB) (w cut row : Nat) (T1 T : ST) : Prop := T.1 = T1.1 ∧ (∀ a, a ≠ 25 → a ≠ 26 → T.2 a = T1.2 a) ∧ T.2 25 0 = 0 ∧ T.2 26 0 = 0 ∧ RW K w cut row T
theorem DP_wk {K : KB} {w cut row cut' row' : Nat} {T1 T : ST} (h : DPI K w cut row T1 T) (g : ∀ r x, r ≤ w → inV (cv r) (cv w) → x ≠ 0 → inV (cv x) (cv r) → (r - x < cut' ∨ (r - x = cut' ∧ x < row')) → (r - x < cut ∨ (r - x = cut ∧ x < row)) ∨ 1048576 ≤ bc K (cv x) + CB K (cv (r - x))) : DPI K w cut' row' T1 T := by
  obtain ⟨h1, h2, h3, h4, h5⟩ := h
  refine ⟨h1, h2, h3, h4, fun r r0 rw' => ⟨(h5 r r0 rw').1, fun hin => ?_⟩⟩
  obtain ⟨m, m1, m2, m3, m4⟩ := (h5 r r0 rw').2 hin
  refine ⟨m, m1, m2, m3, fun x x0 xin hx => ?_⟩
  rcases g r x rw' hin x0 xin hx with k | k
  · exact m4 x x0 xin k
  · omega
theorem DP_done {K : KB} {w cut row : Nat} {T1 T : ST} (h : DPI K w cut row T1 T) {r : Nat} (hr : r ≤ w) (hc : r ≤ cut) : (inV (cv r) (cv w) → REP T r (CB K (cv r))) ∧ (¬ inV (cv r) (cv w) → T.2 25 r = -1) := by
  obtain ⟨h1, h2, h3, h4, h5⟩ := h
  by_cases r0 : r = 0
  · subst r0
    rw [cv_0, CB_0]
    refine ⟨fun _ => Or.inr ⟨by decide, h3, h4⟩, fun g => absurd ?_ g⟩
    exact ⟨by omega, by omega, by omega, by omega⟩
  · refine ⟨fun hin => ?_, (h5 r r0 hr).1⟩
    obtain ⟨m, m1, m2⟩ := (h5 r r0 hr).2 hin
    rw [← final_M r0 m2 hc]
    exact m1
theorem sub3 {a b c n : Nat} (h1 : a ≤ b) (h2 : b ≤ c) (e : n = c - (b - a)) : a ≤ n := by omega
theorem in_rest {r x w : Nat} (h : inV (cv x) (cv r)) (g : inV (cv r) (cv w)) : inV (cv x) (cv (w - (r - x))) ∧ inV (cv (r - x)) (cv w) := by
  have s := (cv_sub h).2
  have e := inV_sub h
  rw [← s] at e
  have f := inV_tr e g
  refine ⟨?_, f⟩
  have t := (cv_sub f).2
  obtain ⟨a1, a2, a3, a4⟩ := dsub f
  obtain ⟨b1, b2, b3, b4⟩ := dsub h
  rw [← s] at b1 b2 b3 b4
  rw [← t, b1] at a1
  rw [← t, b2] at a2
  rw [← t, b3] at a3
  rw [← t, b4] at a4
  exact ⟨sub3 h.1 g.1 a1, sub3 h.2.1 g.2.1 a2, sub3 h.2.2.1 g.2.2.1 a3, sub3 h.2.2.2 g.2.2.2 a4⟩
