/-! MATH, bars: the class is ready; what it tells of a bar -/
def CL (K : KB) (D : Nat → Nat) (S : ST) : Prop := KC K S ∧ DC K D S ∧ (S.1 18 = 0 → COST K S) ∧ (S.1 19 = 0 → LIST K (cD K D) (S.1 17) (S.1 16) (S.1 15) (S.2 16))
theorem c_fill (S : ST) : ∃ S', mJ7_fill_53178 S 0 = some S' ∧ S'.1 = S.1 ∧ (∀ a, a ≠ 14 → S'.2 a = S.2 a) ∧ ∀ p, p < 4096 → S'.2 14 p = 0 := by
  obtain ⟨S', b1, b2⟩ := loopU (fun kk => mJ7_fill_53178_B5 kk (mJ7_fill_53178_X5 0 4096) 0 4096) (mJ7_fill_53178_X5 0 4096) (fun n T => T.1 = S.1 ∧ (∀ a, a ≠ 14 → T.2 a = S.2 a) ∧ ∀ p, p < n → T.2 14 p = 0) 4096 (fun k T hT => by
      show mJ7_fill_53178_B5 k _ 0 4096 T _ = _
      unfold mJ7_fill_53178_B5
      rw [if_pos (show (4096 : Int32) ≤ nI 4096 by decide)]) (fun k T i hi hT => by
      refine ⟨sG T 14 (nI i) 0, ⟨hT.1, fun a ha => by rw [sGo ha]; exact hT.2.1 a ha, fun p hp => ?_⟩, ?_⟩
      · rw [sGs (by omega)]
        by_cases e : p = i
        · rw [if_pos e]
        · rw [if_neg e]; exact hT.2.2 p (by omega)
      · show mJ7_fill_53178_B5 k _ 0 4096 T _ = _
        unfold mJ7_fill_53178_B5
        rw [show (4096 : Int32) = nI 4096 from rfl, if_neg (by rw [leI (by omega) (by omega)]; omega), gdI (by omega) (by omega), nI_1]) 4096 0 FU S (by omega) (FU_gt (by omega)) ⟨rfl, fun _ _ => rfl, fun p hp => by omega⟩
  exact ⟨S', b2, b1⟩
theorem COST_of {K : KB} {S S' : ST} (h13 : S'.2 13 = S.2 13) (h14 : S'.2 14 = S.2 14) (h15 : S'.2 15 = S.2 15) (h : COST K S) : COST K S' := by
  unfold COST
  rw [h13, h14, h15]
  exact h
theorem c_ready28 {K : KB} {D : Nat → Nat} {S : ST} (ok : OKK K) (okD : OKD K D) (h : KC K S) (hd : DC K D S) (hc : COST K S) : ∃ S', mX0_makeReady_J28 S = some S' ∧ (CL K D S' ∧ LIST K (cD K D) (S'.1 17) (S'.1 16) (S'.1 15) (S'.2 16)) ∧ S'.1 18 = S.1 18 ∧ (∀ k, k < 15 → S'.1 k = S.1 k) ∧ (∀ a, a < 13 → S'.2 a = S.2 a) := by
  obtain ⟨S1, a1, a2, a3, a4⟩ := c_findLeastCosts ok okD h hd hc
  obtain ⟨k1, k2⟩ := FrC_K a2 h hd
  obtain ⟨S2, b1, b2, b3, b4⟩ := c_takeBars ok (cD_VD okD) (cD_pcs okD) a3 (fun p p0 p1 => a4 p p0 (by have := inV_le p1; omega) p1)
  have w0 := wD_le okD 0
  have w1 := wD_le okD 1
  have w2 := wD_le okD 2
  have w3 := wD_le okD 3
  unfold mX0_makeReady_J28
  rw [a1, Option.bind_some, l0, c_wanted ok k1 k2 (by omega), Option.bind_some, l1, c_wanted ok k1 k2 (by omega), Option.bind_some, l2, c_wanted ok k1 k2 (by omega), Option.bind_some, l3, c_wanted ok k1 k2 (by omega), Option.bind_some, c_code (by omega) (by omega) (by omega) (by omega), Option.bind_some]
  rw [show mX0_takeBars S1 (nI (((wD K D 0 * 8 + wD K D 1) * 8 + wD K D 2) * 8 + wD K D 3)) = some S2 from b1, Option.bind_some]
  have L : LIST K (cD K D) ((sI S2 19 (nI 0)).1 17) ((sI S2 19 (nI 0)).1 16) ((sI S2 19 (nI 0)).1 15) ((sI S2 19 (nI 0)).2 16) := by
    rw [sI_g, sI_i, if_neg (by decide), sI_i, if_neg (by decide), sI_i, if_neg (by decide)]
    exact b4
  refine ⟨_, rfl, ⟨⟨?_, ?_, fun _ => ?_, fun _ => L⟩, L⟩, ?_, fun k hk => ?_, fun a ha => ?_⟩
  · refine KC_of ⟨?_, ?_, ?_⟩ ⟨?_, ?_, ?_⟩ k1
    · rw [sI_i, if_neg (by decide), b2 12 (by decide) (by decide) (by decide)]
    · rw [sI_i, if_neg (by decide), b2 13 (by decide) (by decide) (by decide)]
    · rw [sI_i, if_neg (by decide), b2 14 (by decide) (by decide) (by decide)]
    · rw [sI_g, b3 9 (by decide)]
    · rw [sI_g, b3 10 (by decide)]
    · rw [sI_g, b3 11 (by decide)]
  · unfold DC
    rw [sI_g, b3 12 (by decide)]
    exact k2
  · exact COST_of (by rw [sI_g, b3 13 (by decide)]) (by rw [sI_g, b3 14 (by decide)]) (by rw [sI_g, b3 15 (by decide)]) a3
  · rw [sI_i, if_neg (by decide), b2 18 (by decide) (by decide) (by decide), a2.1]
  · rw [sI_i, if_neg (by omega), b2 k (by omega) (by omega) (by omega), a2.1]
  · rw [sI_g, b3 a (by omega), a2.2 a (by omega) (by omega) (by omega)]
theorem c_ready {K : KB} {D : Nat → Nat} {S : ST} (ok : OKK K) (okD : OKD K D) (h : CL K D S) : ∃ S', mX0_makeReady S = some S' ∧ (CL K D S' ∧ LIST K (cD K D) (S'.1 17) (S'.1 16) (S'.1 15) (S'.2 16)) ∧ (∀ k, k < 15 → S'.1 k = S.1 k) ∧ (∀ a, a < 13 → S'.2 a = S.2 a) := by
  unfold mX0_makeReady
  by_cases c : S.1 19 = 0
  · rw [if_pos c]
    exact ⟨S, rfl, ⟨h, h.2.2.2 c⟩, fun _ _ => rfl, fun _ _ => rfl⟩
  · rw [if_neg c]
    by_cases c2 : S.1 18 = 0
    · rw [if_pos c2]
      obtain ⟨S', a, b, -, d, e⟩ := c_ready28 ok okD h.1 h.2.1 (h.2.2.1 c2)
      exact ⟨S', a, b, d, e⟩
    · rw [if_neg c2]
      obtain ⟨S1, a1, a2, a3, a4⟩ := c_fill S
      rw [a1, Option.bind_some]
      have k1 : KC K (sI S1 18 0) := by
        refine KC_of ⟨?_, ?_, ?_⟩ ⟨?_, ?_, ?_⟩ h.1
        · rw [sI_i, if_neg (by decide), a2]
        · rw [sI_i, if_neg (by decide), a2]
        · rw [sI_i, if_neg (by decide), a2]
        · rw [sI_g, a3 9 (by decide)]
        · rw [sI_g, a3 10 (by decide)]
        · rw [sI_g, a3 11 (by decide)]
      have k2 : DC K D (sI S1 18 0) := by
        unfold DC
        rw [sI_g, a3 12 (by decide)]
        exact h.2.1
      have k3 : COST K (sI S1 18 0) := by
        unfold COST
        rw [sI_g]
        exact ⟨a4 0 (by omega), fun p p0 p1 p2 => absurd (a4 p p1.1) p2⟩
      obtain ⟨S', a, b, -, d, e⟩ := c_ready28 ok okD k1 k2 k3
      refine ⟨S', a, b, fun k hk => ?_, fun x hx => ?_⟩
      · rw [d k hk, sI_i, if_neg (by omega), a2]
      · rw [e x hx, sI_g, a3 x (by omega)]
def factB (K : KB) (p w : Nat) : Int32 := if w = 0 then gD (sfB K p) else if w = 1 then nI (K.2 0 (sfB K p - 1)) - nI (lenB K p) else nI (d8 p (w - 2))
theorem c_fact {K : KB} {S : ST} (ok : OKK K) (h : KC K S) {p w : Nat} (h0 : p ≠ 0) (hv : VD K p) (hb : bc K p < 1048576) (hw : w ≤ 5) : mX0_fact S (nI p) (nI w) = some (factB K p w) := by
  have lt := len_lt ok hv.1
  have o3 := ok.1
  unfold mX0_fact factB
  rw [l2, ifLt (by omega) (by omega)]
  by_cases c : w < 2
  · rw [if_pos c, c_len ok h h0 hv, Option.bind_some, c_stockFor ok h (by omega), Option.bind_some]
    show (if gD (sfB K p) = -1 then _ else _) = _
    rcases bc_or ok p with ⟨-, b⟩ | ⟨a, b, -, -, -⟩
    · omega
    · obtain ⟨m, hm⟩ : ∃ m, sfB K p = m + 1 := ⟨sfB K p - 1, by omega⟩
      have hm' : sfN K (lenB K p) (K.1 0) = m + 1 := hm
      rw [if_neg (gD_ne (by omega) (by omega)), ifEq0 (by omega)]
      by_cases d : w = 0
      · rw [if_pos d, if_pos d]; rfl
      · rw [if_neg d, if_neg d, if_pos (by omega), hm', hm, gD_s, gdI (by omega) (by omega), clI (by omega), (h.2.2.2.1 m (by omega)).1]
        rfl
  · rw [if_neg c, if_neg (by omega), if_neg (by omega), pk_sub (by omega), c_numberOf hv.1 (by omega)]
    rfl
