/-! MATH, bars: the two states side by side, and the calls on bars -/
def RelB (S T : ST) : Prop := ∃ K D, OKK K ∧ OKD K D ∧ CL K D S ∧ KM K T ∧ DM K D T ∧ (T.1 14 ≠ 0 → LM K (rD K D) T)
def GB (S S' T T' : ST) : Prop := ((∀ k, k ≤ 11 → S'.1 k = S.1 k) ∧ ∀ a, a ≤ 8 → S'.2 a = S.2 a) ∧ ((∀ k, k ≤ 10 → T'.1 k = T.1 k) ∧ ∀ a, a ≤ 20 → T'.2 a = T.2 a)
def OKb (a b : Option (Int32 × ST)) (S T : ST) : Prop := ∃ r S' T', a = some (r, S') ∧ b = some (r, T') ∧ RelB S' T' ∧ GB S S' T T'
theorem OKb_no {S T : ST} (h : RelB S T) (r : Int32) : OKb (some (r, S)) (some (r, T)) S T := ⟨r, S, T, rfl, rfl, h, ⟨fun _ _ => rfl, fun _ _ => rfl⟩, fun _ _ => rfl, fun _ _ => rfl⟩
theorem OKb_if {c : Prop} {i j : Decidable c} {a b a' b' : Option (Int32 × ST)} {S T : ST} (h1 : c → OKb a b S T) (h2 : ¬ c → OKb a' b' S T) : OKb (@ite _ c i a a') (@ite _ c j b b') S T := by
  by_cases q : c
  · rw [if_pos q, if_pos q]; exact h1 q
  · rw [if_neg q, if_neg q]; exact h2 q
theorem F_stock {S T : ST} (h : RelB S T) (p1 p2 : Int32) : OKb (mX6_stock S p1 p2) (mX7_stock T p1 p2) S T := by
  obtain ⟨K, D, ok, okD, hC, hM, hD, hl⟩ := id h
  have eS : S.1 12 = nI (K.1 0) := hC.1.1
  have eT : T.1 11 = nI (K.1 0) := hM.1
  unfold mX6_stock mX7_stock
  simp only [w6b, w7b]
  refine OKb_if (fun c1 => OKb_if (fun c2 => ?_) (fun _ => OKb_no h _)) (fun _ => OKb_no h _)
  obtain ⟨a, rfl, a1, a2⟩ := rngI (p := p1) (lo := 1) (hi := 99) (by decide) (by decide) c1.1 c1.2
  obtain ⟨b, rfl, b1, b2⟩ := rngI (p := p2) (lo := 1) (hi := 100) (by decide) (by decide) c2.1 c2.2
  unfold mX3_addStock
  obtain ⟨o1, o2, o3, o4, o5⟩ := id ok
  rw [eS, eT, l3, ifLt (by omega) (by omega), ifEq (by omega) (by omega)]
  by_cases c : K.1 0 = 3
  · rw [if_neg (by omega), if_pos c, Option.bind_some]
    show OKb (if (-4 : Int32) = -4 then some (-4, S) else _) (some (-4, T)) S T
    rw [if_pos rfl]
    exact OKb_no h _
  · rw [if_pos (by omega), if_neg c, gdI (by omega) (by omega), gdI (by omega) (by omega), gdI (by omega) (by omega), gdI (by omega) (by omega), nI_1, l1, pk_sub (by omega), Nat.add_sub_cancel, Option.bind_some]
    show OKb (if nI (K.1 0) = -4 then _ else _) _ S T
    rw [if_neg (nI_nm4 (by omega))]
    refine ⟨nI (K.1 0), sI (sI (sI (sG (sG S 9 (nI (K.1 0)) (nI a)) 10 (nI (K.1 0)) (nI b)) 12 (nI (K.1 0 + 1))) 18 1) 19 1, _, rfl, rfl, ?_, ⟨fun k hk => ?_, fun a ha => ?_⟩, fun k hk => ?_, fun a ha => ?_⟩
    · refine ⟨(fun k => if k = 0 then K.1 0 + 1 else K.1 k, fun a' s => if s = K.1 0 ∧ a' = 0 then a else if s = K.1 0 ∧ a' = 1 then b else K.2 a' s), D, ⟨by show K.1 0 + 1 ≤ 3; omega, o2, o3, fun s hs => ?_, fun k hk => ?_⟩, okD, ⟨⟨rfl, hC.1.2.1, hC.1.2.2.1, fun s hs => ?_, fun k hk => ?_⟩, ?_, fun q => absurd (show (1 : Int32) = 0 from q) one0, fun q => absurd (show (1 : Int32) = 0 from q) one0⟩, ⟨rfl, hM.2.1, hM.2.2.1, fun s hs => ?_, fun k hk => ?_⟩, ?_, fun q => absurd rfl q⟩
      · have hs' : s < K.1 0 + 1 := hs
        by_cases e : s = K.1 0
        · refine ⟨?_, ?_, ?_, ?_⟩ <;> simp [e] <;> omega
        · have := o4 s (by omega)
          refine ⟨?_, ?_, ?_, ?_⟩ <;> simp [e] <;> omega
      · have := o5 k hk
        simpa using this
      · have hs' : s < K.1 0 + 1 := hs
        rw [sI_g, sI_g, sI_g, sGo (show (9 : Nat) ≠ 10 by decide), sGs (by omega), sGs (by omega), sGo (show (10 : Nat) ≠ 9 by decide)]
        by_cases e : s = K.1 0
        · simp [e]
        · rw [if_neg e, if_neg e]
          simpa [e] using hC.1.2.2.2.1 s (by omega)
      · rw [sI_g, sI_g, sI_g, sGo (by decide), sGo (by decide)]
        simpa using hC.1.2.2.2.2 k hk
      · intro k hk
        rw [sI_g, sI_g, sI_g, sGo (by decide), sGo (by decide)]
        exact hC.2.1 k hk
      · have hs' : s < K.1 0 + 1 := hs
        rw [sI_g, sI_g, sGo (show (21 : Nat) ≠ 22 by decide), sGs (by omega), sGs (by omega), sGo (show (22 : Nat) ≠ 21 by decide)]
        by_cases e : s = K.1 0
        · simp [e]
        · rw [if_neg e, if_neg e]
          simpa [e] using hM.2.2.2.1 s (by omega)
      · rw [sI_g, sI_g, sGo (by decide), sGo (by decide)]
        simpa using hM.2.2.2.2 k hk
      · intro k hk
        rw [sI_g, sI_g, sGo (by decide), sGo (by decide)]
        exact hD k hk
    · rw [sI_i, if_neg (by omega), sI_i, if_neg (by omega), sI_i, if_neg (by omega)]; rfl
    · rw [sI_g, sI_g, sI_g, sGo (by omega), sGo (by omega)]
    · rw [sI_i, if_neg (by omega), sI_i, if_neg (by omega)]; rfl
    · rw [sI_g, sI_g, sGo (by omega), sGo (by omega)]
theorem F_order {S T : ST} (h : RelB S T) (p1 p2 : Int32) : OKb (mX6_order S p1 p2) (mX7_order T p1 p2) S T := by
  obtain ⟨K, D, ok, okD, hC, hM, hD, hl⟩ := id h
  have eS : S.1 13 = nI (K.1 1) := hC.1.2.1
  have eT : T.1 12 = nI (K.1 1) := hM.2.1
  unfold mX6_order mX7_order
  simp only [w6b, w7b]
  refine OKb_if (fun c1 => OKb_if (fun c2 => ?_) (fun _ => OKb_no h _)) (fun _ => OKb_no h _)
  obtain ⟨a, rfl, a1, a2⟩ := rngI (p := p1) (lo := 1) (hi := 99) (by decide) (by decide) c1.1 c1.2
  obtain ⟨b, rfl, b1, b2⟩ := rngI (p := p2) (lo := 0) (hi := 5) (by decide) (by decide) c2.1 c2.2
  unfold mX3_addOrder
  obtain ⟨o1, o2, o3, o4, o5⟩ := id ok
  rw [eS, eT, l4, ifLt (by omega) (by omega), ifEq (by omega) (by omega)]
  by_cases c : K.1 1 = 4
  · rw [if_neg (by omega), if_pos c, Option.bind_some]
    show OKb (if (-4 : Int32) = -4 then some (-4, S) else _) (some (-4, T)) S T
    rw [if_pos rfl]
    exact OKb_no h _
  · rw [if_pos (by omega), if_neg c, gdI (by omega) (by omega), gdI (by omega) (by omega), gdI (by omega) (by omega), gdI (by omega) (by omega), nI_1, l1, pk_sub (by omega), Nat.add_sub_cancel, Option.bind_some]
    show OKb (if nI (K.1 1) = -4 then _ else _) _ S T
    rw [if_neg (nI_nm4 (by omega))]
    refine ⟨nI (K.1 1), sI (sI (sI (sG (sG S 11 (nI (K.1 1)) (nI a)) 12 (nI (K.1 1)) (nI b)) 13 (nI (K.1 1 + 1))) 18 1) 19 1, _, rfl, rfl, ?_, ⟨fun k hk => ?_, fun a ha => ?_⟩, fun k hk => ?_, fun a ha => ?_⟩
    · refine ⟨(fun k => if k = 1 then K.1 1 + 1 else K.1 k, fun a' s => if s = K.1 1 ∧ a' = 2 then a else K.2 a' s), fun k => if k = K.1 1 then b else D k, ⟨o1, by show K.1 1 + 1 ≤ 4; omega, o3, fun s hs => ?_, fun k hk => ?_⟩, fun k hk => ?_, ⟨⟨hC.1.1, rfl, hC.1.2.2.1, fun s hs => ?_, fun k hk => ?_⟩, ?_, fun q => absurd (show (1 : Int32) = 0 from q) one0, fun q => absurd (show (1 : Int32) = 0 from q) one0⟩, ⟨hM.1, rfl, hM.2.2.1, fun s hs => ?_, fun k hk => ?_⟩, ?_, fun q => absurd rfl q⟩
      · have := o4 s hs
        simpa using this
      · have hk' : k < K.1 1 + 1 := hk
        by_cases e : k = K.1 1
        · refine ⟨?_, ?_⟩ <;> simp [e] <;> omega
        · have := o5 k (by omega)
          refine ⟨?_, ?_⟩ <;> simp [e] <;> omega
      · have hk' : k < K.1 1 + 1 := hk
        show (if k = K.1 1 then b else D k) ≤ 5
        by_cases e : k = K.1 1
        · rw [if_pos e]; exact b2
        · rw [if_neg e]; exact okD k (by omega)
      · rw [sI_g, sI_g, sI_g, sGo (show (9 : Nat) ≠ 12 by decide), sGo (show (9 : Nat) ≠ 11 by decide), sGo (show (10 : Nat) ≠ 12 by decide), sGo (show (10 : Nat) ≠ 11 by decide)]
        simpa using hC.1.2.2.2.1 s hs
      · have hk' : k < K.1 1 + 1 := hk
        rw [sI_g, sI_g, sI_g, sGo (show (11 : Nat) ≠ 12 by decide), sGs (by omega)]
        by_cases e : k = K.1 1
        · simp [e]
        · rw [if_neg e]
          simpa [e] using hC.1.2.2.2.2 k (by omega)
      · intro k hk
        have hk' : k < K.1 1 + 1 := hk
        rw [sI_g, sI_g, sI_g, sGs (by omega)]
        show _ = nI (if k = K.1 1 then b else D k)
        by_cases e : k = K.1 1
        · rw [if_pos e, if_pos e]
        · rw [if_neg e, if_neg e, sGo (by decide)]
          exact hC.2.1 k (by omega)
      · rw [sI_g, sI_g, sGo (show (21 : Nat) ≠ 24 by decide), sGo (show (21 : Nat) ≠ 23 by decide), sGo (show (22 : Nat) ≠ 24 by decide), sGo (show (22 : Nat) ≠ 23 by decide)]
        simpa using hM.2.2.2.1 s hs
      · have hk' : k < K.1 1 + 1 := hk
        rw [sI_g, sI_g, sGo (show (23 : Nat) ≠ 24 by decide), sGs (by omega)]
        by_cases e : k = K.1 1
        · simp [e]
        · rw [if_neg e]
          simpa [e] using hM.2.2.2.2 k (by omega)
      · intro k hk
        have hk' : k < K.1 1 + 1 := hk
        rw [sI_g, sI_g, sGs (by omega)]
        show _ = nI (if k = K.1 1 then b else D k)
        by_cases e : k = K.1 1
        · rw [if_pos e, if_pos e]
        · rw [if_neg e, if_neg e, sGo (by decide)]
          exact hD k (by omega)
    · rw [sI_i, if_neg (by omega), sI_i, if_neg (by omega), sI_i, if_neg (by omega)]; rfl
    · rw [sI_g, sI_g, sI_g, sGo (by omega), sGo (by omega)]
    · rw [sI_i, if_neg (by omega), sI_i, if_neg (by omega)]; rfl
    · rw [sI_g, sI_g, sGo (by omega), sGo (by omega)]
theorem F_demand {S T : ST} (h : RelB S T) (p1 p2 : Int32) : OKb (mX6_demand S p1 p2) (mX7_demand T p1 p2) S T := by
  obtain ⟨K, D, ok, okD, hC, hM, hD, hl⟩ := id h
  have eS : S.1 13 = nI (K.1 1) := hC.1.2.1
  have eT : T.1 12 = nI (K.1 1) := hM.2.1
  have o2 := ok.2.1
  unfold mX6_demand mX7_demand
  simp only [w6b, w7b]
  rw [eS, eT]
  refine OKb_if (fun c1 => OKb_if (fun c2 => ?_) (fun _ => OKb_no h _)) (fun _ => OKb_no h _)
  obtain ⟨i, rfl, hi⟩ := (idxI (by omega)).mp c1
  obtain ⟨b, rfl, b1, b2⟩ := rngI (p := p2) (lo := 0) (hi := 5) (by decide) (by decide) c2.1 c2.2
  rw [gdI (by omega) (by omega), gdI (by omega) (by omega), gdI (by omega) (by omega), gdI (by omega) (by omega), clI (by omega), hC.2.1 i hi, hD i hi]
  refine ⟨nI (D i), sI (sG S 12 (nI i) (nI b)) 19 1, _, rfl, rfl, ?_, ⟨fun k hk => ?_, fun a ha => ?_⟩, fun k hk => ?_, fun a ha => ?_⟩
  · refine ⟨K, fun k => if k = i then b else D k, ok, fun k hk => ?_, ⟨KC_of ⟨rfl, rfl, rfl⟩ ⟨by rw [sI_g, sGo (by decide)], by rw [sI_g, sGo (by decide)], by rw [sI_g, sGo (by decide)]⟩ hC.1, fun k hk => ?_, fun q => COST_of (by rw [sI_g, sGo (by decide)]) (by rw [sI_g, sGo (by decide)]) (by rw [sI_g, sGo (by decide)]) (hC.2.2.1 q), fun q => absurd (show (1 : Int32) = 0 from q) one0⟩, KM_of ⟨rfl, rfl, rfl⟩ ⟨by rw [sI_g, sGo (by decide)], by rw [sI_g, sGo (by decide)], by rw [sI_g, sGo (by decide)]⟩ hM, fun k hk => ?_, fun q => absurd rfl q⟩
    · show (if k = i then b else D k) ≤ 5
      by_cases e : k = i
      · rw [if_pos e]; exact b2
      · rw [if_neg e]; exact okD k hk
    · rw [sI_g, sGs (by omega)]
      show _ = nI (if k = i then b else D k)
      by_cases e : k = i
      · rw [if_pos e, if_pos e]
      · rw [if_neg e, if_neg e]; exact hC.2.1 k hk
    · rw [sI_g, sGs (by omega)]
      show _ = nI (if k = i then b else D k)
      by_cases e : k = i
      · rw [if_pos e, if_pos e]
      · rw [if_neg e, if_neg e]; exact hD k hk
  · rw [sI_i, if_neg (by omega)]; rfl
  · rw [sI_g, sGo (by omega)]
  · rw [sI_i, if_neg (by omega)]; rfl
  · rw [sI_g, sGo (by omega)]
theorem F_blade {S T : ST} (h : RelB S T) (p1 : Int32) : OKb (mX6_blade S p1) (mX7_blade T p1) S T := by
  obtain ⟨K, D, ok, okD, hC, hM, hD, hl⟩ := id h
  unfold mX6_blade mX7_blade
  simp only [w6b, w7b]
  refine OKb_if (fun c1 => ?_) (fun _ => OKb_no h _)
  obtain ⟨a, rfl, a1, a2⟩ := rngI (p := p1) (lo := 0) (hi := 3) (by decide) (by decide) c1.1 c1.2
  obtain ⟨o1, o2, o3, o4, o5⟩ := id ok
  rw [hC.1.2.2.1, hM.2.2.1]
  refine ⟨nI (K.1 2), sI (sI (sI S 14 (nI a)) 18 1) 19 1, _, rfl, rfl, ?_, ⟨fun k hk => ?_, fun a ha => rfl⟩, fun k hk => ?_, fun a ha => rfl⟩
  · exact ⟨(fun k => if k = 2 then a else K.1 k, K.2), D, ⟨o1, o2, a2, o4, o5⟩, okD, ⟨⟨hC.1.1, hC.1.2.1, rfl, hC.1.2.2.2⟩, hC.2.1, fun q => absurd (show (1 : Int32) = 0 from q) one0, fun q => absurd (show (1 : Int32) = 0 from q) one0⟩, ⟨hM.1, hM.2.1, rfl, hM.2.2.2⟩, hD, fun q => absurd rfl q⟩
  · rw [sI_i, if_neg (by omega), sI_i, if_neg (by omega), sI_i, if_neg (by omega)]
  · rw [sI_i, if_neg (by omega), sI_i, if_neg (by omega)]
theorem F_noBars {S T : ST} (h : RelB S T) : OKb (mX6_noBars S) (mX7_noBars T) S T := by
  obtain ⟨K, D, ok, okD, hC, hM, hD, hl⟩ := id h
  unfold mX6_noBars mX7_noBars
  obtain ⟨o1, o2, o3, o4, o5⟩ := id ok
  rw [hC.1.1, hC.1.2.1, hM.1, hM.2.1]
  refine ⟨nI (K.1 0) + nI (K.1 1), sI (sI (sI (sI S 12 0) 13 0) 18 1) 19 1, _, rfl, rfl, ?_, ⟨fun k hk => ?_, fun a ha => rfl⟩, fun k hk => ?_, fun a ha => rfl⟩
  · exact ⟨(fun k => if k = 2 then K.1 2 else 0, K.2), D, ⟨Nat.zero_le _, Nat.zero_le _, o3, fun s hs => absurd hs (Nat.not_lt_zero s), fun s hs => absurd hs (Nat.not_lt_zero s)⟩, fun s hs => absurd hs (Nat.not_lt_zero s), ⟨⟨rfl, rfl, hC.1.2.2.1, fun s hs => absurd hs (Nat.not_lt_zero s), fun s hs => absurd hs (Nat.not_lt_zero s)⟩, fun s hs => absurd hs (Nat.not_lt_zero s), fun q => absurd (show (1 : Int32) = 0 from q) one0, fun q => absurd (show (1 : Int32) = 0 from q) one0⟩, ⟨rfl, rfl, hM.2.2.1, fun s hs => absurd hs (Nat.not_lt_zero s), fun s hs => absurd hs (Nat.not_lt_zero s)⟩, fun s hs => absurd hs (Nat.not_lt_zero s), fun q => absurd rfl q⟩
  · rw [sI_i, if_neg (by omega), sI_i, if_neg (by omega), sI_i, if_neg (by omega), sI_i, if_neg (by omega)]
  · rw [sI_i, if_neg (by omega), sI_i, if_neg (by omega), sI_i, if_neg (by omega)]
theorem m_list {K : KB} {D : Nat → Nat} {T : ST} (ok : OKK K) (okD : OKD K D) (h : KM K T) (hd : DM K D T) (hl : T.1 14 ≠ 0 → LM K (rD K D) T) : ∃ T', mX7_list T = some T' ∧ (∀ k, k < 14 → T'.1 k = T.1 k) ∧ (∀ a, a < 25 → T'.2 a = T.2 a) ∧ LM K (rD K D) T' := by
  by_cases c : T.1 14 = 0
  · obtain ⟨T', a, b, -, d, e⟩ := m_list0 ok okD h hd c
    exact ⟨T', a, b, d, e⟩
  · unfold mX7_list
    rw [if_neg c]
    exact ⟨T, rfl, fun _ _ => rfl, fun _ _ => rfl, hl c⟩
theorem readyB {S T : ST} (h : RelB S T) : ∃ K D S' T', OKK K ∧ OKD K D ∧ mX0_makeReady S = some S' ∧ mX7_list T = some T' ∧ RelB S' T' ∧ GB S S' T T' ∧ KC K S' ∧ KM K T' ∧ DM K D T' ∧ LIST K (cD K D) (S'.1 17) (S'.1 16) (S'.1 15) (S'.2 16) ∧ LM K (rD K D) T' := by
  obtain ⟨K, D, ok, okD, hC, hM, hD, hl⟩ := h
  obtain ⟨S', a1, ⟨a2, a3⟩, a4, a5⟩ := c_ready ok okD hC
  obtain ⟨T', b1, b2, b3, b4⟩ := m_list ok okD hM hD hl
  have hM' : KM K T' := KM_of ⟨b2 11 (by decide), b2 12 (by decide), b2 13 (by decide)⟩ ⟨b3 21 (by decide), b3 22 (by decide), b3 23 (by decide)⟩ hM
  have hD' : DM K D T' := by
    unfold DM
    rw [b3 24 (by decide)]
    exact hD
  exact ⟨K, D, S', T', ok, okD, a1, b1, ⟨K, D, ok, okD, a2, hM', hD', fun _ => b4⟩, ⟨⟨fun k hk => a4 k (by omega), fun a ha => a5 a (by omega)⟩, fun k hk => b2 k (by omega), fun a ha => b3 a (by omega)⟩, a2.1, hM', hD', a3, b4⟩
theorem lf_uni {K : KB} {q n m : Nat} (h1 : lf K q n = 0) (h2 : ∀ i, i < n → lf K q i ≠ 0) (h3 : lf K q m = 0) (h4 : ∀ i, i < m → lf K q i ≠ 0) : n = m := by
  rcases Nat.lt_trichotomy n m with g | g | g
  · exact absurd h1 (h4 n g)
  · exact g
  · exact absurd h3 (h2 m g)
theorem F_price {S T : ST} (h : RelB S T) : OKb (mX6_price S) (mX7_price T) S T := by
  obtain ⟨K, D, S', T', ok, okD, a1, b1, r, f, kC, kT, dM, L, M⟩ := readyB h
  have hw := rD_lt okD
  have ec := cv_rD okD
  unfold mX6_price mX7_price
  rw [a1, b1, Option.bind_some, Option.bind_some]
  rcases L with ⟨y1, y2, y3⟩ | ⟨y1, y2, y3, -⟩
  · rcases M.2 with ⟨m1, m2, m3⟩ | ⟨m1, -⟩
    · rw [y2, m2, if_neg one0, if_neg one0]
      exact ⟨_, S', T', rfl, rfl, r, f⟩
    · rw [ec] at m1
      exact absurd m1 (Nat.not_lt.mpr y1)
  · rcases M.2 with ⟨m1, -⟩ | ⟨m1, m2, m3, -⟩
    · rw [ec] at m1
      exact absurd y1 (Nat.not_lt.mpr m1)
    · rw [y2, m2, if_pos rfl, if_pos rfl, m_all ok kT dM, Option.bind_some, gdI hw (by decide), clI (Nat.lt_trans hw (by decide)), m3, y3, ec]
      exact ⟨_, S', T', rfl, rfl, r, f⟩
theorem F_bars {S T : ST} (h : RelB S T) : OKb (mX6_bars S) (mX7_bars T) S T := by
  obtain ⟨K, D, S', T', ok, okD, a1, b1, r, f, kC, kT, dM, L, M⟩ := readyB h
  have ec := cv_rD okD
  unfold mX6_bars mX7_bars
  rw [a1, b1, Option.bind_some, Option.bind_some]
  rcases L with ⟨y1, y2, y3⟩ | ⟨y1, y2, y3, n, n20, y4, y5, y6⟩
  · rcases M.2 with ⟨m1, m2, m3⟩ | ⟨m1, -⟩
    · rw [y2, m2, if_neg one0, if_neg one0]
      exact ⟨_, S', T', rfl, rfl, r, f⟩
    · rw [ec] at m1
      exact absurd m1 (Nat.not_lt.mpr y1)
  · rcases M.2 with ⟨m1, -⟩ | ⟨m1, m2, m3, n', n20', m4, m5, m6⟩
    · rw [ec] at m1
      exact absurd y1 (Nat.not_lt.mpr m1)
    · rw [ec] at m5 m6
      have e : n = n' := lf_uni y5 (fun i hi => (y6 i hi).1) m5 (fun i hi => (m6 i hi).1)
      rw [y2, m2, if_pos rfl, if_pos rfl, y4, m4, e]
      exact ⟨_, S', T', rfl, rfl, r, f⟩
theorem F_bar {S T : ST} (h : RelB S T) (p1 p2 : Int32) : OKb (mX6_bar S p1 p2) (mX7_bar T p1 p2) S T := by
  unfold mX6_bar mX7_bar
  simp only [w6b, w7b]
  refine OKb_if (fun c2 => ?_) (fun _ => OKb_no h _)
  obtain ⟨v, rfl, -, v5⟩ := rngI (p := p2) (lo := 0) (hi := 5) (by decide) (by decide) c2.1 c2.2
  obtain ⟨K, D, S', T', ok, okD, a1, b1, r, f, kC, kT, dM, L, M⟩ := readyB h
  have ec := cv_rD okD
  have hw := rD_lt okD
  have o3 := ok.1
  rw [a1, b1, Option.bind_some, Option.bind_some]
  have no : ∀ x : Int32, OKb (some (x, S')) (some (x, T')) S T := fun x => ⟨x, S', T', rfl, rfl, r, f⟩
  rcases L with ⟨y1, y2, y3⟩ | ⟨y1, y2, y3, n, n20, y4, y5, y6⟩
  · rcases M.2 with ⟨m1, m2, m3⟩ | ⟨m1, -⟩
    · have z : ¬ (0 ≤ p1 ∧ p1 ≤ (0 : Int32) - 1) := fun q => by
        obtain ⟨i, -, hi⟩ := (idxI (n := 0) (by decide)).mp q
        exact absurd hi (Nat.not_lt_zero i)
      rw [y3, m3, if_neg z, if_neg z]
      exact no _
    · rw [ec] at m1
      exact absurd m1 (Nat.not_lt.mpr y1)
  · rcases M.2 with ⟨m1, -⟩ | ⟨m1, m2, m3, n', n20', m4, m5, m6⟩
    · rw [ec] at m1
      exact absurd y1 (Nat.not_lt.mpr m1)
    · rw [ec] at m5 m6
      have e : n = n' := lf_uni y5 (fun i hi => (y6 i hi).1) m5 (fun i hi => (m6 i hi).1)
      subst e
      rw [y4, m4]
      by_cases c1 : 0 ≤ p1 ∧ p1 ≤ nI n - 1
      · rw [if_pos c1, if_pos c1]
        obtain ⟨i, rfl, hi⟩ := (idxI (by omega)).mp c1
        obtain ⟨-, ρ, q1, q2, q3, q4, q5, q6⟩ := m6 i hi
        have e16 := (y6 i hi).2
        rw [← q6] at e16
        rw [← ec] at q3
        have hr : ρ < 1296 := Nat.lt_of_le_of_lt q1 hw
        have i20 : i < 20 := Nat.lt_of_lt_of_le hi n20
        have vd : VD K (cv ρ) := VD_in q3 (by rw [ec]; exact cD_VD okD)
        obtain ⟨P1, P2⟩ := (M.1 ρ (Nat.lt_succ_of_le q1)).1 ⟨q2, q3⟩
        clear m6 y6 m5 y5 m3 y3 m4 y4
        rw [gdI i20 (by decide), gdI i20 (by decide), clI (by omega), e16, q5, c_fact ok kC (cv_ne q2) vd q4 v5, Option.bind_some, ifEq0 (by omega), clI (by omega), P1, P2, l1, ifEq (by omega) (by omega)]
        unfold factB
        by_cases d0 : v = 0
        · rw [if_pos d0, if_pos d0, gdI hr (by decide)]
          exact no _
        · rw [if_neg d0, if_neg d0]
          by_cases d1 : v = 1
          · rw [if_pos d1, if_pos d1]
            obtain ⟨b0, b2, -⟩ := (bc_or ok (cv ρ)).resolve_left (fun q => by omega)
            clear q3
            obtain ⟨s, hs⟩ : ∃ s, sfB K (cv ρ) = s + 1 := ⟨sfB K (cv ρ) - 1, by omega⟩
            rw [hs, gD_s, Nat.add_sub_cancel, gdI hr (by decide), gdI (by omega) (by decide), gdI hr (by decide), clI (by omega), (kT.2.2.2.1 s (by omega)).1]
            exact no _
          · rw [if_neg d1, if_neg d1, l2, pk_sub (by omega), m_digit hr (by omega), Option.bind_some]
            exact no _
      · rw [if_neg c1, if_neg c1]
        exact no _
