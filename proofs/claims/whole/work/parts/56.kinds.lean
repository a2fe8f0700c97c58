/-! MATH, plates: the calls on KINDS -/
theorem nI_nm4 {k : Nat} (h : k < 2147483648) : ¬ (nI k = -4) := by
  intro e
  have a := congrArg Int32.toInt e
  rw [nI_toInt h] at a
  have b : (-4 : Int32).toInt = -4 := by decide
  omega
theorem narB {t : Nat} (h : t ≤ 1) : vp_nar .boolean (nI t) = nI t := by
  rcases (show t = 0 ∨ t = 1 by omega) with rfl | rfl <;> decide
theorem F_kind {S T : ST} (h : RelP S T) (p1 p2 p3 : Int32) {t : Nat} (ht : t ≤ 1) : OKc (mX6_kind S p1 p2 p3 (nI t)) (mX7_kind T p1 p2 p3 (nI t)) S T := by
  unfold mX6_kind mX7_kind
  simp only [w6b, w7b]
  refine OKc_if (fun c1 => OKc_if (fun c2 => OKc_if (fun c3 => ?_) (fun _ => OKc_no h _)) (fun _ => OKc_no h _)) (fun _ => OKc_no h _)
  obtain ⟨w, rfl, a1, a2⟩ := rngI (p := p1) (lo := 1) (hi := 16) (by decide) (by decide) c1.1 c1.2
  obtain ⟨v, rfl, b1, b2⟩ := rngI (p := p2) (lo := 1) (hi := 16) (by decide) (by decide) c2.1 c2.2
  obtain ⟨val, rfl, d1, d2⟩ := rngI (p := p3) (lo := 1) (hi := 1000) (by decide) (by decide) c3.1 c3.2
  obtain ⟨P, ok, hC, hM, hs, -, -, -⟩ := id h
  have k8 := ok.2.2.2.2.2.2.1
  have eS : S.1 6 = nI (P.1 6) := hC.1.2.2.2.2.2.2
  have eT : T.1 6 = nI (P.1 6) := hM.1.2.2.2.2.2.2
  unfold mX1_add
  rw [eS, eT, l8, ifLt (by omega) (by omega), ifEq (by omega) (by omega)]
  by_cases c : P.1 6 = 8
  · rw [if_neg (by omega), if_pos c, Option.bind_some]
    show OKc (if (-4 : Int32) = -4 then some (-4, S) else _) (some (-4, T)) S T
    rw [if_pos rfl]
    exact OKc_no h _
  · rw [if_pos (by omega), if_neg c, gdI (by omega) (by omega), gdI (by omega) (by omega), gdI (by omega) (by omega), gdI (by omega) (by omega), gdI (by omega) (by omega), gdI (by omega) (by omega), gdI (by omega) (by omega), gdI (by omega) (by omega), Option.bind_some, narB ht, nI_1, l1, pk_sub (by omega), show P.1 6 + 1 - 1 = P.1 6 by omega]
    show OKc (if nI (P.1 6) = -4 then _ else _) _ S T
    rw [if_neg (nI_nm4 (by omega))]
    refine ⟨nI (P.1 6), sI (sI (sI (sG (sG (sG (sG S 1 (nI (P.1 6)) (nI w)) 2 (nI (P.1 6)) (nI v)) 3 (nI (P.1 6)) (nI val)) 4 (nI (P.1 6)) (nI t)) 6 (nI (P.1 6 + 1))) 11 1) 7 1, _, rfl, rfl, ?_, ⟨fun k hk => ?_, fun a ha => ?_⟩, fun k hk => ?_, fun a ha => ?_⟩
    · refine ⟨(fun k => if k = 6 then P.1 6 + 1 else P.1 k, fun a k => if k = P.1 6 ∧ 4 ≤ a then (if a = 4 then w else if a = 5 then v else if a = 6 then val else t) else P.2 a k), ?_, ?_, ?_, ?_, fun q => absurd (show (1 : Int32) = 0 from q) one0, fun q => absurd (show (1 : Int32) = 0 from q) one0, fun q => absurd rfl q⟩
      · obtain ⟨o1, o2, o3, o4, o5, o6, o7, o8, o9⟩ := ok
        refine ⟨o1, o2, o3, o4, o5, o6, by show P.1 6 + 1 ≤ 8; omega, fun k hk => ?_, fun k hk => ?_⟩
        · simpa using o8 k hk
        · have hk' : k < P.1 6 + 1 := hk
          by_cases e : k = P.1 6
          · subst e
            refine ⟨⟨?_, ?_⟩, ⟨?_, ?_⟩, ?_⟩ <;> simp <;> omega
          · have := o9 k (by omega)
            refine ⟨⟨?_, ?_⟩, ⟨?_, ?_⟩, ?_⟩ <;> simp [e] <;> omega
      · refine ⟨⟨hC.1.1, hC.1.2.1, hC.1.2.2.1, hC.1.2.2.2.1, hC.1.2.2.2.2.1, hC.1.2.2.2.2.2.1, rfl⟩, fun k hk => ?_, fun k hk => ?_⟩
        · rw [sI_g, sI_g, sI_g, sGo (show (0 : Nat) ≠ 4 by decide), sGo (show (0 : Nat) ≠ 3 by decide), sGo (show (0 : Nat) ≠ 2 by decide), sGo (show (0 : Nat) ≠ 1 by decide)]
          simpa using hC.2.1 k hk
        · have hk' : k < P.1 6 + 1 := hk
          rw [sI_g, sI_g, sI_g, sGo (show (1 : Nat) ≠ 4 by decide), sGo (show (1 : Nat) ≠ 3 by decide), sGo (show (1 : Nat) ≠ 2 by decide), sGs (by omega), sGo (show (2 : Nat) ≠ 4 by decide), sGo (show (2 : Nat) ≠ 3 by decide), sGs (by omega), sGo (show (2 : Nat) ≠ 1 by decide), sGo (show (3 : Nat) ≠ 4 by decide), sGs (by omega), sGo (show (3 : Nat) ≠ 2 by decide), sGo (show (3 : Nat) ≠ 1 by decide), sGs (by omega), sGo (show (4 : Nat) ≠ 3 by decide), sGo (show (4 : Nat) ≠ 2 by decide), sGo (show (4 : Nat) ≠ 1 by decide)]
          by_cases e : k = P.1 6
          · subst e; simp
          · rw [if_neg e, if_neg e, if_neg e, if_neg e]
            simpa [e] using hC.2.2 k (by omega)
      · refine ⟨⟨hM.1.1, hM.1.2.1, hM.1.2.2.1, hM.1.2.2.2.1, hM.1.2.2.2.2.1, hM.1.2.2.2.2.2.1, rfl⟩, fun k hk => ?_, fun k hk => ?_⟩
        · rw [sI_g, sI_g, sGo (show (0 : Nat) ≠ 7 by decide), sGo (show (0 : Nat) ≠ 6 by decide), sGo (show (0 : Nat) ≠ 5 by decide), sGo (show (0 : Nat) ≠ 4 by decide), sGo (show (1 : Nat) ≠ 7 by decide), sGo (show (1 : Nat) ≠ 6 by decide), sGo (show (1 : Nat) ≠ 5 by decide), sGo (show (1 : Nat) ≠ 4 by decide), sGo (show (2 : Nat) ≠ 7 by decide), sGo (show (2 : Nat) ≠ 6 by decide), sGo (show (2 : Nat) ≠ 5 by decide), sGo (show (2 : Nat) ≠ 4 by decide), sGo (show (3 : Nat) ≠ 7 by decide), sGo (show (3 : Nat) ≠ 6 by decide), sGo (show (3 : Nat) ≠ 5 by decide), sGo (show (3 : Nat) ≠ 4 by decide)]
          simpa using hM.2.1 k hk
        · have hk' : k < P.1 6 + 1 := hk
          rw [sI_g, sI_g, sGo (show (4 : Nat) ≠ 7 by decide), sGo (show (4 : Nat) ≠ 6 by decide), sGo (show (4 : Nat) ≠ 5 by decide), sGs (by omega), sGo (show (5 : Nat) ≠ 7 by decide), sGo (show (5 : Nat) ≠ 6 by decide), sGs (by omega), sGo (show (5 : Nat) ≠ 4 by decide), sGo (show (6 : Nat) ≠ 7 by decide), sGs (by omega), sGo (show (6 : Nat) ≠ 5 by decide), sGo (show (6 : Nat) ≠ 4 by decide), sGs (by omega), sGo (show (7 : Nat) ≠ 6 by decide), sGo (show (7 : Nat) ≠ 5 by decide), sGo (show (7 : Nat) ≠ 4 by decide)]
          by_cases e : k = P.1 6
          · subst e; simp
          · rw [if_neg e, if_neg e, if_neg e, if_neg e]
            simpa [e] using hM.2.2 k (by omega)
      · intro b l hb hl
        rw [sI_g, sI_g, sGo (by decide), sGo (by decide), sGo (by decide), sGo (by decide)]
        exact hs b l hb hl
    · rw [sI_i, if_neg (by omega), sI_i, if_neg (by omega), sI_i, if_neg (by omega)]; rfl
    · rw [sI_g, sI_g, sI_g, sGo (by omega), sGo (by omega), sGo (by omega), sGo (by omega)]
    · rw [sI_i, if_neg (by omega), sI_i, if_neg (by omega)]; rfl
    · rw [sI_g, sI_g, sGo (by omega), sGo (by omega), sGo (by omega), sGo (by omega)]
/-- an index below a count -/
theorem idxI {p : Int32} {n : Nat} (hn : n ≤ 1000) : (0 ≤ p ∧ p ≤ nI n - 1) ↔ ∃ k, p = nI k ∧ k < n := by
  constructor
  · intro h
    by_cases h0 : n = 0
    · subst h0
      exfalso
      have a := Int32.le_iff_toInt_le.mp h.1
      have b := Int32.le_iff_toInt_le.mp h.2
      have e1 : (0 : Int32).toInt = 0 := by decide
      have e2 : (nI 0 - 1).toInt = -1 := by decide
      omega
    · have q := h.2
      rw [l1, pk_sub (by omega)] at q
      obtain ⟨k, e, -, k2⟩ := rngI (p := p) (lo := 0) (by decide) (by omega) h.1 q
      exact ⟨k, e, by omega⟩
  · rintro ⟨k, rfl, hk⟩
    rw [l1, pk_sub (by omega)]
    exact ⟨nI_pos' (by omega), (nI_leI (by omega) (by omega)).mpr (by omega)⟩
theorem F_value {S T : ST} (h : RelP S T) (p1 p2 : Int32) : OKc (mX6_value S p1 p2) (mX7_value T p1 p2) S T := by
  obtain ⟨P, ok, hC, hM, hs, -, -, -⟩ := id h
  have k8 := ok.2.2.2.2.2.2.1
  have eS : S.1 6 = nI (P.1 6) := hC.1.2.2.2.2.2.2
  have eT : T.1 6 = nI (P.1 6) := hM.1.2.2.2.2.2.2
  unfold mX6_value mX7_value
  simp only [w6b, w7b]
  rw [eS, eT]
  refine OKc_if (fun c1 => OKc_if (fun c2 => ?_) (fun _ => OKc_no h _)) (fun _ => OKc_no h _)
  obtain ⟨k, rfl, hk⟩ := (idxI (by omega)).mp c1
  obtain ⟨val, rfl, d1, d2⟩ := rngI (p := p2) (lo := 1) (hi := 1000) (by decide) (by decide) c2.1 c2.2
  rw [gdI (by omega) (by omega), gdI (by omega) (by omega), gdI (by omega) (by omega), gdI (by omega) (by omega), clI (by omega), (hC.2.2 k hk).2.2.1, (hM.2.2 k hk).2.2.1]
  refine ⟨nI (P.2 6 k), sI (sI (sG S 3 (nI k) (nI val)) 11 1) 7 1, _, rfl, rfl, ?_, ⟨fun q hq => ?_, fun a ha => ?_⟩, fun q hq => ?_, fun a ha => ?_⟩
  · refine ⟨(P.1, fun a j => if j = k ∧ a = 6 then val else P.2 a j), ?_, ?_, ?_, ?_, fun q => absurd (show (1 : Int32) = 0 from q) one0, fun q => absurd (show (1 : Int32) = 0 from q) one0, fun q => absurd rfl q⟩
    · obtain ⟨o1, o2, o3, o4, o5, o6, o7, o8, o9⟩ := ok
      refine ⟨o1, o2, o3, o4, o5, o6, o7, fun j hj => ?_, fun j hj => ?_⟩
      · simpa using o8 j hj
      · have := o9 j hj
        by_cases e : j = k
        · subst e
          refine ⟨⟨?_, ?_⟩, ⟨?_, ?_⟩, ?_⟩ <;> simp <;> omega
        · refine ⟨⟨?_, ?_⟩, ⟨?_, ?_⟩, ?_⟩ <;> simp [e] <;> omega
    · refine ⟨hC.1, fun j hj => ?_, fun j hj => ?_⟩
      · rw [sI_g, sI_g, sGo (show (0 : Nat) ≠ 3 by decide)]
        simpa using hC.2.1 j hj
      · rw [sI_g, sI_g, sGo (show (1 : Nat) ≠ 3 by decide), sGo (show (2 : Nat) ≠ 3 by decide), sGs (by omega), sGo (show (4 : Nat) ≠ 3 by decide)]
        by_cases e : j = k
        · subst e
          simpa using ⟨(hC.2.2 j hj).1, (hC.2.2 j hj).2.1, (hC.2.2 j hj).2.2.2⟩
        · rw [if_neg e]
          simpa [e] using hC.2.2 j hj
    · refine ⟨hM.1, fun j hj => ?_, fun j hj => ?_⟩
      · rw [sI_g, sGo (show (0 : Nat) ≠ 6 by decide), sGo (show (1 : Nat) ≠ 6 by decide), sGo (show (2 : Nat) ≠ 6 by decide), sGo (show (3 : Nat) ≠ 6 by decide)]
        simpa using hM.2.1 j hj
      · rw [sI_g, sGo (show (4 : Nat) ≠ 6 by decide), sGo (show (5 : Nat) ≠ 6 by decide), sGs (by omega), sGo (show (7 : Nat) ≠ 6 by decide)]
        by_cases e : j = k
        · subst e
          simpa using ⟨(hM.2.2 j hj).1, (hM.2.2 j hj).2.1, (hM.2.2 j hj).2.2.2⟩
        · rw [if_neg e]
          simpa [e] using hM.2.2 j hj
    · exact hs
  · rw [sI_i, if_neg (by omega), sI_i, if_neg (by omega)]; rfl
  · rw [sI_g, sI_g, sGo (by omega)]
  · rw [sI_i, if_neg (by omega)]; rfl
  · rw [sI_g, sGo (by omega)]
theorem F_noKinds {S T : ST} (h : RelP S T) : OKc (mX6_noKinds S) (mX7_noKinds T) S T := by
  obtain ⟨P, ok, hC, hM, hs, -, -, -⟩ := id h
  unfold mX6_noKinds mX7_noKinds
  rw [hC.1.2.2.2.2.2.2, hM.1.2.2.2.2.2.2]
  refine ⟨nI (P.1 6), sI (sI (sI S 6 0) 11 1) 7 1, _, rfl, rfl, ?_, ⟨fun q hq => ?_, fun a ha => rfl⟩, fun q hq => ?_, fun a ha => rfl⟩
  · refine ⟨(fun k => if k = 6 then 0 else P.1 k, P.2), ?_, ⟨⟨hC.1.1, hC.1.2.1, hC.1.2.2.1, hC.1.2.2.2.1, hC.1.2.2.2.2.1, hC.1.2.2.2.2.2.1, rfl⟩, hC.2.1, fun k hk => absurd hk (Nat.not_lt_zero k)⟩, ⟨⟨hM.1.1, hM.1.2.1, hM.1.2.2.1, hM.1.2.2.2.1, hM.1.2.2.2.2.1, hM.1.2.2.2.2.2.1, rfl⟩, hM.2.1, fun k hk => absurd hk (Nat.not_lt_zero k)⟩, hs, fun q => absurd (show (1 : Int32) = 0 from q) one0, fun q => absurd (show (1 : Int32) = 0 from q) one0, fun q => absurd rfl q⟩
    obtain ⟨o1, o2, o3, o4, o5, o6, o7, o8, o9⟩ := ok
    exact ⟨o1, o2, o3, o4, o5, o6, Nat.zero_le _, o8, fun k hk => absurd hk (Nat.not_lt_zero k)⟩
  · rw [sI_i, if_neg (by omega), sI_i, if_neg (by omega), sI_i, if_neg (by omega)]
  · rw [sI_i, if_neg (by omega), sI_i, if_neg (by omega)]
