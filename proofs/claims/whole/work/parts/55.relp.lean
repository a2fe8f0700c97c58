/-! MATH, plates: the two states, side by side; the calls that change the PLATE or the KINDS -/
def RelP (S T : ST) : Prop := ∃ P, OKP P ∧ CC P S ∧ CM P T ∧ SPT T ∧ (S.1 7 = 0 → TBC P S) ∧ (S.1 11 = 0 → PLc P S (plan P) ∧ S.1 7 = 0) ∧ (T.1 7 ≠ 0 → TBM P T ∧ PLm T (plan P))
def FB (S S' T T' : ST) : Prop := ((∀ k, 11 < k → S'.1 k = S.1 k) ∧ ∀ a, 8 < a → S'.2 a = S.2 a) ∧ ((∀ k, 10 < k → T'.1 k = T.1 k) ∧ ∀ a, 20 < a → T'.2 a = T.2 a)
def OKc (a b : Option (Int32 × ST)) (S T : ST) : Prop := ∃ r S' T', a = some (r, S') ∧ b = some (r, T') ∧ RelP S' T' ∧ FB S S' T T'
theorem OKc_no {S T : ST} (h : RelP S T) (r : Int32) : OKc (some (r, S)) (some (r, T)) S T := ⟨r, S, T, rfl, rfl, h, ⟨fun _ _ => rfl, fun _ _ => rfl⟩, fun _ _ => rfl, fun _ _ => rfl⟩
theorem OKc_if {c : Prop} {i j : Decidable c} {a b a' b' : Option (Int32 × ST)} {S T : ST} (h1 : c → OKc a b S T) (h2 : ¬ c → OKc a' b' S T) : OKc (@ite _ c i a a') (@ite _ c j b b') S T := by
  by_cases q : c
  · rw [if_pos q, if_pos q]; exact h1 q
  · rw [if_neg q, if_neg q]; exact h2 q
theorem one0 : ¬ ((1 : Int32) = 0) := by decide
theorem F_plate {S T : ST} (h : RelP S T) (p1 p2 p3 p4 p5 : Int32) : OKc (mX6_plate S p1 p2 p3 p4 p5) (mX7_plate T p1 p2 p3 p4 p5) S T := by
  unfold mX6_plate mX7_plate
  simp only [w6b, w7b]
  refine OKc_if (fun c1 => OKc_if (fun c2 => OKc_if (fun c3 => OKc_if (fun c4 => OKc_if (fun c5 => ?_) (fun _ => OKc_no h _)) (fun _ => OKc_no h _)) (fun _ => OKc_no h _)) (fun _ => OKc_no h _)) (fun _ => OKc_no h _)
  obtain ⟨a, rfl, a1, a2⟩ := rngI (p := p1) (lo := 1) (hi := 16) (by decide) (by decide) c1.1 c1.2
  obtain ⟨b, rfl, b1, b2⟩ := rngI (p := p2) (lo := 1) (hi := 16) (by decide) (by decide) c2.1 c2.2
  obtain ⟨c, rfl, c1', c2'⟩ := rngI (p := p3) (lo := 0) (hi := 2) (by decide) (by decide) c3.1 c3.2
  obtain ⟨d, rfl, d1, d2⟩ := rngI (p := p4) (lo := 1) (hi := 4) (by decide) (by decide) c4.1 c4.2
  obtain ⟨e, rfl, e1, e2⟩ := rngI (p := p5) (lo := 0) (hi := 1) (by decide) (by decide) c5.1 c5.2
  obtain ⟨P, ok, hC, hM, hs, -, -, -⟩ := h
  refine ⟨1, sI (sI (sI (sI (sI (sI (sI (sI S 0 (nI a)) 1 (nI b)) 2 (nI c)) 3 (nI d)) 4 (nI e)) 5 0) 11 1) 7 1, _, rfl, rfl, ?_, ⟨fun k hk => ?_, fun _ _ => rfl⟩, fun k hk => ?_, fun _ _ => rfl⟩
  · refine ⟨(fun k => if k = 0 then a else if k = 1 then b else if k = 2 then c else if k = 3 then d else if k = 4 then e else if k = 5 then 0 else P.1 k, P.2), ⟨⟨a1, a2⟩, ⟨b1, b2⟩, c2', ⟨d1, d2⟩, e2, Nat.zero_le _, ok.2.2.2.2.2.2.1, fun k hk => absurd hk (Nat.not_lt_zero k), ok.2.2.2.2.2.2.2.2⟩, ⟨⟨rfl, rfl, rfl, rfl, rfl, rfl, hC.1.2.2.2.2.2.2⟩, fun k hk => absurd hk (Nat.not_lt_zero k), hC.2.2⟩, ⟨⟨rfl, rfl, rfl, rfl, rfl, rfl, hM.1.2.2.2.2.2.2⟩, fun k hk => absurd hk (Nat.not_lt_zero k), hM.2.2⟩, hs, fun q => absurd (show (1 : Int32) = 0 from q) one0, fun q => absurd (show (1 : Int32) = 0 from q) one0, fun q => absurd rfl q⟩
  · rw [sI_i, if_neg (by omega), sI_i, if_neg (by omega), sI_i, if_neg (by omega), sI_i, if_neg (by omega), sI_i, if_neg (by omega), sI_i, if_neg (by omega), sI_i, if_neg (by omega), sI_i, if_neg (by omega)]
  · rw [sI_i, if_neg (by omega), sI_i, if_neg (by omega), sI_i, if_neg (by omega), sI_i, if_neg (by omega), sI_i, if_neg (by omega), sI_i, if_neg (by omega), sI_i, if_neg (by omega)]
theorem lies_eq {S T : ST} (h0 : S.1 0 = T.1 0) (h1 : S.1 1 = T.1 1) (p1 p2 p3 p4 : Int32) : mX4_holds S p1 p2 p3 p4 = mX7_lies T p1 p2 p3 p4 := by
  unfold mX4_holds mX7_lies
  rw [h0, h1]
  rfl
/-- what lies in the PLATE -/
theorem lies_nat {P : PC} {T : ST} (ok : OKP P) (h : CM P T) (p1 p2 p3 p4 : Int32) : mX7_lies T p1 p2 p3 p4 = some 0 ∨ (mX7_lies T p1 p2 p3 p4 = some 1 ∧ ∃ x y w v, p1 = nI x ∧ p2 = nI y ∧ p3 = nI w ∧ p4 = nI v ∧ 1 ≤ w ∧ x + w ≤ P.1 0 ∧ 1 ≤ v ∧ y + v ≤ P.1 1) := by
  obtain ⟨⟨w1, w16⟩, ⟨h1, h16⟩, -⟩ := id ok
  unfold mX7_lies
  simp only [w7b]
  rw [h.1.1, h.1.2.1]
  by_cases c1 : 0 ≤ p1 ∧ p1 ≤ nI (P.1 0) - 1
  · rw [if_pos c1]
    have q1 := c1.2
    rw [l1, pk_sub w1] at q1
    obtain ⟨x, rfl, -, x2⟩ := rngI (p := p1) (lo := 0) (by decide) (by omega) c1.1 q1
    by_cases c2 : 0 ≤ p2 ∧ p2 ≤ nI (P.1 1) - 1
    · rw [if_pos c2]
      have q2 := c2.2
      rw [l1, pk_sub h1] at q2
      obtain ⟨y, rfl, -, y2⟩ := rngI (p := p2) (lo := 0) (by decide) (by omega) c2.1 q2
      by_cases c3 : 1 ≤ p3 ∧ p3 ≤ nI (P.1 0) - nI x
      · rw [if_pos c3]
        have q3 := c3.2
        rw [pk_sub (by omega)] at q3
        obtain ⟨w, rfl, w2, w3⟩ := rngI (p := p3) (lo := 1) (by decide) (by omega) c3.1 q3
        by_cases c4 : 1 ≤ p4 ∧ p4 ≤ nI (P.1 1) - nI y
        · rw [if_pos c4]
          have q4 := c4.2
          rw [pk_sub (by omega)] at q4
          obtain ⟨v, rfl, v2, v3⟩ := rngI (p := p4) (lo := 1) (by decide) (by omega) c4.1 q4
          exact Or.inr ⟨rfl, x, y, w, v, rfl, rfl, rfl, rfl, w2, by omega, v2, by omega⟩
        · rw [if_neg c4]; exact Or.inl rfl
      · rw [if_neg c3]; exact Or.inl rfl
    · rw [if_neg c2]; exact Or.inl rfl
  · rw [if_neg c1]; exact Or.inl rfl
theorem F_defect {S T : ST} (h : RelP S T) (p1 p2 p3 p4 : Int32) : OKc (mX6_defect S p1 p2 p3 p4) (mX7_defect T p1 p2 p3 p4) S T := by
  obtain ⟨P, ok, hC, hM, hs, -, -, -⟩ := id h
  unfold mX6_defect mX7_defect
  rw [lies_eq (hC.1.1.trans hM.1.1.symm) (hC.1.2.1.trans hM.1.2.1.symm)]
  rcases lies_nat ok hM p1 p2 p3 p4 with q | ⟨q, x, y, w, v, rfl, rfl, rfl, rfl, w1, xw, v1, yv⟩
  · rw [q, Option.bind_some, if_pos rfl, Option.bind_some, if_pos rfl]
    exact OKc_no h _
  · rw [q, Option.bind_some, if_neg (by decide), Option.bind_some, if_neg (by decide)]
    obtain ⟨⟨-, w16⟩, ⟨-, h16⟩, -, -, -, d6, -⟩ := id ok
    have eS : S.1 5 = nI (P.1 5) := hC.1.2.2.2.2.2.1
    have eT : T.1 5 = nI (P.1 5) := hM.1.2.2.2.2.2.1
    unfold mX4_spoil
    rw [eS, eT, l6, ifLt (by omega) (by omega), ifEq (by omega) (by omega)]
    by_cases c : P.1 5 = 6
    · rw [if_neg (by omega), if_pos c, Option.bind_some]
      show OKc (if (0 : Int32) = 0 then some (-4, S) else _) (some (-4, T)) S T
      rw [if_pos rfl]
      exact OKc_no h _
    · rw [if_pos (by omega), if_neg c, l4, l1, l2, l3, pk_mul, nI_add, nI_add, nI_add, nI_add, nI_add, nI_add, gdI (by omega) (by omega), gdI (by omega) (by omega), gdI (by omega) (by omega), gdI (by omega) (by omega), gdI (by omega) (by omega), gdI (by omega) (by omega), gdI (by omega) (by omega), gdI (by omega) (by omega), Option.bind_some]
      show OKc (if nI 1 = 0 then _ else _) _ S T
      rw [if_neg (by decide)]
      have e5 : (sG (sG (sG (sG S 0 (nI (P.1 5 * 4)) (nI x)) 0 (nI (P.1 5 * 4 + 1)) (nI y)) 0 (nI (P.1 5 * 4 + 2)) (nI (x + w))) 0 (nI (P.1 5 * 4 + 3)) (nI (y + v))).1 5 = nI (P.1 5) := eS
      refine ⟨nI (P.1 5 + 1), sI (sI (sI (sG (sG (sG (sG S 0 (nI (P.1 5 * 4)) (nI x)) 0 (nI (P.1 5 * 4 + 1)) (nI y)) 0 (nI (P.1 5 * 4 + 2)) (nI (x + w))) 0 (nI (P.1 5 * 4 + 3)) (nI (y + v))) 5 (nI (P.1 5 + 1))) 11 1) 7 1, _, rfl, rfl, ?_, ⟨fun k hk => ?_, fun a ha => ?_⟩, fun k hk => ?_, fun a ha => ?_⟩
      · refine ⟨(fun k => if k = 5 then P.1 5 + 1 else P.1 k, fun a k => if k = P.1 5 ∧ a < 4 then (if a = 0 then x else if a = 1 then y else if a = 2 then w else v) else P.2 a k), ?_, ?_, ?_, ?_, fun q => absurd (show (1 : Int32) = 0 from q) one0, fun q => absurd (show (1 : Int32) = 0 from q) one0, fun q => absurd rfl q⟩
        · obtain ⟨o1, o2, o3, o4, o5, o6, o7, o8, o9⟩ := ok
          refine ⟨o1, o2, o3, o4, o5, by show P.1 5 + 1 ≤ 6; omega, o7, fun k hk => ?_, fun k hk => ?_⟩
          · have hk' : k < P.1 5 + 1 := hk
            by_cases e : k = P.1 5
            · subst e
              refine ⟨?_, ?_, ?_, ?_⟩ <;> simp <;> omega
            · have := o8 k (by omega)
              refine ⟨?_, ?_, ?_, ?_⟩ <;> simp [e] <;> omega
          · have := o9 k hk
            simpa using this
        · refine ⟨⟨hC.1.1, hC.1.2.1, hC.1.2.2.1, hC.1.2.2.2.1, hC.1.2.2.2.2.1, rfl, hC.1.2.2.2.2.2.2⟩, fun k hk => ?_, fun k hk => ?_⟩
          · have hk' : k < P.1 5 + 1 := hk
            have rd : ∀ q, (sI (sI (sI (sG (sG (sG (sG S 0 (nI (P.1 5 * 4)) (nI x)) 0 (nI (P.1 5 * 4 + 1)) (nI y)) 0 (nI (P.1 5 * 4 + 2)) (nI (x + w))) 0 (nI (P.1 5 * 4 + 3)) (nI (y + v))) 5 (nI (P.1 5 + 1))) 11 1) 7 1).2 0 q = if q = P.1 5 * 4 + 3 then nI (y + v) else if q = P.1 5 * 4 + 2 then nI (x + w) else if q = P.1 5 * 4 + 1 then nI y else if q = P.1 5 * 4 then nI x else S.2 0 q := by
              intro q
              rw [sI_g, sI_g, sI_g, sGs (by omega), sGs (by omega), sGs (by omega), sGs (by omega)]
            rw [rd, rd, rd, rd]
            by_cases e : k = P.1 5
            · subst e
              rw [if_neg (by omega), if_neg (by omega), if_neg (by omega), if_pos rfl, if_neg (by omega), if_neg (by omega), if_pos rfl, if_neg (by omega), if_pos rfl, if_pos rfl]
              simp
            · rw [if_neg (by omega), if_neg (by omega), if_neg (by omega), if_neg (by omega), if_neg (by omega), if_neg (by omega), if_neg (by omega), if_neg (by omega), if_neg (by omega), if_neg (by omega), if_neg (by omega), if_neg (by omega), if_neg (by omega), if_neg (by omega), if_neg (by omega), if_neg (by omega)]
              simpa [e] using hC.2.1 k (by omega)
          · rw [sI_g, sI_g, sI_g, sGo (show (1 : Nat) ≠ 0 by decide), sGo (show (1 : Nat) ≠ 0 by decide), sGo (show (1 : Nat) ≠ 0 by decide), sGo (show (1 : Nat) ≠ 0 by decide), sGo (show (2 : Nat) ≠ 0 by decide), sGo (show (2 : Nat) ≠ 0 by decide), sGo (show (2 : Nat) ≠ 0 by decide), sGo (show (2 : Nat) ≠ 0 by decide), sGo (show (3 : Nat) ≠ 0 by decide), sGo (show (3 : Nat) ≠ 0 by decide), sGo (show (3 : Nat) ≠ 0 by decide), sGo (show (3 : Nat) ≠ 0 by decide), sGo (show (4 : Nat) ≠ 0 by decide), sGo (show (4 : Nat) ≠ 0 by decide), sGo (show (4 : Nat) ≠ 0 by decide), sGo (show (4 : Nat) ≠ 0 by decide)]
            simpa using hC.2.2 k hk
        · refine ⟨⟨hM.1.1, hM.1.2.1, hM.1.2.2.1, hM.1.2.2.2.1, hM.1.2.2.2.2.1, rfl, hM.1.2.2.2.2.2.2⟩, fun k hk => ?_, fun k hk => ?_⟩
          · have hk' : k < P.1 5 + 1 := hk
            rw [sI_g, sI_g, sGo (show (0 : Nat) ≠ 3 by decide), sGo (show (0 : Nat) ≠ 2 by decide), sGo (show (0 : Nat) ≠ 1 by decide), sGs (by omega), sGo (show (1 : Nat) ≠ 3 by decide), sGo (show (1 : Nat) ≠ 2 by decide), sGs (by omega), sGo (show (1 : Nat) ≠ 0 by decide), sGo (show (2 : Nat) ≠ 3 by decide), sGs (by omega), sGo (show (2 : Nat) ≠ 1 by decide), sGo (show (2 : Nat) ≠ 0 by decide), sGs (by omega), sGo (show (3 : Nat) ≠ 2 by decide), sGo (show (3 : Nat) ≠ 1 by decide), sGo (show (3 : Nat) ≠ 0 by decide)]
            by_cases e : k = P.1 5
            · subst e
              simp
            · rw [if_neg e, if_neg e, if_neg e, if_neg e]
              simpa [e] using hM.2.1 k (by omega)
          · rw [sI_g, sI_g, sGo (show (4 : Nat) ≠ 3 by decide), sGo (show (4 : Nat) ≠ 2 by decide), sGo (show (4 : Nat) ≠ 1 by decide), sGo (show (4 : Nat) ≠ 0 by decide), sGo (show (5 : Nat) ≠ 3 by decide), sGo (show (5 : Nat) ≠ 2 by decide), sGo (show (5 : Nat) ≠ 1 by decide), sGo (show (5 : Nat) ≠ 0 by decide), sGo (show (6 : Nat) ≠ 3 by decide), sGo (show (6 : Nat) ≠ 2 by decide), sGo (show (6 : Nat) ≠ 1 by decide), sGo (show (6 : Nat) ≠ 0 by decide), sGo (show (7 : Nat) ≠ 3 by decide), sGo (show (7 : Nat) ≠ 2 by decide), sGo (show (7 : Nat) ≠ 1 by decide), sGo (show (7 : Nat) ≠ 0 by decide)]
            simpa using hM.2.2 k hk
        · intro b l hb hl
          rw [sI_g, sI_g, sGo (by decide), sGo (by decide), sGo (by decide), sGo (by decide)]
          exact hs b l hb hl
      · rw [sI_i, if_neg (by omega), sI_i, if_neg (by omega), sI_i, if_neg (by omega)]; rfl
      · rw [sI_g, sI_g, sI_g, sGo (by omega), sGo (by omega), sGo (by omega), sGo (by omega)]
      · rw [sI_i, if_neg (by omega), sI_i, if_neg (by omega)]; rfl
      · rw [sI_g, sI_g, sGo (by omega), sGo (by omega), sGo (by omega), sGo (by omega)]
