/-! MATH, plates: the class fills its tables; worths read off them -/
def gD (i : Nat) : Int32 := nI i + (-1)
theorem gD_s (i : Nat) : gD (i + 1) = nI i := pk_m1 i
theorem gD_m {r : Nat} (h : 1 ≤ r) : nI r - 1 = gD r := by
  obtain ⟨q, rfl⟩ : ∃ q, r = q + 1 := ⟨r - 1, by omega⟩
  rw [gD_s, l1, pk_sub (by omega)]
  rfl
def DNC (P : PC) (S0 S : ST) (r j b t : Nat) : Prop := S.1 = S0.1 ∧ (∀ a, a ≠ 6 → S.2 a = S0.2 a) ∧ ∀ st x y w v, 1 ≤ st → st ≤ P.1 3 → 1 ≤ w → x + w ≤ P.1 0 → 1 ≤ v → y + v ≤ P.1 1 → (x + w < r ∨ (x + w = r ∧ (j ≤ x ∨ (x + 1 = j ∧ (y + v < b ∨ (y + v = b ∧ t ≤ y)))))) → tblC P S st x y w v
theorem DNC_to {P : PC} {S0 S : ST} {r j b t r1 j1 b1 t1 : Nat} (h : DNC P S0 S r j b t) (hl : ∀ x y w v, 1 ≤ w → x + w ≤ P.1 0 → 1 ≤ v → y + v ≤ P.1 1 → (x + w < r1 ∨ (x + w = r1 ∧ (j1 ≤ x ∨ (x + 1 = j1 ∧ (y + v < b1 ∨ (y + v = b1 ∧ t1 ≤ y)))))) → (x + w < r ∨ (x + w = r ∧ (j ≤ x ∨ (x + 1 = j ∧ (y + v < b ∨ (y + v = b ∧ t ≤ y))))))) : DNC P S0 S r1 j1 b1 t1 :=
  ⟨h.1, h.2.1, fun st x y w v a b c d e f g => h.2.2 st x y w v a b c d e f (hl x y w v c d e f g)⟩
theorem c_fillParts {P : PC} {S0 : ST} (ok : OKP P) (h : CC P S0) (hz : ∀ st w v, 1 ≤ st → st ≤ P.1 3 → 1 ≤ w → w ≤ P.1 0 → 1 ≤ v → v ≤ P.1 1 → tblS P S0 st w v) : ∃ S', mX5_fillParts S0 = some S' ∧ DNC P S0 S' (P.1 0 + 1) 0 0 0 := by
  obtain ⟨⟨w1, w16⟩, ⟨h1, h16⟩, k2, ⟨g1, g4⟩, -⟩ := id ok
  have e0 : S0.1 0 = nI (P.1 0) := h.1.1
  have e1 : S0.1 1 = nI (P.1 1) := h.1.2.1
  -- tops
  have Lt : ∀ (X : ST → Int32 → Option ST) r j b S, r ≤ P.1 0 → j + 1 ≤ r → 1 ≤ b → b ≤ P.1 1 → DNC P S0 S r (j + 1) b b → ∃ S', DNC P S0 S' r (j + 1) b 0 ∧ LPf (κ := ST → Int32 → Option (ST)) (fun _ _ => none) (fun kk => mX5_fillParts_B39 kk X (nI r) (nI j) (nI b)) FU S (gD b) = X S' (gD 0) := by
    intro X r j b S hr hj hb hb2 hS
    have := loopD gD (fun kk => mX5_fillParts_B39 kk X (nI r) (nI j) (nI b)) X (fun t S => t ≤ b ∧ DNC P S0 S r (j + 1) b t) ?_ ?_ b FU S (FU_gt (by omega)) ⟨Nat.le_refl _, hS⟩
    · obtain ⟨S', q1, q2⟩ := this
      exact ⟨S', q1.2, q2⟩
    · intro k S hS
      show mX5_fillParts_B39 k X (nI r) (nI j) (nI b) S (gD 0) = _
      unfold mX5_fillParts_B39
      rw [if_pos (show gD 0 < 0 by decide)]
    · intro k S t hS
      obtain ⟨S', a1, a2, a3, a4, a5⟩ := c_fillPart ok (CC_of (fun k _ => by rw [hS.2.1]) (fun a ha => hS.2.2.1 a (by omega)) h) (S := S) (fun st w v q1 q2 q3 q4 q5 q6 => by unfold tblS; rw [hS.2.2.1 5 (by decide)]; exact hz st w v q1 q2 q3 q4 q5 q6) (x := j) (y := t) (w := r - j) (v := b - t) (by omega) (by omega) (by omega) (by omega) (fun st x' y' w' v' q1 q2 q3 q4 q5 q6 q7 => hS.2.2.2 st x' y' w' v' q1 q2 q3 q4 q5 q6 (by omega))
      refine ⟨S', ⟨by omega, a2.trans hS.2.1, fun a ha => (a3 a ha).trans (hS.2.2.1 a ha), fun st x' y' w' v' q1 q2 q3 q4 q5 q6 q7 => ?_⟩, ?_⟩
      · by_cases q : x' = j ∧ y' = t ∧ w' = r - j ∧ v' = b - t
        · obtain ⟨rfl, rfl, rfl, rfl⟩ := q
          exact a4 st q1 q2
        · unfold tblC
          rw [a5 _ (fun st' c1 c2 c3 => q (by
            obtain ⟨-, d1, d2, d3, d4⟩ := kC_inj q1 q3 (by omega) q5 (by omega) c1 (by omega) (by omega) (by omega) (by omega) c3
            exact ⟨d1, d2, d3, d4⟩))]
          exact hS.2.2.2 st x' y' w' v' q1 q2 q3 q4 q5 q6 (by omega)
      · show mX5_fillParts_B39 k X (nI r) (nI j) (nI b) S (gD (t + 1)) = _
        rw [gD_s]
        unfold mX5_fillParts_B39
        rw [if_neg (show ¬ (nI t < 0) from nI_pos (by omega)), pk_sub (by omega), pk_sub (by omega), a1]
        rfl
  -- bottoms
  have Lb : ∀ (X : ST → Int32 → Option ST) r j S, r ≤ P.1 0 → j + 1 ≤ r → DNC P S0 S r (j + 1) 1 1 → ∃ S', DNC P S0 S' r (j + 1) (P.1 1 + 1) (P.1 1 + 1) ∧ LPf (κ := ST → Int32 → Option (ST)) (fun _ _ => none) (fun kk => mX5_fillParts_B23 kk X (nI r) (nI j)) FU S (nI 1) = X S' (nI (P.1 1 + 1)) := by
    intro X r j S hr hj hS
    have := loopU (fun kk => mX5_fillParts_B23 kk X (nI r) (nI j)) X (fun b S => 1 ≤ b ∧ DNC P S0 S r (j + 1) b b) (P.1 1 + 1) ?_ ?_ (P.1 1) 1 FU S (by omega) (FU_gt (by omega)) ⟨Nat.le_refl 1, hS⟩
    · obtain ⟨S', q1, q2⟩ := this
      exact ⟨S', q1.2, q2⟩
    · intro k S hS
      show mX5_fillParts_B23 k X (nI r) (nI j) S (nI (P.1 1 + 1)) = _
      unfold mX5_fillParts_B23
      rw [hS.2.1, e1, if_pos (by rw [ltI (by omega) (by omega)]; omega)]
    · intro k S b hb hS
      obtain ⟨S', q1, q2⟩ := Lt (mX5_fillParts_X39 k X (nI r) (nI j) (nI b)) r j b S hr hj hS.1 (by omega) hS.2
      refine ⟨S', ⟨by omega, DNC_to q1 (by intro x' y' w' v' c1 c2 c3 c4 c5; omega)⟩, ?_⟩
      show mX5_fillParts_B23 k X (nI r) (nI j) S (nI b) = _
      unfold mX5_fillParts_B23
      rw [hS.2.1, e1, if_neg (by rw [ltI (by omega) (by omega)]; omega), gD_m hS.1]
      refine q2.trans ?_
      unfold mX5_fillParts_X39
      rw [nI_1]
  -- lefts
  have Ll : ∀ (X : ST → Int32 → Option ST) r S, 1 ≤ r → r ≤ P.1 0 → DNC P S0 S r r 0 0 → ∃ S', DNC P S0 S' r 0 0 0 ∧ LPf (κ := ST → Int32 → Option (ST)) (fun _ _ => none) (fun kk => mX5_fillParts_B17 kk X (nI r)) FU S (gD r) = X S' (gD 0) := by
    intro X r S hr1 hr hS
    have := loopD gD (fun kk => mX5_fillParts_B17 kk X (nI r)) X (fun j S => j ≤ r ∧ DNC P S0 S r j 0 0) ?_ ?_ r FU S (FU_gt (by omega)) ⟨Nat.le_refl _, hS⟩
    · obtain ⟨S', q1, q2⟩ := this
      exact ⟨S', q1.2, q2⟩
    · intro k S hS
      show mX5_fillParts_B17 k X (nI r) S (gD 0) = _
      unfold mX5_fillParts_B17
      rw [if_pos (show gD 0 < 0 by decide)]
    · intro k S j hS
      obtain ⟨S', q1, q2⟩ := Lb (mX5_fillParts_X23 k X (nI r) (nI j)) r j S hr hS.1 (DNC_to hS.2 (by intro x' y' w' v' c1 c2 c3 c4 c5; omega))
      refine ⟨S', ⟨by omega, DNC_to q1 (by intro x' y' w' v' c1 c2 c3 c4 c5; omega)⟩, ?_⟩
      show mX5_fillParts_B17 k X (nI r) S (gD (j + 1)) = _
      rw [gD_s]
      unfold mX5_fillParts_B17
      rw [if_neg (show ¬ (nI j < 0) from nI_pos (by omega))]
      refine q2.trans ?_
      rfl
  have := loopU (fun kk => mX5_fillParts_B2 kk mX5_fillParts_X2) mX5_fillParts_X2 (fun r S => 1 ≤ r ∧ DNC P S0 S r r 0 0) (P.1 0 + 1) ?_ ?_ (P.1 0) 1 FU S0 (by omega) (FU_gt (by omega)) ⟨Nat.le_refl 1, rfl, fun _ _ => rfl, fun st x y w v a b c d e f g => by omega⟩
  · obtain ⟨S', q1, q2⟩ := this
    refine ⟨S', ?_, DNC_to q1.2 (by intro x' y' w' v' c1 c2 c3 c4 c5; omega)⟩
    unfold mX5_fillParts
    exact q2
  · intro k S hS
    show mX5_fillParts_B2 k mX5_fillParts_X2 S (nI (P.1 0 + 1)) = _
    unfold mX5_fillParts_B2
    rw [hS.2.1, e0, if_pos (by rw [ltI (by omega) (by omega)]; omega)]
  · intro k S r hr hS
    obtain ⟨S', q1, q2⟩ := Ll (mX5_fillParts_X17 k mX5_fillParts_X2 (nI r)) r S hS.1 (by omega) hS.2
    refine ⟨S', ⟨by omega, DNC_to q1 (by intro x' y' w' v' c1 c2 c3 c4 c5; omega)⟩, ?_⟩
    show mX5_fillParts_B2 k mX5_fillParts_X2 S (nI r) = _
    unfold mX5_fillParts_B2
    rw [hS.2.1, e0, if_neg (by rw [ltI (by omega) (by omega)]; omega)]
    rw [gD_m hS.1]
    refine q2.trans ?_
    unfold mX5_fillParts_X17
    rw [nI_1]
/-- the class's tables are those of P -/
def TBC (P : PC) (S : ST) : Prop := (∀ st w v, 1 ≤ st → st ≤ P.1 3 → 1 ≤ w → w ≤ P.1 0 → 1 ≤ v → v ≤ P.1 1 → tblS P S st w v) ∧ (1 ≤ P.1 5 → ∀ st x y w v, 1 ≤ st → st ≤ P.1 3 → 1 ≤ w → x + w ≤ P.1 0 → 1 ≤ v → y + v ≤ P.1 1 → tblC P S st x y w v)
theorem c_makeReady {P : PC} {S : ST} (ok : OKP P) (h : CC P S) (hst : S.1 7 = 0 → TBC P S) : ∃ S', mX5_makeReady S = some S' ∧ (∀ k, k ≠ 7 → S'.1 k = S.1 k) ∧ (∀ a, a ≠ 5 → a ≠ 6 → S'.2 a = S.2 a) ∧ S'.1 7 = 0 ∧ TBC P S' := by
  unfold mX5_makeReady
  by_cases q : S.1 7 = 0
  · rw [if_pos q]
    exact ⟨S, rfl, fun _ _ => rfl, fun _ _ _ => rfl, q, hst q⟩
  · rw [if_neg q]
    obtain ⟨S1, f1, f2⟩ := c_fillSizes ok h
    rw [f1, Option.bind_some]
    have hz : ∀ st w v, 1 ≤ st → st ≤ P.1 3 → 1 ≤ w → w ≤ P.1 0 → 1 ≤ v → v ≤ P.1 1 → tblS P S1 st w v := fun st w v a b c d e f => f2.2.2 st w v a b c d e f (by omega)
    have h1 := DNS_CC f2 h
    have e5 : S1.1 5 = nI (P.1 5) := h1.1.2.2.2.2.2.1
    have d6 := ok.2.2.2.2.2.1
    rw [e5, ifLe0 (by omega)]
    by_cases d : P.1 5 ≤ 0
    · rw [if_pos d]
      refine ⟨sI S1 7 0, rfl, fun k hk => by rw [sI_i, if_neg hk, f2.1], fun a ha _ => by rw [sI_g]; exact f2.2.1 a ha, by rw [sI_i, if_pos rfl], hz, fun d2 => by omega⟩
    · rw [if_neg d]
      obtain ⟨S2, p1, p2⟩ := c_fillParts ok h1 hz
      rw [p1, Option.bind_some]
      refine ⟨sI S2 7 0, rfl, fun k hk => by rw [sI_i, if_neg hk, p2.1, f2.1], fun a ha ha2 => by rw [sI_g, p2.2.1 a ha2]; exact f2.2.1 a ha, by rw [sI_i, if_pos rfl], fun st w v a b c d e f => ?_, fun _ st x y w v a b c d e f => ?_⟩
      · unfold tblS
        rw [sI_g, p2.2.1 5 (by decide)]
        exact hz st w v a b c d e f
      · exact p2.2.2 st x y w v a b c d e f (by omega)
theorem c_of {P : PC} {S : ST} (ok : OKP P) (h : CC P S) (ht : TBC P S) {st x y w v : Nat} (s1 : 1 ≤ st) (s3 : st ≤ P.1 3) (hw : 1 ≤ w) (hxw : x + w ≤ P.1 0) (hv : 1 ≤ v) (hyv : y + v ≤ P.1 1) : mX5_of S (nI x) (nI y) (nI w) (nI v) (nI st) = some (nI (worth P st x y w v)) := by
  obtain ⟨⟨-, w16⟩, ⟨-, h16⟩, k2, ⟨g1, g4⟩, -, d6, -⟩ := id ok
  have e5 : S.1 5 = nI (P.1 5) := h.1.2.2.2.2.2.1
  unfold mX5_of
  rw [e5, ifEq0 (by omega)]
  by_cases d : P.1 5 = 0
  · rw [if_pos d, c_ofSize ok h s1 s3 hw (by omega) hv (by omega) (ht.1 st w v s1 s3 hw (by omega) hv (by omega)), Option.bind_some]
    have hf : spB P x y w v = false := by unfold spB; rw [d]; rfl
    rw [← worth_noD P st x y w v]
    unfold worth
    rw [wt_clean P 40 st x y w v hf]
  · have kl := kC_lt (st := st) (x := x) (y := y) (w := w) (v := v) (by omega) hw (by omega) hv (by omega)
    have ek : ((st - 1) * 136 + spC x (x + w)) * 136 + spC y (y + v) = kC st x y w v := rfl
    rw [if_neg d, nI_add, c_span (by omega) (by omega), Option.bind_some, nI_add, c_span (by omega) (by omega), Option.bind_some, c_partSlot s1, Option.bind_some, ek, l73984, l0, w6t (by rw [leI (by omega) (by omega)]; omega) (by rw [leI (by omega) (by omega)]; omega), Option.bind_some, if_neg (by decide), gdI kl (by omega), clI (by omega), ht.2 (by omega) st x y w v s1 s3 hw hxw hv hyv]
