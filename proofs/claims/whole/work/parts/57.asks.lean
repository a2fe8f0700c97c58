/-! MATH, plates: the calls that ask for worths and THE PLAN -/
theorem CM_fr {P : PC} {T T' : ST} (h1 : ∀ k, k < 7 → T'.1 k = T.1 k) (h2 : ∀ a, a < 8 → T'.2 a = T.2 a) (h : CM P T) : CM P T' := by
  unfold CM
  rw [h1 0 (by decide), h1 1 (by decide), h1 2 (by decide), h1 3 (by decide), h1 4 (by decide), h1 5 (by decide), h1 6 (by decide), h2 0 (by decide), h2 1 (by decide), h2 2 (by decide), h2 3 (by decide), h2 4 (by decide), h2 5 (by decide), h2 6 (by decide), h2 7 (by decide)]
  exact h
/-- both are ready for questions on THE PLAN -/
theorem ready {S T : ST} (h : RelP S T) : ∃ P S' T', OKP P ∧ mX2_makeReady S = some S' ∧ mX7_work T = some T' ∧ RelP S' T' ∧ FB S S' T T' ∧ CC P S' ∧ CM P T' ∧ PLc P S' (plan P) ∧ PLm T' (plan P) := by
  obtain ⟨P, ok, hC, hM, hs, t1, t2, t3⟩ := h
  obtain ⟨S', a1, a2, a3, a4, a5, a6, a7⟩ := c_planReady ok hC t1 t2
  obtain ⟨T', b1, b2, b3, b4, b5, b6⟩ := m_work ok hM hs t3
  have hC' : CC P S' := CC_of (fun k hk => a2 k (by omega)) (fun a ha => a3 a (by omega)) hC
  have hM' : CM P T' := CM_fr (fun k hk => b2 k (by omega)) (fun a ha => b3 a (by omega)) hM
  have hs' : SPT T' := by unfold SPT; rw [b3 8 (by decide)]; exact hs
  exact ⟨P, S', T', ok, a1, b1, ⟨P, ok, hC', hM', hs', fun _ => a6, fun _ => ⟨a7, a4⟩, fun _ => ⟨b5, b6⟩⟩, ⟨⟨fun k hk => a2 k (by omega), fun a ha => a3 a (by omega)⟩, fun k hk => b2 k (by omega), fun a ha => b3 a (by omega)⟩, hC', hM', a7, b6⟩
theorem F_worth {S T : ST} (h : RelP S T) (p1 p2 p3 p4 p5 : Int32) : OKc (mX6_worth S p1 p2 p3 p4 p5) (mX7_worth T p1 p2 p3 p4 p5) S T := by
  obtain ⟨P, ok, hC, hM, hs, t1, t2, t3⟩ := id h
  unfold mX6_worth mX7_worth
  rw [lies_eq (hC.1.1.trans hM.1.1.symm) (hC.1.2.1.trans hM.1.2.1.symm)]
  rcases lies_nat ok hM p1 p2 p3 p4 with q | ⟨q, x, y, w, v, rfl, rfl, rfl, rfl, w1, xw, v1, yv⟩
  · rw [q, Option.bind_some, if_pos rfl, Option.bind_some, if_pos rfl]
    exact OKc_no h _
  · rw [q, Option.bind_some, if_neg (by decide), Option.bind_some, if_neg (by decide)]
    simp only [w6b, w7b]
    rw [hC.1.2.2.2.1, hM.1.2.2.2.1]
    refine OKc_if (fun c1 => ?_) (fun _ => OKc_no h _)
    obtain ⟨⟨-, w16⟩, ⟨-, h16⟩, -, ⟨g1, g4⟩, -⟩ := id ok
    obtain ⟨st, rfl, s1, s3⟩ := rngI (p := p5) (lo := 1) (by decide) (by omega) c1.1 c1.2
    obtain ⟨S', a1, a2, a3, a4, a5⟩ := c_makeReady ok hC t1
    obtain ⟨T', b1, b2, b3, b4, b5, b6⟩ := m_work ok hM hs t3
    have hC' : CC P S' := CC_of (fun k hk => a2 k (by omega)) (fun a ha => a3 a (by omega) (by omega)) hC
    have hM' : CM P T' := CM_fr (fun k hk => b2 k (by omega)) (fun a ha => b3 a (by omega)) hM
    have hs' : SPT T' := by unfold SPT; rw [b3 8 (by decide)]; exact hs
    have kl := kM_lt (st := st) (x := x) (y := y) (w := w) (h := v) (by omega) w1 (by omega) v1 (by omega)
    rw [a1, Option.bind_some, c_of ok hC' a5 s1 s3 w1 xw v1 yv, Option.bind_some, b1, Option.bind_some, m_at hs' s1 (by omega) w1 (by omega) v1 (by omega), Option.bind_some, gdI kl (by omega), clI (by omega), b5 st x y w v s1 s3 w1 xw v1 yv]
    refine ⟨_, S', T', rfl, rfl, ⟨P, ok, hC', hM', hs', fun _ => a5, fun q => ?_, fun _ => ⟨b5, b6⟩⟩, ⟨fun k hk => a2 k (by omega), fun a ha => a3 a (by omega) (by omega)⟩, fun k hk => b2 k (by omega), fun a ha => b3 a (by omega)⟩
    have q2 : S.1 11 = 0 := by rw [← a2 11 (by decide)]; exact q
    obtain ⟨z1, z2⟩ := t2 q2
    refine ⟨⟨?_, ?_, ?_, fun i j hi hj => ?_, fun i j hi hj => ?_⟩, a4⟩
    · rw [a2 8 (by decide)]; exact z1.1
    · rw [a2 9 (by decide)]; exact z1.2.1
    · rw [a2 10 (by decide)]; exact z1.2.2.1
    · rw [a3 7 (by decide) (by decide)]; exact z1.2.2.2.1 i j hi hj
    · rw [a3 8 (by decide) (by decide)]; exact z1.2.2.2.2 i j hi hj
theorem F_pieces {S T : ST} (h : RelP S T) : OKc (mX6_pieces S) (mX7_pieces T) S T := by
  obtain ⟨P, S', T', ok, a1, b1, r, f, hC, hM, pc, pm⟩ := ready h
  unfold mX6_pieces mX7_pieces
  rw [a1, b1, Option.bind_some, Option.bind_some, pc.1, pm.1]
  exact ⟨_, S', T', rfl, rfl, r, f⟩
theorem F_cuts {S T : ST} (h : RelP S T) : OKc (mX6_cuts S) (mX7_cuts T) S T := by
  obtain ⟨P, S', T', ok, a1, b1, r, f, hC, hM, pc, pm⟩ := ready h
  unfold mX6_cuts mX7_cuts
  rw [a1, b1, Option.bind_some, Option.bind_some, pc.2.1, pm.2.1]
  exact ⟨_, S', T', rfl, rfl, r, f⟩
/-- what rows THE PLAN has -/
theorem pl_rows (P : PC) : ∀ n st x y w v, 1 ≤ st → st ≤ P.1 3 → 1 ≤ w → 1 ≤ v → w ≤ 16 → v ≤ 16 → (∀ r, r ∈ (pl P n st x y w v).1 → ∃ k x' y' w' v', r = pRow P k x' y' w' v' ∧ k < P.1 6 ∧ likeB P k w' v' = true) ∧ (∀ r, r ∈ (pl P n st x y w v).2 → ∃ s x' y' w' v' c, r = cRow P s x' y' w' v' c ∧ 1 ≤ s ∧ s ≤ P.1 3) := by
  intro n
  induction n with
  | zero => intro st x y w v _ _ _ _ _ _; exact ⟨fun r hr => absurd hr List.not_mem_nil, fun r hr => absurd hr List.not_mem_nil⟩
  | succ n ih =>
    intro st x y w v s1 s3 hw hv w16 v16
    by_cases h0 : worth P st x y w v = 0
    · rw [pl_0 h0]; exact ⟨fun r hr => absurd hr List.not_mem_nil, fun r hr => absurd hr List.not_mem_nil⟩
    · cases hk : pcK P st x y w v with
      | some k =>
        obtain ⟨a, b, c, d⟩ := pcK_some hk
        rw [pl_k h0 hk]
        refine ⟨fun r hr => ?_, fun r hr => absurd hr List.not_mem_nil⟩
        rw [List.mem_singleton] at hr
        exact ⟨k, x, y, w, v, hr, b, d⟩
      | none =>
        cases hc : ctK P st x y w v with
        | some c =>
          obtain ⟨c1, c2⟩ := ctK_some hc
          obtain ⟨⟨a1, a2, a3, a4, a5⟩, ⟨b1, b2, b3, b4, b5, b6, b7⟩, g⟩ := cut_geo (x := x) (y := y) hw hv c1 c2
          have i1 := ih st x y _ _ s1 s3 a1 a2 (by omega) (by omega)
          have i2 := ih st (x2P P st x c) (y2P P st y c) _ _ s1 s3 b1 b2 (by omega) (by omega)
          rw [pl_c h0 hk hc]
          refine ⟨fun r hr => (List.mem_append.mp hr).elim (i1.1 r) (i2.1 r), fun r hr => ?_⟩
          rcases List.mem_cons.mp hr with rfl | hr
          · exact ⟨st, x, y, w, v, c, rfl, s1, s3⟩
          · exact (List.mem_append.mp hr).elim (i1.2 r) (i2.2 r)
        | none =>
          rw [pl_s h0 hk hc]
          by_cases s : st < P.1 3
          · rw [if_pos s]; exact ih (st + 1) x y w v (by omega) (by omega) hw hv w16 v16
          · rw [if_neg s]; exact ⟨fun r hr => absurd hr List.not_mem_nil, fun r hr => absurd hr List.not_mem_nil⟩
theorem plan_len {P : PC} (ok : OKP P) : (plan P).1.length ≤ 256 ∧ (plan P).2.length ≤ 255 ∧ ar (plan P).1 ≤ P.1 0 * P.1 1 ∧ P.1 0 * P.1 1 ≤ 256 := by
  have := pl_size P 40 1 0 0 (P.1 0) (P.1 1) ok.1.1 ok.2.1.1
  have hWH : P.1 0 * P.1 1 ≤ 16 * 16 := Nat.mul_le_mul ok.1.2 ok.2.1.2
  unfold plan
  omega
theorem getD_mem {α : Type} {L : List α} {i : Nat} {d : α} (h : i < L.length) : L.getD i d ∈ L := by
  rw [List.getD_eq_getElem?_getD, List.getElem?_eq_getElem h]
  exact List.getElem_mem h
theorem plan_row {P : PC} (ok : OKP P) {i : Nat} (h : i < (plan P).1.length) : ∃ k x y w v, (plan P).1.getD i [] = pRow P k x y w v ∧ k < P.1 6 ∧ likeB P k w v = true :=
  (pl_rows P 40 1 0 0 (P.1 0) (P.1 1) (Nat.le_refl 1) ok.2.2.2.1.1 ok.1.1 ok.2.1.1 ok.1.2 ok.2.1.2).1 _ (getD_mem h)
theorem plan_cut {P : PC} (ok : OKP P) {i : Nat} (h : i < (plan P).2.length) : ∃ s x y w v c, (plan P).2.getD i [] = cRow P s x y w v c ∧ 1 ≤ s ∧ s ≤ P.1 3 :=
  (pl_rows P 40 1 0 0 (P.1 0) (P.1 1) (Nat.le_refl 1) ok.2.2.2.1.1 ok.1.1 ok.2.1.1 ok.1.2 ok.2.1.2).2 _ (getD_mem h)
theorem likeWH {P : PC} {k w v : Nat} (h : likeB P k w v = true) : (lieB P k w v = true ∧ P.2 4 k = w ∧ P.2 5 k = v) ∨ (¬ lieB P k w v = true ∧ P.2 5 k = w ∧ P.2 4 k = v) := by
  unfold likeB at h
  by_cases c : lieB P k w v = true
  · exact Or.inl ⟨c, of_decide_eq_true c⟩
  · rw [Bool.eq_false_iff.mpr c, Bool.false_or] at h
    exact Or.inr ⟨c, (of_decide_eq_true h).2⟩
theorem F_piece {S T : ST} (h : RelP S T) (p1 p2 : Int32) : OKc (mX6_piece S p1 p2) (mX7_piece T p1 p2) S T := by
  unfold mX6_piece mX7_piece
  simp only [w6b, w7b]
  refine OKc_if (fun c1 => ?_) (fun _ => OKc_no h _)
  obtain ⟨j, rfl, -, j5⟩ := rngI (p := p2) (lo := 0) (hi := 5) (by decide) (by decide) c1.1 c1.2
  obtain ⟨P, S', T', ok, a1, b1, r, f, hC, hM, pc, pm⟩ := ready h
  have pln := plan_len ok
  have k8 := ok.2.2.2.2.2.2.1
  rw [a1, b1, Option.bind_some, Option.bind_some, pc.1, pm.1]
  by_cases c2 : 0 ≤ p1 ∧ p1 ≤ nI (plan P).1.length - 1
  · rw [if_pos c2, if_pos c2]
    obtain ⟨i, rfl, hi⟩ := (idxI (by omega)).mp c2
    obtain ⟨k, x, y, w, v, er, hk, hl⟩ := plan_row ok hi
    have hm := pm.2.2.1 i hi
    have hc := pc.2.2.2.1 i j hi (by omega)
    have ek := hM.2.2 k hk
    rw [l6, pk_mul, nI_add, gdI (by omega) (by omega), clI (by omega), hc, clI (by omega), hm.1, hm.2.1, hm.2.2.1, hm.2.2.2]
    have gi : gd (inB (nI i) 256) = fun z : Option (Int32 × ST) => z := by funext z; exact gdI (by omega) (by omega)
    rw [er]
    have side1 : mX7_pieceSide T' (nI i) 1 = some (nI w) := by
      unfold mX7_pieceSide
      rw [gdI (by omega) (by omega), gdI (by omega) (by omega), clI (by omega), hm.1, hm.2.2.2, er]
      rcases likeWH hl with ⟨q1, q2, q3⟩ | ⟨q1, q2, q3⟩
      · rw [show (pRow P k x y w v).getD 5 0 = 0 from by show (if lieB P k w v = true then 0 else 1) = 0; rw [if_pos q1], if_pos (show nI 0 = 0 from rfl)]
        unfold mX7_pieceSide_J22
        rw [if_pos rfl, show (pRow P k x y w v).getD 0 0 = k from rfl, gdI (by omega) (by omega), clI (by omega), ek.1, q2]
      · rw [show (pRow P k x y w v).getD 5 0 = 1 from by show (if lieB P k w v = true then 0 else 1) = 1; rw [if_neg q1], if_neg (by decide)]
        unfold mX7_pieceSide_J22
        rw [if_neg (by decide), show (pRow P k x y w v).getD 0 0 = k from rfl, gdI (by omega) (by omega), clI (by omega), ek.2.1, q2]
    have side0 : mX7_pieceSide T' (nI i) 0 = some (nI v) := by
      unfold mX7_pieceSide
      rw [gdI (by omega) (by omega), gdI (by omega) (by omega), clI (by omega), hm.1, hm.2.2.2, er]
      rcases likeWH hl with ⟨q1, q2, q3⟩ | ⟨q1, q2, q3⟩
      · rw [show (pRow P k x y w v).getD 5 0 = 0 from by show (if lieB P k w v = true then 0 else 1) = 0; rw [if_pos q1], if_pos (show nI 0 = 0 from rfl)]
        unfold mX7_pieceSide_J22
        rw [if_neg (by decide), show (pRow P k x y w v).getD 0 0 = k from rfl, gdI (by omega) (by omega), clI (by omega), ek.2.1, q3]
      · rw [show (pRow P k x y w v).getD 5 0 = 1 from by show (if lieB P k w v = true then 0 else 1) = 1; rw [if_neg q1], if_neg (by decide)]
        unfold mX7_pieceSide_J22
        rw [if_pos rfl, show (pRow P k x y w v).getD 0 0 = k from rfl, gdI (by omega) (by omega), clI (by omega), ek.1, q3]
    rw [side1, side0]
    refine ⟨_, S', T', rfl, ?_, r, f⟩
    rw [gi]
    match j, j5 with
    | 0, _ => rfl
    | 1, _ => rfl
    | 2, _ => rfl
    | 3, _ => rfl
    | 4, _ => rfl
    | 5, _ => rfl
    | j + 6, hj => exact absurd hj (by omega)
  · rw [if_neg c2, if_neg c2]
    exact ⟨_, S', T', rfl, rfl, r, f⟩
theorem F_cut {S T : ST} (h : RelP S T) (p1 p2 : Int32) : OKc (mX6_cut S p1 p2) (mX7_cut T p1 p2) S T := by
  unfold mX6_cut mX7_cut
  simp only [w6b, w7b]
  refine OKc_if (fun c1 => ?_) (fun _ => OKc_no h _)
  obtain ⟨j, rfl, -, j5⟩ := rngI (p := p2) (lo := 0) (hi := 6) (by decide) (by decide) c1.1 c1.2
  obtain ⟨P, S', T', ok, a1, b1, r, f, hC, hM, pc, pm⟩ := ready h
  have pln := plan_len ok
  have g4 := ok.2.2.2.1.2
  rw [a1, b1, Option.bind_some, Option.bind_some, pc.2.1, pm.2.1]
  by_cases c2 : 0 ≤ p1 ∧ p1 ≤ nI (plan P).2.length - 1
  · rw [if_pos c2, if_pos c2]
    obtain ⟨i, rfl, hi⟩ := (idxI (by omega)).mp c2
    obtain ⟨s, x, y, w, v, c, er, s1, s3⟩ := plan_cut ok hi
    have hm := pm.2.2.2 i hi
    have hc := pc.2.2.2.2 i j hi (by omega)
    rw [l7, pk_mul, nI_add, gdI (by omega) (by omega), clI (by omega), hc, clI (by omega), hm.1, hm.2.1, hm.2.2.1, hm.2.2.2.1, hm.2.2.2.2.1, hm.2.2.2.2.2]
    have gi : gd (inB (nI i) 256) = fun z : Option (Int32 × ST) => z := by funext z; exact gdI (by omega) (by omega)
    rw [er, show (cRow P s x y w v c).getD 0 0 = s from rfl, m_wayOf ok hM s1 (by omega)]
    refine ⟨_, S', T', rfl, ?_, r, f⟩
    rw [gi]
    match j, j5 with
    | 0, _ => rfl
    | 1, _ => rfl
    | 2, _ => rfl
    | 3, _ => rfl
    | 4, _ => rfl
    | 5, _ => rfl
    | 6, _ => rfl
    | j + 7, hj => exact absurd hj (by omega)
  · rw [if_neg c2, if_neg c2]
    exact ⟨_, S', T', rfl, rfl, r, f⟩
theorem ar_take : ∀ (L : List (List Nat)) i, i < L.length → ar (L.take (i + 1)) = ar (L.take i) + (L.getD i []).getD 3 0 * (L.getD i []).getD 4 0 := by
  intro L
  induction L with
  | nil => intro i h; exact absurd h (Nat.not_lt_zero i)
  | cons a L ih =>
    intro i h
    cases i with
    | zero => show ar [a] = 0 + _; show a.getD 3 0 * a.getD 4 0 + 0 = 0 + a.getD 3 0 * a.getD 4 0; omega
    | succ i =>
      have := ih i (Nat.lt_of_succ_lt_succ h)
      show a.getD 3 0 * a.getD 4 0 + ar (L.take (i + 1)) = a.getD 3 0 * a.getD 4 0 + ar (L.take i) + (L.getD i []).getD 3 0 * (L.getD i []).getD 4 0
      omega
theorem ar_take_le : ∀ (L : List (List Nat)) i, ar (L.take i) ≤ ar L := by
  intro L
  induction L with
  | nil => intro i; rw [List.take_nil]; exact Nat.le_refl _
  | cons a L ih =>
    intro i
    cases i with
    | zero => exact Nat.zero_le _
    | succ i => show a.getD 3 0 * a.getD 4 0 + ar (L.take i) ≤ a.getD 3 0 * a.getD 4 0 + ar L; have := ih i; omega
theorem F_waste {S T : ST} (h : RelP S T) : OKc (mX6_waste S) (mX7_waste T) S T := by
  obtain ⟨P, S', T', ok, a1, b1, r, f, hC, hM, pc, pm⟩ := ready h
  have pln := plan_len ok
  have k8 := ok.2.2.2.2.2.2.1
  unfold mX6_waste mX7_waste
  rw [a1, b1, Option.bind_some, Option.bind_some, pc.2.2.1, hM.1.1, hM.1.2.1, pk_mul]
  refine ⟨_, S', T', rfl, ?_, r, f⟩
  have loop : ∀ d i n, i + d = (plan P).1.length → d < n → LPf (κ := Int32 → Int32 → Option (Int32 × ST)) (fun _ _ => none) (fun kk => mX7_waste_B16 kk (mX7_waste_X16 T') T') n (nI (P.1 0 * P.1 1 - ar ((plan P).1.take i))) (nI i) = some (nI (P.1 0 * P.1 1 - ar (plan P).1), T') := by
    intro d
    induction d with
    | zero =>
      intro i n hi hn
      obtain ⟨n, rfl⟩ : ∃ m, n = m + 1 := ⟨n - 1, by omega⟩
      rw [LP_s]
      unfold mX7_waste_B16
      rw [pm.1, ifLe (by omega) (by omega), if_pos (by omega)]
      unfold mX7_waste_X16
      rw [List.take_of_length_le (by omega)]
    | succ d ih =>
      intro i n hi hn
      obtain ⟨n, rfl⟩ : ∃ m, n = m + 1 := ⟨n - 1, by omega⟩
      have ih' := ih (i + 1) n (by omega) (by omega)
      have hil : i < (plan P).1.length := by omega
      obtain ⟨k, x, y, w, v, er, hk, hl⟩ := plan_row ok hil
      have hm := (pm.2.2.1 i hil).1
      rw [er, show (pRow P k x y w v).getD 0 0 = k from rfl] at hm
      have ek := hM.2.2 k hk
      have e1 := ar_take (plan P).1 i hil
      rw [er, show (pRow P k x y w v).getD 3 0 = w from rfl, show (pRow P k x y w v).getD 4 0 = v from rfl] at e1
      have e2 := ar_take_le (plan P).1 (i + 1)
      have e3 : P.2 4 k * P.2 5 k = w * v := by
        rcases likeWH hl with ⟨-, q2, q3⟩ | ⟨-, q2, q3⟩
        · rw [q2, q3]
        · rw [q2, q3, Nat.mul_comm]
      rw [LP_s]
      generalize LPf (κ := Int32 → Int32 → Option (Int32 × ST)) (fun _ _ => none) (fun kk => mX7_waste_B16 kk (mX7_waste_X16 T') T') n = K at ih' ⊢
      unfold mX7_waste_B16
      rw [pm.1, ifLe (by omega) (by omega), if_neg (by omega), gdI (by omega) (by omega), clI (by omega), hm, gdI (by omega) (by omega), gdI (by omega) (by omega), gdI (by omega) (by omega), clI (by omega), ek.1, ek.2.1, pk_mul, e3, pk_sub (by omega), nI_1, show P.1 0 * P.1 1 - ar ((plan P).1.take i) - w * v = P.1 0 * P.1 1 - ar ((plan P).1.take (i + 1)) by omega]
      exact ih'
  exact loop (plan P).1.length 0 FU (by omega) (FU_gt (by omega))
