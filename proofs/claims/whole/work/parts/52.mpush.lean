/-! MATH, plates: the reference's lists and its pile -/
theorem l1300 : (1300 : Int32) = nI 1300 := rfl
def FRm (T T' : ST) : Prop := (∀ k, k ≠ 8 → k ≠ 9 → k ≠ 10 → T'.1 k = T.1 k) ∧ (∀ a, a < 10 ∨ 20 < a → T'.2 a = T.2 a)
theorem FRm_tr {S S' S'' : ST} (f : FRm S S') (g : FRm S' S'') : FRm S S'' := ⟨fun k a b c => (g.1 k a b c).trans (f.1 k a b c), fun a b => (g.2 a b).trans (f.2 a b)⟩
theorem FRm_CM {P : PC} {T T' : ST} (f : FRm T T') (h : CM P T) : CM P T' := by
  unfold CM
  rw [f.1 0 (by decide) (by decide) (by decide), f.1 1 (by decide) (by decide) (by decide), f.1 2 (by decide) (by decide) (by decide), f.1 3 (by decide) (by decide) (by decide), f.1 4 (by decide) (by decide) (by decide), f.1 5 (by decide) (by decide) (by decide), f.1 6 (by decide) (by decide) (by decide), f.2 0 (by decide), f.2 1 (by decide), f.2 2 (by decide), f.2 3 (by decide), f.2 4 (by decide), f.2 5 (by decide), f.2 6 (by decide), f.2 7 (by decide)]
  exact h
theorem FRm_SPT {T T' : ST} (f : FRm T T') (h : SPT T) : SPT T' := by
  unfold SPT
  rw [f.2 8 (by decide)]
  exact h
def TBM (P : PC) (T : ST) : Prop := ∀ st x y w v, 1 ≤ st → st ≤ P.1 3 → 1 ≤ w → x + w ≤ P.1 0 → 1 ≤ v → y + v ≤ P.1 1 → tblM P T st x y w v
theorem FRm_TBM {P : PC} {T T' : ST} (f : FRm T T') (h : TBM P T) : TBM P T' := by
  intro st x y w v a b c d e g
  unfold tblM
  rw [f.2 9 (by decide)]
  exact h st x y w v a b c d e g
/-- the reference's lists are L -/
def PLm (T : ST) (L : PLN) : Prop := T.1 8 = nI L.1.length ∧ T.1 9 = nI L.2.length ∧ (∀ i, i < L.1.length → T.2 10 i = nI ((L.1.getD i []).getD 0 0) ∧ T.2 11 i = nI ((L.1.getD i []).getD 1 0) ∧ T.2 12 i = nI ((L.1.getD i []).getD 2 0) ∧ T.2 13 i = nI ((L.1.getD i []).getD 5 0)) ∧ (∀ i, i < L.2.length → T.2 14 i = nI ((L.2.getD i []).getD 0 0) ∧ T.2 15 i = nI ((L.2.getD i []).getD 2 0) ∧ T.2 16 i = nI ((L.2.getD i []).getD 3 0) ∧ T.2 17 i = nI ((L.2.getD i []).getD 4 0) ∧ T.2 18 i = nI ((L.2.getD i []).getD 5 0) ∧ T.2 19 i = nI ((L.2.getD i []).getD 6 0))
/-- the pile has Q, its top first -/
def STK (T : ST) (Q : List (List Nat)) : Prop := T.1 10 = nI (Q.length * 5) ∧ ∀ i j, i < Q.length → j < 5 → T.2 20 (i * 5 + j) = nI ((Q.reverse.getD i []).getD j 0)
theorem m_push {T : ST} {Q : List (List Nat)} {L : PLN} (hQ : STK T Q) (hL : PLm T L) (hn : Q.length < 260) (st x y w v : Nat) : ∃ T', mX7_lay T (nI st) (nI x) (nI y) (nI w) (nI v) = some T' ∧ FRm T T' ∧ STK T' ([st, x, y, w, v] :: Q) ∧ PLm T' L := by
  obtain ⟨q1, q2⟩ := hQ
  unfold mX7_lay
  rw [q1, l1, l2, l3, l4, l5, nI_add, nI_add, nI_add, nI_add, nI_add, gdI (by omega) (by omega), gdI (by omega) (by omega), gdI (by omega) (by omega), gdI (by omega) (by omega), gdI (by omega) (by omega)]
  refine ⟨_, rfl, ⟨fun k a b c => ?_, fun a ha => ?_⟩, ⟨?_, fun i j hi hj => ?_⟩, ?_⟩
  · rw [sI_i, if_neg c]; rfl
  · have h20 : a ≠ 20 := by omega
    rw [sI_g, sGo h20, sGo h20, sGo h20, sGo h20, sGo h20]
  · rw [sI_i, if_pos rfl]
    show _ = nI ((Q.length + 1) * 5)
    congr 1
    omega
  · have hi2 : i < Q.length + 1 := hi
    rw [List.reverse_cons, getD_app, List.length_reverse, sI_g, sGs (by omega), sGs (by omega), sGs (by omega), sGs (by omega), sGs (by omega)]
    by_cases c : i < Q.length
    · rw [if_neg (by omega), if_neg (by omega), if_neg (by omega), if_neg (by omega), if_neg (by omega), if_pos c]
      exact q2 i j c hj
    · obtain rfl : i = Q.length := by omega
      rw [if_neg c, Nat.sub_self]
      match j, hj with
      | 0, _ => rw [if_neg (by omega), if_neg (by omega), if_neg (by omega), if_neg (by omega), if_pos (by omega)]; rfl
      | 1, _ => rw [if_neg (by omega), if_neg (by omega), if_neg (by omega), if_pos (by omega)]; rfl
      | 2, _ => rw [if_neg (by omega), if_neg (by omega), if_pos (by omega)]; rfl
      | 3, _ => rw [if_neg (by omega), if_pos (by omega)]; rfl
      | 4, _ => rw [if_pos (by omega)]; rfl
      | j + 5, hj => exact absurd hj (by omega)
  · obtain ⟨a, b, c, d⟩ := hL
    refine ⟨a, b, fun i hi => ?_, fun i hi => ?_⟩
    · simp only [sI_g, sGo (show (10 : Nat) ≠ 20 by decide), sGo (show (11 : Nat) ≠ 20 by decide), sGo (show (12 : Nat) ≠ 20 by decide), sGo (show (13 : Nat) ≠ 20 by decide)]
      exact c i hi
    · simp only [sI_g, sGo (show (14 : Nat) ≠ 20 by decide), sGo (show (15 : Nat) ≠ 20 by decide), sGo (show (16 : Nat) ≠ 20 by decide), sGo (show (17 : Nat) ≠ 20 by decide), sGo (show (18 : Nat) ≠ 20 by decide), sGo (show (19 : Nat) ≠ 20 by decide)]
      exact d i hi
theorem FU3 : FU = 99997 + 1 + 1 + 1 := rfl
theorem m_isPiece {P : PC} {T : ST} (ok : OKP P) (h : CM P T) {Q : List (List Nat)} {L : PLN} (hQ : STK T Q) (hL : PLm T L) {st x y w v : Nat} (hw : 1 ≤ w) (hxw : x + w ≤ P.1 0) (hv : 1 ≤ v) (hyv : y + v ≤ P.1 1) (hn : L.1.length < 256) :
    (∀ k, pcK P st x y w v = some k → ∃ T', mX7_isPiece T (nI x) (nI y) (nI w) (nI v) (nI (worth P st x y w v)) = some (1, T') ∧ FRm T T' ∧ STK T' Q ∧ PLm T' (L.1 ++ [pRow P k x y w v], L.2)) ∧ (pcK P st x y w v = none → mX7_isPiece T (nI x) (nI y) (nI w) (nI v) (nI (worth P st x y w v)) = some (0, T)) := by
  obtain ⟨⟨-, w16⟩, ⟨-, h16⟩, k2, ⟨g1, g4⟩, -⟩ := id ok
  have wl := worth_lt ok (st := st) (x := x) (y := y) hw (by omega) hv (by omega)
  have hl0 := fun k (hk : k < P.1 6) => m_isLike0 ok h hk (w := w) (v := v) (by omega) (by omega)
  have hl1 := fun k (hk : k < P.1 6) => m_isLike1 ok h hk (w := w) (v := v) (by omega) (by omega)
  have hsp := m_isSpoiled ok h (x := x) (y := y) (w := w) (v := v) (by omega) (by omega) (by omega) (by omega)
  obtain ⟨-, -, -, -, -, -, hk8, -, hkb⟩ := id ok
  obtain ⟨⟨-, -, -, -, -, -, hnk⟩, -, hkk⟩ := id h
  obtain ⟨val, hval⟩ : ∃ z, z = worth P st x y w v := ⟨_, rfl⟩
  have add : ∀ k t, t = (if lieB P k w v = true then 0 else 1) → FRm T (sI (sG (sG (sG (sG T 10 (nI L.1.length) (nI k)) 11 (nI L.1.length) (nI x)) 12 (nI L.1.length) (nI y)) 13 (nI L.1.length) (nI t)) 8 (nI (L.1.length + 1))) ∧ STK (sI (sG (sG (sG (sG T 10 (nI L.1.length) (nI k)) 11 (nI L.1.length) (nI x)) 12 (nI L.1.length) (nI y)) 13 (nI L.1.length) (nI t)) 8 (nI (L.1.length + 1))) Q ∧ PLm (sI (sG (sG (sG (sG T 10 (nI L.1.length) (nI k)) 11 (nI L.1.length) (nI x)) 12 (nI L.1.length) (nI y)) 13 (nI L.1.length) (nI t)) 8 (nI (L.1.length + 1))) (L.1 ++ [pRow P k x y w v], L.2) := by
    intro k t ht
    obtain ⟨a, b, c, d⟩ := hL
    refine ⟨⟨fun q q1 q2 q3 => ?_, fun q hq => ?_⟩, ⟨hQ.1, fun i j hi hj => ?_⟩, ?_, b, fun i hi => ?_, fun i hi => ?_⟩
    · rw [sI_i, if_neg q1]; rfl
    · rw [sI_g, sGo (show q ≠ 13 by omega), sGo (show q ≠ 12 by omega), sGo (show q ≠ 11 by omega), sGo (show q ≠ 10 by omega)]
    · rw [sI_g, sGo (by decide), sGo (by decide), sGo (by decide), sGo (by decide)]
      exact hQ.2 i j hi hj
    · rw [sI_i, if_pos rfl]
      show _ = nI (L.1 ++ [pRow P k x y w v]).length
      rw [List.length_append]; rfl
    · have hi2 : i < L.1.length + 1 := by
        have : (L.1 ++ [pRow P k x y w v]).length = L.1.length + 1 := by rw [List.length_append]; rfl
        rw [← this]; exact hi
      show _ = nI (((L.1 ++ [pRow P k x y w v]).getD i []).getD 0 0) ∧ _ = nI (((L.1 ++ [pRow P k x y w v]).getD i []).getD 1 0) ∧ _ = nI (((L.1 ++ [pRow P k x y w v]).getD i []).getD 2 0) ∧ _ = nI (((L.1 ++ [pRow P k x y w v]).getD i []).getD 5 0)
      rw [getD_app, sI_g, sGo (show (10 : Nat) ≠ 13 by decide), sGo (show (10 : Nat) ≠ 12 by decide), sGo (show (10 : Nat) ≠ 11 by decide), sGs (by omega), sGo (show (11 : Nat) ≠ 13 by decide), sGo (show (11 : Nat) ≠ 12 by decide), sGs (by omega), sGo (show (11 : Nat) ≠ 10 by decide), sGo (show (12 : Nat) ≠ 13 by decide), sGs (by omega), sGo (show (12 : Nat) ≠ 11 by decide), sGo (show (12 : Nat) ≠ 10 by decide), sGs (by omega), sGo (show (13 : Nat) ≠ 12 by decide), sGo (show (13 : Nat) ≠ 11 by decide), sGo (show (13 : Nat) ≠ 10 by decide)]
      by_cases e : i < L.1.length
      · have ne : ¬ i = L.1.length := by omega
        rw [if_pos e, if_neg ne, if_neg ne, if_neg ne, if_neg ne]
        exact c i e
      · obtain rfl : i = L.1.length := by omega
        rw [if_pos rfl, if_pos rfl, if_pos rfl, if_pos rfl, if_neg e, Nat.sub_self, ht]
        exact ⟨rfl, rfl, rfl, rfl⟩
    · simp only [sI_g, sGo (show (14 : Nat) ≠ 13 by decide), sGo (show (14 : Nat) ≠ 12 by decide), sGo (show (14 : Nat) ≠ 11 by decide), sGo (show (14 : Nat) ≠ 10 by decide), sGo (show (15 : Nat) ≠ 13 by decide), sGo (show (15 : Nat) ≠ 12 by decide), sGo (show (15 : Nat) ≠ 11 by decide), sGo (show (15 : Nat) ≠ 10 by decide), sGo (show (16 : Nat) ≠ 13 by decide), sGo (show (16 : Nat) ≠ 12 by decide), sGo (show (16 : Nat) ≠ 11 by decide), sGo (show (16 : Nat) ≠ 10 by decide), sGo (show (17 : Nat) ≠ 13 by decide), sGo (show (17 : Nat) ≠ 12 by decide), sGo (show (17 : Nat) ≠ 11 by decide), sGo (show (17 : Nat) ≠ 10 by decide), sGo (show (18 : Nat) ≠ 13 by decide), sGo (show (18 : Nat) ≠ 12 by decide), sGo (show (18 : Nat) ≠ 11 by decide), sGo (show (18 : Nat) ≠ 10 by decide), sGo (show (19 : Nat) ≠ 13 by decide), sGo (show (19 : Nat) ≠ 12 by decide), sGo (show (19 : Nat) ≠ 11 by decide), sGo (show (19 : Nat) ≠ 10 by decide)]
      exact d i hi
  have e8 : T.1 8 = nI L.1.length := hL.1
  have loop : ∀ d k n, k + d = P.1 6 → d < n → LPf (κ := Int32 → Option (Int32 × ST)) (fun _ => none) (fun kk => mX7_isPiece_B17 kk (mX7_isPiece_X17 T (nI x) (nI y) (nI w) (nI v) (nI val)) T (nI x) (nI y) (nI w) (nI v) (nI val)) n (nI k) = match fK P val w v d k with
      | some q => some (1, sI (sG (sG (sG (sG T 10 (nI L.1.length) (nI q)) 11 (nI L.1.length) (nI x)) 12 (nI L.1.length) (nI y)) 13 (nI L.1.length) (nI (if lieB P q w v = true then 0 else 1))) 8 (nI (L.1.length + 1)))
      | none => some (0, T) := by
    intro d
    induction d with
    | zero =>
      intro k n hk hn
      obtain ⟨n, rfl⟩ : ∃ m, n = m + 1 := ⟨n - 1, by omega⟩
      rw [LP_s]
      unfold mX7_isPiece_B17
      rw [hnk, ifLe (by omega) (by omega), if_pos (by omega)]
      rfl
    | succ d ih =>
      intro k n hk hn
      obtain ⟨n, rfl⟩ : ∃ m, n = m + 1 := ⟨n - 1, by omega⟩
      have hk6 : k < P.1 6 := by omega
      obtain ⟨e4, e5, e6, e7⟩ := hkk k hk6
      obtain ⟨b4, b6, b7⟩ := hkb k hk6
      have ih' := ih (k + 1) n (by omega) (by omega)
      rw [LP_s]
      generalize LPf (κ := Int32 → Option (Int32 × ST)) (fun _ => none) (fun kk => mX7_isPiece_B17 kk (mX7_isPiece_X17 T (nI x) (nI y) (nI w) (nI v) (nI val)) T (nI x) (nI y) (nI w) (nI v) (nI val)) n = K at ih' ⊢
      unfold mX7_isPiece_B17
      rw [hnk, ifLe (by omega) (by omega), if_neg (by omega)]
      have ef : fK P val w v (d + 1) k = if P.2 6 k = val ∧ likeB P k w v = true then some k else fK P val w v d (k + 1) := rfl
      have X3 : ∀ X9, mX7_isPiece_X29 K X9 T (nI x) (nI y) (nI w) (nI v) (nI val) (nI k) (nI 2) = K (nI (k + 1)) := fun X9 => by unfold mX7_isPiece_X29; rw [nI_1]
      generalize mX7_isPiece_X17 T (nI x) (nI y) (nI w) (nI v) (nI val) = X9
      have i0 := hl0 k hk6
      have i1 := hl1 k hk6
      -- three turns at the most
      rw [FU3, LP_s, show (0 : Int32) = nI 0 from rfl]
      have B0 : ∀ KK, mX7_isPiece_B29 KK (mX7_isPiece_X29 K X9 T (nI x) (nI y) (nI w) (nI v) (nI val) (nI k)) T (nI x) (nI y) (nI w) (nI v) (nI val) (nI k) (nI 0) = if P.2 6 k = val then (if lieB P k w v = true then some (1, sI (sG (sG (sG (sG T 10 (nI L.1.length) (nI k)) 11 (nI L.1.length) (nI x)) 12 (nI L.1.length) (nI y)) 13 (nI L.1.length) (nI 0)) 8 (nI (L.1.length + 1))) else KK (nI 1)) else KK (nI 1) := by
        intro KK
        unfold mX7_isPiece_B29
        rw [l2, ifLe (by omega) (by omega), if_neg (by omega), gdI (by omega) (by omega), clI (by omega), e6, ifEq (by omega) (by omega), show mX7_isLike T (nI k) (nI 0) (nI w) (nI v) = _ from i0, Option.bind_some, ifB, e8, gdI (by omega) (by omega), gdI (by omega) (by omega), gdI (by omega) (by omega), gdI (by omega) (by omega), nI_1, nI_1]
      have B1 : ∀ KK, mX7_isPiece_B29 KK (mX7_isPiece_X29 K X9 T (nI x) (nI y) (nI w) (nI v) (nI val) (nI k)) T (nI x) (nI y) (nI w) (nI v) (nI val) (nI k) (nI 1) = if P.2 6 k = val then (if trnB P k w v = true then some (1, sI (sG (sG (sG (sG T 10 (nI L.1.length) (nI k)) 11 (nI L.1.length) (nI x)) 12 (nI L.1.length) (nI y)) 13 (nI L.1.length) (nI 1)) 8 (nI (L.1.length + 1))) else KK (nI 2)) else KK (nI 2) := by
        intro KK
        unfold mX7_isPiece_B29
        rw [l2, ifLe (by omega) (by omega), if_neg (by omega), gdI (by omega) (by omega), clI (by omega), e6, ifEq (by omega) (by omega), show mX7_isLike T (nI k) (nI 1) (nI w) (nI v) = _ from i1, Option.bind_some, ifB, e8, gdI (by omega) (by omega), gdI (by omega) (by omega), gdI (by omega) (by omega), gdI (by omega) (by omega), nI_1, nI_1]
      have B2 : ∀ KK, mX7_isPiece_B29 KK (mX7_isPiece_X29 K X9 T (nI x) (nI y) (nI w) (nI v) (nI val) (nI k)) T (nI x) (nI y) (nI w) (nI v) (nI val) (nI k) (nI 2) = K (nI (k + 1)) := by
        intro KK
        unfold mX7_isPiece_B29
        rw [l2, ifLe (by omega) (by omega), if_pos (by omega), X3]
      rw [B0, LP_s, B1, LP_s, B2, ih', ef]
      by_cases c1 : P.2 6 k = val
      · rw [if_pos c1, if_pos c1]
        by_cases c2 : lieB P k w v = true
        · rw [if_pos c2, if_pos ⟨c1, by unfold likeB; rw [c2]; rfl⟩]
          show _ = some _
          rw [if_pos c2]
        · rw [if_neg c2]
          by_cases c3 : trnB P k w v = true
          · rw [if_pos c3, if_pos ⟨c1, by unfold likeB; rw [c3, Bool.or_true]⟩]
            show _ = some _
            rw [if_neg c2]
          · rw [if_neg c3, if_neg (fun q => by
              have := q.2
              unfold likeB at this
              rw [Bool.eq_false_iff.mpr c2, Bool.eq_false_iff.mpr c3] at this
              exact Bool.noConfusion this)]
            rfl
      · rw [if_neg c1, if_neg c1, if_neg (fun q => c1 q.1)]
        rfl
  have L0 := loop (P.1 6) 0 FU (by omega) (FU_gt (by omega))
  unfold mX7_isPiece pcK
  rw [hsp, ← hval]
  rw [Option.bind_some, ifB]
  by_cases c : spB P x y w v = true
  · rw [if_pos c, if_pos c]
    exact ⟨fun k hk => (noS hk).elim, fun _ => rfl⟩
  · rw [if_neg c, if_neg c]
    refine ⟨fun k hk => ?_, fun hk => ?_⟩
    · rw [hk] at L0
      exact ⟨_, L0, add k _ rfl⟩
    · rw [hk] at L0
      exact L0
