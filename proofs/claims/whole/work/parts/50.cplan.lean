/-! MATH, plates: the class lays THE PLAN -/
def oI (o : Option Nat) : Int32 := match o with
  | some k => nI k
  | none => -1
theorem nI_nm1 {k : Nat} (h : k < 2147483648) : ¬ (nI k = -1) := by
  intro e
  have a := congrArg Int32.toInt e
  rw [nI_toInt h] at a
  have b : (-1 : Int32).toInt = -1 := by decide
  omega
theorem sGs {S : ST} {k a q : Nat} {x : Int32} (ha : a < 2147483648) : (sG S k (nI a) x).2 k q = if q = a then x else S.2 k q := by
  rw [sG_g, if_pos rfl, updE, clI ha]
theorem sGo {S : ST} {k j : Nat} {i x : Int32} (h : j ≠ k) : (sG S k i x).2 j = S.2 j := by rw [sG_g, if_neg h]
theorem c_firstOfValue {P : PC} {S : ST} (ok : OKP P) (h : CC P S) {w v val : Nat} (hw : w ≤ 16) (hv : v ≤ 16) (hval : val ≤ 1000000) : mX1_firstOfValue S (nI w) (nI v) (nI val) = some (oI (fK P val w v (P.1 6) 0)) := by
  have hl0 := fun k (hk : k < P.1 6) => c_lies ok h hk hw hv
  have hl1 := fun k (hk : k < P.1 6) => c_liesTurned ok h hk hw hv
  obtain ⟨-, -, -, -, -, -, hk8, -, hkb⟩ := ok
  obtain ⟨⟨-, -, -, -, -, -, hnk⟩, -, hkk⟩ := h
  have key : ∀ d k n, k + d = P.1 6 → d < n → LPf (κ := Int32 → Option (Int32)) (fun _ => none) (fun kk => mX1_firstOfValue_B3 kk (mX1_firstOfValue_X3 S (nI w) (nI v) (nI val)) S (nI w) (nI v) (nI val)) n (nI k) = some (oI (fK P val w v d k)) := by
    intro d
    induction d with
    | zero =>
      intro k n hk hn
      obtain ⟨n, rfl⟩ : ∃ m, n = m + 1 := ⟨n - 1, by omega⟩
      rw [LP_s]
      unfold mX1_firstOfValue_B3
      rw [hnk, ifLe (by omega) (by omega), if_pos (by omega)]
      rfl
    | succ d ih =>
      intro k n hk hn
      obtain ⟨n, rfl⟩ : ∃ m, n = m + 1 := ⟨n - 1, by omega⟩
      have hk6 : k < P.1 6 := by omega
      obtain ⟨e4, e5, e6, e7⟩ := hkk k hk6
      obtain ⟨b4, b6, b7⟩ := hkb k hk6
      have ih' := ih (k + 1) n (by omega) (by omega)
      rw [LP_s]
      generalize LPf (κ := Int32 → Option (Int32)) (fun _ => none) (fun kk => mX1_firstOfValue_B3 kk (mX1_firstOfValue_X3 S (nI w) (nI v) (nI val)) S (nI w) (nI v) (nI val)) n = K at ih' ⊢
      unfold mX1_firstOfValue_B3
      rw [hnk, ifLe (by omega) (by omega), if_neg (by omega), l8, ifLe (by omega) (by omega), if_neg (by omega), gdI (by omega) (by omega), clI (by omega), e6, ifEq (by omega) (by omega), hl0 k hk6, Option.bind_some, ifB, hl1 k hk6, Option.bind_some, ifB, nI_1]
      have ef : fK P val w v (d + 1) k = if P.2 6 k = val ∧ likeB P k w v = true then some k else fK P val w v d (k + 1) := rfl
      rw [ef]
      by_cases c1 : P.2 6 k = val
      · rw [if_pos c1]
        by_cases c2 : lieB P k w v = true
        · rw [if_pos c2, if_pos ⟨c1, by unfold likeB; rw [c2]; rfl⟩]
          rfl
        · rw [if_neg c2]
          by_cases c3 : trnB P k w v = true
          · rw [if_pos c3, if_pos ⟨c1, by unfold likeB; rw [c3, Bool.or_true]⟩]
            rfl
          · rw [if_neg c3, if_neg (fun q => by
              have := q.2
              unfold likeB at this
              rw [Bool.eq_false_iff.mpr c2, Bool.eq_false_iff.mpr c3] at this
              exact Bool.noConfusion this)]
            exact ih'
      · rw [if_neg c1, if_neg (fun q => c1 q.1)]
        exact ih'
  exact key (P.1 6) 0 FU (by omega) (FU_gt (by omega))
theorem c_firstCut {P : PC} {S : ST} (ok : OKP P) (h : CC P S) (ht : TBC P S) {st x y w v : Nat} (s1 : 1 ≤ st) (s3 : st ≤ P.1 3) (hw : 1 ≤ w) (hxw : x + w ≤ P.1 0) (hv : 1 ≤ v) (hyv : y + v ≤ P.1 1) : mX2_firstCut S (nI x) (nI y) (nI w) (nI v) (nI st) (nI (worth P st x y w v)) = some (oI (ctK P st x y w v)) := by
  obtain ⟨⟨-, w16⟩, ⟨-, h16⟩, k2, ⟨g1, g4⟩, -⟩ := id ok
  have eK : S.1 2 = nI (P.1 2) := h.1.2.2.1
  have hw2 : wayP P st < 2 := Nat.mod_lt _ (by decide)
  have hsd : sideP P st w v ≤ 16 := by unfold sideP; by_cases hy : wayP P st = 0 <;> simp [hy] <;> omega
  have wl := worth_lt ok (st := st) (x := x) (y := y) hw (by omega) hv (by omega)
  unfold mX2_firstCut
  rw [c_lastCut ok h s1 (by omega), Option.bind_some, c_partsWidth ok h s1 (by omega), Option.bind_some]
  have key : ∀ d c n, c + d = sideP P st w v - P.1 2 - 1 + 1 → 1 ≤ c → d < n → LPf (κ := Int32 → Option (Int32)) (fun _ => none) (fun kk => mX2_firstCut_B28 kk (mX2_firstCut_X28 S (nI x) (nI y) (nI w) (nI v) (nI st) (nI (worth P st x y w v)) (nI (sideP P st w v) - nI (P.1 2) - 1) (nI (1 - wayP P st))) S (nI x) (nI y) (nI w) (nI v) (nI st) (nI (worth P st x y w v)) (nI (sideP P st w v) - nI (P.1 2) - 1) (nI (1 - wayP P st))) n (nI c) = some (oI (fC (cutP P (worth P) st x y w v) (worth P st x y w v) d c)) := by
    intro d
    induction d with
    | zero =>
      intro c n hc c1 hn
      obtain ⟨n, rfl⟩ : ∃ m, n = m + 1 := ⟨n - 1, by omega⟩
      rw [LP_s]
      unfold mX2_firstCut_B28
      rw [if_pos (by rw [last_lt hsd k2 (by omega) c1]; omega)]
      rfl
    | succ d ihd =>
      intro c n hc c1 hn
      obtain ⟨n, rfl⟩ : ∃ m, n = m + 1 := ⟨n - 1, by omega⟩
      have c2 : c + P.1 2 < sideP P st w v := by omega
      have ihc := ihd (c + 1) n (by omega) (by omega) (by omega)
      have b1 := cut_lt ok (st := st) (x := x) (y := y) hw (by omega) hv (by omega) c1 c2
      rw [LP_s]
      generalize LPf (κ := Int32 → Option (Int32)) (fun _ => none) (fun kk => mX2_firstCut_B28 kk (mX2_firstCut_X28 S (nI x) (nI y) (nI w) (nI v) (nI st) (nI (worth P st x y w v)) (nI (sideP P st w v) - nI (P.1 2) - 1) (nI (1 - wayP P st))) S (nI x) (nI y) (nI w) (nI v) (nI st) (nI (worth P st x y w v)) (nI (sideP P st w v) - nI (P.1 2) - 1) (nI (1 - wayP P st))) n = K at ihc ⊢
      generalize mX2_firstCut_X28 S (nI x) (nI y) (nI w) (nI v) (nI st) (nI (worth P st x y w v)) (nI (sideP P st w v) - nI (P.1 2) - 1) (nI (1 - wayP P st)) = KX
      have ef : fC (cutP P (worth P) st x y w v) (worth P st x y w v) (d + 1) c = if cutP P (worth P) st x y w v c = worth P st x y w v then some c else fC (cutP P (worth P) st x y w v) (worth P st x y w v) d (c + 1) := rfl
      have hJ : ∀ r bh, mX2_firstCut_J126 K KX S (nI x) (nI y) (nI w) (nI v) (nI st) (nI (worth P st x y w v)) r (nI (1 - wayP P st)) (nI c) bh (nI (cutP P (worth P) st x y w v c)) = some (oI (fC (cutP P (worth P) st x y w v) (worth P st x y w v) (d + 1) c)) := by
        intro r bh
        unfold mX2_firstCut_J126
        rw [ifEq (by omega) (by omega), nI_1, ef]
        by_cases q : cutP P (worth P) st x y w v c = worth P st x y w v
        · rw [if_pos q, if_pos q]; rfl
        · rw [if_neg q, if_neg q]; exact ihc
      unfold mX2_firstCut_B28
      rw [if_neg (by rw [last_lt hsd k2 (by omega) c1]; omega), eK, ifEq0 (by omega)]
      unfold sideP at c2
      by_cases hy : wayP P st = 0
      · rw [if_pos hy] at c2
        have e : cutP P (worth P) st x y w v c = worth P st x y c v + worth P st (x + c + P.1 2) y (w - c - P.1 2) v := by unfold cutP; rw [if_pos hy]
        rw [if_neg (by omega), c_of ok h ht s1 s3 c1 (by omega) hv hyv, Option.bind_some, nI_add, nI_add, pk_sub (by omega), show w - (c + P.1 2) = w - c - P.1 2 by omega, show x + (c + P.1 2) = x + c + P.1 2 by omega, c_of ok h ht s1 s3 (by omega) (by omega) hv hyv, Option.bind_some, nI_add, ← e]
        exact hJ _ _
      · rw [if_neg hy] at c2
        have e : cutP P (worth P) st x y w v c = worth P st x y w c + worth P st x (y + c + P.1 2) w (v - c - P.1 2) := by unfold cutP; rw [if_neg hy]
        rw [if_pos (by omega), c_of ok h ht s1 s3 hw hxw c1 (by omega), Option.bind_some, nI_add, nI_add, pk_sub (by omega), show v - (c + P.1 2) = v - c - P.1 2 by omega, show y + (c + P.1 2) = y + c + P.1 2 by omega, c_of ok h ht s1 s3 hw hxw (by omega) (by omega), Option.bind_some, nI_add, ← e]
        exact hJ _ _
  exact key (sideP P st w v - P.1 2 - 1) 1 FU (by omega) (by omega) (FU_gt (by omega))
theorem l34 : (34 : Int32) = nI 34 := rfl
/-- the class's lists are L -/
def PLc (P : PC) (S : ST) (L : PLN) : Prop := S.1 8 = nI L.1.length ∧ S.1 9 = nI L.2.length ∧ S.1 10 = nI (P.1 0 * P.1 1 - ar L.1) ∧ (∀ i j, i < L.1.length → j < 6 → S.2 7 (i * 6 + j) = nI ((L.1.getD i []).getD j 0)) ∧ (∀ i j, i < L.2.length → j < 7 → S.2 8 (i * 7 + j) = nI ((L.2.getD i []).getD j 0))
def FRc (S S' : ST) : Prop := (∀ k, k ≠ 8 → k ≠ 9 → k ≠ 10 → S'.1 k = S.1 k) ∧ (∀ a, a ≠ 7 → a ≠ 8 → S'.2 a = S.2 a)
theorem FRc_CC {P : PC} {S S' : ST} (f : FRc S S') (h : CC P S) : CC P S' := CC_of (fun k hk => f.1 k (by omega) (by omega) (by omega)) (fun a ha => f.2 a (by omega) (by omega)) h
theorem FRc_TBC {P : PC} {S S' : ST} (f : FRc S S') (h : TBC P S) : TBC P S' := by
  refine ⟨fun st w v a b c d e g => ?_, fun q st x y w v a b c d e g => ?_⟩
  · unfold tblS; rw [f.2 5 (by decide) (by decide)]; exact h.1 st w v a b c d e g
  · unfold tblC; rw [f.2 6 (by decide) (by decide)]; exact h.2 q st x y w v a b c d e g
theorem FRc_tr {S S' S'' : ST} (f : FRc S S') (g : FRc S' S'') : FRc S S'' := ⟨fun k a b c => (g.1 k a b c).trans (f.1 k a b c), fun a b c => (g.2 a b c).trans (f.2 a b c)⟩
theorem getD_app {α : Type} (L M : List α) (d : α) (i : Nat) : (L ++ M).getD i d = if i < L.length then L.getD i d else M.getD (i - L.length) d := by
  by_cases h : i < L.length
  · rw [if_pos h]; simp [List.getD, List.getElem?_append_left h]
  · rw [if_neg h]; simp [List.getD, List.getElem?_append_right (Nat.not_lt.mp h)]
theorem l256 : (256 : Int32) = nI 256 := rfl
theorem l255 : (255 : Int32) = nI 255 := rfl
theorem c_addPiece {P : PC} {S : ST} (ok : OKP P) (h : CC P S) {L : PLN} (hL : PLc P S L) {k x y w v : Nat} (hk : k < P.1 6) (hw : w ≤ 16) (hv : v ≤ 16) (hn : L.1.length < 256) (ha : ar L.1 + w * v ≤ P.1 0 * P.1 1) : ∃ S', mX2_addPiece S (nI k) (nI x) (nI y) (nI w) (nI v) = some S' ∧ FRc S S' ∧ PLc P S' (L.1 ++ [pRow P k x y w v], L.2) := by
  obtain ⟨p8, p9, p10, p7, pc⟩ := hL
  have hWH : P.1 0 * P.1 1 ≤ 16 * 16 := Nat.mul_le_mul ok.1.2 ok.2.1.2
  have hk8 := ok.2.2.2.2.2.2.1
  unfold mX2_addPiece
  rw [p8, l256, ifLt (by omega) (by omega), if_pos hn, l6, l1, l2, l3, l4, l5, l0]
  rw [pk_mul, nI_add, nI_add, nI_add, nI_add, nI_add, gdI (by omega) (by omega), gdI (by omega) (by omega), gdI (by omega) (by omega), gdI (by omega) (by omega), gdI (by omega) (by omega)]
  obtain ⟨S5, hS5⟩ : ∃ z, z = sG (sG (sG (sG (sG S 7 (nI (L.1.length * 6)) (nI k)) 7 (nI (L.1.length * 6 + 1)) (nI x)) 7 (nI (L.1.length * 6 + 2)) (nI y)) 7 (nI (L.1.length * 6 + 3)) (nI w)) 7 (nI (L.1.length * 6 + 4)) (nI v) := ⟨_, rfl⟩
  rw [← hS5]
  have f5 : S5.1 = S.1 := by rw [hS5]; rfl
  have g5 : ∀ a, a ≠ 7 → S5.2 a = S.2 a := fun a ha => by rw [hS5, sGo ha, sGo ha, sGo ha, sGo ha, sGo ha]
  have h5 : CC P S5 := CC_of (fun k _ => by rw [f5]) (fun a ha => g5 a (by omega)) h
  rw [c_lies ok h5 hk hw hv, Option.bind_some]
  have fin : ∀ t : Nat, t = (if lieB P k w v = true then 0 else 1) → ∃ S', mX2_addPiece_J98 S5 (nI k) (nI x) (nI y) (nI w) (nI v) (nI (L.1.length * 6)) (nI t) (nI (L.1.length * 6 + 5)) = some S' ∧ FRc S S' ∧ PLc P S' (L.1 ++ [pRow P k x y w v], L.2) := by
    intro t ht
    unfold mX2_addPiece_J98
    rw [gdI (by omega) (by omega)]
    refine ⟨_, rfl, ⟨fun q a b c => ?_, fun a b c => ?_⟩, ?_, ?_, ?_, fun i j hi hj => ?_, fun i j hi hj => ?_⟩
    · rw [sI_i, if_neg c, sI_i, if_neg a, sG_i, f5]
    · rw [sI_g, sI_g, sGo b, g5 a b]
    · rw [sI_i, if_neg (by decide), sI_i, if_pos rfl, f5, p8, nI_1]
      show _ = nI (L.1 ++ [pRow P k x y w v]).length
      rw [List.length_append]
      rfl
    · rw [sI_i, if_neg (by decide), sI_i, if_neg (by decide), sG_i, f5]
      exact p9
    · rw [sI_i, if_pos rfl, f5, p10, pk_mul, pk_sub (by omega)]
      show _ = nI (P.1 0 * P.1 1 - ar (L.1 ++ [pRow P k x y w v]))
      rw [ar_app]
      show _ = nI (P.1 0 * P.1 1 - (ar L.1 + (w * v + 0)))
      congr 1
      omega
    · show _ = nI (((L.1 ++ [pRow P k x y w v]).getD i []).getD j 0)
      have hi2 : i < L.1.length + 1 := by
        have : (L.1 ++ [pRow P k x y w v]).length = L.1.length + 1 := by rw [List.length_append]; rfl
        rw [← this]; exact hi
      rw [getD_app, sI_g, sI_g, sGs (by omega), hS5, sGs (by omega), sGs (by omega), sGs (by omega), sGs (by omega), sGs (by omega)]
      by_cases c : i < L.1.length
      · rw [if_neg (by omega), if_neg (by omega), if_neg (by omega), if_neg (by omega), if_neg (by omega), if_neg (by omega), if_pos c]
        exact p7 i j c hj
      · obtain rfl : i = L.1.length := by omega
        rw [if_neg c, Nat.sub_self]
        match j, hj with
        | 0, _ => rw [if_neg (by omega), if_neg (by omega), if_neg (by omega), if_neg (by omega), if_neg (by omega), if_pos (by omega)]; rfl
        | 1, _ => rw [if_neg (by omega), if_neg (by omega), if_neg (by omega), if_neg (by omega), if_pos (by omega)]; rfl
        | 2, _ => rw [if_neg (by omega), if_neg (by omega), if_neg (by omega), if_pos (by omega)]; rfl
        | 3, _ => rw [if_neg (by omega), if_neg (by omega), if_pos (by omega)]; rfl
        | 4, _ => rw [if_neg (by omega), if_pos (by omega)]; rfl
        | 5, _ => rw [if_pos (by omega), ht]; rfl
        | j + 6, hj => exact absurd hj (by omega)
    · rw [sI_g, sI_g, sGo (by decide), g5 8 (by decide)]
      exact pc i j hi hj
  rw [show nI 0 = (0 : Int32) from rfl, ifB]
  by_cases c : lieB P k w v = true
  · rw [if_pos c]
    exact fin 0 (by rw [if_pos c])
  · rw [if_neg c]
    exact fin 1 (by rw [if_neg c])
theorem c_addCut {P : PC} {S : ST} (ok : OKP P) (h : CC P S) {L : PLN} (hL : PLc P S L) {st x y w v c : Nat} (s1 : 1 ≤ st) (s4 : st ≤ 4) (hn : L.2.length < 255) : ∃ S', mX2_addCut S (nI x) (nI y) (nI w) (nI v) (nI st) (nI c) = some S' ∧ FRc S S' ∧ PLc P S' (L.1, L.2 ++ [cRow P st x y w v c]) := by
  obtain ⟨p8, p9, p10, p7, pc⟩ := hL
  have hw2 : wayP P st < 2 := Nat.mod_lt _ (by decide)
  unfold mX2_addCut
  rw [p9, l255, ifLt (by omega) (by omega), if_pos hn, c_partsWidth ok h s1 s4, Option.bind_some, l7, pk_mul, gdI (by omega) (by omega), ifEq0 (by omega)]
  have fin : ∀ t0 t2 r, t0 = wayP P st → t2 = (if wayP P st = 0 then x else y) → ∃ S', mX2_addCut_J77 (sG (sG S 8 (nI (L.2.length * 7)) (nI st)) 8 (nI (L.2.length * 7 + 1)) (nI t0)) (nI x) (nI y) (nI w) (nI v) (nI st) (nI c) r (nI (L.2.length * 7)) (nI t2) (nI (L.2.length * 7 + 2)) = some S' ∧ FRc S S' ∧ PLc P S' (L.1, L.2 ++ [cRow P st x y w v c]) := by
    intro t0 t2 r ht0 ht2
    unfold mX2_addCut_J77
    rw [l3, l4, l5, l6, nI_add, nI_add, nI_add, nI_add, nI_add, gdI (by omega) (by omega), gdI (by omega) (by omega), gdI (by omega) (by omega), gdI (by omega) (by omega), gdI (by omega) (by omega)]
    refine ⟨_, rfl, ⟨fun q a b c => ?_, fun a b c => ?_⟩, ?_, ?_, ?_, fun i j hi hj => ?_, fun i j hi hj => ?_⟩
    · rw [sI_i, if_neg b]; rfl
    · rw [sI_g, sGo c, sGo c, sGo c, sGo c, sGo c, sGo c, sGo c]
    · rw [sI_i, if_neg (by decide)]; exact p8
    · rw [sI_i, if_pos rfl]
      show S.1 9 + 1 = nI (L.2 ++ [cRow P st x y w v c]).length
      rw [p9, nI_1, List.length_append]
      rfl
    · rw [sI_i, if_neg (by decide)]; exact p10
    · rw [sI_g, sGo (by decide), sGo (by decide), sGo (by decide), sGo (by decide), sGo (by decide), sGo (by decide), sGo (by decide)]
      exact p7 i j hi hj
    · show _ = nI (((L.2 ++ [cRow P st x y w v c]).getD i []).getD j 0)
      have hi2 : i < L.2.length + 1 := by
        have : (L.2 ++ [cRow P st x y w v c]).length = L.2.length + 1 := by rw [List.length_append]; rfl
        rw [← this]; exact hi
      rw [getD_app, sI_g, sGs (by omega), sGs (by omega), sGs (by omega), sGs (by omega), sGs (by omega), sGs (by omega), sGs (by omega)]
      by_cases q : i < L.2.length
      · rw [if_neg (by omega), if_neg (by omega), if_neg (by omega), if_neg (by omega), if_neg (by omega), if_neg (by omega), if_neg (by omega), if_pos q]
        exact pc i j q hj
      · obtain rfl : i = L.2.length := by omega
        rw [if_neg q, Nat.sub_self]
        match j, hj with
        | 0, _ => rw [if_neg (by omega), if_neg (by omega), if_neg (by omega), if_neg (by omega), if_neg (by omega), if_neg (by omega), if_pos (by omega)]; rfl
        | 1, _ => rw [if_neg (by omega), if_neg (by omega), if_neg (by omega), if_neg (by omega), if_neg (by omega), if_pos (by omega), ht0]; rfl
        | 2, _ =>
          rw [if_neg (by omega), if_neg (by omega), if_neg (by omega), if_neg (by omega), if_pos (by omega), ht2]
          show _ = nI (if wayP P st = 0 then x + c else y + c)
          by_cases hy : wayP P st = 0
          · rw [if_pos hy, if_pos hy]
          · rw [if_neg hy, if_neg hy]
        | 3, _ => rw [if_neg (by omega), if_neg (by omega), if_neg (by omega), if_pos (by omega)]; rfl
        | 4, _ => rw [if_neg (by omega), if_neg (by omega), if_pos (by omega)]; rfl
        | 5, _ => rw [if_neg (by omega), if_pos (by omega)]; rfl
        | 6, _ => rw [if_pos (by omega)]; rfl
        | j + 7, hj => exact absurd hj (by omega)
  by_cases hy : wayP P st = 0
  · rw [if_neg (by omega)]
    unfold mX2_addCut_J58
    rw [l1, l2, nI_add, nI_add, gdI (by omega) (by omega), ifEq0 (by omega), if_neg (by omega)]
    exact fin 0 x _ hy.symm (by rw [if_pos hy])
  · rw [if_pos (by omega)]
    unfold mX2_addCut_J58
    rw [l1, l2, nI_add, nI_add, gdI (by omega) (by omega), ifEq0 (by omega), if_pos (by omega)]
    exact fin 1 y _ (by omega) (by rw [if_neg hy])
