/-! MATH, plates: the class's small methods -/
/-- the class's state has the configuration P -/
def CC (P : PC) (S : ST) : Prop := (S.1 0 = nI (P.1 0) ∧ S.1 1 = nI (P.1 1) ∧ S.1 2 = nI (P.1 2) ∧ S.1 3 = nI (P.1 3) ∧ S.1 4 = nI (P.1 4) ∧ S.1 5 = nI (P.1 5) ∧ S.1 6 = nI (P.1 6)) ∧ (∀ k, k < P.1 5 → S.2 0 (k * 4) = nI (P.2 0 k) ∧ S.2 0 (k * 4 + 1) = nI (P.2 1 k) ∧ S.2 0 (k * 4 + 2) = nI (P.2 0 k + P.2 2 k) ∧ S.2 0 (k * 4 + 3) = nI (P.2 1 k + P.2 3 k)) ∧ (∀ k, k < P.1 6 → S.2 1 k = nI (P.2 4 k) ∧ S.2 2 k = nI (P.2 5 k) ∧ S.2 3 k = nI (P.2 6 k) ∧ S.2 4 k = nI (P.2 7 k))
theorem CC_of {P : PC} {S S' : ST} (h1 : ∀ k, k < 7 → S'.1 k = S.1 k) (h2 : ∀ a, a < 5 → S'.2 a = S.2 a) (h : CC P S) : CC P S' := by
  unfold CC
  rw [h1 0 (by decide), h1 1 (by decide), h1 2 (by decide), h1 3 (by decide), h1 4 (by decide), h1 5 (by decide), h1 6 (by decide), h2 0 (by decide), h2 1 (by decide), h2 2 (by decide), h2 3 (by decide), h2 4 (by decide)]
  exact h
theorem c_isClean {P : PC} {S : ST} (ok : OKP P) (h : CC P S) {x y w v : Nat} (hx : x ≤ 16) (hy : y ≤ 16) (hw : w ≤ 16) (hv : v ≤ 16) : mX4_isClean S (nI x) (nI y) (nI w) (nI v) = some (nI (!spB P x y w v).toNat) := by
  obtain ⟨-, -, -, -, -, hd6, -, hdb, -⟩ := ok
  obtain ⟨⟨-, -, -, -, -, hnd, -⟩, hdd, -⟩ := h
  have key : ∀ d k n, k + d = P.1 5 → d < n → spN P x y w v k = false → LPf (κ := Int32 → Option (Int32)) (fun _ => none) (fun kk => mX4_isClean_B3 kk (mX4_isClean_X3 S (nI x) (nI y) (nI w) (nI v)) S (nI x) (nI y) (nI w) (nI v)) n (nI k) = some (nI (!spB P x y w v).toNat) := by
    intro d
    induction d with
    | zero =>
      intro k n hk hn hsp
      obtain ⟨n, rfl⟩ : ∃ m, n = m + 1 := ⟨n - 1, by omega⟩
      rw [LP_s]
      unfold mX4_isClean_B3
      rw [hnd, if_pos (by rw [leI (by omega) (by omega)]; omega)]
      obtain rfl : k = P.1 5 := by omega
      unfold spB
      rw [hsp]
      rfl
    | succ d ih =>
      intro k n hk hn hsp
      obtain ⟨n, rfl⟩ : ∃ m, n = m + 1 := ⟨n - 1, by omega⟩
      have hk5 : k < P.1 5 := by omega
      obtain ⟨e0, e1, e2, e3⟩ := hdd k hk5
      obtain ⟨b0, b1, b2, b3⟩ := hdb k hk5
      have ih' := ih (k + 1) n (by omega) (by omega)
      rw [LP_s]
      generalize LPf (κ := Int32 → Option (Int32)) (fun _ => none) (fun kk => mX4_isClean_B3 kk (mX4_isClean_X3 S (nI x) (nI y) (nI w) (nI v)) S (nI x) (nI y) (nI w) (nI v)) n = K at ih' ⊢
      unfold mX4_isClean_B3
      rw [hnd, if_neg (by rw [leI (by omega) (by omega)]; omega), l6, if_neg (by rw [leI (by omega) (by omega)]; omega)]
      simp (disch := omega) only [l1, l2, l3, l4, pk_mul, nI_add, gdI, clI, e0, e1, e2, e3, ifLe]
      have es : spN P x y w v (k + 1) = (spN P x y w v k || ovl P k x y w v) := rfl
      rw [hsp, Bool.false_or] at es
      by_cases ho : P.2 0 k < x + w ∧ x < P.2 0 k + P.2 2 k ∧ P.2 1 k < y + v ∧ y < P.2 1 k + P.2 3 k
      · rw [if_neg (by omega), if_neg (by omega), if_neg (by omega), if_neg (by omega)]
        have : spB P x y w v = true := (spN_iff P x y w v _).mpr ⟨k, hk5, decide_eq_true ho⟩
        rw [this]
        rfl
      · have ih2 := ih' (es.trans (decide_eq_false ho))
        by_cases c1 : P.2 0 k + P.2 2 k ≤ x
        · rw [if_pos c1]; exact ih2
        · rw [if_neg c1]
          by_cases c2 : x + w ≤ P.2 0 k
          · rw [if_pos c2]; exact ih2
          · rw [if_neg c2]
            by_cases c3 : P.2 1 k + P.2 3 k ≤ y
            · rw [if_pos c3]; exact ih2
            · rw [if_neg c3, if_pos (by omega)]; exact ih2
  exact key (P.1 5) 0 FU (by omega) (FU_gt (by omega)) rfl
theorem c_partsWidth {P : PC} {S : ST} (ok : OKP P) (h : CC P S) {st : Nat} (h1 : 1 ≤ st) (h4 : st ≤ 4) : mX4_partsWidth S (nI st) = some (nI (1 - wayP P st)) := by
  obtain ⟨-, -, -, -, hf, -⟩ := ok
  obtain ⟨⟨-, -, -, -, e4, -⟩, -⟩ := h
  have key : ∀ f, f < 2 → ∀ s, s < 5 → 1 ≤ s → (if (((nI f + nI s) - (1 : Int32)) &&& (1 : Int32)) = 0 then some (1 : Int32) else some (0 : Int32)) = some (nI (1 - (f + s + 1) % 2)) := by decide +kernel
  unfold mX4_partsWidth wayP
  rw [e4]
  exact key (P.1 4) (by omega) st (by omega) h1
theorem c_lastCut {P : PC} {S : ST} (ok : OKP P) (h : CC P S) {w v st : Nat} (h1 : 1 ≤ st) (h4 : st ≤ 4) : mX4_lastCut S (nI w) (nI v) (nI st) = some ((nI (sideP P st w v) - nI (P.1 2)) - 1) := by
  have hp := c_partsWidth ok h h1 h4
  have e2 : S.1 2 = nI (P.1 2) := h.1.2.2.1
  have hw2 : wayP P st < 2 := Nat.mod_lt _ (by decide)
  unfold mX4_lastCut
  rw [hp]
  simp (disch := omega) only [Option.bind_some, ifEq, ifEq0]
  unfold mX4_lastCut_J13 sideP
  rw [e2]
  by_cases hy : wayP P st = 0
  · rw [if_neg (by omega), if_pos hy]
  · rw [if_pos (by omega), if_neg hy]
theorem last_lt {s k c : Nat} (hs : s ≤ 16) (hk : k ≤ 2) (hc : c ≤ 17) (c1 : 1 ≤ c) : (((nI s - nI k) - 1) < nI c) = (s ≤ c + k) := by
  have key : ∀ s, s < 17 → ∀ k, k < 3 → ∀ c, c < 18 → 1 ≤ c → ((((nI s - nI k) - 1) < nI c) ↔ (s ≤ c + k)) := by decide +kernel
  exact propext (key s (by omega) k (by omega) c (by omega) c1)
theorem c_lies {P : PC} {S : ST} (ok : OKP P) (h : CC P S) {k w v : Nat} (hk : k < P.1 6) (hw : w ≤ 16) (hv : v ≤ 16) : mX1_lies S (nI k) (nI w) (nI v) = some (nI (lieB P k w v).toNat) := by
  obtain ⟨-, -, -, -, -, -, hk8, -, hkb⟩ := ok
  obtain ⟨-, -, hkk⟩ := h
  obtain ⟨e4, e5, e6, e7⟩ := hkk k hk
  obtain ⟨⟨b4, b5⟩, b6, b7⟩ := hkb k hk
  unfold mX1_lies lieB
  simp (disch := omega) only [gdI, clI, e4, e5, ifEq]
  by_cases c1 : P.2 4 k = w
  · by_cases c2 : P.2 5 k = v
    · rw [if_pos c1, if_pos c2, decide_eq_true ⟨c1, c2⟩]; rfl
    · rw [if_pos c1, if_neg c2, decide_eq_false (fun q => c2 q.2)]; rfl
  · rw [if_neg c1, decide_eq_false (fun q => c1 q.1)]; rfl
theorem c_liesTurned {P : PC} {S : ST} (ok : OKP P) (h : CC P S) {k w v : Nat} (hk : k < P.1 6) (hw : w ≤ 16) (hv : v ≤ 16) : mX1_liesTurned S (nI k) (nI w) (nI v) = some (nI (trnB P k w v).toNat) := by
  obtain ⟨-, -, -, -, -, -, hk8, -, hkb⟩ := ok
  obtain ⟨-, -, hkk⟩ := h
  obtain ⟨e4, e5, e6, e7⟩ := hkk k hk
  obtain ⟨⟨b4, b5⟩, b6, b7⟩ := hkb k hk
  unfold mX1_liesTurned trnB
  simp (disch := omega) only [gdI, clI, e4, e5, e7, ifEq, ifEq0]
  by_cases c0 : P.2 7 k = 0
  · rw [if_pos c0, decide_eq_false (fun q => by omega)]; rfl
  · have c7 : P.2 7 k = 1 := by omega
    rw [if_neg c0]
    by_cases c1 : P.2 4 k = v
    · by_cases c2 : P.2 5 k = w
      · rw [if_pos c1, if_pos c2, decide_eq_true ⟨c7, c2, c1⟩]; rfl
      · rw [if_pos c1, if_neg c2, decide_eq_false (fun q => c2 q.2.1)]; rfl
    · rw [if_neg c1, decide_eq_false (fun q => c1 q.2.2)]; rfl
theorem c_mostValue {P : PC} {S : ST} (ok : OKP P) (h : CC P S) {w v : Nat} (hw : w ≤ 16) (hv : v ≤ 16) : mX1_mostValue S (nI w) (nI v) = some (nI (bpN P w v (P.1 6))) := by
  have hl0 := fun k (hk : k < P.1 6) => c_lies ok h hk hw hv
  have hl1 := fun k (hk : k < P.1 6) => c_liesTurned ok h hk hw hv
  obtain ⟨-, -, -, -, -, -, hk8, -, hkb⟩ := ok
  obtain ⟨⟨-, -, -, -, -, -, hnk⟩, -, hkk⟩ := h
  have hb : ∀ n, n ≤ P.1 6 → bpN P w v n ≤ 1000 := fun n hn => bpN_le P w v n (fun k hk => (hkb k (by omega)).2.1.2)
  have key : ∀ d k n, k + d = P.1 6 → d < n → LPf (κ := Int32 → Int32 → Option (Int32)) (fun _ _ => none) (fun kk => mX1_mostValue_B5 kk (mX1_mostValue_X5 S (nI w) (nI v)) S (nI w) (nI v)) n (nI (bpN P w v k)) (nI k) = some (nI (bpN P w v (P.1 6))) := by
    intro d
    induction d with
    | zero =>
      intro k n hk hn
      obtain ⟨n, rfl⟩ : ∃ m, n = m + 1 := ⟨n - 1, by omega⟩
      rw [LP_s]
      unfold mX1_mostValue_B5
      rw [hnk, if_pos (by rw [leI (by omega) (by omega)]; omega)]
      obtain rfl : k = P.1 6 := by omega
      rfl
    | succ d ih =>
      intro k n hk hn
      obtain ⟨n, rfl⟩ : ∃ m, n = m + 1 := ⟨n - 1, by omega⟩
      have hk6 : k < P.1 6 := by omega
      obtain ⟨e4, e5, e6, e7⟩ := hkk k hk6
      obtain ⟨b4, b6, b7⟩ := hkb k hk6
      have hbk := hb k (by omega)
      have ih' := ih (k + 1) n (by omega) (by omega)
      rw [LP_s]
      generalize LPf (κ := Int32 → Int32 → Option (Int32)) (fun _ _ => none) (fun kk => mX1_mostValue_B5 kk (mX1_mostValue_X5 S (nI w) (nI v)) S (nI w) (nI v)) n = K at ih' ⊢
      unfold mX1_mostValue_B5
      rw [hnk, if_neg (by rw [leI (by omega) (by omega)]; omega), l8, if_neg (by rw [leI (by omega) (by omega)]; omega), hl0 k hk6, hl1 k hk6, nI_1]
      have eb : bpN P w v (k + 1) = if likeB P k w v = true then max (bpN P w v k) (P.2 6 k) else bpN P w v k := rfl
      simp (disch := omega) only [Option.bind_some, gdI, clI, e6, ifLt]
      have fin : likeB P k w v = true → K (if bpN P w v k < P.2 6 k then nI (P.2 6 k) else nI (bpN P w v k)) (nI (k + 1)) = some (nI (bpN P w v (P.1 6))) := by
        intro hl
        rw [eb, if_pos hl] at ih'
        by_cases c : bpN P w v k < P.2 6 k
        · rw [if_pos c]; rw [Nat.max_eq_right (by omega)] at ih'; exact ih'
        · rw [if_neg c]; rw [Nat.max_eq_left (by omega)] at ih'; exact ih'
      cases hli : lieB P k w v with
      | true =>
        rw [if_neg (by decide)]
        exact fin (by unfold likeB; rw [hli]; rfl)
      | false =>
        rw [if_pos (by decide)]
        cases htr : trnB P k w v with
        | true =>
          rw [if_neg (by decide)]
          exact fin (by unfold likeB; rw [hli, htr]; rfl)
        | false =>
          rw [if_pos (by decide)]
          rw [eb, if_neg (by unfold likeB; rw [hli, htr]; decide)] at ih'
          exact ih'
  exact key (P.1 6) 0 FU (by omega) (FU_gt (by omega))
