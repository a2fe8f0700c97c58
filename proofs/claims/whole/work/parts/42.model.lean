/-! MATH, plates: the reference's small methods -/
def OKP (P : PC) : Prop := (1 ≤ P.1 0 ∧ P.1 0 ≤ 16) ∧ (1 ≤ P.1 1 ∧ P.1 1 ≤ 16) ∧ P.1 2 ≤ 2 ∧ (1 ≤ P.1 3 ∧ P.1 3 ≤ 4) ∧ P.1 4 ≤ 1 ∧ P.1 5 ≤ 6 ∧ P.1 6 ≤ 8 ∧ (∀ k, k < P.1 5 → P.2 0 k ≤ 16 ∧ P.2 1 k ≤ 16 ∧ P.2 2 k ≤ 16 ∧ P.2 3 k ≤ 16) ∧ (∀ k, k < P.1 6 → (P.2 4 k ≤ 16 ∧ P.2 5 k ≤ 16) ∧ (1 ≤ P.2 6 k ∧ P.2 6 k ≤ 1000) ∧ P.2 7 k ≤ 1)
/-- the reference's state has the configuration P -/
def CM (P : PC) (T : ST) : Prop := (T.1 0 = nI (P.1 0) ∧ T.1 1 = nI (P.1 1) ∧ T.1 2 = nI (P.1 2) ∧ T.1 3 = nI (P.1 3) ∧ T.1 4 = nI (P.1 4) ∧ T.1 5 = nI (P.1 5) ∧ T.1 6 = nI (P.1 6)) ∧ (∀ k, k < P.1 5 → T.2 0 k = nI (P.2 0 k) ∧ T.2 1 k = nI (P.2 1 k) ∧ T.2 2 k = nI (P.2 2 k) ∧ T.2 3 k = nI (P.2 3 k)) ∧ (∀ k, k < P.1 6 → T.2 4 k = nI (P.2 4 k) ∧ T.2 5 k = nI (P.2 5 k) ∧ T.2 6 k = nI (P.2 6 k) ∧ T.2 7 k = nI (P.2 7 k))
theorem zBb (b : Bool) : zB (nI b.toNat) = true := by cases b <;> decide
theorem FU_gt {d : Nat} (h : d < 99999) : d < FU := Nat.lt_trans h (by decide)
theorem m_isSpoiled {P : PC} {T : ST} (ok : OKP P) (h : CM P T) {x y w v : Nat} (hx : x ≤ 16) (hy : y ≤ 16) (hw : w ≤ 16) (hv : v ≤ 16) : mX7_isSpoiled T (nI x) (nI y) (nI w) (nI v) = some (nI (spB P x y w v).toNat) := by
  obtain ⟨-, -, -, -, -, hd6, -, hdb, -⟩ := ok
  obtain ⟨⟨-, -, -, -, -, hnd, -⟩, hdd, -⟩ := h
  have key : ∀ d k n, k + d = P.1 5 → d < n → LPf (κ := Int32 → Int32 → Option (Int32)) (fun _ _ => none) (fun kk => mX7_isSpoiled_B6 kk (mX7_isSpoiled_X6 T (nI x) (nI y) (nI w) (nI v)) T (nI x) (nI y) (nI w) (nI v)) n (nI (spN P x y w v k).toNat) (nI k) = some (nI (spB P x y w v).toNat) := by
    intro d
    induction d with
    | zero =>
      intro k n hk hn
      obtain ⟨n, rfl⟩ : ∃ m, n = m + 1 := ⟨n - 1, by omega⟩
      rw [LP_s]
      unfold mX7_isSpoiled_B6
      rw [hnd, if_pos (by rw [leI (by omega) (by omega)]; omega)]
      unfold mX7_isSpoiled_X6
      rw [zBb]
      show some _ = some _
      rw [show k = P.1 5 by omega]
      rfl
    | succ d ih =>
      intro k n hk hn
      obtain ⟨n, rfl⟩ : ∃ m, n = m + 1 := ⟨n - 1, by omega⟩
      have hk5 : k < P.1 5 := by omega
      obtain ⟨e0, e1, e2, e3⟩ := hdd k hk5
      obtain ⟨b0, b1, b2, b3⟩ := hdb k hk5
      rw [LP_s]
      have ih' := ih (k + 1) n (by omega) (by omega)
      generalize LPf (κ := Int32 → Int32 → Option (Int32)) (fun _ _ => none) (fun kk => mX7_isSpoiled_B6 kk (mX7_isSpoiled_X6 T (nI x) (nI y) (nI w) (nI v)) T (nI x) (nI y) (nI w) (nI v)) n = K at ih' ⊢
      unfold mX7_isSpoiled_B6
      rw [hnd, if_neg (by rw [leI (by omega) (by omega)]; omega)]
      generalize mX7_isSpoiled_X6 T (nI x) (nI y) (nI w) (nI v) = X
      have j1 : mX7_isSpoiled_J85 K X T (nI x) (nI y) (nI w) (nI v) (nI (spN P x y w v k).toNat) (nI k) 1 = K (nI (spN P x y w v k).toNat) (nI (k + 1)) := by
        unfold mX7_isSpoiled_J85
        rw [nI_1]
        cases spN P x y w v k <;> rfl
      have j0 : mX7_isSpoiled_J85 K X T (nI x) (nI y) (nI w) (nI v) (nI (spN P x y w v k).toNat) (nI k) 0 = K (nI 1) (nI (k + 1)) := by
        unfold mX7_isSpoiled_J85
        rw [nI_1]
        cases spN P x y w v k <;> rfl
      simp (disch := omega) only [gdI, clI, e0, e1, e2, e3, nI_add, ifLe, ifLt]
      have es : spN P x y w v (k + 1) = (spN P x y w v k || ovl P k x y w v) := rfl
      by_cases ho : P.2 0 k < x + w ∧ x < P.2 0 k + P.2 2 k ∧ P.2 1 k < y + v ∧ y < P.2 1 k + P.2 3 k
      · have eo : ovl P k x y w v = true := decide_eq_true ho
        rw [es, eo, Bool.or_true] at ih'
        rw [if_neg (by omega), if_neg (by omega), if_neg (by omega), if_pos (by omega), j0]
        exact ih'
      · have eo : ovl P k x y w v = false := decide_eq_false ho
        rw [es, eo, Bool.or_false] at ih'
        by_cases c1 : x + w ≤ P.2 0 k
        · rw [if_pos c1, j1]; exact ih'
        · rw [if_neg c1]
          by_cases c2 : P.2 0 k + P.2 2 k ≤ x
          · rw [if_pos c2, j1]; exact ih'
          · rw [if_neg c2]
            by_cases c3 : y + v ≤ P.2 1 k
            · rw [if_pos c3, j1]; exact ih'
            · rw [if_neg c3, if_neg (by omega), j1]; exact ih'
  exact key (P.1 5) 0 FU (by omega) (FU_gt (by omega))
theorem m_isLike0 {P : PC} {T : ST} (ok : OKP P) (h : CM P T) {k w v : Nat} (hk : k < P.1 6) (hw : w ≤ 16) (hv : v ≤ 16) : mX7_isLike T (nI k) (0 : Int32) (nI w) (nI v) = some (nI (lieB P k w v).toNat) := by
  obtain ⟨-, -, -, -, -, -, hk8, -, hkb⟩ := ok
  obtain ⟨-, -, hkk⟩ := h
  obtain ⟨e4, e5, e6, e7⟩ := hkk k hk
  obtain ⟨⟨b4, b5⟩, b6, b7⟩ := hkb k hk
  unfold mX7_isLike lieB
  rw [if_pos rfl]
  simp (disch := omega) only [gdI, clI, e4, e5, ifEq]
  by_cases c1 : P.2 4 k = w
  · by_cases c2 : P.2 5 k = v
    · rw [if_pos c1, if_pos c2, decide_eq_true ⟨c1, c2⟩]; rfl
    · rw [if_pos c1, if_neg c2, decide_eq_false (fun q => c2 q.2)]; rfl
  · rw [if_neg c1, decide_eq_false (fun q => c1 q.1)]; rfl
theorem m_isLike1 {P : PC} {T : ST} (ok : OKP P) (h : CM P T) {k w v : Nat} (hk : k < P.1 6) (hw : w ≤ 16) (hv : v ≤ 16) : mX7_isLike T (nI k) (1 : Int32) (nI w) (nI v) = some (nI (trnB P k w v).toNat) := by
  obtain ⟨-, -, -, -, -, -, hk8, -, hkb⟩ := ok
  obtain ⟨-, -, hkk⟩ := h
  obtain ⟨e4, e5, e6, e7⟩ := hkk k hk
  obtain ⟨⟨b4, b5⟩, b6, b7⟩ := hkb k hk
  unfold mX7_isLike trnB
  rw [if_neg (by decide)]
  simp (disch := omega) only [gdI, clI, e4, e5, e7, ifEq, ifEq0]
  by_cases c0 : P.2 7 k = 0
  · rw [if_pos c0, decide_eq_false (fun q => by omega)]; rfl
  · have c7 : P.2 7 k = 1 := by omega
    rw [if_neg c0]
    by_cases c1 : P.2 5 k = w
    · by_cases c2 : P.2 4 k = v
      · rw [if_pos c1, if_pos c2, decide_eq_true ⟨c7, c1, c2⟩]; rfl
      · rw [if_pos c1, if_neg c2, decide_eq_false (fun q => c2 q.2.2)]; rfl
    · rw [if_neg c1, decide_eq_false (fun q => c1 q.2.1)]; rfl
theorem m_bestPiece {P : PC} {T : ST} (ok : OKP P) (h : CM P T) {x y w v : Nat} (hx : x ≤ 16) (hy : y ≤ 16) (hw : w ≤ 16) (hv : v ≤ 16) : mX7_bestPiece T (nI x) (nI y) (nI w) (nI v) = some (nI (pvw P x y w v)) := by
  have hsp := m_isSpoiled ok h hx hy hw hv
  have hl0 := fun k (hk : k < P.1 6) => m_isLike0 ok h hk hw hv
  have hl1 := fun k (hk : k < P.1 6) => m_isLike1 ok h hk hw hv
  obtain ⟨-, -, -, -, -, -, hk8, -, hkb⟩ := ok
  obtain ⟨⟨-, -, -, -, -, -, hnk⟩, -, hkk⟩ := h
  have hb : ∀ n, n ≤ P.1 6 → bpN P w v n ≤ 1000 := fun n hn => bpN_le P w v n (fun k hk => (hkb k (by omega)).2.1.2)
  have key : ∀ d k n, k + d = P.1 6 → d < n → LPf (κ := Int32 → Int32 → Option (Int32)) (fun _ _ => none) (fun kk => mX7_bestPiece_B6 kk (mX7_bestPiece_X6 T (nI x) (nI y) (nI w) (nI v)) T (nI x) (nI y) (nI w) (nI v)) n (nI (bpN P w v k)) (nI k) = some (nI (pvw P x y w v)) := by
    intro d
    induction d with
    | zero =>
      intro k n hk hn
      obtain ⟨n, rfl⟩ : ∃ m, n = m + 1 := ⟨n - 1, by omega⟩
      rw [LP_s]
      unfold mX7_bestPiece_B6
      rw [hnk, if_pos (by rw [leI (by omega) (by omega)]; omega)]
      unfold mX7_bestPiece_X6
      have hbk := hb k (by omega)
      rw [hsp]
      simp (disch := omega) only [Option.bind_some, ifLe0, ifB]
      unfold pvw
      have ek : k = P.1 6 := by omega
      subst ek
      by_cases c : bpN P w v (P.1 6) ≤ 0
      · rw [if_pos c]
        by_cases s : spB P x y w v = true
        · rw [if_pos s]; rw [show bpN P w v (P.1 6) = 0 by omega]
        · rw [if_neg s]
      · rw [if_neg c]
        by_cases s : spB P x y w v = true
        · rw [if_pos s, if_pos s]; rfl
        · rw [if_neg s, if_neg s]
    | succ d ih =>
      intro k n hk hn
      obtain ⟨n, rfl⟩ : ∃ m, n = m + 1 := ⟨n - 1, by omega⟩
      have hk6 : k < P.1 6 := by omega
      obtain ⟨e4, e5, e6, e7⟩ := hkk k hk6
      obtain ⟨b4, b6, b7⟩ := hkb k hk6
      have hbk := hb k (by omega)
      rw [LP_s]
      have ih' := ih (k + 1) n (by omega) (by omega)
      generalize LPf (κ := Int32 → Int32 → Option (Int32)) (fun _ _ => none) (fun kk => mX7_bestPiece_B6 kk (mX7_bestPiece_X6 T (nI x) (nI y) (nI w) (nI v)) T (nI x) (nI y) (nI w) (nI v)) n = K at ih' ⊢
      unfold mX7_bestPiece_B6
      rw [hnk, if_neg (by rw [leI (by omega) (by omega)]; omega)]
      rw [hl0 k hk6, hl1 k hk6, nI_1]
      have eb : bpN P w v (k + 1) = if likeB P k w v = true then max (bpN P w v k) (P.2 6 k) else bpN P w v k := rfl
      simp (disch := omega) only [Option.bind_some, gdI, clI, e6, ifLe, ifB]
      have fin : likeB P k w v = true → (if P.2 6 k ≤ bpN P w v k then K (nI (bpN P w v k)) (nI (k + 1)) else K (nI (P.2 6 k)) (nI (k + 1))) = some (nI (pvw P x y w v)) := by
        intro hl
        rw [eb, if_pos hl] at ih'
        by_cases c : P.2 6 k ≤ bpN P w v k
        · rw [if_pos c]; rw [Nat.max_eq_left c] at ih'; exact ih'
        · rw [if_neg c]; rw [Nat.max_eq_right (by omega)] at ih'; exact ih'
      by_cases hli : lieB P k w v = true
      · rw [if_pos hli]
        exact fin (by unfold likeB; rw [hli]; rfl)
      · rw [if_neg hli]
        by_cases htr : trnB P k w v = true
        · rw [if_pos htr]
          exact fin (by unfold likeB; rw [htr, Bool.or_true])
        · rw [if_neg htr]
          rw [eb, if_neg (by unfold likeB; rw [Bool.eq_false_iff.mpr hli, Bool.eq_false_iff.mpr htr]; decide)] at ih'
          exact ih'
  exact key (P.1 6) 0 FU (by omega) (FU_gt (by omega))
theorem m_wayOf {P : PC} {T : ST} (ok : OKP P) (h : CM P T) {st : Nat} (h1 : 1 ≤ st) (h4 : st ≤ 4) : mX7_wayOf T (nI st) = some (nI (wayP P st)) := by
  obtain ⟨-, -, -, -, hf, -⟩ := ok
  obtain ⟨⟨-, -, -, -, e4, -⟩, -⟩ := h
  unfold mX7_wayOf wayP
  rw [l2, pk_rem (by omega) (by omega) (by omega), l1, e4, pk_sub (by omega), ifEq (by omega) (by omega)]
  by_cases c : st % 2 = 1
  · rw [if_pos c, show (P.1 4 + st + 1) % 2 = P.1 4 by omega]
  · rw [if_neg c, show (P.1 4 + st + 1) % 2 = 1 - P.1 4 by omega]
/-- the reference's numbers of spans -/
def spM (b l : Nat) : Nat := 17 * (l - 1) - l * (l - 1) / 2 + b
def SPT (T : ST) : Prop := ∀ b l, 1 ≤ l → b + l ≤ 16 → T.2 8 (16 * b + l - 1) = nI (spM b l)
theorem spM_lt {b l : Nat} (h1 : 1 ≤ l) (h2 : b + l ≤ 16) : spM b l < 136 := by
  have key : ∀ l, l < 17 → 1 ≤ l → 17 * (l - 1) - l * (l - 1) / 2 + (16 - l) < 136 := by decide
  have := key l (by omega) h1
  unfold spM
  omega
theorem spM_inj {b l b' l' : Nat} (h1 : 1 ≤ l) (h2 : b + l ≤ 16) (h1' : 1 ≤ l') (h2' : b' + l' ≤ 16) (e : spM b l = spM b' l') : b = b' ∧ l = l' := by
  have key : ∀ l, l < 17 → ∀ l', l' < 17 → 1 ≤ l → l < l' → 17 * (l - 1) - l * (l - 1) / 2 + (16 - l) < 17 * (l' - 1) - l' * (l' - 1) / 2 := by decide
  unfold spM at e
  by_cases c : l = l'
  · subst c; exact ⟨by omega, rfl⟩
  · by_cases c2 : l < l'
    · have := key l (by omega) l' (by omega) h1 c2; omega
    · have := key l' (by omega) l (by omega) h1' (by omega); omega
def kM (st x y w h : Nat) : Nat := (136 * (st - 1) + spM x w) * 136 + spM y h
theorem kM_lt {st x y w h : Nat} (s4 : st ≤ 4) (hw : 1 ≤ w) (hxw : x + w ≤ 16) (hh : 1 ≤ h) (hyh : y + h ≤ 16) : kM st x y w h < 73984 := by
  have a := spM_lt hw hxw
  have b := spM_lt hh hyh
  unfold kM
  omega
theorem kM_inj {st x y w h st' x' y' w' h' : Nat} (s1 : 1 ≤ st) (hw : 1 ≤ w) (hxw : x + w ≤ 16) (hh : 1 ≤ h) (hyh : y + h ≤ 16) (s1' : 1 ≤ st') (hw' : 1 ≤ w') (hxw' : x' + w' ≤ 16) (hh' : 1 ≤ h') (hyh' : y' + h' ≤ 16) (e : kM st x y w h = kM st' x' y' w' h') : st = st' ∧ x = x' ∧ y = y' ∧ w = w' ∧ h = h' := by
  have a := spM_lt hw hxw
  have b := spM_lt hh hyh
  have a' := spM_lt hw' hxw'
  have b' := spM_lt hh' hyh'
  unfold kM at e
  obtain ⟨e1, e2⟩ := spM_inj hw hxw hw' hxw' (by omega)
  obtain ⟨e3, e4⟩ := spM_inj hh hyh hh' hyh' (by omega)
  exact ⟨by omega, e1, e3, e2, e4⟩
theorem m_at {T : ST} (hs : SPT T) {st x y w v : Nat} (s1 : 1 ≤ st) (s4 : st ≤ 4) (hw : 1 ≤ w) (hxw : x + w ≤ 16) (hv : 1 ≤ v) (hyv : y + v ≤ 16) : mX7_at T (nI st) (nI x) (nI y) (nI w) (nI v) = some (nI (kM st x y w v)) := by
  have a := spM_lt hw hxw
  have b := spM_lt hv hyv
  unfold mX7_at
  simp (disch := omega) only [l16, l1, l136, pk_mul, nI_add, pk_sub, gdI, clI]
  rw [hs x w hw hxw, hs y v hv hyv]
  simp only [pk_mul, nI_add]
  rfl
