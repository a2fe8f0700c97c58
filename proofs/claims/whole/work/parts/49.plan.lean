/-! MATH, plates: THE PLAN, as the document has it -/
def fK (P : PC) (val w v : Nat) : Nat → Nat → Option Nat
  | 0, _ => none
  | d + 1, k => if P.2 6 k = val ∧ likeB P k w v = true then some k else fK P val w v d (k + 1)
def fC (f : Nat → Nat) (val : Nat) : Nat → Nat → Option Nat
  | 0, _ => none
  | d + 1, c => if f c = val then some c else fC f val d (c + 1)
def pcK (P : PC) (st x y w v : Nat) : Option Nat := if spB P x y w v = true then none else fK P (worth P st x y w v) w v (P.1 6) 0
def ctK (P : PC) (st x y w v : Nat) : Option Nat := fC (cutP P (worth P) st x y w v) (worth P st x y w v) (sideP P st w v - P.1 2 - 1) 1
def w1P (P : PC) (st w c : Nat) : Nat := if wayP P st = 0 then c else w
def v1P (P : PC) (st v c : Nat) : Nat := if wayP P st = 0 then v else c
def x2P (P : PC) (st x c : Nat) : Nat := if wayP P st = 0 then x + c + P.1 2 else x
def y2P (P : PC) (st y c : Nat) : Nat := if wayP P st = 0 then y else y + c + P.1 2
def w2P (P : PC) (st w c : Nat) : Nat := if wayP P st = 0 then w - c - P.1 2 else w
def v2P (P : PC) (st v c : Nat) : Nat := if wayP P st = 0 then v else v - c - P.1 2
def cRow (P : PC) (st x y w v c : Nat) : List Nat := [st, wayP P st, (if wayP P st = 0 then x + c else y + c), x, y, w, v]
def pRow (P : PC) (k x y w v : Nat) : List Nat := [k, x, y, w, v, if lieB P k w v = true then 0 else 1]
abbrev PLN : Type := List (List Nat) × List (List Nat)
def pl (P : PC) : Nat → Nat → Nat → Nat → Nat → Nat → PLN
  | 0, _, _, _, _, _ => ([], [])
  | n + 1, st, x, y, w, v =>
    if worth P st x y w v = 0 then ([], []) else
      match pcK P st x y w v with
      | some k => ([pRow P k x y w v], [])
      | none =>
        match ctK P st x y w v with
        | some c => ((pl P n st x y (w1P P st w c) (v1P P st v c)).1 ++ (pl P n st (x2P P st x c) (y2P P st y c) (w2P P st w c) (v2P P st v c)).1, cRow P st x y w v c :: ((pl P n st x y (w1P P st w c) (v1P P st v c)).2 ++ (pl P n st (x2P P st x c) (y2P P st y c) (w2P P st w c) (v2P P st v c)).2))
        | none => if st < P.1 3 then pl P n (st + 1) x y w v else ([], [])
theorem pl_0 {P : PC} {n st x y w v : Nat} (h : worth P st x y w v = 0) : pl P (n + 1) st x y w v = ([], []) := by unfold pl; rw [if_pos h]
theorem pl_k {P : PC} {n st x y w v k : Nat} (h : ¬ worth P st x y w v = 0) (hk : pcK P st x y w v = some k) : pl P (n + 1) st x y w v = ([pRow P k x y w v], []) := by unfold pl; rw [if_neg h, hk]
theorem pl_c {P : PC} {n st x y w v c : Nat} (h : ¬ worth P st x y w v = 0) (hk : pcK P st x y w v = none) (hc : ctK P st x y w v = some c) : pl P (n + 1) st x y w v = ((pl P n st x y (w1P P st w c) (v1P P st v c)).1 ++ (pl P n st (x2P P st x c) (y2P P st y c) (w2P P st w c) (v2P P st v c)).1, cRow P st x y w v c :: ((pl P n st x y (w1P P st w c) (v1P P st v c)).2 ++ (pl P n st (x2P P st x c) (y2P P st y c) (w2P P st w c) (v2P P st v c)).2)) := by
  rw [pl]
  rw [if_neg h, hk, hc]
theorem pl_s {P : PC} {n st x y w v : Nat} (h : ¬ worth P st x y w v = 0) (hk : pcK P st x y w v = none) (hc : ctK P st x y w v = none) : pl P (n + 1) st x y w v = if st < P.1 3 then pl P n (st + 1) x y w v else ([], []) := by
  rw [pl]
  rw [if_neg h, hk, hc]
theorem fK_some {P : PC} {val w v : Nat} : ∀ d k r, fK P val w v d k = some r → k ≤ r ∧ r < k + d ∧ P.2 6 r = val ∧ likeB P r w v = true := by
  intro d
  induction d with
  | zero => intro k r h; exact (noS h).elim
  | succ d ih =>
    intro k r h
    unfold fK at h
    by_cases c : P.2 6 k = val ∧ likeB P k w v = true
    · rw [if_pos c] at h
      obtain rfl := Option.some.inj h
      exact ⟨Nat.le_refl _, by omega, c.1, c.2⟩
    · rw [if_neg c] at h
      obtain ⟨a, b, e, f⟩ := ih (k + 1) r h
      exact ⟨by omega, by omega, e, f⟩
theorem fC_some {f : Nat → Nat} {val : Nat} : ∀ d c r, fC f val d c = some r → c ≤ r ∧ r < c + d ∧ f r = val := by
  intro d
  induction d with
  | zero => intro k r h; exact (noS h).elim
  | succ d ih =>
    intro k r h
    unfold fC at h
    by_cases c : f k = val
    · rw [if_pos c] at h
      obtain rfl := Option.some.inj h
      exact ⟨Nat.le_refl _, by omega, c⟩
    · rw [if_neg c] at h
      obtain ⟨a, b, e⟩ := ih (k + 1) r h
      exact ⟨by omega, by omega, e⟩
theorem ctK_some {P : PC} {st x y w v c : Nat} (h : ctK P st x y w v = some c) : 1 ≤ c ∧ c + P.1 2 < sideP P st w v := by
  obtain ⟨a, b, -⟩ := fC_some _ _ _ h
  exact ⟨a, by omega⟩
theorem pcK_some {P : PC} {st x y w v k : Nat} (h : pcK P st x y w v = some k) : spB P x y w v = false ∧ k < P.1 6 ∧ P.2 6 k = worth P st x y w v ∧ likeB P k w v = true := by
  unfold pcK at h
  by_cases c : spB P x y w v = true
  · rw [if_pos c] at h; exact (noS h).elim
  · rw [if_neg c] at h
    obtain ⟨a, b, e, f⟩ := fK_some _ _ _ h
    exact ⟨Bool.eq_false_iff.mpr c, by omega, e, f⟩
/-- where the two parts of a cut lie -/
theorem cut_geo {P : PC} {st x y w v c : Nat} (hw : 1 ≤ w) (hv : 1 ≤ v) (c1 : 1 ≤ c) (c2 : c + P.1 2 < sideP P st w v) :
    (1 ≤ w1P P st w c ∧ 1 ≤ v1P P st v c ∧ w1P P st w c ≤ w ∧ v1P P st v c ≤ v ∧ w1P P st w c + v1P P st v c < w + v) ∧ (1 ≤ w2P P st w c ∧ 1 ≤ v2P P st v c ∧ x2P P st x c + w2P P st w c = x + w ∧ y2P P st y c + v2P P st v c = y + v ∧ w2P P st w c + v2P P st v c < w + v ∧ w2P P st w c ≤ w ∧ v2P P st v c ≤ v) ∧ w1P P st w c * v1P P st v c + w2P P st w c * v2P P st v c ≤ w * v := by
  unfold w1P v1P x2P y2P w2P v2P
  unfold sideP at c2
  by_cases hy : wayP P st = 0
  · have E : ∀ a b : Nat, (if wayP P st = 0 then a else b) = a := fun a b => if_pos hy
    rw [E] at c2
    refine ⟨⟨?_, ?_, ?_, ?_, ?_⟩, ⟨?_, ?_, ?_, ?_, ?_, ?_, ?_⟩, ?_⟩
    all_goals (repeat rw [E])
    all_goals try omega
    rw [← Nat.add_mul]
    exact Nat.mul_le_mul_right v (by omega)
  · have E : ∀ a b : Nat, (if wayP P st = 0 then a else b) = b := fun a b => if_neg hy
    rw [E] at c2
    refine ⟨⟨?_, ?_, ?_, ?_, ?_⟩, ⟨?_, ?_, ?_, ?_, ?_, ?_, ?_⟩, ?_⟩
    all_goals (repeat rw [E])
    all_goals try omega
    rw [← Nat.mul_add]
    exact Nat.mul_le_mul_left w (by omega)
def ar : List (List Nat) → Nat
  | [] => 0
  | r :: L => r.getD 3 0 * r.getD 4 0 + ar L
theorem ar_app (A B : List (List Nat)) : ar (A ++ B) = ar A + ar B := by
  induction A with
  | nil => simp [ar]
  | cons a A ih => simp only [List.cons_append, ar, ih]; omega
theorem pl_size (P : PC) : ∀ n st x y w v, 1 ≤ w → 1 ≤ v → (pl P n st x y w v).1.length ≤ w * v ∧ (pl P n st x y w v).2.length + 1 ≤ w * v ∧ ar (pl P n st x y w v).1 ≤ w * v := by
  intro n
  induction n with
  | zero =>
    intro st x y w v hw hv
    have : 1 ≤ w * v := Nat.mul_pos hw hv
    exact ⟨Nat.zero_le _, this, Nat.zero_le _⟩
  | succ n ih =>
    intro st x y w v hw hv
    have h1 : 1 ≤ w * v := Nat.mul_pos hw hv
    by_cases h0 : worth P st x y w v = 0
    · rw [pl_0 h0]; exact ⟨Nat.zero_le _, h1, Nat.zero_le _⟩
    · cases hk : pcK P st x y w v with
      | some k =>
        rw [pl_k h0 hk]
        exact ⟨h1, h1, Nat.le_refl _⟩
      | none =>
        cases hc : ctK P st x y w v with
        | some c =>
          obtain ⟨c1, c2⟩ := ctK_some hc
          obtain ⟨⟨a1, a2, a3, a4, a5⟩, ⟨b1, b2, b3, b4, b5, b6, b7⟩, g⟩ := cut_geo (x := x) (y := y) hw hv c1 c2
          have i1 := ih st x y _ _ a1 a2
          have i2 := ih st (x2P P st x c) (y2P P st y c) _ _ b1 b2
          rw [pl_c h0 hk hc]
          simp only [List.length_append, List.length_cons, ar_app]
          omega
        | none =>
          rw [pl_s h0 hk hc]
          by_cases s : st < P.1 3
          · rw [if_pos s]; exact ih (st + 1) x y w v hw hv
          · rw [if_neg s]; exact ⟨Nat.zero_le _, h1, Nat.zero_le _⟩
theorem pl_stable (P : PC) : ∀ n m st x y w v, 1 ≤ w → 1 ≤ v → w + v + (P.1 3 - st) < n → w + v + (P.1 3 - st) < m → pl P n st x y w v = pl P m st x y w v := by
  intro n
  induction n with
  | zero => intro m st x y w v _ _ h; omega
  | succ n ih =>
    intro m st x y w v hw hv h1 h2
    obtain ⟨m, rfl⟩ : ∃ k, m = k + 1 := ⟨m - 1, by omega⟩
    by_cases h0 : worth P st x y w v = 0
    · rw [pl_0 h0, pl_0 h0]
    · cases hk : pcK P st x y w v with
      | some k => rw [pl_k h0 hk, pl_k h0 hk]
      | none =>
        cases hc : ctK P st x y w v with
        | some c =>
          obtain ⟨c1, c2⟩ := ctK_some hc
          obtain ⟨⟨a1, a2, a3, a4, a5⟩, ⟨b1, b2, b3, b4, b5, b6, b7⟩, g⟩ := cut_geo (x := x) (y := y) hw hv c1 c2
          rw [pl_c h0 hk hc, pl_c h0 hk hc, ih m st x y _ _ a1 a2 (by omega) (by omega), ih m st (x2P P st x c) (y2P P st y c) _ _ b1 b2 (by omega) (by omega)]
        | none =>
          rw [pl_s h0 hk hc, pl_s h0 hk hc]
          by_cases s : st < P.1 3
          · rw [if_pos s, if_pos s]; exact ih m (st + 1) x y w v hw hv (by omega) (by omega)
          · rw [if_neg s, if_neg s]
/-- where nothing is cut at the last stage, the worth is a piece's -/
theorem fK_none {P : PC} {val w v : Nat} : ∀ d k, fK P val w v d k = none → ∀ r, k ≤ r → r < k + d → ¬ (P.2 6 r = val ∧ likeB P r w v = true) := by
  intro d
  induction d with
  | zero => intro k _ r h1 h2; omega
  | succ d ih =>
    intro k h r h1 h2
    unfold fK at h
    by_cases c : P.2 6 k = val ∧ likeB P k w v = true
    · rw [if_pos c] at h; exact (Option.some_ne_none k h).elim
    · rw [if_neg c] at h
      by_cases e : r = k
      · subst e; exact c
      · exact ih (k + 1) h r (by omega) (by omega)
theorem fC_none {f : Nat → Nat} {val : Nat} : ∀ d c, fC f val d c = none → ∀ r, c ≤ r → r < c + d → ¬ f r = val := by
  intro d
  induction d with
  | zero => intro k _ r h1 h2; omega
  | succ d ih =>
    intro k h r h1 h2
    unfold fC at h
    by_cases c : f k = val
    · rw [if_pos c] at h; exact (Option.some_ne_none k h).elim
    · rw [if_neg c] at h
      by_cases e : r = k
      · subst e; exact c
      · exact ih (k + 1) h r (by omega) (by omega)
theorem bpN_att (P : PC) (w v : Nat) : ∀ n, bpN P w v n = 0 ∨ ∃ k, k < n ∧ likeB P k w v = true ∧ P.2 6 k = bpN P w v n := by
  intro n
  induction n with
  | zero => exact Or.inl rfl
  | succ n ih =>
    unfold bpN
    by_cases e : likeB P n w v = true
    · rw [if_pos e]
      by_cases c : bpN P w v n ≤ P.2 6 n
      · exact Or.inr ⟨n, by omega, e, by omega⟩
      · rcases ih with h | ⟨k, a, b, d⟩
        · omega
        · exact Or.inr ⟨k, by omega, b, by omega⟩
    · rw [if_neg e]
      rcases ih with h | ⟨k, a, b, d⟩
      · exact Or.inl h
      · exact Or.inr ⟨k, by omega, b, d⟩
/-- a worth that no piece and no cut has is the further stage's -/
theorem stage_on {P : PC} {st x y w v : Nat} (hm : w + v + (P.1 3 - st) < 39) (h0 : ¬ worth P st x y w v = 0) (hk : pcK P st x y w v = none) (hc : ctK P st x y w v = none) : st < P.1 3 := by
  have we := worth_eq P st x y w v hm
  by_cases s : st < P.1 3
  · exact s
  · exfalso
    rw [if_neg s, Nat.max_eq_left (Nat.zero_le _)] at we
    have hpc : ¬ (pvw P x y w v = worth P st x y w v) := by
      intro e
      unfold pcK at hk
      unfold pvw at e
      by_cases c : spB P x y w v = true
      · rw [if_pos c] at e; omega
      · rw [if_neg c] at e hk
        rcases bpN_att P w v (P.1 6) with h | ⟨k, a, b, d⟩
        · omega
        · exact fK_none _ _ hk k (Nat.zero_le _) (by omega) ⟨by omega, b⟩
    rcases mxN_att (f := cutP P (worth P) st x y w v) (sideP P st w v - P.1 2 - 1) with h | ⟨c, a, b, d⟩
    · omega
    · exact fC_none _ _ hc c a (by omega) (by omega)
