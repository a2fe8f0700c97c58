/-! MATH, bars: the list as the document has it. Numbers of pieces are one number, base 8, order 0 the highest -/
abbrev KB : Type := (Nat → Nat) × (Nat → Nat → Nat)
/-- ints: 0 stocks, 1 orders, 2 blade; rows: 0 a stock's length, 1 its price, 2 an order's length -/
def OKK (K : KB) : Prop := K.1 0 ≤ 3 ∧ K.1 1 ≤ 4 ∧ K.1 2 ≤ 3 ∧ (∀ s, s < K.1 0 → 1 ≤ K.2 0 s ∧ K.2 0 s ≤ 99 ∧ 1 ≤ K.2 1 s ∧ K.2 1 s ≤ 100) ∧ (∀ k, k < K.1 1 → 1 ≤ K.2 2 k ∧ K.2 2 k ≤ 99)
def d8 (p k : Nat) : Nat := if k = 0 then p / 512 else if k = 1 then p / 64 % 8 else if k = 2 then p / 8 % 8 else p % 8
abbrev inV (p q : Nat) : Prop := p / 512 ≤ q / 512 ∧ p / 64 % 8 ≤ q / 64 % 8 ∧ p / 8 % 8 ≤ q / 8 % 8 ∧ p % 8 ≤ q % 8
def lenN (K : KB) (p : Nat) : Nat → Nat
  | 0 => 0
  | n + 1 => lenN K p n + d8 p n * (K.2 2 n + K.1 2)
def lenB (K : KB) (p : Nat) : Nat := lenN K p (K.1 1) - K.1 2
/-- a stock's number and one, or 0 -/
def sfN (K : KB) (l : Nat) : Nat → Nat
  | 0 => 0
  | n + 1 => if K.2 0 n < l then sfN K l n else if sfN K l n = 0 then n + 1 else if K.2 1 (sfN K l n - 1) ≤ K.2 1 n then sfN K l n else n + 1
def sfB (K : KB) (p : Nat) : Nat := sfN K (lenB K p) (K.1 0)
def bc (K : KB) (p : Nat) : Nat := if sfB K p = 0 then 1048576 else K.2 1 (sfB K p - 1) * 21 + 1
theorem sfN_le (K : KB) (l n : Nat) : sfN K l n ≤ n := by
  induction n with
  | zero => exact Nat.le_refl _
  | succ n ih =>
    unfold sfN
    split
    · omega
    · split
      · omega
      · split <;> omega
theorem sfN_0 (K : KB) (l n : Nat) : sfN K l n = 0 ↔ ∀ s, s < n → K.2 0 s < l := by
  induction n with
  | zero => exact ⟨fun _ s h => absurd h (Nat.not_lt_zero _), fun _ => rfl⟩
  | succ n ih =>
    have e : sfN K l (n + 1) = if K.2 0 n < l then sfN K l n else if sfN K l n = 0 then n + 1 else if K.2 1 (sfN K l n - 1) ≤ K.2 1 n then sfN K l n else n + 1 := rfl
    rw [e]
    by_cases c : K.2 0 n < l
    · rw [if_pos c, ih]
      refine ⟨fun h s hs => ?_, fun h s hs => h s (by omega)⟩
      by_cases g : s = n
      · rw [g]; exact c
      · exact h s (by omega)
    · rw [if_neg c]
      refine ⟨fun h => ?_, fun h => absurd (h n (by omega)) c⟩
      exfalso
      by_cases c2 : sfN K l n = 0
      · rw [if_pos c2] at h; omega
      · rw [if_neg c2] at h
        by_cases c3 : K.2 1 (sfN K l n - 1) ≤ K.2 1 n
        · rw [if_pos c3] at h; exact c2 h
        · rw [if_neg c3] at h; omega
theorem bc_or {K : KB} (ok : OKK K) (p : Nat) : (sfB K p = 0 ∧ bc K p = 1048576) ∨ (1 ≤ sfB K p ∧ sfB K p ≤ K.1 0 ∧ bc K p = K.2 1 (sfB K p - 1) * 21 + 1 ∧ 22 ≤ bc K p ∧ bc K p ≤ 2101) := by
  unfold bc
  by_cases c : sfB K p = 0
  · rw [if_pos c]; exact Or.inl ⟨c, rfl⟩
  · rw [if_neg c]
    have h1 : sfB K p ≤ K.1 0 := sfN_le _ _ _
    have h2 := ok.2.2.2.1 (sfB K p - 1) (by omega)
    exact Or.inr ⟨by omega, h1, rfl, by omega, by omega⟩
theorem bc_pos {K : KB} (ok : OKK K) (p : Nat) : 22 ≤ bc K p := by
  rcases bc_or ok p with ⟨-, h⟩ | ⟨-, -, -, h, -⟩ <;> omega
theorem bc_le {K : KB} (ok : OKK K) (p : Nat) : bc K p ≤ 1048576 := by
  rcases bc_or ok p with ⟨-, h⟩ | ⟨-, -, -, -, h⟩ <;> omega
/-- the least, and the last place of it -/
def mnN (g : Nat → Nat) : Nat → Nat
  | 0 => 1048576
  | n + 1 => if g n ≤ mnN g n then g n else mnN g n
def argN (g : Nat → Nat) : Nat → Nat
  | 0 => 0
  | n + 1 => if g n ≤ mnN g n then n else argN g n
theorem mnN_s (g : Nat → Nat) (n : Nat) : mnN g (n + 1) = if g n ≤ mnN g n then g n else mnN g n := rfl
theorem argN_s (g : Nat → Nat) (n : Nat) : argN g (n + 1) = if g n ≤ mnN g n then n else argN g n := rfl
theorem mnN_le (g : Nat → Nat) (n : Nat) : mnN g n ≤ 1048576 := by
  induction n with
  | zero => exact Nat.le_refl _
  | succ n ih => rw [mnN_s]; split <;> omega
theorem mnN_lb (g : Nat → Nat) (n : Nat) : ∀ p, p < n → mnN g n ≤ g p := by
  induction n with
  | zero => intro p h; omega
  | succ n ih =>
    intro p h
    rw [mnN_s]
    by_cases e : p = n
    · subst e; split <;> omega
    · have := ih p (by omega)
      split <;> omega
theorem mnN_ex (g : Nat → Nat) (n : Nat) : mnN g n = 1048576 ∨ ∃ p, p < n ∧ mnN g n = g p := by
  induction n with
  | zero => exact Or.inl rfl
  | succ n ih =>
    rw [mnN_s]
    by_cases c : g n ≤ mnN g n
    · rw [if_pos c]; exact Or.inr ⟨n, by omega, rfl⟩
    · rw [if_neg c]
      rcases ih with h | ⟨p, h1, h2⟩
      · exact Or.inl h
      · exact Or.inr ⟨p, by omega, h2⟩
theorem argN_ok (g : Nat → Nat) (n : Nat) : mnN g n < 1048576 → argN g n < n ∧ g (argN g n) = mnN g n ∧ ∀ p, argN g n < p → p < n → mnN g n < g p := by
  induction n with
  | zero => intro h; exact absurd h (Nat.lt_irrefl _)
  | succ n ih =>
    intro h
    rw [mnN_s] at h ⊢
    rw [argN_s]
    by_cases c : g n ≤ mnN g n
    · rw [if_pos c, if_pos c]
      exact ⟨by omega, rfl, fun p h1 h2 => by omega⟩
    · rw [if_neg c] at h
      rw [if_neg c, if_neg c]
      obtain ⟨a, b, d⟩ := ih h
      refine ⟨by omega, b, fun p h1 h2 => ?_⟩
      by_cases e : p = n
      · subst e; omega
      · exact d p h1 (by omega)
theorem mnN_congr {g g' : Nat → Nat} : ∀ n, (∀ p, p < n → g p = g' p) → mnN g n = mnN g' n := by
  intro n
  induction n with
  | zero => intro _; rfl
  | succ n ih =>
    intro h
    rw [mnN_s, mnN_s, h n (by omega), ih (fun p hp => h p (by omega))]
theorem mn_skip (g : Nat → Nat) (n : Nat) : ∀ d, (∀ p, n ≤ p → p < n + d → 1048576 ≤ g p) → mnN g (n + d) = mnN g n ∧ (mnN g n < 1048576 → argN g (n + d) = argN g n) := by
  intro d
  induction d with
  | zero => intro _; exact ⟨rfl, fun _ => rfl⟩
  | succ d ih =>
    intro h
    obtain ⟨a, b⟩ := ih (fun p h1 h2 => h p h1 (by omega))
    have q := h (n + d) (by omega) (by omega)
    have m := mnN_le g n
    rw [show n + (d + 1) = (n + d) + 1 from rfl, mnN_s, argN_s, a]
    refine ⟨?_, fun hh => ?_⟩
    · split <;> omega
    · rw [if_neg (by omega)]; exact b hh
def gq (K : KB) (c : Nat → Nat) (q p : Nat) : Nat := if p ≠ 0 ∧ inV p q then bc K p + c (q - p) else 1048577
def Cf (K : KB) : Nat → Nat → Nat
  | 0, _ => 0
  | n + 1, q => if q = 0 then 0 else mnN (gq K (Cf K n) q) (q + 1)
def CB (K : KB) (q : Nat) : Nat := Cf K q q
theorem Cf_s (K : KB) (n q : Nat) : Cf K (n + 1) q = if q = 0 then 0 else mnN (gq K (Cf K n) q) (q + 1) := rfl
theorem Cf_eq (K : KB) : ∀ n m q, q ≤ n → q ≤ m → Cf K n q = Cf K m q := by
  intro n
  induction n with
  | zero =>
    intro m q h1 h2
    obtain rfl : q = 0 := by omega
    cases m with
    | zero => rfl
    | succ m => rw [Cf_s, if_pos rfl]; rfl
  | succ n ih =>
    intro m q h1 h2
    by_cases c : q = 0
    · subst c
      rw [Cf_s, if_pos rfl]
      cases m with
      | zero => rfl
      | succ m => rw [Cf_s, if_pos rfl]
    · obtain ⟨m, rfl⟩ : ∃ k, m = k + 1 := ⟨m - 1, by omega⟩
      rw [Cf_s, Cf_s, if_neg c, if_neg c]
      refine mnN_congr _ (fun p _ => ?_)
      unfold gq
      by_cases d : p ≠ 0 ∧ inV p q
      · rw [if_pos d, if_pos d, ih m (q - p) (by omega) (by omega)]
      · rw [if_neg d, if_neg d]
def gB (K : KB) (q p : Nat) : Nat := gq K (CB K) q p
theorem CB_0 (K : KB) : CB K 0 = 0 := rfl
theorem CB_s (K : KB) {q : Nat} (h : q ≠ 0) : CB K q = mnN (gB K q) (q + 1) := by
  obtain ⟨m, rfl⟩ : ∃ k, q = k + 1 := ⟨q - 1, by omega⟩
  unfold CB
  rw [Cf_s, if_neg h]
  refine mnN_congr _ (fun p _ => ?_)
  unfold gB gq
  by_cases d : p ≠ 0 ∧ inV p (m + 1)
  · rw [if_pos d, if_pos d, Cf_eq K m (m + 1 - p) (m + 1 - p) (by omega) (by omega)]; rfl
  · rw [if_neg d, if_neg d]
def fpB (K : KB) (q : Nat) : Nat := argN (gB K q) (q + 1)
theorem inV_le {p q : Nat} (h : inV p q) : p ≤ q := by
  obtain ⟨a, b, c, d⟩ := h
  omega
theorem inV_tr {p q r : Nat} (h : inV p q) (g : inV q r) : inV p r := ⟨Nat.le_trans h.1 g.1, Nat.le_trans h.2.1 g.2.1, Nat.le_trans h.2.2.1 g.2.2.1, Nat.le_trans h.2.2.2 g.2.2.2⟩
theorem inV_rf (q : Nat) : inV q q := ⟨Nat.le_refl _, Nat.le_refl _, Nat.le_refl _, Nat.le_refl _⟩
theorem mk8 {n a b c d : Nat} (hb : b < 8) (hc : c < 8) (hd : d < 8) (h : n = ((a * 8 + b) * 8 + c) * 8 + d) : n / 512 = a ∧ n / 64 % 8 = b ∧ n / 8 % 8 = c ∧ n % 8 = d := by
  refine ⟨?_, ?_, ?_, ?_⟩
  · omega
  · omega
  · omega
  · omega
theorem of8 (n : Nat) : n = ((n / 512 * 8 + n / 64 % 8) * 8 + n / 8 % 8) * 8 + n % 8 := by omega
theorem lt8 (n : Nat) : n / 64 % 8 < 8 ∧ n / 8 % 8 < 8 ∧ n % 8 < 8 := ⟨Nat.mod_lt _ (by decide), Nat.mod_lt _ (by decide), Nat.mod_lt _ (by decide)⟩
theorem dsub {p q : Nat} (h : inV p q) : (q - p) / 512 = q / 512 - p / 512 ∧ (q - p) / 64 % 8 = q / 64 % 8 - p / 64 % 8 ∧ (q - p) / 8 % 8 = q / 8 % 8 - p / 8 % 8 ∧ (q - p) % 8 = q % 8 - p % 8 := by
  obtain ⟨a, b, c, d⟩ := h
  have e1 := of8 p
  have e2 := of8 q
  obtain ⟨l1, l2, l3⟩ := lt8 q
  generalize q / 512 = q0 at *
  generalize q / 64 % 8 = q1 at *
  generalize q / 8 % 8 = q2 at *
  generalize q % 8 = q3 at *
  generalize p / 512 = p0 at *
  generalize p / 64 % 8 = p1 at *
  generalize p / 8 % 8 = p2 at *
  generalize p % 8 = p3 at *
  exact mk8 (by omega) (by omega) (by omega) (by omega)
theorem inV_sub {p q : Nat} (h : inV p q) : inV (q - p) q := by
  obtain ⟨a, b, c, d⟩ := dsub h
  unfold inV
  rw [a, b, c, d]
  exact ⟨Nat.sub_le _ _, Nat.sub_le _ _, Nat.sub_le _ _, Nat.sub_le _ _⟩
theorem gB_in (K : KB) {q p : Nat} (h0 : p ≠ 0) (h : inV p q) : gB K q p = bc K p + CB K (q - p) := if_pos ⟨h0, h⟩
theorem gB_out (K : KB) {q p : Nat} (h : ¬ (p ≠ 0 ∧ inV p q)) : gB K q p = 1048577 := if_neg h
theorem CB_le (K : KB) (q : Nat) : CB K q ≤ 1048576 := by
  by_cases c : q = 0
  · subst c; exact Nat.zero_le _
  · rw [CB_s K c]; exact mnN_le _ _
theorem CB_pos {K : KB} (ok : OKK K) {q : Nat} (h : q ≠ 0) : CB K q ≠ 0 := by
  intro e
  rw [CB_s K h] at e
  rcases mnN_ex (gB K q) (q + 1) with g | ⟨p, h1, h2⟩
  · omega
  · by_cases c : p ≠ 0 ∧ inV p q
    · rw [gB_in K c.1 c.2] at h2
      have := bc_pos ok p
      omega
    · rw [gB_out K c] at h2; omega
theorem CB_lb (K : KB) {q p : Nat} (h0 : p ≠ 0) (h : inV p q) : CB K q ≤ bc K p + CB K (q - p) := by
  have hp := inV_le h
  rw [CB_s K (by omega), ← gB_in K h0 h]
  exact mnN_lb _ _ p (by omega)
theorem CB_ex (K : KB) {q : Nat} (h : q ≠ 0) : CB K q = 1048576 ∨ ∃ p, p ≠ 0 ∧ inV p q ∧ CB K q = bc K p + CB K (q - p) := by
  rw [CB_s K h]
  rcases mnN_ex (gB K q) (q + 1) with g | ⟨p, h1, h2⟩
  · exact Or.inl g
  · by_cases c : p ≠ 0 ∧ inV p q
    · exact Or.inr ⟨p, c.1, c.2, by rw [h2, gB_in K c.1 c.2]⟩
    · have := mnN_le (gB K q) (q + 1)
      rw [gB_out K c] at h2; omega
theorem fp_ok (K : KB) {q : Nat} (h0 : q ≠ 0) (h : CB K q < 1048576) : fpB K q ≠ 0 ∧ inV (fpB K q) q ∧ bc K (fpB K q) + CB K (q - fpB K q) = CB K q ∧ ∀ p, p ≠ 0 → inV p q → bc K p + CB K (q - p) = CB K q → p ≤ fpB K q := by
  have e := CB_s K h0
  rw [e] at h
  obtain ⟨a, b, c⟩ := argN_ok (gB K q) (q + 1) h
  by_cases d : fpB K q ≠ 0 ∧ inV (fpB K q) q
  · refine ⟨d.1, d.2, ?_, fun p h1 h2 h3 => ?_⟩
    · rw [← gB_in K d.1 d.2, e]; exact b
    · by_cases g : p ≤ fpB K q
      · exact g
      · have := c p (show fpB K q < p by omega) (by have := inV_le h2; omega)
        rw [gB_in K h1 h2, h3, e] at this
        omega
  · exfalso
    have : gB K q (argN (gB K q) (q + 1)) = 1048577 := gB_out K d
    omega
def pcs (q : Nat) : Nat := q / 512 + q / 64 % 8 + q / 8 % 8 + q % 8
theorem pcs_sub {p q : Nat} (h : inV p q) : pcs (q - p) + pcs p = pcs q := by
  obtain ⟨a, b, c, d⟩ := dsub h
  obtain ⟨a', b', c', d'⟩ := h
  unfold pcs
  rw [a, b, c, d]
  generalize q / 512 = q0 at *
  generalize q / 64 % 8 = q1 at *
  generalize q / 8 % 8 = q2 at *
  generalize q % 8 = q3 at *
  generalize p / 512 = p0 at *
  generalize p / 64 % 8 = p1 at *
  generalize p / 8 % 8 = p2 at *
  generalize p % 8 = p3 at *
  omega
theorem pcs_pos {p : Nat} (h : p ≠ 0) : 1 ≤ pcs p := by
  have e := of8 p
  unfold pcs
  generalize p / 512 = p0 at *
  generalize p / 64 % 8 = p1 at *
  generalize p / 8 % 8 = p2 at *
  generalize p % 8 = p3 at *
  omega
theorem CB_bnd {K : KB} (ok : OKK K) : ∀ q, pcs q ≤ 20 → CB K q < 1048576 → CB K q ≤ 2101 * pcs q ∧ CB K q % 21 ≤ pcs q := by
  intro q
  induction q using Nat.strongRecOn with
  | _ q ih =>
    intro hp hq
    by_cases c : q = 0
    · subst c; exact ⟨Nat.zero_le _, Nat.zero_le _⟩
    · rcases CB_ex K c with g | ⟨p, h1, h2, h3⟩
      · omega
      · have b := bc_pos ok p
        have s := pcs_sub h2
        have s1 := pcs_pos h1
        have hl := inV_le h2
        obtain ⟨i1, i2⟩ := ih (q - p) (by omega) (by omega) (by omega)
        rcases bc_or ok p with ⟨-, g⟩ | ⟨-, -, g1, -, g2⟩
        · omega
        · refine ⟨by omega, ?_⟩
          rw [h3, g1]
          omega
