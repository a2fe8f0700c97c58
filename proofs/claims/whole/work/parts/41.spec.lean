/-! MATH, plates: what the document asks, over whole numbers. P.1: 0 W, 1 H, 2 KERF, 3 STAGES, 4 FIRST, 5 how many DEFECTS, 6 how many KINDS; P.2: 0 to 3 x, y, w, h of DEFECTS, 4 to 7 width, height, VALUE, turns (1 or 0) of KINDS -/
abbrev PC : Type := (Nat → Nat) × (Nat → Nat → Nat)
def ovl (P : PC) (k x y w h : Nat) : Bool := decide (P.2 0 k < x + w ∧ x < P.2 0 k + P.2 2 k ∧ P.2 1 k < y + h ∧ y < P.2 1 k + P.2 3 k)
def spN (P : PC) (x y w h : Nat) : Nat → Bool
  | 0 => false
  | n + 1 => spN P x y w h n || ovl P n x y w h
def spB (P : PC) (x y w h : Nat) : Bool := spN P x y w h (P.1 5)
def lieB (P : PC) (k w h : Nat) : Bool := decide (P.2 4 k = w ∧ P.2 5 k = h)
def trnB (P : PC) (k w h : Nat) : Bool := decide (P.2 7 k = 1 ∧ P.2 5 k = w ∧ P.2 4 k = h)
def likeB (P : PC) (k w h : Nat) : Bool := lieB P k w h || trnB P k w h
def bpN (P : PC) (w h : Nat) : Nat → Nat
  | 0 => 0
  | n + 1 => if likeB P n w h = true then max (bpN P w h n) (P.2 6 n) else bpN P w h n
def pvw (P : PC) (x y w h : Nat) : Nat := if spB P x y w h = true then 0 else bpN P w h (P.1 6)
/-- 0: the stage's cuts part a width -/
def wayP (P : PC) (st : Nat) : Nat := (P.1 4 + st + 1) % 2
def mxN (f : Nat → Nat) : Nat → Nat
  | 0 => 0
  | n + 1 => max (mxN f n) (f (n + 1))
/-- both parts of a cut at c, by a table of worths -/
def cutP (P : PC) (t : Nat → Nat → Nat → Nat → Nat → Nat) (st x y w h c : Nat) : Nat :=
  if wayP P st = 0 then t st x y c h + t st (x + c + P.1 2) y (w - c - P.1 2) h else t st x y w c + t st x (y + c + P.1 2) w (h - c - P.1 2)
def sideP (P : PC) (st w h : Nat) : Nat := if wayP P st = 0 then w else h
def wt (P : PC) : Nat → Nat → Nat → Nat → Nat → Nat → Nat
  | 0, _, _, _, _, _ => 0
  | n + 1, st, x, y, w, h => max (max (pvw P x y w h) (mxN (cutP P (wt P n) st x y w h) (sideP P st w h - P.1 2 - 1))) (if st < P.1 3 then wt P n (st + 1) x y w h else 0)
theorem mxN_congr {f g : Nat → Nat} : ∀ n, (∀ c, 1 ≤ c → c ≤ n → f c = g c) → mxN f n = mxN g n := by
  intro n
  induction n with
  | zero => intro _; rfl
  | succ n ih =>
    intro h
    show max (mxN f n) (f (n + 1)) = max (mxN g n) (g (n + 1))
    rw [ih (fun c h1 h2 => h c h1 (by omega)), h (n + 1) (by omega) (by omega)]
theorem mxN_le {f : Nat → Nat} {b : Nat} : ∀ n, (∀ c, 1 ≤ c → c ≤ n → f c ≤ b) → mxN f n ≤ b := by
  intro n
  induction n with
  | zero => intro _; exact Nat.zero_le b
  | succ n ih =>
    intro h
    show max (mxN f n) (f (n + 1)) ≤ b
    exact Nat.max_le.mpr ⟨ih (fun c h1 h2 => h c h1 (by omega)), h (n + 1) (by omega) (by omega)⟩
theorem mxN_mono {f g : Nat → Nat} : ∀ n, (∀ c, 1 ≤ c → c ≤ n → f c ≤ g c) → mxN f n ≤ mxN g n := by
  intro n
  induction n with
  | zero => intro _; exact Nat.le_refl 0
  | succ n ih =>
    intro h
    show max (mxN f n) (f (n + 1)) ≤ max (mxN g n) (g (n + 1))
    have a := ih (fun c h1 h2 => h c h1 (by omega))
    have b := h (n + 1) (by omega) (by omega)
    omega
theorem mxN_ge {f : Nat → Nat} : ∀ n c, 1 ≤ c → c ≤ n → f c ≤ mxN f n := by
  intro n
  induction n with
  | zero => intro c h1 h2; omega
  | succ n ih =>
    intro c h1 h2
    show f c ≤ max (mxN f n) (f (n + 1))
    by_cases e : c = n + 1
    · subst e; omega
    · have := ih c h1 (by omega); omega
theorem mxN_att {f : Nat → Nat} : ∀ n, mxN f n = 0 ∨ ∃ c, 1 ≤ c ∧ c ≤ n ∧ mxN f n = f c := by
  intro n
  induction n with
  | zero => exact Or.inl rfl
  | succ n ih =>
    have e : mxN f (n + 1) = max (mxN f n) (f (n + 1)) := rfl
    by_cases h : mxN f n ≤ f (n + 1)
    · exact Or.inr ⟨n + 1, by omega, by omega, by rw [e]; omega⟩
    · rcases ih with h0 | ⟨c, h1, h2, h3⟩
      · omega
      · exact Or.inr ⟨c, h1, by omega, by rw [e]; omega⟩
theorem wt_stable (P : PC) : ∀ n m st x y w h, w + h + (P.1 3 - st) < n → w + h + (P.1 3 - st) < m → wt P n st x y w h = wt P m st x y w h := by
  intro n
  induction n with
  | zero => intro m st x y w h h1; omega
  | succ n ih =>
    intro m st x y w h h1 h2
    obtain ⟨m, rfl⟩ : ∃ k, m = k + 1 := ⟨m - 1, by omega⟩
    show max (max (pvw P x y w h) (mxN (cutP P (wt P n) st x y w h) (sideP P st w h - P.1 2 - 1))) (if st < P.1 3 then wt P n (st + 1) x y w h else 0) = max (max (pvw P x y w h) (mxN (cutP P (wt P m) st x y w h) (sideP P st w h - P.1 2 - 1))) (if st < P.1 3 then wt P m (st + 1) x y w h else 0)
    have e1 : mxN (cutP P (wt P n) st x y w h) (sideP P st w h - P.1 2 - 1) = mxN (cutP P (wt P m) st x y w h) (sideP P st w h - P.1 2 - 1) := by
      apply mxN_congr
      intro c c1 c2
      unfold cutP
      unfold sideP at c2
      by_cases hw : wayP P st = 0
      · rw [if_pos hw] at c2
        rw [if_pos hw, if_pos hw, ih m st x y c h (by omega) (by omega), ih m st (x + c + P.1 2) y (w - c - P.1 2) h (by omega) (by omega)]
      · rw [if_neg hw] at c2
        rw [if_neg hw, if_neg hw, ih m st x y w c (by omega) (by omega), ih m st x (y + c + P.1 2) w (h - c - P.1 2) (by omega) (by omega)]
    rw [e1]
    by_cases hs : st < P.1 3
    · rw [if_pos hs, if_pos hs, ih m (st + 1) x y w h (by omega) (by omega)]
    · rw [if_neg hs, if_neg hs]
/-- the WORTH of a PART -/
def worth (P : PC) (st x y w h : Nat) : Nat := wt P 40 st x y w h
theorem worth_eq (P : PC) (st x y w h : Nat) (hm : w + h + (P.1 3 - st) < 39) : worth P st x y w h = max (max (pvw P x y w h) (mxN (cutP P (worth P) st x y w h) (sideP P st w h - P.1 2 - 1))) (if st < P.1 3 then worth P (st + 1) x y w h else 0) := by
  unfold worth
  rw [wt_stable P 40 41 st x y w h (by omega) (by omega)]
  rfl
theorem spN_iff (P : PC) (x y w h : Nat) : ∀ n, spN P x y w h n = true ↔ ∃ k, k < n ∧ ovl P k x y w h = true := by
  intro n
  induction n with
  | zero => exact ⟨fun h => Bool.noConfusion h, fun ⟨k, h, _⟩ => absurd h (by omega)⟩
  | succ n ih =>
    show (spN P x y w h n || ovl P n x y w h) = true ↔ _
    rw [Bool.or_eq_true, ih]
    constructor
    · rintro (⟨k, h1, h2⟩ | h1)
      · exact ⟨k, by omega, h2⟩
      · exact ⟨n, by omega, h1⟩
    · rintro ⟨k, h1, h2⟩
      by_cases e : k = n
      · subst e; exact Or.inr h2
      · exact Or.inl ⟨k, by omega, h2⟩
/-- what lies in a clean part is clean -/
theorem spB_sub (P : PC) {x y w h x' y' w' h' : Nat} (h1 : x ≤ x') (h2 : x' + w' ≤ x + w) (h3 : y ≤ y') (h4 : y' + h' ≤ y + h) (hs : spB P x' y' w' h' = true) : spB P x y w h = true := by
  obtain ⟨k, a, b⟩ := (spN_iff P x' y' w' h' _).mp hs
  refine (spN_iff P x y w h _).mpr ⟨k, a, ?_⟩
  have c := of_decide_eq_true b
  exact decide_eq_true (by omega)
theorem bpN_le (P : PC) (w h : Nat) : ∀ n, (∀ k, k < n → P.2 6 k ≤ 1000) → bpN P w h n ≤ 1000 := by
  intro n
  induction n with
  | zero => intro _; exact Nat.zero_le _
  | succ n ih =>
    intro hk
    have a := ih (fun k h => hk k (by omega))
    have b := hk n (by omega)
    unfold bpN
    by_cases e : likeB P n w h = true
    · rw [if_pos e]; omega
    · rw [if_neg e]; exact a
theorem pvw_le (P : PC) (x y w h : Nat) (hk : ∀ k, k < P.1 6 → P.2 6 k ≤ 1000) : pvw P x y w h ≤ 1000 := by
  unfold pvw
  by_cases e : spB P x y w h = true
  · rw [if_pos e]; omega
  · rw [if_neg e]; exact bpN_le P w h _ hk
theorem wt_le (P : PC) (hk : ∀ k, k < P.1 6 → P.2 6 k ≤ 1000) : ∀ n st x y w h, 1 ≤ w → 1 ≤ h → wt P n st x y w h ≤ 1000 * (w * h) := by
  intro n
  induction n with
  | zero => intro st x y w h _ _; exact Nat.zero_le _
  | succ n ih =>
    intro st x y w h hw hh
    show max (max (pvw P x y w h) (mxN (cutP P (wt P n) st x y w h) (sideP P st w h - P.1 2 - 1))) (if st < P.1 3 then wt P n (st + 1) x y w h else 0) ≤ _
    have h0 : 1 ≤ w * h := Nat.mul_pos hw hh
    have a := pvw_le P x y w h hk
    have b : mxN (cutP P (wt P n) st x y w h) (sideP P st w h - P.1 2 - 1) ≤ 1000 * (w * h) := by
      apply mxN_le
      intro c c1 c2
      unfold cutP
      unfold sideP at c2
      by_cases hy : wayP P st = 0
      · rw [if_pos hy] at c2
        rw [if_pos hy]
        have e1 := ih st x y c h c1 hh
        have e2 := ih st (x + c + P.1 2) y (w - c - P.1 2) h (by omega) hh
        have e3 : c * h + (w - c - P.1 2) * h ≤ w * h := by
          rw [← Nat.add_mul]
          exact Nat.mul_le_mul_right h (by omega)
        omega
      · rw [if_neg hy] at c2
        rw [if_neg hy]
        have e1 := ih st x y w c hw c1
        have e2 := ih st x (y + c + P.1 2) w (h - c - P.1 2) hw (by omega)
        have e3 : w * c + w * (h - c - P.1 2) ≤ w * h := by
          rw [← Nat.mul_add]
          exact Nat.mul_le_mul_left w (by omega)
        omega
    by_cases hs : st < P.1 3
    · rw [if_pos hs]
      have d := ih (st + 1) x y w h hw hh
      omega
    · rw [if_neg hs]
      omega
/-- without defects -/
def noD (P : PC) : PC := (fun k => if k = 5 then 0 else P.1 k, P.2)
theorem noD_sp (P : PC) (x y w h : Nat) : spB (noD P) x y w h = false := rfl
theorem noD_bp (P : PC) (w h : Nat) : ∀ n, bpN (noD P) w h n = bpN P w h n := by
  intro n
  induction n with
  | zero => rfl
  | succ n ih =>
    unfold bpN
    rw [ih]
    rfl
theorem noD_pv (P : PC) (x y w h : Nat) : pvw (noD P) x y w h = bpN P w h (P.1 6) := by
  unfold pvw
  rw [noD_sp, if_neg (by decide)]
  exact noD_bp P w h _
theorem wt_noD_xy (P : PC) : ∀ n st x y x' y' w h, wt (noD P) n st x y w h = wt (noD P) n st x' y' w h := by
  intro n
  induction n with
  | zero => intros; rfl
  | succ n ih =>
    intro st x y x' y' w h
    show max (max (pvw (noD P) x y w h) (mxN (cutP (noD P) (wt (noD P) n) st x y w h) _)) _ = max (max (pvw (noD P) x' y' w h) (mxN (cutP (noD P) (wt (noD P) n) st x' y' w h) _)) _
    rw [noD_pv, noD_pv, ih (st + 1) x y x' y' w h]
    have e : cutP (noD P) (wt (noD P) n) st x y w h = cutP (noD P) (wt (noD P) n) st x' y' w h := by
      funext c
      unfold cutP
      rw [ih st x y x' y' c h, ih st (x + c + (noD P).1 2) y (x' + c + (noD P).1 2) y' _ h, ih st x y x' y' w c, ih st x (y + c + (noD P).1 2) x' (y' + c + (noD P).1 2) w _]
    rw [e]
theorem wt_clean (P : PC) : ∀ n st x y w h, spB P x y w h = false → wt P n st x y w h = wt (noD P) n st x y w h := by
  intro n
  induction n with
  | zero => intros; rfl
  | succ n ih =>
    intro st x y w h hc
    show max (max (pvw P x y w h) (mxN (cutP P (wt P n) st x y w h) (sideP P st w h - P.1 2 - 1))) (if st < P.1 3 then wt P n (st + 1) x y w h else 0) = max (max (pvw (noD P) x y w h) (mxN (cutP (noD P) (wt (noD P) n) st x y w h) (sideP P st w h - P.1 2 - 1))) (if st < P.1 3 then wt (noD P) n (st + 1) x y w h else 0)
    have e0 : pvw P x y w h = pvw (noD P) x y w h := by
      rw [noD_pv]
      unfold pvw
      rw [hc, if_neg (by decide)]
    have sub : ∀ x' y' w' h', x ≤ x' → x' + w' ≤ x + w → y ≤ y' → y' + h' ≤ y + h → spB P x' y' w' h' = false := by
      intro x' y' w' h' a b c d
      cases hq : spB P x' y' w' h' with
      | false => rfl
      | true => rw [spB_sub P a b c d hq] at hc; exact Bool.noConfusion hc
    have e1 : mxN (cutP P (wt P n) st x y w h) (sideP P st w h - P.1 2 - 1) = mxN (cutP (noD P) (wt (noD P) n) st x y w h) (sideP P st w h - P.1 2 - 1) := by
      apply mxN_congr
      intro c c1 c2
      unfold sideP at c2
      show (if wayP P st = 0 then wt P n st x y c h + wt P n st (x + c + P.1 2) y (w - c - P.1 2) h else wt P n st x y w c + wt P n st x (y + c + P.1 2) w (h - c - P.1 2)) = (if wayP P st = 0 then wt (noD P) n st x y c h + wt (noD P) n st (x + c + P.1 2) y (w - c - P.1 2) h else wt (noD P) n st x y w c + wt (noD P) n st x (y + c + P.1 2) w (h - c - P.1 2))
      by_cases hy : wayP P st = 0
      · rw [if_pos hy] at c2
        rw [if_pos hy, if_pos hy, ih st x y c h (sub _ _ _ _ (by omega) (by omega) (by omega) (by omega)), ih st (x + c + P.1 2) y (w - c - P.1 2) h (sub _ _ _ _ (by omega) (by omega) (by omega) (by omega))]
      · rw [if_neg hy] at c2
        rw [if_neg hy, if_neg hy, ih st x y w c (sub _ _ _ _ (by omega) (by omega) (by omega) (by omega)), ih st x (y + c + P.1 2) w (h - c - P.1 2) (sub _ _ _ _ (by omega) (by omega) (by omega) (by omega))]
    rw [e0, e1, ih (st + 1) x y w h hc]
theorem wt_noD_ge (P : PC) : ∀ n st x y w h, wt P n st x y w h ≤ wt (noD P) n st x y w h := by
  intro n
  induction n with
  | zero => intros; exact Nat.le_refl _
  | succ n ih =>
    intro st x y w h
    show max (max (pvw P x y w h) (mxN (cutP P (wt P n) st x y w h) (sideP P st w h - P.1 2 - 1))) (if st < P.1 3 then wt P n (st + 1) x y w h else 0) ≤ max (max (pvw (noD P) x y w h) (mxN (cutP (noD P) (wt (noD P) n) st x y w h) (sideP P st w h - P.1 2 - 1))) (if st < P.1 3 then wt (noD P) n (st + 1) x y w h else 0)
    have e0 : pvw P x y w h ≤ pvw (noD P) x y w h := by
      rw [noD_pv]
      unfold pvw
      by_cases e : spB P x y w h = true
      · rw [if_pos e]; exact Nat.zero_le _
      · rw [if_neg e]; exact Nat.le_refl _
    have e1 : mxN (cutP P (wt P n) st x y w h) (sideP P st w h - P.1 2 - 1) ≤ mxN (cutP (noD P) (wt (noD P) n) st x y w h) (sideP P st w h - P.1 2 - 1) := by
      apply mxN_mono
      intro c c1 c2
      show (if wayP P st = 0 then wt P n st x y c h + wt P n st (x + c + P.1 2) y (w - c - P.1 2) h else wt P n st x y w c + wt P n st x (y + c + P.1 2) w (h - c - P.1 2)) ≤ (if wayP P st = 0 then wt (noD P) n st x y c h + wt (noD P) n st (x + c + P.1 2) y (w - c - P.1 2) h else wt (noD P) n st x y w c + wt (noD P) n st x (y + c + P.1 2) w (h - c - P.1 2))
      by_cases hy : wayP P st = 0
      · rw [if_pos hy, if_pos hy]; exact Nat.add_le_add (ih _ _ _ _ _) (ih _ _ _ _ _)
      · rw [if_neg hy, if_neg hy]; exact Nat.add_le_add (ih _ _ _ _ _) (ih _ _ _ _ _)
    have e2 : (if st < P.1 3 then wt P n (st + 1) x y w h else 0) ≤ (if st < P.1 3 then wt (noD P) n (st + 1) x y w h else 0) := by
      by_cases hs : st < P.1 3
      · rw [if_pos hs, if_pos hs]; exact ih _ _ _ _ _
      · rw [if_neg hs, if_neg hs]; exact Nat.le_refl _
    omega
