/-! MATH, base: numbers, guards, loops -/
theorem LP_s {κ : Type} (z : κ) (F : κ → κ) (n : Nat) : LPf z F (n + 1) = F (LPf z F n) := rfl
theorem gdI {α : Type} {a n : Nat} {x : Option α} (h : a < n) (hn : n < 2147483648) : gd (inB (nI a) n) x = x := by
  have e : inB (nI a) n = true := decide_eq_true (vp_in_nI h hn)
  rw [e]
  rfl
theorem clI {a : Nat} (h : a < 2147483648) : (nI a).toNatClampNeg = a := nI_clamp h
theorem l0 : (0 : Int32) = nI 0 := rfl
theorem l1 : (1 : Int32) = nI 1 := rfl
theorem l2 : (2 : Int32) = nI 2 := rfl
theorem l3 : (3 : Int32) = nI 3 := rfl
theorem l4 : (4 : Int32) = nI 4 := rfl
theorem l5 : (5 : Int32) = nI 5 := rfl
theorem l6 : (6 : Int32) = nI 6 := rfl
theorem l7 : (7 : Int32) = nI 7 := rfl
theorem l8 : (8 : Int32) = nI 8 := rfl
theorem l16 : (16 : Int32) = nI 16 := rfl
theorem l21 : (21 : Int32) = nI 21 := rfl
theorem l99 : (99 : Int32) = nI 99 := rfl
theorem l100 : (100 : Int32) = nI 100 := rfl
theorem l136 : (136 : Int32) = nI 136 := rfl
theorem l1000 : (1000 : Int32) = nI 1000 := rfl
theorem leI {a b : Nat} (ha : a < 2147483648) (hb : b < 2147483648) : (nI a ≤ nI b) = (a ≤ b) := propext (nI_leI ha hb)
theorem ltI {a b : Nat} (ha : a < 2147483648) (hb : b < 2147483648) : (nI a < nI b) = (a < b) := propext (nI_ltI ha hb)
theorem eqI {a b : Nat} (ha : a < 2147483648) (hb : b < 2147483648) : (nI a = nI b) = (a = b) := propext (nI_eq ha hb)
theorem ifLe {α : Type} {a b : Nat} {x y : α} (ha : a < 2147483648) (hb : b < 2147483648) {i : Decidable (nI a ≤ nI b)} : (@ite α (nI a ≤ nI b) i x y) = if a ≤ b then x else y := by
  by_cases c : a ≤ b
  · rw [if_pos c, if_pos ((nI_leI ha hb).mpr c)]
  · rw [if_neg c, if_neg (fun q => c ((nI_leI ha hb).mp q))]
theorem ifLt {α : Type} {a b : Nat} {x y : α} (ha : a < 2147483648) (hb : b < 2147483648) {i : Decidable (nI a < nI b)} : (@ite α (nI a < nI b) i x y) = if a < b then x else y := by
  by_cases c : a < b
  · rw [if_pos c, if_pos ((nI_ltI ha hb).mpr c)]
  · rw [if_neg c, if_neg (fun q => c ((nI_ltI ha hb).mp q))]
theorem ifEq {α : Type} {a b : Nat} {x y : α} (ha : a < 2147483648) (hb : b < 2147483648) {i : Decidable (nI a = nI b)} : (@ite α (nI a = nI b) i x y) = if a = b then x else y := by
  by_cases c : a = b
  · rw [if_pos c, if_pos ((nI_eq ha hb).mpr c)]
  · rw [if_neg c, if_neg (fun q => c ((nI_eq ha hb).mp q))]
theorem ifEq0 {α : Type} {a : Nat} {x y : α} (ha : a < 2147483648) {i : Decidable (nI a = 0)} : (@ite α (nI a = 0) i x y) = if a = 0 then x else y := ifEq ha (by decide)
theorem ifLe0 {α : Type} {a : Nat} {x y : α} (ha : a < 2147483648) {i : Decidable (nI a ≤ 0)} : (@ite α (nI a ≤ 0) i x y) = if a ≤ 0 then x else y := ifLe ha (by decide)
theorem nIt : ¬ (nI true.toNat = 0) := by decide
theorem nIf : nI false.toNat = 0 := by decide
theorem ifB {α : Type} {b : Bool} {x y : α} {i : Decidable (nI b.toNat = 0)} : (@ite α (nI b.toNat = 0) i x y) = if b = true then y else x := by
  cases b with
  | true => rw [if_neg nIt, if_pos rfl]
  | false => rw [if_pos nIf, if_neg Bool.false_ne_true]
theorem decI {a : Nat} (h : 1 ≤ a) : nI a + (-1) = nI (a - 1) := by
  obtain ⟨b, rfl⟩ : ∃ b, a = b + 1 := ⟨a - 1, by omega⟩
  exact pk_m1 b
theorem rngI {p : Int32} {lo hi : Nat} (hlo : lo < 2147483648) (hhi : hi < 2147483648) (h1 : nI lo ≤ p) (h2 : p ≤ nI hi) : ∃ n, p = nI n ∧ lo ≤ n ∧ n ≤ hi := by
  have h0 : ¬ p < 0 := by
    intro h
    have a1 := Int32.le_iff_toInt_le.mp h1
    have a2 := Int32.lt_iff_toInt_lt.mp h
    rw [nI_toInt hlo] at a1
    have a3 : (0 : Int32).toInt = 0 := by decide
    omega
  obtain ⟨n, hn, rfl⟩ := nI_of h0
  exact ⟨n, rfl, (nI_leI hlo hn).mp h1, (nI_leI hn hhi).mp h2⟩
theorem w6t {p lo hi : Int32} (h1 : lo ≤ p) (h2 : p ≤ hi) : mX6_within p lo hi = some 1 := by
  unfold mX6_within
  rw [if_neg (Int32.not_lt.mpr h1), if_neg (Int32.not_lt.mpr h2)]
theorem w6f {p lo hi : Int32} (h : ¬ (lo ≤ p ∧ p ≤ hi)) : mX6_within p lo hi = some 0 := by
  unfold mX6_within
  by_cases h1 : p < lo
  · rw [if_pos h1]
  · rw [if_neg h1]
    by_cases h2 : hi < p
    · rw [if_pos h2]
    · exact absurd ⟨Int32.not_lt.mp h1, Int32.not_lt.mp h2⟩ h
theorem w7e (p lo hi : Int32) : mX7_within p lo hi = mX6_within p lo hi := rfl
/-- a test of bounds ahead of a road -/
theorem w6b {α : Type} (p lo hi : Int32) (A B : Option α) : ((mX6_within p lo hi).bind (fun r => if r = 0 then A else B)) = if lo ≤ p ∧ p ≤ hi then B else A := by
  by_cases h : lo ≤ p ∧ p ≤ hi
  · rw [w6t h.1 h.2, if_pos h]
    show (if (1 : Int32) = 0 then A else B) = B
    exact if_neg (by decide)
  · rw [w6f h, if_neg h]
    show (if (0 : Int32) = 0 then A else B) = A
    exact if_pos rfl
theorem w7b {α : Type} (p lo hi : Int32) (A B : Option α) : ((mX7_within p lo hi).bind (fun r => if r = 0 then A else B)) = if lo ≤ p ∧ p ≤ hi then B else A := w6b p lo hi A B
theorem updE {f : Nat → Int32} {k j : Nat} {v : Int32} : upd f k v j = if j = k then v else f j := rfl
theorem upE {α : Type} {f : Nat → α} {k j : Nat} {v : α} : va_up f k v j = if j = k then v else f j := rfl
/-- what an update leaves -/
theorem sI_i (S : ST) (k j : Nat) (v : Int32) : (sI S k v).1 j = if j = k then v else S.1 j := rfl
theorem sI_g (S : ST) (k : Nat) (v : Int32) : (sI S k v).2 = S.2 := rfl
theorem sG_i (S : ST) (k : Nat) (i v : Int32) : (sG S k i v).1 = S.1 := rfl
theorem sG_g (S : ST) (k j : Nat) (i v : Int32) : (sG S k i v).2 j = if j = k then upd (S.2 k) i.toNatClampNeg v else S.2 j := rfl
theorem exT {α : Type} {a b : Option α} {Q : α → Prop} (e : a = b) (h : ∃ t, b = some t ∧ Q t) : ∃ t, a = some t ∧ Q t := by rw [e]; exact h
