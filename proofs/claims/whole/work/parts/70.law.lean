/-! MATH: both halves, side by side; the law -/
def loS (S : ST) : ST := (fun k => if k ≤ 11 then S.1 k else 0, fun a => if a ≤ 8 then S.2 a else fun _ => 0)
def loT (T : ST) : ST := (fun k => if k ≤ 10 then T.1 k else 0, fun a => if a ≤ 20 then T.2 a else fun _ => 0)
def hiS (S : ST) : ST := (fun k => if 11 < k then S.1 k else 0, fun a => if 8 < a then S.2 a else fun _ => 0)
def hiT (T : ST) : ST := (fun k => if 10 < k then T.1 k else 0, fun a => if 20 < a then T.2 a else fun _ => 0)
theorem RelP_lo (S T : ST) : RelP (loS S) (loT T) ↔ RelP S T := Iff.rfl
theorem RelB_hi (S T : ST) : RelB (hiS S) (hiT T) ↔ RelB S T := Iff.rfl
theorem ifc {α : Type} {c : Prop} {i : Decidable c} {x y z : α} (h : c → x = y) : (@ite _ c i x z) = @ite _ c i y z := by
  by_cases q : c
  · rw [if_pos q, if_pos q]; exact h q
  · rw [if_neg q, if_neg q]
theorem RelP_of {S S' T T' : ST} (h : RelP S T) (g : GB S S' T T') : RelP S' T' := by
  have e1 : loS S' = loS S := Prod.ext (funext fun k => ifc (g.1.1 k)) (funext fun a => ifc (g.1.2 a))
  have e2 : loT T' = loT T := Prod.ext (funext fun k => ifc (g.2.1 k)) (funext fun a => ifc (g.2.2 a))
  rw [← RelP_lo, e1, e2, RelP_lo]
  exact h
theorem RelB_of {S S' T T' : ST} (h : RelB S T) (g : FB S S' T T') : RelB S' T' := by
  have e1 : hiS S' = hiS S := Prod.ext (funext fun k => ifc (g.1.1 k)) (funext fun a => ifc (g.1.2 a))
  have e2 : hiT T' = hiT T := Prod.ext (funext fun k => ifc (g.2.1 k)) (funext fun a => ifc (g.2.2 a))
  rw [← RelB_hi, e1, e2, RelB_hi]
  exact h
def REL (S T : ST) : Prop := RelP S T ∧ RelB S T
def OK2 (a b : Option (Int32 × ST)) : Prop := ∃ r S' T', a = some (r, S') ∧ b = some (r, T') ∧ REL S' T'
theorem OK2_p {a b : Option (Int32 × ST)} {S T : ST} (h : REL S T) (g : RelP S T → OKc a b S T) : OK2 a b := by
  obtain ⟨r, S', T', e1, e2, k, f⟩ := g h.1
  exact ⟨r, S', T', e1, e2, k, RelB_of h.2 f⟩
theorem OK2_b {a b : Option (Int32 × ST)} {S T : ST} (h : REL S T) (g : RelB S T → OKb a b S T) : OK2 a b := by
  obtain ⟨r, S', T', e1, e2, k, f⟩ := g h.2
  exact ⟨r, S', T', e1, e2, RelP_of h.1 f, k⟩
theorem bothK {a b : Option (Int32 × ST)} (h : OK2 a b) : ∃ S' T', REL S' T' ∧ ∀ (k : ST → ST → Int32 → Option Int32) (j : Int32), a.bind (fun r1 => b.bind (fun r2 => if r1.1 = r2.1 then k r1.2 r2.2 j else some 0)) = k S' T' j := by
  obtain ⟨r, S', T', rfl, rfl, hr⟩ := h
  exact ⟨S', T', hr, fun k j => if_pos rfl⟩
theorem F_told {S T : ST} (h : REL S T) (p : Int32) : ∃ r, mX6_told S p = some r ∧ mX7_told T p = some r := by
  obtain ⟨⟨P, -, hC, hM, -⟩, K, D, -, -, kC, kT, -⟩ := h
  have E : mX6_told S p = mX7_told T p := by
    unfold mX6_told mX7_told
    rw [hC.1.1, hC.1.2.1, hC.1.2.2.1, hC.1.2.2.2.1, hC.1.2.2.2.2.1, hC.1.2.2.2.2.2.1, hC.1.2.2.2.2.2.2, kC.1.1, kC.1.2.1, kC.1.2.2.1]
    rw [hM.1.1, hM.1.2.1, hM.1.2.2.1, hM.1.2.2.2.1, hM.1.2.2.2.2.1, hM.1.2.2.2.2.2.1, hM.1.2.2.2.2.2.2, kT.1, kT.2.1, kT.2.2.1]
  have X : ∃ r, mX7_told T p = some r := by
    unfold mX7_told
    repeat' (first | exact ⟨_, rfl⟩ | split)
  obtain ⟨r, hr⟩ := X
  exact ⟨r, E.trans hr, hr⟩
theorem law_step {S T : ST} {L i : Nat} (xs : Nat → Int32) (h : REL S T) (hL : L ≤ 384) (hi : i + 6 ≤ L) : ∃ S' T', REL S' T' ∧ ∀ k, mL_B k xs L S T (nI i) = k S' T' (nI i + 6) := by
  have g0 : inB (nI i) L = true := decide_eq_true (vp_in_nI (by omega) (by omega))
  have g1 : inB (nI i + 1) L = true := by rw [l1, nI_add]; exact decide_eq_true (vp_in_nI (by omega) (by omega))
  have g2 : inB (nI i + 2) L = true := by rw [l2, nI_add]; exact decide_eq_true (vp_in_nI (by omega) (by omega))
  have g3 : inB (nI i + 3) L = true := by rw [l3, nI_add]; exact decide_eq_true (vp_in_nI (by omega) (by omega))
  have g4 : inB (nI i + 4) L = true := by rw [l4, nI_add]; exact decide_eq_true (vp_in_nI (by omega) (by omega))
  have g5 : inB (nI i + 5) L = true := by rw [l5, nI_add]; exact decide_eq_true (vp_in_nI (by omega) (by omega))
  have gl : ¬ ((Int32.ofNat L - (6 : Int32)) < nI i) := by
    rw [show Int32.ofNat L = nI L from rfl, l6, pk_sub (by omega), ltI (by omega) (by omega)]
    omega
  have GO : ∀ X : (ST → ST → Int32 → Option Int32) → Option Int32, (∀ k, mL_B k xs L S T (nI i) = X k) → (∃ S' T', REL S' T' ∧ ∀ k, X k = k S' T' (nI i + 6)) → ∃ S' T', REL S' T' ∧ ∀ k, mL_B k xs L S T (nI i) = k S' T' (nI i + 6) := fun X e ⟨S', T', r, hk⟩ => ⟨S', T', r, fun k => (e k).trans (hk k)⟩
  by_cases o0 : (xs (nI i).toNatClampNeg) &&& (31 : Int32) = 0
  · refine GO (fun k => mL_c0 k xs L S T (nI i)) (fun k => by unfold mL_B; rw [if_neg gl, g0, gdT, if_pos o0]) ?_
    obtain ⟨S', T', r, hk⟩ := bothK (OK2_p h (fun g => F_plate g (xs (nI i + 1).toNatClampNeg) (xs (nI i + 2).toNatClampNeg) (xs (nI i + 3).toNatClampNeg) (xs (nI i + 4).toNatClampNeg) (xs (nI i + 5).toNatClampNeg)))
    exact ⟨S', T', r, fun k => by unfold mL_c0; rw [g1, g2, g3, g4, g5]; exact hk k _⟩
  by_cases o1 : (xs (nI i).toNatClampNeg) &&& (31 : Int32) = 1
  · refine GO (fun k => mL_c1 k xs L S T (nI i)) (fun k => by unfold mL_B; rw [if_neg gl, g0, gdT, if_neg o0, if_pos o1]) ?_
    obtain ⟨S', T', r, hk⟩ := bothK (OK2_p h (fun g => F_defect g (xs (nI i + 1).toNatClampNeg) (xs (nI i + 2).toNatClampNeg) (xs (nI i + 3).toNatClampNeg) (xs (nI i + 4).toNatClampNeg)))
    exact ⟨S', T', r, fun k => by unfold mL_c1; rw [g1, g2, g3, g4]; exact hk k _⟩
  by_cases o2 : (xs (nI i).toNatClampNeg) &&& (31 : Int32) = 2
  · refine GO (fun k => mL_c2 k xs L S T (nI i)) (fun k => by unfold mL_B; rw [if_neg gl, g0, gdT, if_neg o0, if_neg o1, if_pos o2]) ?_
    by_cases z : xs (nI i + 4).toNatClampNeg = 0
    · obtain ⟨S', T', r, hk⟩ := bothK (OK2_p h (fun g => F_kind g (xs (nI i + 1).toNatClampNeg) (xs (nI i + 2).toNatClampNeg) (xs (nI i + 3).toNatClampNeg) (t := 0) (by decide)))
      exact ⟨S', T', r, fun k => by unfold mL_c2; rw [g1, g2, g3, g4, gdT, gdT, gdT, gdT, if_pos z]; unfold mL_J273; rw [g1, g2, g3, g4]; simp only [if_pos z]; exact hk k _⟩
    · obtain ⟨S', T', r, hk⟩ := bothK (OK2_p h (fun g => F_kind g (xs (nI i + 1).toNatClampNeg) (xs (nI i + 2).toNatClampNeg) (xs (nI i + 3).toNatClampNeg) (t := 1) (by decide)))
      exact ⟨S', T', r, fun k => by unfold mL_c2; rw [g1, g2, g3, g4, gdT, gdT, gdT, gdT, if_neg z]; unfold mL_J273; rw [g1, g2, g3, g4]; simp only [if_neg z]; exact hk k _⟩
  by_cases o3 : (xs (nI i).toNatClampNeg) &&& (31 : Int32) = 3
  · refine GO (fun k => mL_c3 k xs L S T (nI i)) (fun k => by unfold mL_B; rw [if_neg gl, g0, gdT, if_neg o0, if_neg o1, if_neg o2, if_pos o3]) ?_
    obtain ⟨S', T', r, hk⟩ := bothK (OK2_p h (fun g => F_value g (xs (nI i + 1).toNatClampNeg) (xs (nI i + 2).toNatClampNeg)))
    exact ⟨S', T', r, fun k => by unfold mL_c3; rw [g1, g2]; exact hk k _⟩
  by_cases o4 : (xs (nI i).toNatClampNeg) &&& (31 : Int32) = 4
  · refine GO (fun k => mL_c4 k xs L S T (nI i)) (fun k => by unfold mL_B; rw [if_neg gl, g0, gdT, if_neg o0, if_neg o1, if_neg o2, if_neg o3, if_pos o4]) ?_
    obtain ⟨S', T', r, hk⟩ := bothK (OK2_p h (fun g => F_worth g (xs (nI i + 1).toNatClampNeg) (xs (nI i + 2).toNatClampNeg) (xs (nI i + 3).toNatClampNeg) (xs (nI i + 4).toNatClampNeg) (xs (nI i + 5).toNatClampNeg)))
    exact ⟨S', T', r, fun k => by unfold mL_c4; rw [g1, g2, g3, g4, g5]; exact hk k _⟩
  by_cases o5 : (xs (nI i).toNatClampNeg) &&& (31 : Int32) = 5
  · refine GO (fun k => mL_c5 k xs L S T (nI i)) (fun k => by unfold mL_B; rw [if_neg gl, g0, gdT, if_neg o0, if_neg o1, if_neg o2, if_neg o3, if_neg o4, if_pos o5]) ?_
    obtain ⟨S', T', r, hk⟩ := bothK (OK2_p h (fun g => F_pieces g))
    exact ⟨S', T', r, fun k => hk k _⟩
  by_cases o6 : (xs (nI i).toNatClampNeg) &&& (31 : Int32) = 6
  · refine GO (fun k => mL_c6 k xs L S T (nI i)) (fun k => by unfold mL_B; rw [if_neg gl, g0, gdT, if_neg o0, if_neg o1, if_neg o2, if_neg o3, if_neg o4, if_neg o5, if_pos o6]) ?_
    obtain ⟨S', T', r, hk⟩ := bothK (OK2_p h (fun g => F_piece g (xs (nI i + 1).toNatClampNeg) (xs (nI i + 2).toNatClampNeg)))
    exact ⟨S', T', r, fun k => by unfold mL_c6; rw [g1, g2]; exact hk k _⟩
  by_cases o7 : (xs (nI i).toNatClampNeg) &&& (31 : Int32) = 7
  · refine GO (fun k => mL_c7 k xs L S T (nI i)) (fun k => by unfold mL_B; rw [if_neg gl, g0, gdT, if_neg o0, if_neg o1, if_neg o2, if_neg o3, if_neg o4, if_neg o5, if_neg o6, if_pos o7]) ?_
    obtain ⟨S', T', r, hk⟩ := bothK (OK2_p h (fun g => F_cuts g))
    exact ⟨S', T', r, fun k => hk k _⟩
  by_cases o8 : (xs (nI i).toNatClampNeg) &&& (31 : Int32) = 8
  · refine GO (fun k => mL_c8 k xs L S T (nI i)) (fun k => by unfold mL_B; rw [if_neg gl, g0, gdT, if_neg o0, if_neg o1, if_neg o2, if_neg o3, if_neg o4, if_neg o5, if_neg o6, if_neg o7, if_pos o8]) ?_
    obtain ⟨S', T', r, hk⟩ := bothK (OK2_p h (fun g => F_cut g (xs (nI i + 1).toNatClampNeg) (xs (nI i + 2).toNatClampNeg)))
    exact ⟨S', T', r, fun k => by unfold mL_c8; rw [g1, g2]; exact hk k _⟩
  by_cases o9 : (xs (nI i).toNatClampNeg) &&& (31 : Int32) = 9
  · refine GO (fun k => mL_c9 k xs L S T (nI i)) (fun k => by unfold mL_B; rw [if_neg gl, g0, gdT, if_neg o0, if_neg o1, if_neg o2, if_neg o3, if_neg o4, if_neg o5, if_neg o6, if_neg o7, if_neg o8, if_pos o9]) ?_
    obtain ⟨S', T', r, hk⟩ := bothK (OK2_p h (fun g => F_waste g))
    exact ⟨S', T', r, fun k => hk k _⟩
  by_cases o10 : (xs (nI i).toNatClampNeg) &&& (31 : Int32) = 10
  · refine GO (fun k => mL_c10 k xs L S T (nI i)) (fun k => by unfold mL_B; rw [if_neg gl, g0, gdT, if_neg o0, if_neg o1, if_neg o2, if_neg o3, if_neg o4, if_neg o5, if_neg o6, if_neg o7, if_neg o8, if_neg o9, if_pos o10]) ?_
    obtain ⟨S', T', r, hk⟩ := bothK (OK2_b h (fun g => F_stock g (xs (nI i + 1).toNatClampNeg) (xs (nI i + 2).toNatClampNeg)))
    exact ⟨S', T', r, fun k => by unfold mL_c10; rw [g1, g2]; exact hk k _⟩
  by_cases o11 : (xs (nI i).toNatClampNeg) &&& (31 : Int32) = 11
  · refine GO (fun k => mL_c11 k xs L S T (nI i)) (fun k => by unfold mL_B; rw [if_neg gl, g0, gdT, if_neg o0, if_neg o1, if_neg o2, if_neg o3, if_neg o4, if_neg o5, if_neg o6, if_neg o7, if_neg o8, if_neg o9, if_neg o10, if_pos o11]) ?_
    obtain ⟨S', T', r, hk⟩ := bothK (OK2_b h (fun g => F_order g (xs (nI i + 1).toNatClampNeg) (xs (nI i + 2).toNatClampNeg)))
    exact ⟨S', T', r, fun k => by unfold mL_c11; rw [g1, g2]; exact hk k _⟩
  by_cases o12 : (xs (nI i).toNatClampNeg) &&& (31 : Int32) = 12
  · refine GO (fun k => mL_c12 k xs L S T (nI i)) (fun k => by unfold mL_B; rw [if_neg gl, g0, gdT, if_neg o0, if_neg o1, if_neg o2, if_neg o3, if_neg o4, if_neg o5, if_neg o6, if_neg o7, if_neg o8, if_neg o9, if_neg o10, if_neg o11, if_pos o12]) ?_
    obtain ⟨S', T', r, hk⟩ := bothK (OK2_b h (fun g => F_demand g (xs (nI i + 1).toNatClampNeg) (xs (nI i + 2).toNatClampNeg)))
    exact ⟨S', T', r, fun k => by unfold mL_c12; rw [g1, g2]; exact hk k _⟩
  by_cases o13 : (xs (nI i).toNatClampNeg) &&& (31 : Int32) = 13
  · refine GO (fun k => mL_c13 k xs L S T (nI i)) (fun k => by unfold mL_B; rw [if_neg gl, g0, gdT, if_neg o0, if_neg o1, if_neg o2, if_neg o3, if_neg o4, if_neg o5, if_neg o6, if_neg o7, if_neg o8, if_neg o9, if_neg o10, if_neg o11, if_neg o12, if_pos o13]) ?_
    obtain ⟨S', T', r, hk⟩ := bothK (OK2_b h (fun g => F_blade g (xs (nI i + 1).toNatClampNeg)))
    exact ⟨S', T', r, fun k => by unfold mL_c13; rw [g1]; exact hk k _⟩
  by_cases o14 : (xs (nI i).toNatClampNeg) &&& (31 : Int32) = 14
  · refine GO (fun k => mL_c14 k xs L S T (nI i)) (fun k => by unfold mL_B; rw [if_neg gl, g0, gdT, if_neg o0, if_neg o1, if_neg o2, if_neg o3, if_neg o4, if_neg o5, if_neg o6, if_neg o7, if_neg o8, if_neg o9, if_neg o10, if_neg o11, if_neg o12, if_neg o13, if_pos o14]) ?_
    obtain ⟨S', T', r, hk⟩ := bothK (OK2_b h (fun g => F_price g))
    exact ⟨S', T', r, fun k => hk k _⟩
  by_cases o15 : (xs (nI i).toNatClampNeg) &&& (31 : Int32) = 15
  · refine GO (fun k => mL_c15 k xs L S T (nI i)) (fun k => by unfold mL_B; rw [if_neg gl, g0, gdT, if_neg o0, if_neg o1, if_neg o2, if_neg o3, if_neg o4, if_neg o5, if_neg o6, if_neg o7, if_neg o8, if_neg o9, if_neg o10, if_neg o11, if_neg o12, if_neg o13, if_neg o14, if_pos o15]) ?_
    obtain ⟨S', T', r, hk⟩ := bothK (OK2_b h (fun g => F_bars g))
    exact ⟨S', T', r, fun k => hk k _⟩
  by_cases o16 : (xs (nI i).toNatClampNeg) &&& (31 : Int32) = 16
  · refine GO (fun k => mL_c16 k xs L S T (nI i)) (fun k => by unfold mL_B; rw [if_neg gl, g0, gdT, if_neg o0, if_neg o1, if_neg o2, if_neg o3, if_neg o4, if_neg o5, if_neg o6, if_neg o7, if_neg o8, if_neg o9, if_neg o10, if_neg o11, if_neg o12, if_neg o13, if_neg o14, if_neg o15, if_pos o16]) ?_
    obtain ⟨S', T', r, hk⟩ := bothK (OK2_b h (fun g => F_bar g (xs (nI i + 1).toNatClampNeg) (xs (nI i + 2).toNatClampNeg)))
    exact ⟨S', T', r, fun k => by unfold mL_c16; rw [g1, g2]; exact hk k _⟩
  by_cases o17 : (xs (nI i).toNatClampNeg) &&& (31 : Int32) = 17
  · refine GO (fun k => mL_c17 k xs L S T (nI i)) (fun k => by unfold mL_B; rw [if_neg gl, g0, gdT, if_neg o0, if_neg o1, if_neg o2, if_neg o3, if_neg o4, if_neg o5, if_neg o6, if_neg o7, if_neg o8, if_neg o9, if_neg o10, if_neg o11, if_neg o12, if_neg o13, if_neg o14, if_neg o15, if_neg o16, if_pos o17]) ?_
    obtain ⟨r, e1, e2⟩ := F_told h (xs (nI i + 1).toNatClampNeg)
    refine ⟨S, T, h, fun k => ?_⟩
    show mL_c17 k xs L S T (nI i) = _
    unfold mL_c17
    rw [g1, gdT, e1, Option.bind_some, gdT, e2, Option.bind_some, if_pos rfl]
  by_cases o18 : (xs (nI i).toNatClampNeg) &&& (31 : Int32) = 18
  · refine GO (fun k => mL_c18 k xs L S T (nI i)) (fun k => by unfold mL_B; rw [if_neg gl, g0, gdT, if_neg o0, if_neg o1, if_neg o2, if_neg o3, if_neg o4, if_neg o5, if_neg o6, if_neg o7, if_neg o8, if_neg o9, if_neg o10, if_neg o11, if_neg o12, if_neg o13, if_neg o14, if_neg o15, if_neg o16, if_neg o17, if_pos o18]) ?_
    obtain ⟨S', T', r, hk⟩ := bothK (OK2_p h (fun g => F_noKinds g))
    exact ⟨S', T', r, fun k => hk k _⟩
  by_cases o19 : (xs (nI i).toNatClampNeg) &&& (31 : Int32) = 19
  · refine GO (fun k => mL_c19 k xs L S T (nI i)) (fun k => by unfold mL_B; rw [if_neg gl, g0, gdT, if_neg o0, if_neg o1, if_neg o2, if_neg o3, if_neg o4, if_neg o5, if_neg o6, if_neg o7, if_neg o8, if_neg o9, if_neg o10, if_neg o11, if_neg o12, if_neg o13, if_neg o14, if_neg o15, if_neg o16, if_neg o17, if_neg o18, if_pos o19]) ?_
    obtain ⟨S', T', r, hk⟩ := bothK (OK2_b h (fun g => F_noBars g))
    exact ⟨S', T', r, fun k => hk k _⟩
  · exact ⟨S, T, h, fun k => by unfold mL_B; rw [if_neg gl, g0, gdT, if_neg o0, if_neg o1, if_neg o2, if_neg o3, if_neg o4, if_neg o5, if_neg o6, if_neg o7, if_neg o8, if_neg o9, if_neg o10, if_neg o11, if_neg o12, if_neg o13, if_neg o14, if_neg o15, if_neg o16, if_neg o17, if_neg o18, if_neg o19]⟩
theorem law_all {L : Nat} (xs : Nat → Int32) (hL : L ≤ 384) : ∀ d i S T, L - i ≤ d → i ≤ 1000 → REL S T → ∃ n, mL xs L n S T (nI i) = some 1 := by
  have fin : ∀ i S T, ¬ (i + 6 ≤ L) → i ≤ 1000 → ∃ n, mL xs L n S T (nI i) = some 1 := fun i S T h hi => by
    refine ⟨1, ?_⟩
    show mL_B _ xs L S T (nI i) = some 1
    unfold mL_B
    rw [if_pos]
    rw [show Int32.ofNat L = nI L from rfl]
    by_cases c : 6 ≤ L
    · rw [l6, pk_sub c, ltI (by omega) (by omega)]
      omega
    · have k : ∀ L, L < 6 → nI L - 6 < 0 := by decide
      exact Int32.lt_of_lt_of_le (k L (by omega)) (nI_pos' (by omega))
  intro d
  induction d with
  | zero =>
    intro i S T hd hi h
    exact fin i S T (by omega) hi
  | succ d ih =>
    intro i S T hd hi h
    by_cases c : i + 6 ≤ L
    · obtain ⟨S', T', r, hk⟩ := law_step xs h hL c
      obtain ⟨n, hn⟩ := ih (i + 6) S' T' (by omega) (by omega) r
      refine ⟨n + 1, ?_⟩
      show mL_B (fun S T i => mL xs L n S T i) xs L S T (nI i) = some 1
      rw [hk, l6, nI_add]
      exact hn
    · exact fin i S T c hi
