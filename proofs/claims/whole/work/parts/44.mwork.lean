/-! MATH, plates: the reference fills its table -/
theorem loopU {ρ : Type} (F : (ST → Int32 → Option ρ) → ST → Int32 → Option ρ) (X : ST → Int32 → Option ρ) (I : Nat → ST → Prop) (e : Nat)
    (hexit : ∀ k T, I e T → F k T (nI e) = X T (nI e))
    (hstep : ∀ k T i, i < e → I i T → ∃ T', I (i + 1) T' ∧ F k T (nI i) = k T' (nI (i + 1))) :
    ∀ d i n T, i + d = e → d < n → I i T → ∃ T', I e T' ∧ LPf (κ := ST → Int32 → Option ρ) (fun _ _ => none) F n T (nI i) = X T' (nI e) := by
  intro d
  induction d with
  | zero =>
    intro i n T hi hn hI
    obtain ⟨n, rfl⟩ : ∃ m, n = m + 1 := ⟨n - 1, by omega⟩
    obtain rfl : i = e := by omega
    exact ⟨T, hI, by rw [LP_s]; exact hexit _ T hI⟩
  | succ d ih =>
    intro i n T hi hn hI
    obtain ⟨n, rfl⟩ : ∃ m, n = m + 1 := ⟨n - 1, by omega⟩
    obtain ⟨T', hI', e'⟩ := hstep (LPf (κ := ST → Int32 → Option ρ) (fun _ _ => none) F n) T i (by omega) hI
    obtain ⟨T2, h2, e2⟩ := ih (i + 1) n T' (by omega) (by omega) hI'
    exact ⟨T2, h2, by rw [LP_s, e', e2]⟩
def DNM (P : PC) (T0 T : ST) (w0 v0 x0 y0 : Nat) : Prop := T.1 = T0.1 ∧ (∀ a, a ≠ 9 → T.2 a = T0.2 a) ∧ ∀ st x y w v, 1 ≤ st → st ≤ P.1 3 → 1 ≤ w → x + w ≤ P.1 0 → 1 ≤ v → y + v ≤ P.1 1 → (w < w0 ∨ (w = w0 ∧ (v < v0 ∨ (v = v0 ∧ (x < x0 ∨ (x = x0 ∧ y < y0)))))) → tblM P T st x y w v
theorem DNM_to {P : PC} {T0 T : ST} {w0 v0 x0 y0 w1 v1 x1 y1 : Nat} (h : DNM P T0 T w0 v0 x0 y0) (hl : ∀ x y w v, 1 ≤ w → x + w ≤ P.1 0 → 1 ≤ v → y + v ≤ P.1 1 → (w < w1 ∨ (w = w1 ∧ (v < v1 ∨ (v = v1 ∧ (x < x1 ∨ (x = x1 ∧ y < y1)))))) → (w < w0 ∨ (w = w0 ∧ (v < v0 ∨ (v = v0 ∧ (x < x0 ∨ (x = x0 ∧ y < y0))))))) : DNM P T0 T w1 v1 x1 y1 :=
  ⟨h.1, h.2.1, fun st x y w v a b c d e f g => h.2.2 st x y w v a b c d e f (hl x y w v c d e f g)⟩
theorem m_worths {P : PC} {T0 : ST} (ok : OKP P) (h : CM P T0) (hs : SPT T0) (X : ST → Int32 → Option ST) : ∃ T', DNM P T0 T' (P.1 0 + 1) 1 0 0 ∧ LPf (κ := ST → Int32 → Option (ST)) (fun _ _ => none) (fun kk => mX7_work_B15 kk X) FU T0 (nI 1) = X T' (nI (P.1 0 + 1)) := by
  obtain ⟨⟨w1, w16⟩, ⟨h1, h16⟩, k2, ⟨g1, g4⟩, -⟩ := id ok
  have e0 : T0.1 0 = nI (P.1 0) := h.1.1
  have e1 : T0.1 1 = nI (P.1 1) := h.1.2.1
  -- y
  have Ly : ∀ (X : ST → Int32 → Option ST) w v x T, 1 ≤ w → x + w ≤ P.1 0 → 1 ≤ v → v ≤ P.1 1 → DNM P T0 T w v x 0 → ∃ T', DNM P T0 T' w v x (P.1 1 - v + 1) ∧ LPf (κ := ST → Int32 → Option (ST)) (fun _ _ => none) (fun kk => mX7_work_B48 kk X (nI w) (nI v) (nI x)) FU T (nI 0) = X T' (nI (P.1 1 - v + 1)) := by
    intro X w v x T hw hxw hv hv2 hT
    refine loopU (fun kk => mX7_work_B48 kk X (nI w) (nI v) (nI x)) X (fun y T => DNM P T0 T w v x y) (P.1 1 - v + 1) ?_ ?_ (P.1 1 - v + 1) 0 FU T (by omega) (FU_gt (by omega)) hT
    · intro k T hT
      show mX7_work_B48 k X (nI w) (nI v) (nI x) T (nI (P.1 1 - v + 1)) = _
      unfold mX7_work_B48
      rw [hT.1, e1, nI_add, if_pos (by rw [ltI (by omega) (by omega)]; omega)]
    · intro k T y hy hT
      obtain ⟨T', a1, a2, a3, a4, a5⟩ := m_workPart ok (CM_of hT.1 hT.2.1 h) (SPT_of hT.2.1 hs) hw hxw hv (by omega) (x := x) (y := y) (fun st x' y' w' v' b1 b2 b3 b4 b5 b6 b7 => hT.2.2 st x' y' w' v' b1 b2 b3 b4 b5 b6 (by omega))
      refine ⟨T', ⟨a2.trans hT.1, fun a ha => (a3 a ha).trans (hT.2.1 a ha), fun st x' y' w' v' b1 b2 b3 b4 b5 b6 b7 => ?_⟩, ?_⟩
      · by_cases q : x' = x ∧ y' = y ∧ w' = w ∧ v' = v
        · obtain ⟨rfl, rfl, rfl, rfl⟩ := q
          exact a4 st b1 b2
        · unfold tblM
          rw [a5 _ (fun st' c1 c2 c3 => q (by
            obtain ⟨-, d1, d2, d3, d4⟩ := kM_inj b1 b3 (by omega) b5 (by omega) c1 hw (by omega) hv (by omega) c3
            exact ⟨d1, d2, d3, d4⟩))]
          exact hT.2.2 st x' y' w' v' b1 b2 b3 b4 b5 b6 (by omega)
      · show mX7_work_B48 k X (nI w) (nI v) (nI x) T (nI y) = _
        unfold mX7_work_B48
        rw [hT.1, e1, nI_add, if_neg (by rw [ltI (by omega) (by omega)]; omega), a1, nI_1]
        rfl
  -- x
  have Lx : ∀ (X : ST → Int32 → Option ST) w v T, 1 ≤ w → w ≤ P.1 0 → 1 ≤ v → v ≤ P.1 1 → DNM P T0 T w v 0 0 → ∃ T', DNM P T0 T' w v (P.1 0 - w + 1) 0 ∧ LPf (κ := ST → Int32 → Option (ST)) (fun _ _ => none) (fun kk => mX7_work_B35 kk X (nI w) (nI v)) FU T (nI 0) = X T' (nI (P.1 0 - w + 1)) := by
    intro X w v T hw hw2 hv hv2 hT
    refine loopU (fun kk => mX7_work_B35 kk X (nI w) (nI v)) X (fun x T => DNM P T0 T w v x 0) (P.1 0 - w + 1) ?_ ?_ (P.1 0 - w + 1) 0 FU T (by omega) (FU_gt (by omega)) hT
    · intro k T hT
      show mX7_work_B35 k X (nI w) (nI v) T (nI (P.1 0 - w + 1)) = _
      unfold mX7_work_B35
      rw [hT.1, e0, nI_add, if_pos (by rw [ltI (by omega) (by omega)]; omega)]
    · intro k T x hx hT
      obtain ⟨T', b1, b2⟩ := Ly (mX7_work_X48 k X (nI w) (nI v) (nI x)) w v x T hw (by omega) hv hv2 hT
      refine ⟨T', DNM_to b1 (by intro x' y' w' v' c1 c2 c3 c4 c5; omega), ?_⟩
      show mX7_work_B35 k X (nI w) (nI v) T (nI x) = _
      unfold mX7_work_B35
      rw [hT.1, e0, nI_add, if_neg (by rw [ltI (by omega) (by omega)]; omega)]
      refine b2.trans ?_
      unfold mX7_work_X48
      rw [nI_1]
  -- h
  have Lh : ∀ (X : ST → Int32 → Option ST) w T, 1 ≤ w → w ≤ P.1 0 → DNM P T0 T w 1 0 0 → ∃ T', DNM P T0 T' w (P.1 1 + 1) 0 0 ∧ LPf (κ := ST → Int32 → Option (ST)) (fun _ _ => none) (fun kk => mX7_work_B25 kk X (nI w)) FU T (nI 1) = X T' (nI (P.1 1 + 1)) := by
    intro X w T hw hw2 hT
    have := loopU (fun kk => mX7_work_B25 kk X (nI w)) X (fun v T => 1 ≤ v ∧ DNM P T0 T w v 0 0) (P.1 1 + 1) ?_ ?_ (P.1 1) 1 FU T (by omega) (FU_gt (by omega)) ⟨Nat.le_refl 1, hT⟩
    · obtain ⟨T', b1, b2⟩ := this
      exact ⟨T', b1.2, b2⟩
    · intro k T hT
      show mX7_work_B25 k X (nI w) T (nI (P.1 1 + 1)) = _
      unfold mX7_work_B25
      rw [hT.2.1, e1, if_pos (by rw [ltI (by omega) (by omega)]; omega)]
    · intro k T v hv hT
      obtain ⟨T', b1, b2⟩ := Lx (mX7_work_X35 k X (nI w) (nI v)) w v T hw hw2 hT.1 (by omega) hT.2
      refine ⟨T', ⟨by omega, DNM_to b1 (by intro x' y' w' v' c1 c2 c3 c4 c5; omega)⟩, ?_⟩
      show mX7_work_B25 k X (nI w) T (nI v) = _
      unfold mX7_work_B25
      rw [hT.2.1, e1, if_neg (by rw [ltI (by omega) (by omega)]; omega)]
      refine b2.trans ?_
      unfold mX7_work_X35
      rw [nI_1]
  -- w
  have := loopU (fun kk => mX7_work_B15 kk X) X (fun w T => 1 ≤ w ∧ DNM P T0 T w 1 0 0) (P.1 0 + 1) ?_ ?_ (P.1 0) 1 FU T0 (by omega) (FU_gt (by omega)) ⟨Nat.le_refl 1, rfl, fun _ _ => rfl, fun st x y w v _ _ a _ b _ c => by omega⟩
  · obtain ⟨T', b1, b2⟩ := this
    exact ⟨T', b1.2, b2⟩
  · intro k T hT
    show mX7_work_B15 k X T (nI (P.1 0 + 1)) = _
    unfold mX7_work_B15
    rw [hT.2.1, e0, if_pos (by rw [ltI (by omega) (by omega)]; omega)]
  · intro k T w hw hT
    obtain ⟨T', b1, b2⟩ := Lh (mX7_work_X25 k X (nI w)) w T hT.1 (by omega) hT.2
    refine ⟨T', ⟨by omega, DNM_to b1 (by intro x' y' w' v' c1 c2 c3 c4 c5; omega)⟩, ?_⟩
    show mX7_work_B15 k X T (nI w) = _
    unfold mX7_work_B15
    rw [hT.2.1, e0, if_neg (by rw [ltI (by omega) (by omega)]; omega)]
    refine b2.trans ?_
    unfold mX7_work_X25
    rw [nI_1]
