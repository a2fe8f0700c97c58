/-! MATH, bars: the reference, all cuts -/
theorem m_cut {K : KB} {w cut : Nat} {T1 T : ST} (ok : OKK K) (hK : KM K T1) (hP : ∀ r, r < w + 1 → PTr K w T1 r) (hw : w < 1296) (hp : pcs (cv w) ≤ 20) (hc : cut < w) (h : DPI K w cut 1 T1 T) (k x : ST → Int32 → Option ST) : ∃ T', DPI K w (cut + 1) 1 T1 T' ∧ LPf (κ := ST → Int32 → Option (ST)) (fun _ _ => none) (fun kk => mX7_list_B95 kk (mX7_list_X95 k x (nI w) (nI cut)) (nI w) (nI cut)) FU T 1 = k T' (nI (cut + 1)) := by
  have nx : ∀ T i, DPI K w cut i T1 T → (∀ r x, r ≤ w → inV (cv r) (cv w) → x ≠ 0 → inV (cv x) (cv r) → r - x = cut → i ≤ x → 1048576 ≤ bc K (cv x) + CB K (cv cut)) → DPI K w (cut + 1) 1 T1 T := fun T i h g => DP_wk h (fun r x hr hrw x0 xin hx => by
    by_cases e : r - x = cut ∧ i ≤ x
    · right; rw [e.1]; exact g r x hr hrw x0 xin e.1 e.2
    · left; clear hrw xin g; omega)
  obtain ⟨d1, d2⟩ := DP_done h (Nat.le_of_lt hc) (Nat.le_refl cut)
  by_cases c : HH (inV (cv cut) (cv w) ∧ CB K (cv cut) < 1048576)
  · obtain ⟨T', a1, a2⟩ := loopG (fun kk => mX7_list_B95 kk (mX7_list_X95 k x (nI w) (nI cut)) (nI w) (nI cut)) (mX7_list_X95 k x (nI w) (nI cut)) (fun i T => 1 ≤ i ∧ DPI K w cut i T1 T) (w - cut + 1) (fun k' T hT => by
        show mX7_list_B95 k' _ (nI w) (nI cut) T (nI (w - cut + 1)) = _
        unfold mX7_list_B95
        rw [pk_sub (by omega), if_pos (by rw [ltI (by omega) (by omega)]; omega)]) (fun k' T i hi hT => by
        obtain ⟨T', b1, b2⟩ := m_row ok hK hP hw hp hc c.1 c.2 hT.1 (Nat.le_of_lt_succ hi) hT.2 k' (mX7_list_X95 k x (nI w) (nI cut))
        exact ⟨T', ⟨by omega, b1⟩, b2⟩) (w - cut) 1 FU T (by omega) (FU_gt (by omega)) ⟨by omega, h⟩
    rw [l1, a2]
    unfold mX7_list_X95
    rw [nI_1]
    refine ⟨T', nx T' _ a1.2 (fun r x hr hrw x0 xin e hx => ?_), rfl⟩
    have xl := (cv_sub xin).1
    clear xin hrw
    omega
  · obtain ⟨F, hF⟩ : ∃ F, FU = F + 1 := ⟨99999, rfl⟩
    rw [hF, LP_s]
    generalize LPf (κ := ST → Int32 → Option (ST)) (fun _ _ => none) _ F = k'
    show ∃ T', _ ∧ mX7_list_B95 k' _ (nI w) (nI cut) T 1 = _
    have e25 : T.2 25 cut = -1 := by
      by_cases g : inV (cv cut) (cv w)
      · rcases d1 g with ⟨-, e⟩ | ⟨e, -⟩
        · exact e
        · exact absurd ⟨g, e⟩ c
      · exact d2 g
    unfold mX7_list_B95
    rw [l1, pk_sub (by omega), if_neg (by rw [ltI (by omega) (by omega)]; omega), gdI (by omega) (by omega), clI (a := cut) (by omega), e25, if_pos (show (-1 : Int32) = -nI 1 by decide)]
    unfold mX7_list_X95
    rw [nI_1]
    refine ⟨T, nx T 1 h (fun r x hr hrw x0 xin e hx => ?_), rfl⟩
    have f := (in_rest xin hrw).2
    rw [e] at f
    have g : ¬ CB K (cv cut) < 1048576 := fun q => c ⟨f, q⟩
    exact Nat.le_trans (Nat.not_lt.mp g) (Nat.le_add_left _ _)
theorem m_prices {K : KB} {w : Nat} {T0 T1 : ST} (ok : OKK K) (hK : KM K T1) (h : RI K w T0 (w + 1) T1) (hw : w < 1296) (hp : pcs (cv w) ≤ 20) : ∃ T', DPI K w w 1 T1 T' ∧ mX7_list_X20 (nI w) T1 (nI (w + 1)) = mX7_list_X88 (nI w) T' (nI w) := by
  have hP : ∀ r, r < w + 1 → PTr K w T1 r := fun r hr => (h.2 r hr).2.2
  unfold mX7_list_X20
  rw [l0, gdI (by omega) (by omega), gdI (by omega) (by omega)]
  refine loopG (fun kk => mX7_list_B88 kk (mX7_list_X88 (nI w)) (nI w)) (mX7_list_X88 (nI w)) (fun cut T => DPI K w cut 1 T1 T) w (fun k T hT => ?_) (fun k T i hi hT => ?_) w 0 FU (sG (sG T1 25 (nI 0) (nI 0)) 26 (nI 0) (nI 0)) (by omega) (FU_gt (by omega)) ⟨rfl, fun a a1 a2 => by rw [sGo a2, sGo a1], ?_, ?_, fun r r0 hr => ⟨fun _ => ?_, fun hin => ⟨1048576, Or.inl ⟨rfl, ?_⟩, CB_le K _, Nat.le_refl _, fun x x0 xin hx => ?_⟩⟩⟩
  · show mX7_list_B88 k _ (nI w) T (nI w) = _
    unfold mX7_list_B88
    rw [if_pos (by rw [leI (by omega) (by omega)]; omega)]
  · show ∃ T', _ ∧ mX7_list_B88 k _ (nI w) T (nI i) = _
    unfold mX7_list_B88
    rw [if_neg (by rw [leI (by omega) (by omega)]; omega)]
    exact m_cut ok hK hP hw hp hi hT k _
  · rw [sGo (by decide), sGs (by decide), if_pos rfl]; rfl
  · rw [sGs (by decide), if_pos rfl]; rfl
  · rw [sG_ne (by decide) r0, sG_ne (by decide) r0]; exact (h.2 r (by omega)).1
  · rw [sG_ne (by decide) r0, sG_ne (by decide) r0]; exact (h.2 r (by omega)).1
  · have xl := (cv_sub xin).1
    clear xin hin
    omega
