/-! MATH, plates: the reference's table of worths -/
def tblM (P : PC) (T : ST) (st x y w v : Nat) : Prop := T.2 9 (kM st x y w v) = nI (worth P st x y w v)
theorem CM_of {P : PC} {T T' : ST} (h1 : T'.1 = T.1) (h2 : ∀ a, a ≠ 9 → T'.2 a = T.2 a) (h : CM P T) : CM P T' := by
  unfold CM
  rw [h1, h2 0 (by decide), h2 1 (by decide), h2 2 (by decide), h2 3 (by decide), h2 4 (by decide), h2 5 (by decide), h2 6 (by decide), h2 7 (by decide)]
  exact h
theorem SPT_of {T T' : ST} (h2 : ∀ a, a ≠ 9 → T'.2 a = T.2 a) (h : SPT T) : SPT T' := by
  unfold SPT
  rw [h2 8 (by decide)]
  exact h
theorem worth_lt {P : PC} (ok : OKP P) {st x y w v : Nat} (hw : 1 ≤ w) (hw16 : w ≤ 16) (hv : 1 ≤ v) (hv16 : v ≤ 16) : worth P st x y w v ≤ 256000 := by
  have a := wt_le P (fun k hk => (ok.2.2.2.2.2.2.2.2 k hk).2.1.2) 40 st x y w v hw hv
  have b : w * v ≤ 16 * 16 := Nat.mul_le_mul hw16 hv16
  unfold worth
  omega
/-- the two parts of a cut, as the table has them -/
theorem m_both {P : PC} {T : ST} (ok : OKP P) (h : CM P T) (hs : SPT T) {st x y w v c : Nat} (s1 : 1 ≤ st) (s3 : st ≤ P.1 3) (hw : 1 ≤ w) (hxw : x + w ≤ P.1 0) (hv : 1 ≤ v) (hyv : y + v ≤ P.1 1) (c1 : 1 ≤ c) (c2 : c + P.1 2 < sideP P st w v)
    (ht : ∀ x' y' w' v', 1 ≤ w' → x' + w' ≤ P.1 0 → 1 ≤ v' → y' + v' ≤ P.1 1 → (w' < w ∧ v' = v ∨ w' = w ∧ v' < v) → tblM P T st x' y' w' v') :
    mX7_both T (nI st) (nI x) (nI y) (nI w) (nI v) (nI c) = some (nI (cutP P (worth P) st x y w v c)) := by
  have hway := m_wayOf ok h s1 (by have := ok.2.2.2.1.2; omega)
  obtain ⟨⟨-, w16⟩, ⟨-, h16⟩, k2, ⟨-, g4⟩, -⟩ := ok
  obtain ⟨⟨-, -, e2, -⟩, -⟩ := h
  unfold mX7_both
  rw [hway, e2]
  unfold cutP
  unfold sideP at c2
  have hw2 : wayP P st < 2 := Nat.mod_lt _ (by decide)
  simp (disch := omega) only [Option.bind_some, ifEq, ifEq0, nI_add]
  by_cases hy : wayP P st = 0
  · rw [if_pos hy] at c2
    rw [if_pos hy, if_pos hy]
    simp (disch := omega) only [pk_sub]
    rw [m_at hs s1 (by omega) c1 (by omega) hv (by omega), m_at hs s1 (by omega) (by omega) (by omega) hv (by omega)]
    have q1 := kM_lt (st := st) (x := x) (y := y) (w := c) (h := v) (by omega) (by omega) (by omega) (by omega) (by omega)
    have q2 := kM_lt (st := st) (x := x + c + P.1 2) (y := y) (w := w - c - P.1 2) (h := v) (by omega) (by omega) (by omega) (by omega) (by omega)
    simp (disch := omega) only [Option.bind_some, gdI, clI]
    rw [ht x y c v c1 (by omega) hv (by omega) (Or.inl ⟨by omega, rfl⟩), ht (x + c + P.1 2) y (w - c - P.1 2) v (by omega) (by omega) hv (by omega) (Or.inl ⟨by omega, rfl⟩), nI_add]
  · rw [if_neg hy] at c2
    rw [if_neg hy, if_neg hy]
    simp (disch := omega) only [pk_sub]
    rw [m_at hs s1 (by omega) hw (by omega) c1 (by omega), m_at hs s1 (by omega) hw (by omega) (by omega) (by omega)]
    have q1 := kM_lt (st := st) (x := x) (y := y) (w := w) (h := c) (by omega) (by omega) (by omega) (by omega) (by omega)
    have q2 := kM_lt (st := st) (x := x) (y := y + c + P.1 2) (w := w) (h := v - c - P.1 2) (by omega) (by omega) (by omega) (by omega) (by omega)
    simp (disch := omega) only [Option.bind_some, gdI, clI]
    rw [ht x y w c hw (by omega) c1 (by omega) (Or.inr ⟨rfl, by omega⟩), ht x (y + c + P.1 2) w (v - c - P.1 2) hw (by omega) (by omega) (by omega) (Or.inr ⟨rfl, by omega⟩), nI_add]
theorem cut_lt {P : PC} (ok : OKP P) {st x y w v c : Nat} (hw : 1 ≤ w) (hw16 : w ≤ 16) (hv : 1 ≤ v) (hv16 : v ≤ 16) (c1 : 1 ≤ c) (c2 : c + P.1 2 < sideP P st w v) : cutP P (worth P) st x y w v c ≤ 512000 := by
  unfold cutP
  unfold sideP at c2
  by_cases hy : wayP P st = 0
  · rw [if_pos hy] at c2
    rw [if_pos hy]
    have a := worth_lt ok (st := st) (x := x) (y := y) (w := c) (v := v) c1 (by omega) hv hv16
    have b := worth_lt ok (st := st) (x := x + c + P.1 2) (y := y) (w := w - c - P.1 2) (v := v) (by omega) (by omega) hv hv16
    omega
  · rw [if_neg hy] at c2
    rw [if_neg hy]
    have a := worth_lt ok (st := st) (x := x) (y := y) (w := w) (v := c) hw hw16 c1 (by omega)
    have b := worth_lt ok (st := st) (x := x) (y := y + c + P.1 2) (w := w) (v := v - c - P.1 2) hw hw16 (by omega) (by omega)
    omega
/-- one part, all its stages -/
theorem m_workPart {P : PC} {T : ST} (ok : OKP P) (h : CM P T) (hs : SPT T) {x y w v : Nat} (hw : 1 ≤ w) (hxw : x + w ≤ P.1 0) (hv : 1 ≤ v) (hyv : y + v ≤ P.1 1)
    (ht : ∀ st x' y' w' v', 1 ≤ st → st ≤ P.1 3 → 1 ≤ w' → x' + w' ≤ P.1 0 → 1 ≤ v' → y' + v' ≤ P.1 1 → (w' < w ∧ v' = v ∨ w' = w ∧ v' < v) → tblM P T st x' y' w' v') :
    ∃ T', mX7_workPart T (nI x) (nI y) (nI w) (nI v) = some T' ∧ T'.1 = T.1 ∧ (∀ a, a ≠ 9 → T'.2 a = T.2 a) ∧ (∀ st, 1 ≤ st → st ≤ P.1 3 → tblM P T' st x y w v) ∧ (∀ i, (∀ st, 1 ≤ st → st ≤ P.1 3 → i ≠ kM st x y w v) → T'.2 9 i = T.2 9 i) := by
  obtain ⟨⟨-, w16⟩, ⟨-, h16⟩, k2, ⟨g1, g4⟩, -⟩ := id ok
  have hpv := m_bestPiece ok h (x := x) (y := y) (w := w) (v := v) (by omega) (by omega) (by omega) (by omega)
  have pvl : pvw P x y w v ≤ 1000 := pvw_le P x y w v (fun k hk => (ok.2.2.2.2.2.2.2.2 k hk).2.1.2)
  unfold mX7_workPart
  rw [hpv]
  have e3 : T.1 3 = nI (P.1 3) := h.1.2.2.2.1
  simp only [Option.bind_some]
  rw [e3]
  have outer : ∀ s n (Ts : ST), s ≤ P.1 3 → s < n → Ts.1 = T.1 → (∀ a, a ≠ 9 → Ts.2 a = T.2 a) → (∀ st, s < st → st ≤ P.1 3 → tblM P Ts st x y w v) → (∀ i, (∀ st, 1 ≤ st → st ≤ P.1 3 → i ≠ kM st x y w v) → Ts.2 9 i = T.2 9 i) →
      ∃ T', LPf (κ := ST → Int32 → Option (ST)) (fun _ _ => none) (fun kk => mX7_workPart_B17 kk (mX7_workPart_X17 (nI x) (nI y) (nI w) (nI v) (nI (pvw P x y w v))) (nI x) (nI y) (nI w) (nI v) (nI (pvw P x y w v))) n Ts (nI s) = some T' ∧ T'.1 = T.1 ∧ (∀ a, a ≠ 9 → T'.2 a = T.2 a) ∧ (∀ st, 1 ≤ st → st ≤ P.1 3 → tblM P T' st x y w v) ∧ (∀ i, (∀ st, 1 ≤ st → st ≤ P.1 3 → i ≠ kM st x y w v) → T'.2 9 i = T.2 9 i) := by
    intro s
    induction s with
    | zero =>
      intro n Ts _ hn i1 i2 i3 i4
      obtain ⟨n, rfl⟩ : ∃ m, n = m + 1 := ⟨n - 1, by omega⟩
      rw [LP_s]
      unfold mX7_workPart_B17
      rw [if_pos (by decide)]
      exact ⟨Ts, rfl, i1, i2, fun st a b => i3 st (by omega) b, i4⟩
    | succ s ih =>
      intro n Ts hsg hn i1 i2 i3 i4
      obtain ⟨n, rfl⟩ : ∃ m, n = m + 1 := ⟨n - 1, by omega⟩
      have hT := CM_of i1 i2 h
      have hsT := SPT_of i2 hs
      have eK : Ts.1 2 = nI (P.1 2) := by rw [i1]; exact h.1.2.2.1
      have eG : Ts.1 3 = nI (P.1 3) := by rw [i1]; exact e3
      have htT : ∀ x' y' w' v', 1 ≤ w' → x' + w' ≤ P.1 0 → 1 ≤ v' → y' + v' ≤ P.1 1 → (w' < w ∧ v' = v ∨ w' = w ∧ v' < v) → tblM P Ts (s + 1) x' y' w' v' := by
        intro x' y' w' v' a b c d e
        unfold tblM
        rw [i4 _ (fun st q1 q2 q3 => by
          have := kM_inj (by omega) a (by omega) c (by omega) q1 hw (by omega) hv (by omega) q3
          omega)]
        exact ht (s + 1) x' y' w' v' (by omega) hsg a b c d e
      rw [LP_s]
      have ihn := ih n
      generalize LPf (κ := ST → Int32 → Option (ST)) (fun _ _ => none) (fun kk => mX7_workPart_B17 kk (mX7_workPart_X17 (nI x) (nI y) (nI w) (nI v) (nI (pvw P x y w v))) (nI x) (nI y) (nI w) (nI v) (nI (pvw P x y w v))) n = K at ihn ⊢
      unfold mX7_workPart_B17
      rw [if_neg (by rw [l0, leI (by omega) (by omega)]; omega), m_wayOf ok hT (by omega) (by omega)]
      have hw2 : wayP P (s + 1) < 2 := Nat.mod_lt _ (by decide)
      generalize mX7_workPart_X17 (nI x) (nI y) (nI w) (nI v) (nI (pvw P x y w v)) = X
      have hJ : ((some (nI (wayP P (s + 1)))).bind fun r2 => if r2 = 0 then mX7_workPart_J41 K X Ts (nI x) (nI y) (nI w) (nI v) (nI (pvw P x y w v)) (nI (s + 1)) (nI (pvw P x y w v)) (nI w) else mX7_workPart_J41 K X Ts (nI x) (nI y) (nI w) (nI v) (nI (pvw P x y w v)) (nI (s + 1)) (nI (pvw P x y w v)) (nI v)) = mX7_workPart_J41 K X Ts (nI x) (nI y) (nI w) (nI v) (nI (pvw P x y w v)) (nI (s + 1)) (nI (pvw P x y w v)) (nI (sideP P (s + 1) w v)) := by
        simp (disch := omega) only [Option.bind_some, ifEq, ifEq0]
        unfold sideP
        by_cases hy : wayP P (s + 1) = 0
        · rw [if_pos hy, if_pos hy]
        · rw [if_neg hy, if_neg hy]
      refine exT hJ ?_
      have hsd : sideP P (s + 1) w v ≤ 16 := by unfold sideP; by_cases hy : wayP P (s + 1) = 0 <;> simp [hy] <;> omega
      unfold mX7_workPart_J41
      -- the cuts
      have inner : ∀ (X2 : Int32 → Int32 → Option ST) (d c n : Nat), c + d = sideP P (s + 1) w v - P.1 2 - 1 + 1 → 1 ≤ c → d < n → LPf (κ := Int32 → Int32 → Option (ST)) (fun _ _ => none) (fun kk => mX7_workPart_B46 kk X2 Ts (nI x) (nI y) (nI w) (nI v) (nI (pvw P x y w v)) (nI (s + 1)) (nI (sideP P (s + 1) w v))) n (nI (max (pvw P x y w v) (mxN (cutP P (worth P) (s + 1) x y w v) (c - 1)))) (nI c) = X2 (nI (max (pvw P x y w v) (mxN (cutP P (worth P) (s + 1) x y w v) (sideP P (s + 1) w v - P.1 2 - 1)))) (nI (sideP P (s + 1) w v - P.1 2 - 1 + 1)) := by
        intro X2 d
        induction d with
        | zero =>
          intro c n hc c1 hn
          obtain ⟨n, rfl⟩ : ∃ m, n = m + 1 := ⟨n - 1, by omega⟩
          rw [LP_s]
          unfold mX7_workPart_B46
          rw [eK, nI_add, if_pos (by rw [leI (by omega) (by omega)]; omega), show c = sideP P (s + 1) w v - P.1 2 - 1 + 1 by omega]
          rfl
        | succ d ihd =>
          intro c n hc c1 hn
          obtain ⟨n, rfl⟩ : ∃ m, n = m + 1 := ⟨n - 1, by omega⟩
          have c2 : c + P.1 2 < sideP P (s + 1) w v := by omega
          have ihc := ihd (c + 1) n (by omega) (by omega) (by omega)
          rw [LP_s]
          generalize LPf (κ := Int32 → Int32 → Option (ST)) (fun _ _ => none) (fun kk => mX7_workPart_B46 kk X2 Ts (nI x) (nI y) (nI w) (nI v) (nI (pvw P x y w v)) (nI (s + 1)) (nI (sideP P (s + 1) w v))) n = K2 at ihc ⊢
          unfold mX7_workPart_B46
          rw [eK, nI_add, if_neg (by rw [leI (by omega) (by omega)]; omega), m_both ok hT hsT (by omega) hsg hw hxw hv hyv c1 c2 htT]
          have b1 := cut_lt ok (st := s + 1) (x := x) (y := y) hw (by omega) hv (by omega) c1 c2
          have b2 : mxN (cutP P (worth P) (s + 1) x y w v) (c - 1) ≤ 512000 := mxN_le _ (fun c' q1 q2 => cut_lt ok hw (by omega) hv (by omega) q1 (by omega))
          have em : mxN (cutP P (worth P) (s + 1) x y w v) c = max (mxN (cutP P (worth P) (s + 1) x y w v) (c - 1)) (cutP P (worth P) (s + 1) x y w v c) := by
            obtain ⟨c', rfl⟩ : ∃ k, c = k + 1 := ⟨c - 1, by omega⟩
            rfl
          rw [show c + 1 - 1 = c by omega, em] at ihc
          simp only [Option.bind_some, nI_1]
          rw [ifLe (by omega) (by omega)]
          by_cases q : cutP P (worth P) (s + 1) x y w v c ≤ max (pvw P x y w v) (mxN (cutP P (worth P) (s + 1) x y w v) (c - 1))
          · rw [if_pos q]
            rw [show max (pvw P x y w v) (max (mxN (cutP P (worth P) (s + 1) x y w v) (c - 1)) (cutP P (worth P) (s + 1) x y w v c)) = max (pvw P x y w v) (mxN (cutP P (worth P) (s + 1) x y w v) (c - 1)) by omega] at ihc
            exact ihc
          · rw [if_neg q]
            rw [show max (pvw P x y w v) (max (mxN (cutP P (worth P) (s + 1) x y w v) (c - 1)) (cutP P (worth P) (s + 1) x y w v c)) = cutP P (worth P) (s + 1) x y w v c by omega] at ihc
            exact ihc
      have hin := inner (mX7_workPart_X46 K X Ts (nI x) (nI y) (nI w) (nI v) (nI (pvw P x y w v)) (nI (s + 1)) (nI (sideP P (s + 1) w v))) (sideP P (s + 1) w v - P.1 2 - 1) 1 FU (by omega) (by omega) (FU_gt (by omega))
      have e0 : max (pvw P x y w v) (mxN (cutP P (worth P) (s + 1) x y w v) (1 - 1)) = pvw P x y w v := Nat.max_eq_left (Nat.zero_le _)
      rw [e0] at hin
      refine exT hin ?_
      -- the further stage, and the store
      have we := worth_eq P (s + 1) x y w v (by omega)
      have wl := worth_lt ok (st := s + 1) (x := x) (y := y) hw (by omega) hv (by omega)
      have kl := kM_lt (st := s + 1) (x := x) (y := y) (w := w) (h := v) (by omega) hw (by omega) hv (by omega)
      have fin : ∀ (v9 : Int32), ∃ T', mX7_workPart_J140 K X Ts (nI x) (nI y) (nI w) (nI v) (nI (pvw P x y w v)) (nI (s + 1)) (nI (worth P (s + 1) x y w v)) (nI (sideP P (s + 1) w v)) v9 = some T' ∧ T'.1 = T.1 ∧ (∀ a, a ≠ 9 → T'.2 a = T.2 a) ∧ (∀ st, 1 ≤ st → st ≤ P.1 3 → tblM P T' st x y w v) ∧ (∀ i, (∀ st, 1 ≤ st → st ≤ P.1 3 → i ≠ kM st x y w v) → T'.2 9 i = T.2 9 i) := by
        intro v9
        unfold mX7_workPart_J140
        rw [m_at hsT (by omega) (by omega) hw (by omega) hv (by omega)]
        simp (disch := omega) only [Option.bind_some, gdI, decI]
        refine ihn (sG Ts 9 (nI (kM (s + 1) x y w v)) (nI (worth P (s + 1) x y w v))) (by omega) (by omega) i1 (fun a ha => by rw [sG_g, if_neg ha]; exact i2 a ha) (fun st q1 q2 => ?_) (fun i hi => ?_)
        · unfold tblM
          rw [sG_g, if_pos rfl, updE, clI (by omega)]
          by_cases q : st = s + 1
          · subst q; rw [if_pos rfl]
          · rw [if_neg (fun qq => q (kM_inj (by omega) hw (by omega) hv (by omega) (by omega) hw (by omega) hv (by omega) qq).1)]
            exact i3 st (by omega) q2
        · rw [sG_g, if_pos rfl, updE, clI (by omega), if_neg (hi (s + 1) (by omega) hsg)]
          exact i4 i hi
      unfold mX7_workPart_X46
      rw [eG, ifLe (by omega) (by omega)]
      have b2 : mxN (cutP P (worth P) (s + 1) x y w v) (sideP P (s + 1) w v - P.1 2 - 1) ≤ 512000 := mxN_le _ (fun c' q1 q2 => cut_lt ok hw (by omega) hv (by omega) q1 (by omega))
      by_cases q : P.1 3 ≤ s + 1
      · rw [if_pos q]
        rw [if_neg (by omega), Nat.max_eq_left (Nat.zero_le _)] at we
        rw [← we]
        exact fin _
      · rw [if_neg q, nI_1, m_at hsT (by omega) (by omega) hw (by omega) hv (by omega)]
        have kl2 := kM_lt (st := s + 1 + 1) (x := x) (y := y) (w := w) (h := v) (by omega) hw (by omega) hv (by omega)
        have wl2 := worth_lt ok (st := s + 1 + 1) (x := x) (y := y) hw (by omega) hv (by omega)
        simp (disch := omega) only [Option.bind_some, gdI, clI]
        rw [i3 (s + 1 + 1) (by omega) (by omega), ifLe (by omega) (by omega)]
        rw [if_pos (by omega)] at we
        by_cases r : worth P (s + 1 + 1) x y w v ≤ max (pvw P x y w v) (mxN (cutP P (worth P) (s + 1) x y w v) (sideP P (s + 1) w v - P.1 2 - 1))
        · rw [if_pos r]
          rw [Nat.max_eq_left r] at we
          rw [← we]
          exact fin _
        · rw [if_neg r]
          rw [Nat.max_eq_right (by omega)] at we
          rw [← we]
          exact fin _
  exact outer (P.1 3) FU T (Nat.le_refl _) (FU_gt (by omega)) rfl (fun _ _ => rfl) (fun st a b => by omega) (fun _ _ => rfl)
