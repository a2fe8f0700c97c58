/-! MATH, plates: the class's table of clean sizes -/
theorem loopD {ρ : Type} (g : Nat → Int32) (F : (ST → Int32 → Option ρ) → ST → Int32 → Option ρ) (X : ST → Int32 → Option ρ) (I : Nat → ST → Prop)
    (hexit : ∀ k T, I 0 T → F k T (g 0) = X T (g 0))
    (hstep : ∀ k T i, I (i + 1) T → ∃ T', I i T' ∧ F k T (g (i + 1)) = k T' (g i)) :
    ∀ i n T, i < n → I i T → ∃ T', I 0 T' ∧ LPf (κ := ST → Int32 → Option ρ) (fun _ _ => none) F n T (g i) = X T' (g 0) := by
  intro i
  induction i with
  | zero =>
    intro n T hn hI
    obtain ⟨n, rfl⟩ : ∃ m, n = m + 1 := ⟨n - 1, by omega⟩
    exact ⟨T, hI, by rw [LP_s]; exact hexit _ T hI⟩
  | succ i ih =>
    intro n T hn hI
    obtain ⟨n, rfl⟩ : ∃ m, n = m + 1 := ⟨n - 1, by omega⟩
    obtain ⟨T', hI', e'⟩ := hstep (LPf (κ := ST → Int32 → Option ρ) (fun _ _ => none) F n) T i hI
    obtain ⟨T2, h2, e2⟩ := ih n T' (by omega) hI'
    exact ⟨T2, h2, by rw [LP_s, e', e2]⟩
def cwt (P : PC) (st w v : Nat) : Nat := worth (noD P) st 0 0 w v
def cutS (P : PC) (st w v c : Nat) : Nat := if wayP P st = 0 then cwt P st c v + cwt P st (w - c - P.1 2) v else cwt P st w c + cwt P st w (v - c - P.1 2)
theorem noD_ok {P : PC} (ok : OKP P) : OKP (noD P) := by
  obtain ⟨a, b, c, d, e, f, g, hh, i⟩ := ok
  exact ⟨a, b, c, d, e, Nat.zero_le _, g, fun k hk => absurd hk (Nat.not_lt_zero k), i⟩
theorem worth_noD (P : PC) (st x y w v : Nat) : worth (noD P) st x y w v = cwt P st w v := wt_noD_xy P 40 st x y 0 0 w v
theorem cutP_noD (P : PC) (st x y w v : Nat) : cutP (noD P) (worth (noD P)) st x y w v = cutS P st w v := by
  funext c
  unfold cutP cutS
  rw [worth_noD, worth_noD, worth_noD, worth_noD]
  rfl
theorem cwt_eq {P : PC} {st w v : Nat} (hm : w + v + (P.1 3 - st) < 39) : cwt P st w v = max (max (bpN P w v (P.1 6)) (mxN (cutS P st w v) (sideP P st w v - P.1 2 - 1))) (if st < P.1 3 then cwt P (st + 1) w v else 0) := by
  have e := worth_eq (noD P) st 0 0 w v hm
  rw [cutP_noD, noD_pv] at e
  exact e
theorem cwt_lt {P : PC} (ok : OKP P) {st w v : Nat} (hw : 1 ≤ w) (hw16 : w ≤ 16) (hv : 1 ≤ v) (hv16 : v ≤ 16) : cwt P st w v ≤ 256000 := worth_lt (noD_ok ok) hw hw16 hv hv16
theorem cutS_lt {P : PC} (ok : OKP P) {st w v c : Nat} (hw : 1 ≤ w) (hw16 : w ≤ 16) (hv : 1 ≤ v) (hv16 : v ≤ 16) (c1 : 1 ≤ c) (c2 : c + P.1 2 < sideP P st w v) : cutS P st w v c ≤ 512000 := by
  have := cut_lt (noD_ok ok) (st := st) (x := 0) (y := 0) hw hw16 hv hv16 c1 c2
  rw [cutP_noD] at this
  exact this
def kS (st w v : Nat) : Nat := ((st - 1) * 16 + w - 1) * 16 + v - 1
theorem kS_lt {st w v : Nat} (s4 : st ≤ 4) (hw : 1 ≤ w) (hw16 : w ≤ 16) (hv : 1 ≤ v) (hv16 : v ≤ 16) : kS st w v < 1024 := by unfold kS; omega
theorem kS_inj {st w v st' w' v' : Nat} (s1 : 1 ≤ st) (hw : 1 ≤ w) (hw16 : w ≤ 16) (hv : 1 ≤ v) (hv16 : v ≤ 16) (s1' : 1 ≤ st') (hw' : 1 ≤ w') (hw16' : w' ≤ 16) (hv' : 1 ≤ v') (hv16' : v' ≤ 16) (e : kS st w v = kS st' w' v') : st = st' ∧ w = w' ∧ v = v' := by
  unfold kS at e
  omega
theorem c_sizeSlot {st w v : Nat} (s1 : 1 ≤ st) (hw : 1 ≤ w) (hv : 1 ≤ v) : mX5_sizeSlot (nI w) (nI v) (nI st) = some (nI (kS st w v)) := by
  unfold mX5_sizeSlot kS
  simp (disch := omega) only [l1, l16, pk_sub, pk_mul, nI_add]
def tblS (P : PC) (S : ST) (st w v : Nat) : Prop := S.2 5 (kS st w v) = nI (cwt P st w v)
theorem l1024 : ((1024 : Int32) - (1 : Int32)) = nI 1023 := rfl
theorem l73984 : ((73984 : Int32) - (1 : Int32)) = nI 73983 := rfl
theorem c_ofSize {P : PC} {S : ST} (ok : OKP P) (h : CC P S) {st w v : Nat} (s1 : 1 ≤ st) (s3 : st ≤ P.1 3) (hw : 1 ≤ w) (hw16 : w ≤ 16) (hv : 1 ≤ v) (hv16 : v ≤ 16) (ht : tblS P S st w v) : mX5_ofSize S (nI w) (nI v) (nI st) = some (nI (cwt P st w v)) := by
  have g4 := ok.2.2.2.1.2
  have e3 : S.1 3 = nI (P.1 3) := h.1.2.2.2.1
  have kl := kS_lt (st := st) (w := w) (v := v) (by omega) hw hw16 hv hv16
  unfold mX5_ofSize
  rw [c_sizeSlot s1 hw hv, e3]
  simp only [Option.bind_some]
  rw [if_neg (by rw [ltI (by omega) (by omega)]; omega), l1024, l0, w6t (by rw [leI (by omega) (by omega)]; omega) (by rw [leI (by omega) (by omega)]; omega)]
  simp (disch := omega) only [Option.bind_some, gdI, clI]
  rw [if_neg (by decide), ht]
theorem c_ofSize0 {P : PC} {S : ST} (ok : OKP P) (h : CC P S) {st w v : Nat} (s1 : 1 ≤ st) (s3 : P.1 3 < st) (s5 : st ≤ 5) (hw : 1 ≤ w) (hv : 1 ≤ v) : mX5_ofSize S (nI w) (nI v) (nI st) = some (nI 0) := by
  have e3 : S.1 3 = nI (P.1 3) := h.1.2.2.2.1
  unfold mX5_ofSize
  rw [c_sizeSlot s1 hw hv, e3]
  simp only [Option.bind_some]
  rw [if_pos (by rw [ltI (by omega) (by omega)]; omega)]
  rfl
theorem c_mostOfSize {P : PC} {S : ST} (ok : OKP P) (h : CC P S) {st w v : Nat} (s1 : 1 ≤ st) (s3 : st ≤ P.1 3) (hw : 1 ≤ w) (hwW : w ≤ P.1 0) (hv : 1 ≤ v) (hvH : v ≤ P.1 1)
    (hn : st < P.1 3 → tblS P S (st + 1) w v) (ht : ∀ w' v', 1 ≤ w' → w' ≤ P.1 0 → 1 ≤ v' → v' ≤ P.1 1 → (w' < w ∧ v' = v ∨ w' = w ∧ v' < v) → tblS P S st w' v') :
    mX5_mostOfSize S (nI w) (nI v) (nI st) = some (nI (cwt P st w v)) := by
  obtain ⟨⟨-, w16⟩, ⟨-, h16⟩, k2, ⟨g1, g4⟩, -⟩ := id ok
  have eK : S.1 2 = nI (P.1 2) := h.1.2.2.1
  have hbp : bpN P w v (P.1 6) ≤ 1000 := bpN_le P w v _ (fun k hk => (ok.2.2.2.2.2.2.2.2 k hk).2.1.2)
  have hsd : sideP P st w v ≤ 16 := by unfold sideP; by_cases hy : wayP P st = 0 <;> simp [hy] <;> omega
  have hw2 : wayP P st < 2 := Nat.mod_lt _ (by decide)
  obtain ⟨nx, hnx, hnl, hn2⟩ : ∃ nx, nx = (if st < P.1 3 then cwt P (st + 1) w v else 0) ∧ nx ≤ 256000 ∧ mX5_ofSize S (nI w) (nI v) (nI st + 1) = some (nI nx) := by
    rw [nI_1]
    by_cases q : st < P.1 3
    · exact ⟨_, rfl, by rw [if_pos q]; exact cwt_lt ok hw (by omega) hv (by omega), by rw [if_pos q]; exact c_ofSize ok h (by omega) (by omega) hw (by omega) hv (by omega) (hn q)⟩
    · exact ⟨_, rfl, by rw [if_neg q]; omega, by rw [if_neg q]; exact c_ofSize0 ok h (by omega) (by omega) (by omega) hw hv⟩
  have hcw := cwt_eq (P := P) (st := st) (w := w) (v := v) (by omega)
  rw [← hnx] at hcw
  unfold mX5_mostOfSize
  rw [c_mostValue ok h (by omega) (by omega), hn2, c_lastCut ok h s1 (by omega), c_partsWidth ok h s1 (by omega)]
  simp only [Option.bind_some]
  have ini : (if nI (bpN P w v (P.1 6)) < nI nx then nI nx else nI (bpN P w v (P.1 6))) = nI (max (bpN P w v (P.1 6)) nx) := by
    rw [ifLt (by omega) (by omega)]
    by_cases q : bpN P w v (P.1 6) < nx
    · rw [if_pos q, Nat.max_eq_right (by omega)]
    · rw [if_neg q, Nat.max_eq_left (by omega)]
  rw [ini]
  have inner : ∀ d c n, c + d = sideP P st w v - P.1 2 - 1 + 1 → 1 ≤ c → d < n → LPf (κ := Int32 → Int32 → Option (Int32)) (fun _ _ => none) (fun kk => mX5_mostOfSize_B48 kk (mX5_mostOfSize_X48 S (nI w) (nI v) (nI st) (nI (sideP P st w v) - nI (P.1 2) - 1) (nI (1 - wayP P st))) S (nI w) (nI v) (nI st) (nI (sideP P st w v) - nI (P.1 2) - 1) (nI (1 - wayP P st))) n (nI (max (max (bpN P w v (P.1 6)) nx) (mxN (cutS P st w v) (c - 1)))) (nI c) = some (nI (cwt P st w v)) := by
    intro d
    induction d with
    | zero =>
      intro c n hc c1 hn
      obtain ⟨n, rfl⟩ : ∃ m, n = m + 1 := ⟨n - 1, by omega⟩
      rw [LP_s]
      unfold mX5_mostOfSize_B48
      rw [if_pos (by rw [last_lt hsd k2 (by omega) c1]; omega)]
      unfold mX5_mostOfSize_X48
      rw [show c - 1 = sideP P st w v - P.1 2 - 1 by omega, hcw]
      congr 2
      omega
    | succ d ihd =>
      intro c n hc c1 hn
      obtain ⟨n, rfl⟩ : ∃ m, n = m + 1 := ⟨n - 1, by omega⟩
      have c2 : c + P.1 2 < sideP P st w v := by omega
      have ihc := ihd (c + 1) n (by omega) (by omega) (by omega)
      rw [LP_s]
      generalize LPf (κ := Int32 → Int32 → Option (Int32)) (fun _ _ => none) (fun kk => mX5_mostOfSize_B48 kk (mX5_mostOfSize_X48 S (nI w) (nI v) (nI st) (nI (sideP P st w v) - nI (P.1 2) - 1) (nI (1 - wayP P st))) S (nI w) (nI v) (nI st) (nI (sideP P st w v) - nI (P.1 2) - 1) (nI (1 - wayP P st))) n = K at ihc ⊢
      unfold mX5_mostOfSize_B48
      rw [if_neg (by rw [last_lt hsd k2 (by omega) c1]; omega), eK, nI_add]
      have b1 := cutS_lt ok (st := st) hw (by omega) hv (by omega) c1 c2
      have b2 : mxN (cutS P st w v) (c - 1) ≤ 512000 := mxN_le _ (fun c' q1 q2 => cutS_lt ok hw (by omega) hv (by omega) q1 (by omega))
      have em : mxN (cutS P st w v) c = max (mxN (cutS P st w v) (c - 1)) (cutS P st w v c) := by
        obtain ⟨c', rfl⟩ : ∃ k, c = k + 1 := ⟨c - 1, by omega⟩
        rfl
      rw [show c + 1 - 1 = c by omega, em] at ihc
      have fin : ∀ v8, mX5_mostOfSize_J113 K (mX5_mostOfSize_X48 S (nI w) (nI v) (nI st) (nI (sideP P st w v) - nI (P.1 2) - 1) (nI (1 - wayP P st))) S (nI w) (nI v) (nI st) (nI (max (max (bpN P w v (P.1 6)) nx) (mxN (cutS P st w v) (c - 1)))) (nI (sideP P st w v) - nI (P.1 2) - 1) (nI (1 - wayP P st)) (nI c) v8 (nI (cutS P st w v c)) = some (nI (cwt P st w v)) := by
        intro v8
        unfold mX5_mostOfSize_J113
        rw [ifLt (by omega) (by omega), nI_1]
        by_cases q : max (max (bpN P w v (P.1 6)) nx) (mxN (cutS P st w v) (c - 1)) < cutS P st w v c
        · rw [if_pos q]
          rw [show max (max (bpN P w v (P.1 6)) nx) (max (mxN (cutS P st w v) (c - 1)) (cutS P st w v c)) = cutS P st w v c by omega] at ihc
          exact ihc
        · rw [if_neg q]
          rw [show max (max (bpN P w v (P.1 6)) nx) (max (mxN (cutS P st w v) (c - 1)) (cutS P st w v c)) = max (max (bpN P w v (P.1 6)) nx) (mxN (cutS P st w v) (c - 1)) by omega] at ihc
          exact ihc
      have ec : cutS P st w v c = if wayP P st = 0 then cwt P st c v + cwt P st (w - c - P.1 2) v else cwt P st w c + cwt P st w (v - c - P.1 2) := rfl
      unfold sideP at c2
      by_cases hy : wayP P st = 0
      · rw [if_pos hy] at c2
        rw [if_neg (by rw [hy]; decide), pk_sub (by omega), show w - (c + P.1 2) = w - c - P.1 2 by omega]
        rw [c_ofSize ok h s1 s3 c1 (by omega) hv (by omega) (ht c v c1 (by omega) hv hvH (Or.inl ⟨by omega, rfl⟩)), c_ofSize ok h s1 s3 (by omega) (by omega) hv (by omega) (ht (w - c - P.1 2) v (by omega) (by omega) hv hvH (Or.inl ⟨by omega, rfl⟩))]
        simp only [Option.bind_some, nI_add]
        rw [if_pos hy] at ec
        rw [← ec]
        exact fin _
      · rw [if_neg hy] at c2
        rw [if_pos (by rw [show wayP P st = 1 by omega]; decide), pk_sub (by omega), show v - (c + P.1 2) = v - c - P.1 2 by omega]
        rw [c_ofSize ok h s1 s3 hw (by omega) c1 (by omega) (ht w c hw (by omega) c1 (by omega) (Or.inr ⟨rfl, by omega⟩)), c_ofSize ok h s1 s3 hw (by omega) (by omega) (by omega) (ht w (v - c - P.1 2) hw (by omega) (by omega) (by omega) (Or.inr ⟨rfl, by omega⟩))]
        simp only [Option.bind_some, nI_add]
        rw [if_neg hy] at ec
        rw [← ec]
        exact fin _
  have hin := inner (sideP P st w v - P.1 2 - 1) 1 FU (by omega) (by omega) (FU_gt (by omega))
  rw [show max (max (bpN P w v (P.1 6)) nx) (mxN (cutS P st w v) (1 - 1)) = max (bpN P w v (P.1 6)) nx from Nat.max_eq_left (Nat.zero_le _)] at hin
  exact hin
def DNS (P : PC) (S0 S : ST) (t0 w0 v0 : Nat) : Prop := S.1 = S0.1 ∧ (∀ a, a ≠ 5 → S.2 a = S0.2 a) ∧ ∀ st w v, 1 ≤ st → st ≤ P.1 3 → 1 ≤ w → w ≤ P.1 0 → 1 ≤ v → v ≤ P.1 1 → (t0 < st ∨ (st = t0 ∧ (w < w0 ∨ (w = w0 ∧ v < v0)))) → tblS P S st w v
theorem DNS_to {P : PC} {S0 S : ST} {t0 w0 v0 t1 w1 v1 : Nat} (h : DNS P S0 S t0 w0 v0) (hl : ∀ st w v, 1 ≤ st → 1 ≤ w → w ≤ P.1 0 → 1 ≤ v → v ≤ P.1 1 → (t1 < st ∨ (st = t1 ∧ (w < w1 ∨ (w = w1 ∧ v < v1)))) → (t0 < st ∨ (st = t0 ∧ (w < w0 ∨ (w = w0 ∧ v < v0))))) : DNS P S0 S t1 w1 v1 :=
  ⟨h.1, h.2.1, fun st w v a b c d e f g => h.2.2 st w v a b c d e f (hl st w v a c d e f g)⟩
theorem DNS_CC {P : PC} {S0 S : ST} {t0 w0 v0 : Nat} (h : DNS P S0 S t0 w0 v0) (hc : CC P S0) : CC P S := CC_of (fun k _ => by rw [h.1]) (fun a ha => h.2.1 a (by omega)) hc
theorem c_fillSizes {P : PC} {S0 : ST} (ok : OKP P) (h : CC P S0) : ∃ S', mX5_fillSizes S0 = some S' ∧ DNS P S0 S' 0 0 0 := by
  obtain ⟨⟨w1, w16⟩, ⟨h1, h16⟩, k2, ⟨g1, g4⟩, -⟩ := id ok
  have e0 : S0.1 0 = nI (P.1 0) := h.1.1
  have e1 : S0.1 1 = nI (P.1 1) := h.1.2.1
  have e3 : S0.1 3 = nI (P.1 3) := h.1.2.2.2.1
  have Lv : ∀ (X : ST → Int32 → Option ST) st w S, 1 ≤ st → st ≤ P.1 3 → 1 ≤ w → w ≤ P.1 0 → DNS P S0 S st w 1 → ∃ S', DNS P S0 S' st w (P.1 1 + 1) ∧ LPf (κ := ST → Int32 → Option (ST)) (fun _ _ => none) (fun kk => mX5_fillSizes_B28 kk X (nI st) (nI w)) FU S (nI 1) = X S' (nI (P.1 1 + 1)) := by
    intro X st w S s1 s3 hw hwW hS
    have := loopU (fun kk => mX5_fillSizes_B28 kk X (nI st) (nI w)) X (fun v S => 1 ≤ v ∧ DNS P S0 S st w v) (P.1 1 + 1) ?_ ?_ (P.1 1) 1 FU S (by omega) (FU_gt (by omega)) ⟨Nat.le_refl 1, hS⟩
    · obtain ⟨S', b1, b2⟩ := this
      exact ⟨S', b1.2, b2⟩
    · intro k S hS
      show mX5_fillSizes_B28 k X (nI st) (nI w) S (nI (P.1 1 + 1)) = _
      unfold mX5_fillSizes_B28
      rw [hS.2.1, e1, if_pos (by rw [ltI (by omega) (by omega)]; omega)]
    · intro k S v hv hS
      have hm := c_mostOfSize ok (DNS_CC hS.2 h) s1 s3 hw hwW hS.1 (by omega) (fun q => hS.2.2.2 (st + 1) w v (by omega) (by omega) hw hwW hS.1 (by omega) (by omega)) (fun w' v' a b c d e => hS.2.2.2 st w' v' s1 s3 a b c d (by omega))
      have kl := kS_lt (st := st) (w := w) (v := v) (by omega) hw (by omega) hS.1 (by omega)
      refine ⟨sG S 5 (nI (kS st w v)) (nI (cwt P st w v)), ⟨by omega, hS.2.1, fun a ha => by rw [sG_g, if_neg ha]; exact hS.2.2.1 a ha, fun st' w' v' a b c d e f g => ?_⟩, ?_⟩
      · unfold tblS
        rw [sG_g, if_pos rfl, updE, clI (by omega)]
        by_cases q : kS st' w' v' = kS st w v
        · obtain ⟨rfl, rfl, rfl⟩ := kS_inj a c (by omega) e (by omega) s1 hw (by omega) hS.1 (by omega) q
          rw [if_pos rfl]
        · rw [if_neg q]
          have q2 : ¬ (st' = st ∧ w' = w ∧ v' = v) := fun qq => q (by rw [qq.1, qq.2.1, qq.2.2])
          exact hS.2.2.2 st' w' v' a b c d e f (by omega)
      · show mX5_fillSizes_B28 k X (nI st) (nI w) S (nI v) = _
        unfold mX5_fillSizes_B28
        rw [hS.2.1, e1, if_neg (by rw [ltI (by omega) (by omega)]; omega), c_sizeSlot s1 hw hS.1, hm]
        simp only [Option.bind_some]
        rw [l1024, l0, w6t (by rw [leI (by omega) (by omega)]; omega) (by rw [leI (by omega) (by omega)]; omega)]
        simp (disch := omega) only [Option.bind_some, gdI, nI_1]
        rw [if_neg (by decide)]
  have Lw : ∀ (X : ST → Int32 → Option ST) st S, 1 ≤ st → st ≤ P.1 3 → DNS P S0 S st 1 1 → ∃ S', DNS P S0 S' st (P.1 0 + 1) 1 ∧ LPf (κ := ST → Int32 → Option (ST)) (fun _ _ => none) (fun kk => mX5_fillSizes_B15 kk X (nI st)) FU S (nI 1) = X S' (nI (P.1 0 + 1)) := by
    intro X st S s1 s3 hS
    have := loopU (fun kk => mX5_fillSizes_B15 kk X (nI st)) X (fun w S => 1 ≤ w ∧ DNS P S0 S st w 1) (P.1 0 + 1) ?_ ?_ (P.1 0) 1 FU S (by omega) (FU_gt (by omega)) ⟨Nat.le_refl 1, hS⟩
    · obtain ⟨S', b1, b2⟩ := this
      exact ⟨S', b1.2, b2⟩
    · intro k S hS
      show mX5_fillSizes_B15 k X (nI st) S (nI (P.1 0 + 1)) = _
      unfold mX5_fillSizes_B15
      rw [hS.2.1, e0, if_pos (by rw [ltI (by omega) (by omega)]; omega)]
    · intro k S w hw hS
      obtain ⟨S', b1, b2⟩ := Lv (mX5_fillSizes_X28 k X (nI st) (nI w)) st w S s1 s3 hS.1 (by omega) hS.2
      refine ⟨S', ⟨by omega, DNS_to b1 (by intro st' w' v' c1 c2 c3 c4 c5; omega)⟩, ?_⟩
      show mX5_fillSizes_B15 k X (nI st) S (nI w) = _
      unfold mX5_fillSizes_B15
      rw [hS.2.1, e0, if_neg (by rw [ltI (by omega) (by omega)]; omega)]
      refine b2.trans ?_
      unfold mX5_fillSizes_X28
      rw [nI_1]
  have := loopD nI (fun kk => mX5_fillSizes_B8 kk mX5_fillSizes_X8) mX5_fillSizes_X8 (fun st S => st ≤ P.1 3 ∧ DNS P S0 S st 0 0) ?_ ?_ (P.1 3) FU S0 (FU_gt (by omega)) ⟨Nat.le_refl _, rfl, fun _ _ => rfl, fun st w v a b c d e f g => by omega⟩
  · obtain ⟨S', b1, b2⟩ := this
    refine ⟨S', ?_, b1.2⟩
    unfold mX5_fillSizes
    rw [e3]
    exact b2
  · intro k S hS
    show mX5_fillSizes_B8 k mX5_fillSizes_X8 S (nI 0) = _
    unfold mX5_fillSizes_B8
    rw [if_pos (by decide)]
  · intro k S st hS
    obtain ⟨S', b1, b2⟩ := Lw (mX5_fillSizes_X15 k mX5_fillSizes_X8 (nI (st + 1))) (st + 1) S (by omega) hS.1 (DNS_to hS.2 (by intro st' w' v' c1 c2 c3 c4 c5; omega))
    refine ⟨S', ⟨by omega, DNS_to b1 (by intro st' w' v' c1 c2 c3 c4 c5; omega)⟩, ?_⟩
    show mX5_fillSizes_B8 k mX5_fillSizes_X8 S (nI (st + 1)) = _
    unfold mX5_fillSizes_B8
    rw [l1, if_neg (by rw [ltI (by omega) (by omega)]; omega)]
    refine b2.trans ?_
    unfold mX5_fillSizes_X15
    rw [decI (by omega)]
    rfl
