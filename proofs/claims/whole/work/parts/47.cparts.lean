/-! MATH, plates: the class's table of parts -/
def spC (s e : Nat) : Nat := e * (e - 1) / 2 + s
theorem spC_key : ∀ e, e < 17 → 1 ≤ e → e * (e - 1) / 2 + e ≤ 136 ∧ (e + 1) * e / 2 = e * (e - 1) / 2 + e := by decide
theorem spC_lt {s e : Nat} (h1 : s < e) (h2 : e ≤ 16) : spC s e < 136 := by
  have := (spC_key e (by omega) (by omega)).1
  unfold spC
  omega
theorem spC_mono : ∀ e, e < 17 → ∀ e', e' < 17 → 1 ≤ e → e < e' → e * (e - 1) / 2 + e ≤ e' * (e' - 1) / 2 := by decide
theorem spC_inj {s e s' e' : Nat} (h1 : s < e) (h2 : e ≤ 16) (h1' : s' < e') (h2' : e' ≤ 16) (q : spC s e = spC s' e') : s = s' ∧ e = e' := by
  unfold spC at q
  by_cases c : e = e'
  · subst c; exact ⟨by omega, rfl⟩
  · by_cases c2 : e < e'
    · have := spC_mono e (by omega) e' (by omega) (by omega) c2; omega
    · have := spC_mono e' (by omega) e (by omega) (by omega) (by omega); omega
def kC (st x y w v : Nat) : Nat := ((st - 1) * 136 + spC x (x + w)) * 136 + spC y (y + v)
theorem kC_lt {st x y w v : Nat} (s4 : st ≤ 4) (hw : 1 ≤ w) (hxw : x + w ≤ 16) (hv : 1 ≤ v) (hyv : y + v ≤ 16) : kC st x y w v < 73984 := by
  have a := spC_lt (s := x) (e := x + w) (by omega) hxw
  have b := spC_lt (s := y) (e := y + v) (by omega) hyv
  unfold kC
  omega
theorem kC_inj {st x y w v st' x' y' w' v' : Nat} (s1 : 1 ≤ st) (hw : 1 ≤ w) (hxw : x + w ≤ 16) (hv : 1 ≤ v) (hyv : y + v ≤ 16) (s1' : 1 ≤ st') (hw' : 1 ≤ w') (hxw' : x' + w' ≤ 16) (hv' : 1 ≤ v') (hyv' : y' + v' ≤ 16) (e : kC st x y w v = kC st' x' y' w' v') : st = st' ∧ x = x' ∧ y = y' ∧ w = w' ∧ v = v' := by
  have a := spC_lt (s := x) (e := x + w) (by omega) hxw
  have b := spC_lt (s := y) (e := y + v) (by omega) hyv
  have a' := spC_lt (s := x') (e := x' + w') (by omega) hxw'
  have b' := spC_lt (s := y') (e := y' + v') (by omega) hyv'
  unfold kC at e
  obtain ⟨e1, e2⟩ := spC_inj (s := x) (e := x + w) (s' := x') (e' := x' + w') (by omega) hxw (by omega) hxw' (by omega)
  obtain ⟨e3, e4⟩ := spC_inj (s := y) (e := y + v) (s' := y') (e' := y' + v') (by omega) hyv (by omega) hyv' (by omega)
  exact ⟨by omega, e1, e3, by omega, by omega⟩
theorem c_span {s e : Nat} (h1 : 1 ≤ e) (h2 : e ≤ 16) : mX5_span (nI s) (nI e) = some (nI (spC s e)) := by
  have b : e * (e - 1) ≤ 16 * 16 := Nat.mul_le_mul h2 (by omega)
  unfold mX5_span spC
  rw [l1, l2, pk_sub h1, pk_mul, pk_div (by omega) (by omega) (by omega), nI_add]
theorem c_partSlot {st a b : Nat} (s1 : 1 ≤ st) : mX5_partSlot (nI st) (nI a) (nI b) = some (nI (((st - 1) * 136 + a) * 136 + b)) := by
  unfold mX5_partSlot
  rw [l1, l136, pk_sub s1, pk_mul, nI_add, pk_mul, nI_add]
def tblC (P : PC) (S : ST) (st x y w v : Nat) : Prop := S.2 6 (kC st x y w v) = nI (worth P st x y w v)
theorem l73 : (73984 : Int32) = nI 73984 := rfl
/-- the most of the cuts of a stretch, with a bound that none passes -/
theorem c_mostOfCuts {S : ST} {K base unit s e bd : Nat} {A B : Nat → Nat} (eK : S.1 2 = nI K) (hK : K ≤ 2) (he : e ≤ 16) (hs : s < e) (hu : unit ≤ 136) (hbase : base + unit * spC (e - 1) e < 73984) (hu1 : 1 ≤ unit) (hbd : bd ≤ 1000000)
    (hA : ∀ c, 1 ≤ c → c + K < e - s → S.2 6 (base + unit * spC s (s + c)) = nI (A c)) (hB : ∀ c, 1 ≤ c → c + K < e - s → S.2 6 (base + unit * spC (s + c + K) e) = nI (B c)) (hAB : ∀ c, 1 ≤ c → c + K < e - s → A c + B c ≤ bd) :
    mX5_mostOfCuts S (nI base) (nI unit) (nI s) (nI e) (nI bd) = some (nI (mxN (fun c => A c + B c) (e - s - K - 1))) := by
  have sl : ∀ a b, a < b → b ≤ e → base + unit * spC a b < 73984 := by
    intro a b h1 h2
    have q : spC a b ≤ spC (e - 1) e := by
      unfold spC
      by_cases c : b = e
      · subst c; omega
      · have := spC_mono b (by omega) e (by omega) (by omega) (by omega); omega
    have := Nat.mul_le_mul_left unit q
    omega
  unfold mX5_mostOfCuts
  rw [if_neg (show ¬ (nI base < 0) from nI_pos (by omega)), l1, pk_sub (by omega), c_span (by omega) he]
  simp only [Option.bind_some]
  rw [pk_mul, nI_add, l73, ifLt (by omega) (by omega), if_pos hbase, nI_add, c_span (by omega) (by omega), eK, nI_add, c_span (by omega) he]
  simp only [Option.bind_some]
  rw [pk_mul, nI_add, pk_mul, nI_add]
  have key : ∀ d c n, c + d = e - s - K - 1 + 1 → 1 ≤ c → d < n → LPf (κ := Int32 → Int32 → Int32 → Int32 → Option (Int32)) (fun _ _ _ _ => none) (fun kk => mX5_mostOfCuts_B70 kk (mX5_mostOfCuts_X70 S (nI base) (nI unit) (nI s) (nI e) (nI bd)) S (nI base) (nI unit) (nI s) (nI e) (nI bd)) n (nI (base + unit * spC s (s + c))) (nI (base + unit * spC (s + c + K) e)) (nI (mxN (fun c => A c + B c) (c - 1))) (nI (s + c)) = some (nI (mxN (fun c => A c + B c) (e - s - K - 1))) := by
    intro d
    induction d with
    | zero =>
      intro c n hc c1 hn
      obtain ⟨n, rfl⟩ : ∃ m, n = m + 1 := ⟨n - 1, by omega⟩
      rw [LP_s]
      unfold mX5_mostOfCuts_B70
      rw [eK, nI_add, ifLe (by omega) (by omega), if_pos (by omega)]
      unfold mX5_mostOfCuts_X70
      rw [show c - 1 = e - s - K - 1 by omega]
    | succ d ihd =>
      intro c n hc c1 hn
      obtain ⟨n, rfl⟩ : ∃ m, n = m + 1 := ⟨n - 1, by omega⟩
      have c2 : c + K < e - s := by omega
      have ihc := ihd (c + 1) n (by omega) (by omega) (by omega)
      rw [LP_s]
      generalize LPf (κ := Int32 → Int32 → Int32 → Int32 → Option (Int32)) (fun _ _ _ _ => none) (fun kk => mX5_mostOfCuts_B70 kk (mX5_mostOfCuts_X70 S (nI base) (nI unit) (nI s) (nI e) (nI bd)) S (nI base) (nI unit) (nI s) (nI e) (nI bd)) n = KK at ihc ⊢
      unfold mX5_mostOfCuts_B70
      have b2 : mxN (fun c => A c + B c) (c - 1) ≤ bd := mxN_le _ (fun c' q1 q2 => hAB c' q1 (by omega))
      rw [eK, nI_add, ifLe (by omega) (by omega), if_neg (by omega), ifLe (by omega) (by omega)]
      by_cases q : bd ≤ mxN (fun c => A c + B c) (c - 1)
      · rw [if_pos q]
        unfold mX5_mostOfCuts_X70
        have q1 : mxN (fun c => A c + B c) (e - s - K - 1) ≤ bd := mxN_le _ (fun c' q1 q2 => hAB c' q1 (by omega))
        have q2 : mxN (fun c => A c + B c) (c - 1) ≤ mxN (fun c => A c + B c) (e - s - K - 1) := mxN_le _ (fun c' q1 q2 => mxN_ge (f := fun c => A c + B c) _ c' q1 (by omega))
        rw [show mxN (fun c => A c + B c) (c - 1) = mxN (fun c => A c + B c) (e - s - K - 1) by omega]
      · rw [if_neg q]
        have s1 := sl s (s + c) (by omega) (by omega)
        have s2 := sl (s + c + K) e (by omega) (by omega)
        have hab := hAB c c1 c2
        rw [gdI s1 (by omega), gdI s2 (by omega), clI (by omega), clI (by omega), hA c c1 c2, hB c c1 c2, nI_add, ifLe (by omega) (by omega)]
        have em : mxN (fun c => A c + B c) c = max (mxN (fun c => A c + B c) (c - 1)) (A c + B c) := by
          obtain ⟨c', rfl⟩ : ∃ k, c = k + 1 := ⟨c - 1, by omega⟩
          rfl
        have ea : base + unit * spC s (s + c) + unit * (s + c) = base + unit * spC s (s + (c + 1)) := by
          have := (spC_key (s + c) (by omega) (by omega)).2
          have e1 : spC s (s + (c + 1)) = spC s (s + c) + (s + c) := by
            unfold spC
            rw [show s + (c + 1) - 1 = s + c by omega, show s + (c + 1) = s + c + 1 by omega, this]
            omega
          rw [e1, Nat.mul_add unit (spC s (s + c)) (s + c)]
          exact Nat.add_assoc _ _ _
        have eb : base + unit * spC (s + c + K) e + unit = base + unit * spC (s + (c + 1) + K) e := by
          have e1 : spC (s + (c + 1) + K) e = spC (s + c + K) e + 1 := by unfold spC; omega
          rw [e1, Nat.mul_add]
          omega
        rw [show c + 1 - 1 = c by omega, em, ← ea, ← eb] at ihc
        unfold mX5_mostOfCuts_J120
        rw [pk_mul, nI_add, nI_add, nI_1]
        by_cases r : A c + B c ≤ mxN (fun c => A c + B c) (c - 1)
        · rw [if_pos r]
          rw [Nat.max_eq_left r] at ihc
          exact ihc
        · rw [if_neg r]
          rw [Nat.max_eq_right (by omega)] at ihc
          exact ihc
  exact key (e - s - K - 1) 1 FU (by omega) (by omega) (FU_gt (by omega))
theorem c_fillPart {P : PC} {S : ST} (ok : OKP P) (h : CC P S) (hz : ∀ st w v, 1 ≤ st → st ≤ P.1 3 → 1 ≤ w → w ≤ P.1 0 → 1 ≤ v → v ≤ P.1 1 → tblS P S st w v) {x y w v : Nat} (hw : 1 ≤ w) (hxw : x + w ≤ P.1 0) (hv : 1 ≤ v) (hyv : y + v ≤ P.1 1)
    (ht : ∀ st x' y' w' v', 1 ≤ st → st ≤ P.1 3 → 1 ≤ w' → x' + w' ≤ P.1 0 → 1 ≤ v' → y' + v' ≤ P.1 1 → (x ≤ x' ∧ x' + w' ≤ x + w ∧ w' < w ∧ y' = y ∧ v' = v ∨ x' = x ∧ w' = w ∧ y ≤ y' ∧ y' + v' ≤ y + v ∧ v' < v) → tblC P S st x' y' w' v') :
    ∃ S', mX5_fillPart S (nI x) (nI y) (nI w) (nI v) = some S' ∧ S'.1 = S.1 ∧ (∀ a, a ≠ 6 → S'.2 a = S.2 a) ∧ (∀ st, 1 ≤ st → st ≤ P.1 3 → tblC P S' st x y w v) ∧ (∀ i, (∀ st, 1 ≤ st → st ≤ P.1 3 → i ≠ kC st x y w v) → S'.2 6 i = S.2 6 i) := by
  obtain ⟨⟨-, w16⟩, ⟨-, h16⟩, k2, ⟨g1, g4⟩, -⟩ := id ok
  have e3 : S.1 3 = nI (P.1 3) := h.1.2.2.2.1
  have ax := spC_lt (s := x) (e := x + w) (by omega) (by omega)
  have ay := spC_lt (s := y) (e := y + v) (by omega) (by omega)
  unfold mX5_fillPart
  rw [c_isClean ok h (by omega) (by omega) (by omega) (by omega), nI_add, c_span (by omega) (by omega), nI_add, c_span (by omega) (by omega)]
  simp only [Option.bind_some]
  rw [e3]
  have outer : ∀ s n (Ss : ST), s ≤ P.1 3 → s < n → Ss.1 = S.1 → (∀ a, a ≠ 6 → Ss.2 a = S.2 a) → (∀ st, s < st → st ≤ P.1 3 → tblC P Ss st x y w v) → (∀ i, (∀ st, 1 ≤ st → st ≤ P.1 3 → i ≠ kC st x y w v) → Ss.2 6 i = S.2 6 i) →
      ∃ S', LPf (κ := ST → Int32 → Int32 → Option (ST)) (fun _ _ _ => none) (fun kk => mX5_fillPart_B45 kk (mX5_fillPart_X45 (nI x) (nI y) (nI w) (nI v) (nI (!spB P x y w v).toNat) (nI (spC x (x + w))) (nI (spC y (y + v)))) (nI x) (nI y) (nI w) (nI v) (nI (!spB P x y w v).toNat) (nI (spC x (x + w))) (nI (spC y (y + v)))) n Ss (nI (if s < P.1 3 then worth P (s + 1) x y w v else 0)) (nI s) = some S' ∧ S'.1 = S.1 ∧ (∀ a, a ≠ 6 → S'.2 a = S.2 a) ∧ (∀ st, 1 ≤ st → st ≤ P.1 3 → tblC P S' st x y w v) ∧ (∀ i, (∀ st, 1 ≤ st → st ≤ P.1 3 → i ≠ kC st x y w v) → S'.2 6 i = S.2 6 i) := by
    intro s
    induction s with
    | zero =>
      intro n Ss _ hn i1 i2 i3 i4
      obtain ⟨n, rfl⟩ : ∃ m, n = m + 1 := ⟨n - 1, by omega⟩
      rw [LP_s]
      unfold mX5_fillPart_B45
      rw [if_pos (show nI 0 < 1 by decide)]
      exact ⟨Ss, rfl, i1, i2, fun st a b => i3 st (by omega) b, i4⟩
    | succ s ih =>
      intro n Ss hsg hn i1 i2 i3 i4
      obtain ⟨n, rfl⟩ : ∃ m, n = m + 1 := ⟨n - 1, by omega⟩
      have hT : CC P Ss := CC_of (fun k _ => by rw [i1]) (fun a ha => i2 a (by omega)) h
      have eK : Ss.1 2 = nI (P.1 2) := by rw [i1]; exact h.1.2.2.1
      have hzT : tblS P Ss (s + 1) w v := by unfold tblS; rw [i2 5 (by decide)]; exact hz (s + 1) w v (by omega) hsg hw (by omega) hv (by omega)
      have htT : ∀ x' y' w' v', 1 ≤ w' → x' + w' ≤ P.1 0 → 1 ≤ v' → y' + v' ≤ P.1 1 → (x ≤ x' ∧ x' + w' ≤ x + w ∧ w' < w ∧ y' = y ∧ v' = v ∨ x' = x ∧ w' = w ∧ y ≤ y' ∧ y' + v' ≤ y + v ∧ v' < v) → tblC P Ss (s + 1) x' y' w' v' := by
        intro x' y' w' v' a b c d e
        unfold tblC
        rw [i4 _ (fun st q1 q2 q3 => by
          have := kC_inj (by omega) a (by omega) c (by omega) q1 hw (by omega) hv (by omega) q3
          omega)]
        exact ht (s + 1) x' y' w' v' (by omega) hsg a b c d e
      have we := worth_eq P (s + 1) x y w v (by omega)
      have wl := worth_lt ok (st := s + 1) (x := x) (y := y) hw (by omega) hv (by omega)
      have wl2 := worth_lt ok (st := s + 1 + 1) (x := x) (y := y) hw (by omega) hv (by omega)
      have cl := cwt_lt ok (st := s + 1) hw (by omega) hv (by omega)
      have wc : worth P (s + 1) x y w v ≤ cwt P (s + 1) w v := by
        rw [← worth_noD P (s + 1) x y w v]
        exact wt_noD_ge P 40 (s + 1) x y w v
      have hw2 : wayP P (s + 1) < 2 := Nat.mod_lt _ (by decide)
      have ihn := ih n
      rw [LP_s]
      generalize LPf (κ := ST → Int32 → Int32 → Option (ST)) (fun _ _ _ => none) (fun kk => mX5_fillPart_B45 kk (mX5_fillPart_X45 (nI x) (nI y) (nI w) (nI v) (nI (!spB P x y w v).toNat) (nI (spC x (x + w))) (nI (spC y (y + v)))) (nI x) (nI y) (nI w) (nI v) (nI (!spB P x y w v).toNat) (nI (spC x (x + w))) (nI (spC y (y + v)))) n = K at ihn ⊢
      generalize mX5_fillPart_X45 (nI x) (nI y) (nI w) (nI v) (nI (!spB P x y w v).toNat) (nI (spC x (x + w))) (nI (spC y (y + v))) = X
      obtain ⟨lt, hlt⟩ : ∃ lt, lt = (if s + 1 < P.1 3 then worth P (s + 1 + 1) x y w v else 0) := ⟨_, rfl⟩
      have ltl : lt ≤ 256000 := by
        by_cases q : s + 1 < P.1 3
        · rw [hlt, if_pos q]; exact wl2
        · rw [hlt, if_neg q]; omega
      rw [← hlt] at we ⊢
      have fin : ∃ S', mX5_fillPart_J141 K X Ss (nI x) (nI y) (nI w) (nI v) (nI (!spB P x y w v).toNat) (nI (spC x (x + w))) (nI (spC y (y + v))) (nI lt) (nI (s + 1)) (nI (worth P (s + 1) x y w v)) = some S' ∧ S'.1 = S.1 ∧ (∀ a, a ≠ 6 → S'.2 a = S.2 a) ∧ (∀ st, 1 ≤ st → st ≤ P.1 3 → tblC P S' st x y w v) ∧ (∀ i, (∀ st, 1 ≤ st → st ≤ P.1 3 → i ≠ kC st x y w v) → S'.2 6 i = S.2 6 i) := by
        have kl := kC_lt (st := s + 1) (x := x) (y := y) (w := w) (v := v) (by omega) hw (by omega) hv (by omega)
        have ek : ((s + 1 - 1) * 136 + spC x (x + w)) * 136 + spC y (y + v) = kC (s + 1) x y w v := rfl
        unfold mX5_fillPart_J141
        rw [c_partSlot (by omega), ek]
        simp only [Option.bind_some]
        rw [l73984, l0, w6t (by rw [leI (by omega) (by omega)]; omega) (by rw [leI (by omega) (by omega)]; omega)]
        simp only [Option.bind_some]
        rw [if_neg (by decide), gdI kl (by omega), decI (by omega)]
        have ih2 := ihn (sG Ss 6 (nI (kC (s + 1) x y w v)) (nI (worth P (s + 1) x y w v))) (by omega) (by omega) i1 (fun a ha => by rw [sG_g, if_neg ha]; exact i2 a ha) (fun st q1 q2 => ?_) (fun i hi => ?_)
        · rw [if_pos (by omega)] at ih2
          exact ih2
        · unfold tblC
          rw [sG_g, if_pos rfl, updE, clI (by omega)]
          by_cases q : st = s + 1
          · subst q; rw [if_pos rfl]
          · rw [if_neg (fun qq => q (kC_inj (by omega) hw (by omega) hv (by omega) (by omega) hw (by omega) hv (by omega) qq).1)]
            exact i3 st (by omega) q2
        · rw [sG_g, if_pos rfl, updE, clI (by omega), if_neg (hi (s + 1) (by omega) hsg)]
          exact i4 i hi
      unfold mX5_fillPart_B45
      rw [l1, ifLt (by omega) (by omega), if_neg (by omega), c_ofSize ok hT (by omega) hsg hw (by omega) hv (by omega) hzT]
      simp only [Option.bind_some]
      rw [ifB]
      by_cases hsp : spB P x y w v = true
      · rw [if_neg (by rw [hsp]; decide), ifLe (by omega) (by omega)]
        have pv0 : pvw P x y w v = 0 := by unfold pvw; rw [if_pos hsp]
        rw [pv0] at we
        by_cases q : cwt P (s + 1) w v ≤ lt
        · rw [if_pos q, show cwt P (s + 1) w v = worth P (s + 1) x y w v by omega]
          exact fin
        · rw [if_neg q, c_partsWidth ok hT (by omega) (by omega)]
          simp only [Option.bind_some]
          rw [ifEq0 (by omega)]
          have cuts : ∀ c, 1 ≤ c → c + P.1 2 < sideP P (s + 1) w v → cutP P (worth P) (s + 1) x y w v c ≤ cwt P (s + 1) w v := by
            intro c c1 c2
            have := mxN_ge (f := cutP P (worth P) (s + 1) x y w v) (sideP P (s + 1) w v - P.1 2 - 1) c c1 (by omega)
            omega
          have fj : ∀ r, r = mxN (cutP P (worth P) (s + 1) x y w v) (sideP P (s + 1) w v - P.1 2 - 1) → ∃ S', mX5_fillPart_J130 K X Ss (nI x) (nI y) (nI w) (nI v) (nI (!spB P x y w v).toNat) (nI (spC x (x + w))) (nI (spC y (y + v))) (nI lt) (nI (s + 1)) (nI (cwt P (s + 1) w v)) (nI r) = some S' ∧ S'.1 = S.1 ∧ (∀ a, a ≠ 6 → S'.2 a = S.2 a) ∧ (∀ st, 1 ≤ st → st ≤ P.1 3 → tblC P S' st x y w v) ∧ (∀ i, (∀ st, 1 ≤ st → st ≤ P.1 3 → i ≠ kC st x y w v) → S'.2 6 i = S.2 6 i) := by
            intro r hr
            have rl : r ≤ cwt P (s + 1) w v := by rw [hr]; exact mxN_le _ (fun c a b => cuts c a (by omega))
            unfold mX5_fillPart_J130
            rw [ifLt (by omega) (by omega)]
            have : (if lt < r then nI r else nI lt) = nI (worth P (s + 1) x y w v) := by
              by_cases z : lt < r
              · rw [if_pos z, show r = worth P (s + 1) x y w v by omega]
              · rw [if_neg z, show lt = worth P (s + 1) x y w v by omega]
            rw [this]
            exact fin
          by_cases hy : wayP P (s + 1) = 0
          · have hps : mX5_partSlot (nI (s + 1)) 0 (nI (spC y (y + v))) = some (nI (((s + 1 - 1) * 136 + 0) * 136 + spC y (y + v))) := c_partSlot (st := s + 1) (a := 0) (by omega)
            rw [if_neg (by omega), hps, Option.bind_some]
            have esd : sideP P (s + 1) w v = w := by unfold sideP; rw [if_pos hy]
            rw [esd] at cuts fj
            have ec : ∀ c, cutP P (worth P) (s + 1) x y w v c = worth P (s + 1) x y c v + worth P (s + 1) (x + c + P.1 2) y (w - c - P.1 2) v := fun c => by unfold cutP; rw [if_pos hy]
            have sp15 := spC_lt (s := x + w - 1) (e := x + w) (by omega) (by omega)
            have hm := c_mostOfCuts (S := Ss) (K := P.1 2) (base := ((s + 1 - 1) * 136 + 0) * 136 + spC y (y + v)) (unit := 136) (s := x) (e := x + w) (bd := cwt P (s + 1) w v) (A := fun c => worth P (s + 1) x y c v) (B := fun c => worth P (s + 1) (x + c + P.1 2) y (w - c - P.1 2) v) eK k2 (by omega) (by omega) (by omega) (by omega) (by omega) (by omega)
              (fun c c1 c2 => by
                have t1 := htT x y c v c1 (by omega) hv hyv (Or.inl ⟨by omega, by omega, by omega, rfl, rfl⟩)
                have t2 : ((s + 1 - 1) * 136 + 0) * 136 + spC y (y + v) + 136 * spC x (x + c) = kC (s + 1) x y c v := by unfold kC; omega
                rw [t2]
                exact t1)
              (fun c c1 c2 => by
                have t1 := htT (x + c + P.1 2) y (w - c - P.1 2) v (by omega) (by omega) hv hyv (Or.inl ⟨by omega, by omega, by omega, rfl, rfl⟩)
                have t2 : ((s + 1 - 1) * 136 + 0) * 136 + spC y (y + v) + 136 * spC (x + c + P.1 2) (x + w) = kC (s + 1) (x + c + P.1 2) y (w - c - P.1 2) v := by
                  unfold kC
                  rw [show x + c + P.1 2 + (w - c - P.1 2) = x + w by omega]
                  omega
                rw [t2]
                exact t1)
              (fun c c1 c2 => by
                have := cuts c c1 (by omega)
                rw [ec c] at this
                exact this)
            have hm2 : mX5_mostOfCuts Ss (nI (((s + 1 - 1) * 136 + 0) * 136 + spC y (y + v))) 136 (nI x) (nI (x + w)) (nI (cwt P (s + 1) w v)) = _ := hm
            rw [nI_add, hm2, Option.bind_some]
            refine fj _ ?_
            rw [show x + w - x - P.1 2 - 1 = w - P.1 2 - 1 by omega]
            exact mxN_congr _ (fun c _ _ => (ec c).symm)
          · have hps : mX5_partSlot (nI (s + 1)) (nI (spC x (x + w))) 0 = some (nI (((s + 1 - 1) * 136 + spC x (x + w)) * 136 + 0)) := c_partSlot (st := s + 1) (b := 0) (by omega)
            rw [if_pos (by omega), hps, Option.bind_some]
            have esd : sideP P (s + 1) w v = v := by unfold sideP; rw [if_neg hy]
            rw [esd] at cuts fj
            have ec : ∀ c, cutP P (worth P) (s + 1) x y w v c = worth P (s + 1) x y w c + worth P (s + 1) x (y + c + P.1 2) w (v - c - P.1 2) := fun c => by unfold cutP; rw [if_neg hy]
            have sp15 := spC_lt (s := y + v - 1) (e := y + v) (by omega) (by omega)
            have hm := c_mostOfCuts (S := Ss) (K := P.1 2) (base := ((s + 1 - 1) * 136 + spC x (x + w)) * 136 + 0) (unit := 1) (s := y) (e := y + v) (bd := cwt P (s + 1) w v) (A := fun c => worth P (s + 1) x y w c) (B := fun c => worth P (s + 1) x (y + c + P.1 2) w (v - c - P.1 2)) eK k2 (by omega) (by omega) (by omega) (by omega) (by omega) (by omega)
              (fun c c1 c2 => by
                have t1 := htT x y w c hw hxw c1 (by omega) (Or.inr ⟨rfl, rfl, by omega, by omega, by omega⟩)
                have t2 : ((s + 1 - 1) * 136 + spC x (x + w)) * 136 + 0 + 1 * spC y (y + c) = kC (s + 1) x y w c := by unfold kC; omega
                rw [t2]
                exact t1)
              (fun c c1 c2 => by
                have t1 := htT x (y + c + P.1 2) w (v - c - P.1 2) hw hxw (by omega) (by omega) (Or.inr ⟨rfl, rfl, by omega, by omega, by omega⟩)
                have t2 : ((s + 1 - 1) * 136 + spC x (x + w)) * 136 + 0 + 1 * spC (y + c + P.1 2) (y + v) = kC (s + 1) x (y + c + P.1 2) w (v - c - P.1 2) := by
                  unfold kC
                  rw [show y + c + P.1 2 + (v - c - P.1 2) = y + v by omega]
                  omega
                rw [t2]
                exact t1)
              (fun c c1 c2 => by
                have := cuts c c1 (by omega)
                rw [ec c] at this
                exact this)
            rw [nI_add, hm, Option.bind_some]
            refine fj _ ?_
            rw [show y + v - y - P.1 2 - 1 = v - P.1 2 - 1 by omega]
            exact mxN_congr _ (fun c _ _ => (ec c).symm)
      · have hf : spB P x y w v = false := Bool.eq_false_iff.mpr hsp
        rw [if_pos (by rw [hf]; rfl)]
        have : cwt P (s + 1) w v = worth P (s + 1) x y w v := by
          rw [← worth_noD P (s + 1) x y w v]
          exact (wt_clean P 40 (s + 1) x y w v hf).symm
        rw [this]
        exact fin
  have := outer (P.1 3) FU S (Nat.le_refl _) (FU_gt (by omega)) rfl (fun _ _ => rfl) (fun st a b => by omega) (fun _ _ => rfl)
  rw [if_neg (Nat.lt_irrefl _)] at this
  exact this
