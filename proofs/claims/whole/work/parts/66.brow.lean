/-! MATH, bars: the reference's rows -/
def cv (r : Nat) : Nat := ((r / 216 * 8 + r / 36 % 6) * 8 + r / 6 % 6) * 8 + r % 6
theorem lt6 (r : Nat) : r / 36 % 6 < 6 ∧ r / 6 % 6 < 6 ∧ r % 6 < 6 := ⟨Nat.mod_lt _ (by decide), Nat.mod_lt _ (by decide), Nat.mod_lt _ (by decide)⟩
theorem cv_d (r : Nat) : cv r / 512 = r / 216 ∧ cv r / 64 % 8 = r / 36 % 6 ∧ cv r / 8 % 8 = r / 6 % 6 ∧ cv r % 8 = r % 6 := by
  obtain ⟨a, b, c⟩ := lt6 r
  exact mk8 (by omega) (by omega) (by omega) rfl
theorem mk6 {n a b c d : Nat} (hb : b < 6) (hc : c < 6) (hd : d < 6) (h : n = ((a * 6 + b) * 6 + c) * 6 + d) : n / 216 = a ∧ n / 36 % 6 = b ∧ n / 6 % 6 = c ∧ n % 6 = d := by
  refine ⟨?_, ?_, ?_, ?_⟩
  · omega
  · omega
  · omega
  · omega
theorem of6 (n : Nat) : n = ((n / 216 * 6 + n / 36 % 6) * 6 + n / 6 % 6) * 6 + n % 6 := by
  have a := Nat.div_add_mod n 6
  have b := Nat.div_add_mod (n / 6) 6
  have c := Nat.div_add_mod (n / 36) 6
  rw [show n / 6 / 6 = n / 36 from Nat.div_div_eq_div_mul n 6 6] at b
  rw [show n / 36 / 6 = n / 216 from Nat.div_div_eq_div_mul n 36 6] at c
  generalize n / 216 = q3 at *
  generalize n / 36 % 6 = r3 at *
  generalize n / 36 = q2 at *
  generalize n / 6 % 6 = r2 at *
  generalize n / 6 = q1 at *
  generalize n % 6 = r1 at *
  omega
/-- rows and numbers of pieces, by their digits -/
theorem dig (r : Nat) : ∃ a b c d, b < 6 ∧ c < 6 ∧ d < 6 ∧ r = ((a * 6 + b) * 6 + c) * 6 + d ∧ cv r = ((a * 8 + b) * 8 + c) * 8 + d ∧ cv r / 512 = a ∧ cv r / 64 % 8 = b ∧ cv r / 8 % 8 = c ∧ cv r % 8 = d := by
  obtain ⟨a, b, c⟩ := lt6 r
  obtain ⟨e1, e2, e3, e4⟩ := cv_d r
  exact ⟨r / 216, r / 36 % 6, r / 6 % 6, r % 6, a, b, c, of6 r, rfl, e1, e2, e3, e4⟩
theorem cv_mk {n a b c d : Nat} (hb : b < 6) (hc : c < 6) (hd : d < 6) (h : n = ((a * 6 + b) * 6 + c) * 6 + d) : cv n = ((a * 8 + b) * 8 + c) * 8 + d := by
  obtain ⟨e1, e2, e3, e4⟩ := mk6 hb hc hd h
  unfold cv
  rw [e1, e2, e3, e4]
theorem cv_0 : cv 0 = 0 := rfl
theorem cv_lt {r s : Nat} (h : r < s) : cv r < cv s := by
  obtain ⟨a, b, c, d, hb, hc, hd, e, f, -⟩ := dig r
  obtain ⟨a', b', c', d', hb', hc', hd', e', f', -⟩ := dig s
  omega
theorem cv_le {r s : Nat} (h : r ≤ s) : cv r ≤ cv s := by
  by_cases e : r = s
  · rw [e]; exact Nat.le_refl _
  · exact Nat.le_of_lt (cv_lt (by omega))
theorem cv_inj {r s : Nat} (h : cv r = cv s) : r = s := by
  rcases Nat.lt_trichotomy r s with g | g | g
  · have := cv_lt g; omega
  · exact g
  · have := cv_lt g; omega
theorem cv_ne {r : Nat} (h : r ≠ 0) : cv r ≠ 0 := fun e => h (cv_inj (e.trans cv_0.symm))
theorem cv_bd {r : Nat} (h : r < 1296) : cv r < 4096 := by
  obtain ⟨a, b, c, d, hb, hc, hd, e, f, -⟩ := dig r
  omega
/-- lying in a row whose digits are small -/
theorem cv_sub {r w : Nat} (h : inV (cv r) (cv w)) : r ≤ w ∧ cv (w - r) = cv w - cv r := by
  obtain ⟨h1, h2, h3, h4⟩ := h
  obtain ⟨a, b, c, d, hb, hc, hd, e, f, f1, f2, f3, f4⟩ := dig r
  obtain ⟨a', b', c', d', hb', hc', hd', e', f', g1, g2, g3, g4⟩ := dig w
  rw [f1, g1] at h1
  rw [f2, g2] at h2
  rw [f3, g3] at h3
  rw [f4, g4] at h4
  clear f1 f2 f3 f4 g1 g2 g3 g4
  refine ⟨by omega, ?_⟩
  rw [cv_mk (n := w - r) (a := a' - a) (b := b' - b) (c := c' - c) (d := d' - d) (by omega) (by omega) (by omega) (by omega), f, f']
  omega
theorem cv_sur {p w : Nat} (h : inV p (cv w)) : ∃ r, r ≤ w ∧ cv r = p := by
  obtain ⟨h1, h2, h3, h4⟩ := h
  obtain ⟨a', b', c', d', hb', hc', hd', e', f', g1, g2, g3, g4⟩ := dig w
  rw [g1] at h1
  rw [g2] at h2
  rw [g3] at h3
  rw [g4] at h4
  clear g1 g2 g3 g4
  have e := of8 p
  generalize p / 512 = p0 at *
  generalize p / 64 % 8 = p1 at *
  generalize p / 8 % 8 = p2 at *
  generalize p % 8 = p3 at *
  refine ⟨((p0 * 6 + p1) * 6 + p2) * 6 + p3, by omega, ?_⟩
  rw [cv_mk (by omega) (by omega) (by omega) rfl]
  omega
theorem add6 {c r w a b e d a' b' e' d' a'' b'' e'' d'' : Nat} (x4 : c = ((a * 6 + b) * 6 + e) * 6 + d) (y4 : r = ((a' * 6 + b') * 6 + e') * 6 + d') (z4 : w = ((a'' * 6 + b'') * 6 + e'') * 6 + d'') (h1 : a' ≤ a'' - a) (h2 : b' ≤ b'' - b) (h3 : e' ≤ e'' - e) (h4 : d' ≤ d'' - d) (c1 : a ≤ a'') (c2 : b ≤ b'') (c3 : e ≤ e'') (c4 : d ≤ d'') : c + r ≤ w ∧ c + r = (((a + a') * 6 + (b + b')) * 6 + (e + e')) * 6 + (d + d') := by omega
theorem le_add {a b c : Nat} (h : b ≤ c - a) (g : a ≤ c) : a + b ≤ c := by omega
theorem cv_add {c r w : Nat} (hc : inV (cv c) (cv w)) (hr : inV (cv r) (cv (w - c))) : c + r ≤ w ∧ cv (c + r) = cv c + cv r ∧ inV (cv (c + r)) (cv w) ∧ inV (cv r) (cv (c + r)) ∧ cv (c + r) - cv r = cv c := by
  have k2 := (cv_sub hc).2
  obtain ⟨h1, h2, h3, h4⟩ := hr
  rw [k2] at h1 h2 h3 h4
  obtain ⟨s1, s2, s3, s4⟩ := dsub hc
  rw [s1] at h1
  rw [s2] at h2
  rw [s3] at h3
  rw [s4] at h4
  clear s1 s2 s3 s4 k2
  obtain ⟨c1, c2, c3, c4⟩ := hc
  obtain ⟨a, b, e, d, x1, x2, x3, x4, x5, f1, f2, f3, f4⟩ := dig c
  obtain ⟨a', b', e', d', y1, y2, y3, y4, y5, g1, g2, g3, g4⟩ := dig r
  obtain ⟨a'', b'', e'', d'', z1, z2, z3, z4, z5, i1, i2, i3, i4⟩ := dig w
  rw [f1, g1, i1] at h1
  rw [f2, g2, i2] at h2
  rw [f3, g3, i3] at h3
  rw [f4, g4, i4] at h4
  rw [f1, i1] at c1
  rw [f2, i2] at c2
  rw [f3, i3] at c3
  rw [f4, i4] at c4
  have q1 := le_add h1 c1
  have q2 := le_add h2 c2
  have q3 := le_add h3 c3
  have q4 := le_add h4 c4
  obtain ⟨p1, p2⟩ := add6 x4 y4 z4 h1 h2 h3 h4 c1 c2 c3 c4
  have m := cv_mk (Nat.lt_of_le_of_lt q2 z1) (Nat.lt_of_le_of_lt q3 z2) (Nat.lt_of_le_of_lt q4 z3) p2
  have e1 : cv (c + r) = cv c + cv r := by
    clear f1 f2 f3 f4 g1 g2 g3 g4 i1 i2 i3 i4
    omega
  obtain ⟨m1, m2, m3, m4⟩ := mk8 (Nat.lt_of_le_of_lt q2 (Nat.lt_trans z1 (by decide))) (Nat.lt_of_le_of_lt q3 (Nat.lt_trans z2 (by decide))) (Nat.lt_of_le_of_lt q4 (Nat.lt_trans z3 (by decide))) m
  refine ⟨p1, e1, ?_, ?_, ?_⟩
  · unfold inV
    rw [m1, m2, m3, m4, i1, i2, i3, i4]
    exact ⟨q1, q2, q3, q4⟩
  · unfold inV
    rw [m1, m2, m3, m4, g1, g2, g3, g4]
    exact ⟨Nat.le_add_left _ _, Nat.le_add_left _ _, Nat.le_add_left _ _, Nat.le_add_left _ _⟩
  · rw [e1, Nat.add_sub_cancel]
theorem dstep (n v j : Nat) (hv : v < 2147483648) (hj : j ≤ 3) (p0 p1 : Int32) : LPf (κ := Int32 → Int32 → Option (Int32)) (fun _ _ => none) (fun kk => mX7_digit_B4 kk (mX7_digit_X4 p0 p1) p0 p1) (n + 1) (nI v) (nI j) = if 3 ≤ j then some (nI (v % 6)) else LPf (κ := Int32 → Int32 → Option (Int32)) (fun _ _ => none) (fun kk => mX7_digit_B4 kk (mX7_digit_X4 p0 p1) p0 p1) n (nI (v / 6)) (nI (j + 1)) := by
  rw [LP_s]
  generalize LPf (κ := Int32 → Int32 → Option (Int32)) (fun _ _ => none) _ n = k
  show mX7_digit_B4 k _ p0 p1 (nI v) (nI j) = _
  unfold mX7_digit_B4 mX7_digit_X4
  rw [l3, ifLe (by omega) (by omega), l6, pk_rem hv (by omega) (by omega), pk_div hv (by omega) (by omega), nI_1]
theorem lt31 {a b : Nat} (h : a ≤ b) (g : b < 1296) : a < 2147483648 := Nat.lt_of_le_of_lt h (Nat.lt_trans g (by decide))
theorem m_digit {r k : Nat} (hr : r < 1296) (hk : k < 4) : mX7_digit (nI r) (nI k) = some (nI (d8 (cv r) k)) := by
  have r1 : r < 2147483648 := lt31 (Nat.le_refl _) hr
  have r2 : r / 6 < 2147483648 := lt31 (Nat.div_le_self _ _) hr
  have r3 : r / 6 / 6 < 2147483648 := lt31 (Nat.le_trans (Nat.div_le_self _ _) (Nat.div_le_self _ _)) hr
  have r4 : r / 6 / 6 / 6 < 2147483648 := lt31 (Nat.le_trans (Nat.div_le_self _ _) (Nat.le_trans (Nat.div_le_self _ _) (Nat.div_le_self _ _))) hr
  have q2 : r / 6 / 6 = r / 36 := Nat.div_div_eq_div_mul r 6 6
  have q3 : r / 6 / 6 / 6 % 6 = r / 216 := by
    rw [q2, show r / 36 / 6 = r / 216 from Nat.div_div_eq_div_mul r 36 6]
    exact Nat.mod_eq_of_lt (Nat.div_lt_of_lt_mul (by omega))
  unfold mX7_digit
  obtain ⟨F, hF⟩ : ∃ F, FU = F + 1 + 1 + 1 + 1 := ⟨99996, rfl⟩
  rw [hF]
  rcases (by clear r2 r3 r4 q2 q3; omega : k = 0 ∨ k = 1 ∨ k = 2 ∨ k = 3) with rfl | rfl | rfl | rfl
  · rw [dstep _ _ _ r1 (by decide), if_neg (by decide), dstep _ _ _ r2 (by decide), if_neg (by decide), dstep _ _ _ r3 (by decide), if_neg (by decide), dstep _ _ _ r4 (by decide), if_pos (by decide), q3, show d8 (cv r) 0 = r / 216 from (cv_d r).1]
  · rw [dstep _ _ _ r1 (by decide), if_neg (by decide), dstep _ _ _ r2 (by decide), if_neg (by decide), dstep _ _ _ r3 (by decide), if_pos (by decide), q2, show d8 (cv r) 1 = r / 36 % 6 from (cv_d r).2.1]
  · rw [dstep _ _ _ r1 (by decide), if_neg (by decide), dstep _ _ _ r2 (by decide), if_pos (by decide), show d8 (cv r) 2 = r / 6 % 6 from (cv_d r).2.2.1]
  · rw [dstep _ _ _ r1 (by decide), if_pos (by decide), show d8 (cv r) 3 = r % 6 from (cv_d r).2.2.2]
theorem inV4 (p q : Nat) : inV p q ↔ ∀ k, k < 4 → d8 p k ≤ d8 q k := by
  constructor
  · intro h k hk
    rcases (by omega : k = 0 ∨ k = 1 ∨ k = 2 ∨ k = 3) with rfl | rfl | rfl | rfl
    · exact h.1
    · exact h.2.1
    · exact h.2.2.1
    · exact h.2.2.2
  · intro h
    exact ⟨h 0 (by omega), h 1 (by omega), h 2 (by omega), h 3 (by omega)⟩
theorem m_isIn {r w : Nat} (hr : r < 1296) (hw : w < 1296) : mX7_isIn (nI r) (nI w) = some (nI (decide (inV (cv r) (cv w))).toNat) := by
  unfold mX7_isIn
  obtain ⟨T', a1, a2⟩ := loopG (fun kk => mX7_isIn_B4 kk (mX7_isIn_X4 (nI r) (nI w)) (nI r) (nI w)) (mX7_isIn_X4 (nI r) (nI w)) (fun j v => (v = 1 ∧ ∀ k, k < j → d8 (cv r) k ≤ d8 (cv w) k) ∨ (v = 0 ∧ ¬ inV (cv r) (cv w))) 4 (fun k T hT => by
      show mX7_isIn_B4 k _ (nI r) (nI w) T (nI 4) = _
      unfold mX7_isIn_B4
      rw [if_pos (show (4 : Int32) ≤ nI 4 by decide)]) (fun k T i hi hT => by
      rcases hT with ⟨h1, h2⟩ | ⟨h1, h2⟩
      · by_cases c : d8 (cv r) i ≤ d8 (cv w) i
        · refine ⟨1, Or.inl ⟨rfl, fun j hj => ?_⟩, ?_⟩
          · by_cases e : j = i
            · rw [e]; exact c
            · exact h2 j (by omega)
          · show mX7_isIn_B4 k _ (nI r) (nI w) T (nI i) = _
            unfold mX7_isIn_B4
            have z1 := d8_lt (cv_bd hr) i
            have z2 := d8_lt (cv_bd hw) i
            rw [l4, if_neg (by rw [leI (by omega) (by omega)]; omega), h1, if_neg one0, m_digit hr hi, Option.bind_some, m_digit hw hi, Option.bind_some, if_neg (by rw [ltI (by omega) (by omega)]; omega), nI_1]
        · refine ⟨0, Or.inr ⟨rfl, fun g => c ((inV4 _ _).mp g i hi)⟩, ?_⟩
          show mX7_isIn_B4 k _ (nI r) (nI w) T (nI i) = _
          unfold mX7_isIn_B4
          have z1 := d8_lt (cv_bd hr) i
          have z2 := d8_lt (cv_bd hw) i
          rw [l4, if_neg (by rw [leI (by omega) (by omega)]; omega), h1, if_neg one0, m_digit hr hi, Option.bind_some, m_digit hw hi, Option.bind_some, if_pos (by rw [ltI (by omega) (by omega)]; omega), nI_1]
      · refine ⟨0, Or.inr ⟨rfl, h2⟩, ?_⟩
        show mX7_isIn_B4 k _ (nI r) (nI w) T (nI i) = _
        unfold mX7_isIn_B4
        rw [l4, if_neg (by rw [leI (by omega) (by omega)]; omega), h1, if_pos rfl, nI_1]) 4 0 FU 1 (by omega) (FU_gt (by omega)) (Or.inl ⟨rfl, fun k hk => by omega⟩)
  rw [l0, a2]
  unfold mX7_isIn_X4
  rcases a1 with ⟨h1, h2⟩ | ⟨h1, h2⟩
  · rw [h1, decide_eq_true ((inV4 _ _).mpr h2)]; rfl
  · rw [h1, decide_eq_false h2]; rfl
def KM (K : KB) (T : ST) : Prop := T.1 11 = nI (K.1 0) ∧ T.1 12 = nI (K.1 1) ∧ T.1 13 = nI (K.1 2) ∧ (∀ s, s < K.1 0 → T.2 21 s = nI (K.2 0 s) ∧ T.2 22 s = nI (K.2 1 s)) ∧ ∀ k, k < K.1 1 → T.2 23 k = nI (K.2 2 k)
def DM (K : KB) (D : Nat → Nat) (T : ST) : Prop := ∀ k, k < K.1 1 → T.2 24 k = nI (D k)
theorem KM_of {K : KB} {S S' : ST} (h1 : S'.1 11 = S.1 11 ∧ S'.1 12 = S.1 12 ∧ S'.1 13 = S.1 13) (h2 : S'.2 21 = S.2 21 ∧ S'.2 22 = S.2 22 ∧ S'.2 23 = S.2 23) (h : KM K S) : KM K S' := by
  unfold KM
  rw [h1.1, h1.2.1, h1.2.2, h2.1, h2.2.1, h2.2.2]
  exact h
def preD (K : KB) (D : Nat → Nat) : Nat → Nat
  | 0 => 0
  | k + 1 => 6 * preD K D k + wD K D k
def rD (K : KB) (D : Nat → Nat) : Nat := preD K D 4
theorem rD_e (K : KB) (D : Nat → Nat) : rD K D = ((wD K D 0 * 6 + wD K D 1) * 6 + wD K D 2) * 6 + wD K D 3 := by
  show 6 * (6 * (6 * (6 * 0 + wD K D 0) + wD K D 1) + wD K D 2) + wD K D 3 = _
  omega
theorem rD_lt {K : KB} {D : Nat → Nat} (h : OKD K D) : rD K D < 1296 := by
  have a := wD_le h 0
  have b := wD_le h 1
  have c := wD_le h 2
  have d := wD_le h 3
  rw [rD_e]
  omega
theorem cv_rD {K : KB} {D : Nat → Nat} (h : OKD K D) : cv (rD K D) = cD K D := by
  have b := wD_le h 1
  have c := wD_le h 2
  have d := wD_le h 3
  exact cv_mk (by omega) (by omega) (by omega) (rD_e K D)
theorem m_all {K : KB} {D : Nat → Nat} {T : ST} (ok : OKK K) (h : KM K T) (hd : DM K D T) : mX7_all T = some (nI (rD K D)) := by
  have o := ok.2.1
  unfold mX7_all
  obtain ⟨T', a1, a2⟩ := loopG (fun kk => mX7_all_B4 kk (mX7_all_X4 T) T) (mX7_all_X4 T) (fun k v => v = nI (preD K D k)) 4 (fun k v hv => by
      show mX7_all_B4 k _ T v (nI 4) = _
      unfold mX7_all_B4
      rw [if_pos (show (4 : Int32) ≤ nI 4 by decide)]) (fun k v i hi hv => by
      refine ⟨nI (preD K D (i + 1)), rfl, ?_⟩
      show mX7_all_B4 k _ T v (nI i) = _
      unfold mX7_all_B4
      have e : preD K D (i + 1) = 6 * preD K D i + wD K D i := rfl
      rw [l4, if_neg (by rw [leI (by omega) (by omega)]; omega), h.2.1, e, hv]
      by_cases c : i < K.1 1
      · rw [if_neg (by rw [leI (by omega) (by omega)]; omega), gdI (by omega) (by omega), clI (by omega), hd i c, l6, pk_mul, nI_add, nI_1, show wD K D i = D i from if_pos c]
      · rw [if_pos (by rw [leI (by omega) (by omega)]; omega), l6, l0, pk_mul, nI_add, nI_1, show wD K D i = 0 from if_neg c]) 4 0 FU (nI 0) (by omega) (FU_gt (by omega)) rfl
  rw [l0, a2]
  show some T' = _
  rw [a1]
  rfl
theorem m_wants {K : KB} {T : ST} (ok : OKK K) (h : KM K T) {r : Nat} (hr : r < 1296) : LPf (κ := Int32 → Int32 → Option (ST)) (fun _ _ => none) (fun kk => mX7_findPattern_B9 kk (mX7_findPattern_X9 T (nI r)) T (nI r)) FU (0 - (T.1 13)) 0 = mX7_findPattern_X9 T (nI r) (nI (lenN K (cv r) (K.1 1)) - nI (K.1 2)) (nI (K.1 1)) := by
  have o4 := ok.2.1
  obtain ⟨e12, e13, e14, es, eo⟩ := id h
  rw [e14, l0]
  obtain ⟨T', a1, a2⟩ := loopG (fun kk => mX7_findPattern_B9 kk (mX7_findPattern_X9 T (nI r)) T (nI r)) (mX7_findPattern_X9 T (nI r)) (fun k v => v = nI (lenN K (cv r) k) - nI (K.1 2)) (K.1 1) (fun k v hv => by
      show mX7_findPattern_B9 k _ T (nI r) v (nI (K.1 1)) = _
      unfold mX7_findPattern_B9
      rw [e13, if_pos (by rw [leI (by omega) (by omega)]; omega)]) (fun k v i hi hv => by
      refine ⟨nI (lenN K (cv r) (i + 1)) - nI (K.1 2), rfl, ?_⟩
      show mX7_findPattern_B9 k _ T (nI r) v (nI i) = _
      unfold mX7_findPattern_B9
      rw [e13, if_neg (by rw [leI (by omega) (by omega)]; omega), m_digit hr (by omega), Option.bind_some, gdI (by omega) (by omega), clI (by omega), eo i hi, e14, hv, nI_add, pk_mul, subadd, nI_1]
      rfl) (K.1 1) 0 FU (nI 0 - nI (K.1 2)) (by omega) (FU_gt (by omega)) rfl
  rw [a2, a1]
theorem m_findPattern {K : KB} {T : ST} (ok : OKK K) (h : KM K T) {r : Nat} (hr : r < 1296) (h0 : r ≠ 0) (hv : VD K (cv r)) : mX7_findPattern T (nI r) = some (sG (sG T 28 (nI r) (nI (lenB K (cv r)))) 27 (nI r) (gD (sfB K (cv r)))) := by
  have o3 := ok.1
  have lt := len_lt ok hv.1
  obtain ⟨e12, e13, e14, es, eo⟩ := id h
  unfold mX7_findPattern
  rw [m_wants ok h hr, pk_sub (by have := len_pos ok (cv_ne h0) hv; omega)]
  show mX7_findPattern_X9 T (nI r) (nI (lenB K (cv r))) (nI (K.1 1)) = _
  unfold mX7_findPattern_X9
  rw [gdI (by omega) (by omega)]
  obtain ⟨T', a1, a2⟩ := loopG (fun kk => mX7_findPattern_B55 kk (mX7_findPattern_X55 (sG T 28 (nI r) (nI (lenB K (cv r)))) (nI r) (nI (lenB K (cv r)))) (sG T 28 (nI r) (nI (lenB K (cv r)))) (nI r) (nI (lenB K (cv r)))) (mX7_findPattern_X55 (sG T 28 (nI r) (nI (lenB K (cv r)))) (nI r) (nI (lenB K (cv r)))) (fun s v => v = gD (sfN K (lenB K (cv r)) s)) (K.1 0) (fun k v hv' => by
      show mX7_findPattern_B55 k _ _ (nI r) _ v (nI (K.1 0)) = _
      unfold mX7_findPattern_B55
      rw [sG_i, e12, if_pos (by rw [leI (by omega) (by omega)]; omega)]) (fun k v i hi hv' => by
      generalize lenB K (cv r) = l at *
      refine ⟨gD (sfN K l (i + 1)), rfl, ?_⟩
      show mX7_findPattern_B55 k _ _ (nI r) _ v (nI i) = _
      unfold mX7_findPattern_B55
      have ks := ok.2.2.2.1 i hi
      rw [sG_i, e12, if_neg (by rw [leI (by omega) (by omega)]; omega), gdI (by omega) (by omega), clI (by omega), sGo (show (21 : Nat) ≠ 28 by decide), sGo (show (22 : Nat) ≠ 28 by decide), (es i hi).1, (es i hi).2, hv', ifLt (by omega) (by omega), nI_1]
      have e : sfN K l (i + 1) = if K.2 0 i < l then sfN K l i else if sfN K l i = 0 then i + 1 else if K.2 1 (sfN K l i - 1) ≤ K.2 1 i then sfN K l i else i + 1 := rfl
      rw [e]
      by_cases c1 : K.2 0 i < l
      · rw [if_pos c1, if_pos c1]
      · rw [if_neg c1, if_neg c1]
        have sl := sfN_le K l i
        by_cases c2 : sfN K l i = 0
        · rw [c2, gD_0, if_pos rfl, if_pos rfl, gD_s]
        · rw [if_neg (gD_ne c2 (by omega)), if_neg c2]
          obtain ⟨m, hm⟩ : ∃ m, sfN K l i = m + 1 := ⟨sfN K l i - 1, by omega⟩
          have km := ok.2.2.2.1 m (by omega)
          rw [hm, gD_s, gdI (by omega) (by omega), gdI (by omega) (by omega), clI (by omega), (es m (by omega)).2, ifLe (by omega) (by omega), Nat.add_sub_cancel]
          by_cases c3 : K.2 1 m ≤ K.2 1 i
          · rw [if_pos c3, if_pos c3, gD_s]
          · rw [if_neg c3, if_neg c3, gD_s]) (K.1 0) 0 FU (gD 0) (by omega) (FU_gt (by omega)) rfl
  rw [l0, ← gD_0, a2]
  unfold mX7_findPattern_X55
  rw [gdI (by omega) (by omega), a1]
  rfl
