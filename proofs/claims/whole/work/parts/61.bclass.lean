/-! MATH, bars: the class, one bar -/
theorem loopG {σ ρ : Type} (F : (σ → Int32 → Option ρ) → σ → Int32 → Option ρ) (X : σ → Int32 → Option ρ) (I : Nat → σ → Prop) (e : Nat)
    (hexit : ∀ k T, I e T → F k T (nI e) = X T (nI e))
    (hstep : ∀ k T i, i < e → I i T → ∃ T', I (i + 1) T' ∧ F k T (nI i) = k T' (nI (i + 1))) :
    ∀ d i n T, i + d = e → d < n → I i T → ∃ T', I e T' ∧ LPf (κ := σ → Int32 → Option ρ) (fun _ _ => none) F n T (nI i) = X T' (nI e) := by
  intro d
  induction d with
  | zero =>
    intro i n T hi hn hI
    obtain ⟨n, rfl⟩ : ∃ m, n = m + 1 := ⟨n - 1, by omega⟩
    obtain rfl : i = e := by omega
    exact ⟨T, hI, by rw [LP_s]; exact hexit _ T hI⟩
  | succ d ih =>
    intro i n T hi hn hI
    obtain ⟨n, rfl⟩ : ∃ m, n = m + 1 := ⟨n - 1, by omega⟩
    obtain ⟨T', hI', e'⟩ := hstep (LPf (κ := σ → Int32 → Option ρ) (fun _ _ => none) F n) T i (by omega) hI
    obtain ⟨T2, h2, e2⟩ := ih (i + 1) n T' (by omega) (by omega) hI'
    exact ⟨T2, h2, by rw [LP_s, e', e2]⟩
def KC (K : KB) (S : ST) : Prop := S.1 12 = nI (K.1 0) ∧ S.1 13 = nI (K.1 1) ∧ S.1 14 = nI (K.1 2) ∧ (∀ s, s < K.1 0 → S.2 9 s = nI (K.2 0 s) ∧ S.2 10 s = nI (K.2 1 s)) ∧ ∀ k, k < K.1 1 → S.2 11 k = nI (K.2 2 k)
def VD (K : KB) (p : Nat) : Prop := p < 4096 ∧ ∀ k, K.1 1 ≤ k → k < 4 → d8 p k = 0
theorem KC_of {K : KB} {S S' : ST} (h1 : S'.1 12 = S.1 12 ∧ S'.1 13 = S.1 13 ∧ S'.1 14 = S.1 14) (h2 : S'.2 9 = S.2 9 ∧ S'.2 10 = S.2 10 ∧ S'.2 11 = S.2 11) (h : KC K S) : KC K S' := by
  unfold KC
  rw [h1.1, h1.2.1, h1.2.2, h2.1, h2.2.1, h2.2.2]
  exact h
theorem subadd (x b y : Nat) : (nI x - nI b) + nI y = nI (x + y) - nI b := by
  rw [Int32.sub_eq_add_neg, Int32.sub_eq_add_neg, Int32.add_assoc, Int32.add_comm (-nI b), ← Int32.add_assoc, nI_add]
theorem neg0 (b : Nat) : -(nI b) = nI 0 - nI b := by
  rw [Int32.sub_eq_add_neg]
  exact (Int32.zero_add _).symm
theorem gD_0 : gD 0 = -1 := by decide
theorem gD_ne {r : Nat} (h : r ≠ 0) (h2 : r < 1000) : gD r ≠ -1 := by
  obtain ⟨m, rfl⟩ : ∃ m, r = m + 1 := ⟨r - 1, by omega⟩
  rw [gD_s]
  exact nI_nm1 (by omega)
theorem d8_lt {p : Nat} (h : p < 4096) (k : Nat) : d8 p k < 8 := by
  unfold d8
  split
  · omega
  · split
    · omega
    · split <;> omega
theorem c_numberOf {p k : Nat} (hp : p < 4096) (hk : k < 4) : mX0_numberOf (nI p) (nI k) = some (nI (d8 p k)) := by
  unfold mX0_numberOf
  have l7' : ((7 : Int32).toBitVec.toNat = 2 ^ 3 - 1) := by decide
  rcases (by omega : k = 0 ∨ k = 1 ∨ k = 2 ∨ k = 3) with rfl | rfl | rfl | rfl
  · rw [pk_shrN (by omega) _ 9 (by decide), pk_andN (by omega) 3 l7']
    congr 2
    show p / 512 % 8 = p / 512
    omega
  · rw [pk_shrN (by omega) _ 6 (by decide), pk_andN (by omega) 3 l7']
    rfl
  · rw [pk_shrN (by omega) _ 3 (by decide), pk_andN (by omega) 3 l7']
    rfl
  · rw [pk_shrN (by omega) _ 0 (by decide), pk_andN (by omega) 3 l7']
    congr 2
    show p / 1 % 8 = p % 8
    rw [Nat.div_one]
theorem or8 : ∀ x : Fin 512, ∀ b : Fin 8, nI (x.val * 2 ^ 3) ||| nI b.val = nI (x.val * 8 + b.val) := by decide +kernel
theorem c_code {a b c d : Nat} (ha : a < 8) (hb : b < 8) (hc : c < 8) (hd : d < 8) : mX0_code (nI a) (nI b) (nI c) (nI d) = some (nI (((a * 8 + b) * 8 + c) * 8 + d)) := by
  unfold mX0_code
  rw [pk_shlN _ 3 (by decide) (by omega), or8 ⟨a, by omega⟩ ⟨b, hb⟩, pk_shlN _ 3 (by decide) (by simp only; omega), or8 ⟨a * 8 + b, by omega⟩ ⟨c, hc⟩, pk_shlN _ 3 (by decide) (by simp only; omega), or8 ⟨(a * 8 + b) * 8 + c, by omega⟩ ⟨d, hd⟩]
theorem lenN_le {K : KB} (ok : OKK K) {p : Nat} (hp : p < 4096) : ∀ n, n ≤ K.1 1 → lenN K p n ≤ n * 714 := by
  intro n
  induction n with
  | zero => intro _; exact Nat.le_refl _
  | succ n ih =>
    intro h
    have i := ih (by omega)
    have d := d8_lt hp n
    have l := ok.2.2.2.2 n (by omega)
    have b := ok.2.2.1
    have : d8 p n * (K.2 2 n + K.1 2) ≤ 7 * 102 := Nat.mul_le_mul (by omega) (by omega)
    show lenN K p n + d8 p n * (K.2 2 n + K.1 2) ≤ (n + 1) * 714
    omega
theorem lenN_ge (K : KB) (p : Nat) : ∀ n k, k < n → d8 p k * (K.2 2 k + K.1 2) ≤ lenN K p n := by
  intro n
  induction n with
  | zero => intro k h; omega
  | succ n ih =>
    intro k h
    show _ ≤ lenN K p n + d8 p n * (K.2 2 n + K.1 2)
    by_cases e : k = n
    · subst e; omega
    · have := ih k (by omega)
      omega
theorem d8_some {p : Nat} (h0 : p ≠ 0) : ∃ k, k < 4 ∧ d8 p k ≠ 0 := by
  have e := of8 p
  by_cases a : p / 512 = 0
  · by_cases b : p / 64 % 8 = 0
    · by_cases c : p / 8 % 8 = 0
      · refine ⟨3, by omega, ?_⟩
        show p % 8 ≠ 0
        rw [a, b, c] at e
        omega
      · exact ⟨2, by omega, c⟩
    · exact ⟨1, by omega, b⟩
  · exact ⟨0, by omega, a⟩
theorem len_pos {K : KB} (ok : OKK K) {p : Nat} (h0 : p ≠ 0) (hv : VD K p) : K.1 2 + 1 ≤ lenN K p (K.1 1) := by
  obtain ⟨k, k1, k2⟩ := d8_some h0
  have k3 : k < K.1 1 := by
    by_cases q : k < K.1 1
    · exact q
    · exact absurd (hv.2 k (by omega) k1) k2
  have g := lenN_ge K p (K.1 1) k k3
  have l := ok.2.2.2.2 k k3
  have m : 1 * (K.2 2 k + K.1 2) ≤ d8 p k * (K.2 2 k + K.1 2) := Nat.mul_le_mul_right _ (by omega)
  omega
theorem len_lt {K : KB} (ok : OKK K) {p : Nat} (hp : p < 4096) : lenB K p ≤ 2856 := by
  have := lenN_le ok hp (K.1 1) (Nat.le_refl _)
  have o := ok.2.1
  unfold lenB
  omega
theorem c_lengthWanted {K : KB} {S : ST} (ok : OKK K) (h : KC K S) {p : Nat} (hp : p < 4096) : mX0_lengthWanted S (nI p) = some (nI (lenN K p (K.1 1)) - nI (K.1 2)) := by
  have o4 := ok.2.1
  obtain ⟨e12, e13, e14, es, eo⟩ := id h
  unfold mX0_lengthWanted
  rw [e14, neg0]
  obtain ⟨T', a1, a2⟩ := loopG (fun kk => mX0_lengthWanted_B11 kk (mX0_lengthWanted_X11 S (nI p)) S (nI p)) (mX0_lengthWanted_X11 S (nI p)) (fun k v => v = nI (lenN K p k) - nI (K.1 2)) (K.1 1) (fun k T hT => by
      show mX0_lengthWanted_B11 k _ S (nI p) T (nI (K.1 1)) = _
      unfold mX0_lengthWanted_B11
      rw [e13, if_pos (by rw [leI (by omega) (by omega)]; omega)]) (fun k T i hi hT => by
      refine ⟨nI (lenN K p (i + 1)) - nI (K.1 2), rfl, ?_⟩
      show mX0_lengthWanted_B11 k _ S (nI p) T (nI i) = _
      unfold mX0_lengthWanted_B11
      rw [e13, if_neg (by rw [leI (by omega) (by omega)]; omega), l4, if_neg (by rw [leI (by omega) (by omega)]; omega), c_numberOf hp (by omega), Option.bind_some, gdI (by omega) (by omega), clI (by omega), eo i hi, e14, hT, nI_add, pk_mul, subadd, nI_1]
      rfl) (K.1 1) 0 FU (nI 0 - nI (K.1 2)) (by omega) (FU_gt (by omega)) rfl
  rw [l0, a2]
  show some T' = _
  rw [a1]
theorem c_stockFor {K : KB} {S : ST} (ok : OKK K) (h : KC K S) {l : Nat} (hl : l < 100000) : mX3_stockFor S (nI l) = some (gD (sfN K l (K.1 0))) := by
  have o3 := ok.1
  obtain ⟨e12, e13, e14, es, eo⟩ := id h
  unfold mX3_stockFor
  obtain ⟨T', a1, a2⟩ := loopG (fun kk => mX3_stockFor_B4 kk (mX3_stockFor_X4 S (nI l)) S (nI l)) (mX3_stockFor_X4 S (nI l)) (fun s v => v = gD (sfN K l s)) (K.1 0) (fun k T hT => by
      show mX3_stockFor_B4 k _ S (nI l) T (nI (K.1 0)) = _
      unfold mX3_stockFor_B4
      rw [e12, if_pos (by rw [leI (by omega) (by omega)]; omega)]) (fun k T i hi hT => by
      refine ⟨gD (sfN K l (i + 1)), rfl, ?_⟩
      show mX3_stockFor_B4 k _ S (nI l) T (nI i) = _
      unfold mX3_stockFor_B4
      have ks := ok.2.2.2.1 i hi
      rw [e12, if_neg (by rw [leI (by omega) (by omega)]; omega), l3, if_neg (by rw [leI (by omega) (by omega)]; omega), gdI (by omega) (by omega), clI (by omega), (es i hi).1, (es i hi).2, hT, ifLt (by omega) (by omega), nI_1]
      have e : sfN K l (i + 1) = if K.2 0 i < l then sfN K l i else if sfN K l i = 0 then i + 1 else if K.2 1 (sfN K l i - 1) ≤ K.2 1 i then sfN K l i else i + 1 := rfl
      rw [e]
      by_cases c1 : K.2 0 i < l
      · rw [if_pos c1, if_pos c1]
      · rw [if_neg c1, if_neg c1]
        have sl := sfN_le K l i
        by_cases c2 : sfN K l i = 0
        · rw [c2, gD_0, if_pos rfl, if_pos rfl, gD_s]
        · rw [if_neg (gD_ne c2 (by omega)), if_neg c2]
          obtain ⟨m, hm⟩ : ∃ m, sfN K l i = m + 1 := ⟨sfN K l i - 1, by omega⟩
          have km := ok.2.2.2.1 m (by omega)
          rw [hm, gD_s, gdI (by omega) (by omega), gdI (by omega) (by omega), clI (by omega), (es m (by omega)).2, ifLe (by omega) (by omega), Nat.add_sub_cancel]
          by_cases c3 : K.2 1 m ≤ K.2 1 i
          · rw [if_pos c3, if_pos c3, gD_s]
          · rw [if_neg c3, if_neg c3, gD_s]) (K.1 0) 0 FU (gD 0) (by omega) (FU_gt (by omega)) rfl
  rw [l0, ← gD_0, a2]
  show some T' = _
  rw [a1]
theorem c_len {K : KB} {S : ST} (ok : OKK K) (h : KC K S) {p : Nat} (h0 : p ≠ 0) (hv : VD K p) : mX0_lengthWanted S (nI p) = some (nI (lenB K p)) := by
  rw [c_lengthWanted ok h hv.1, pk_sub (by have := len_pos ok h0 hv; omega)]
  rfl
theorem c_barCost {K : KB} {S : ST} (ok : OKK K) (h : KC K S) {p : Nat} (h0 : p ≠ 0) (hv : VD K p) : mX0_barCost S (nI p) = some (nI (bc K p)) := by
  unfold mX0_barCost
  have lt := len_lt ok hv.1
  have o3 := ok.1
  rw [c_len ok h h0 hv, Option.bind_some, c_stockFor ok h (by omega), Option.bind_some]
  show (if gD (sfB K p) = -1 then _ else _) = _
  rcases bc_or ok p with ⟨a, b⟩ | ⟨a, b, c, -, -⟩
  · rw [a, gD_0, if_pos rfl, b]; rfl
  · rw [if_neg (gD_ne (by omega) (by omega))]
    obtain ⟨m, hm⟩ : ∃ m, sfB K p = m + 1 := ⟨sfB K p - 1, by omega⟩
    have hm' : sfN K (lenB K p) (K.1 0) = m + 1 := hm
    rw [c, hm', hm, gD_s, gdI (by omega) (by omega), clI (by omega), (h.2.2.2.1 m (by omega)).2, l21, pk_mul, nI_1]
    rfl
theorem lenN_mono (K : KB) {p p' : Nat} (h : inV p p') : ∀ n, n ≤ 4 → lenN K p n ≤ lenN K p' n := by
  intro n
  induction n with
  | zero => intro _; exact Nat.le_refl _
  | succ n ih =>
    intro hn
    have i := ih (by omega)
    have d : d8 p n ≤ d8 p' n := by
      rcases (by omega : n = 0 ∨ n = 1 ∨ n = 2 ∨ n = 3) with rfl | rfl | rfl | rfl
      · exact h.1
      · exact h.2.1
      · exact h.2.2.1
      · exact h.2.2.2
    have m : d8 p n * (K.2 2 n + K.1 2) ≤ d8 p' n * (K.2 2 n + K.1 2) := Nat.mul_le_mul_right _ d
    show lenN K p n + _ ≤ lenN K p' n + _
    omega
theorem bc_mono {K : KB} (ok : OKK K) {p p' : Nat} (h : inV p p') (e : 1048576 ≤ bc K p) : bc K p' = 1048576 := by
  rcases bc_or ok p with ⟨a, -⟩ | ⟨-, -, -, -, b⟩
  · rcases bc_or ok p' with ⟨a', b'⟩ | ⟨a', -⟩
    · exact b'
    · exfalso
      have f := (sfN_0 K (lenB K p) (K.1 0)).mp a
      have l := lenN_mono K h (K.1 1) ok.2.1
      have : sfB K p' = 0 := (sfN_0 K (lenB K p') (K.1 0)).mpr (fun s hs => by
        have := f s hs
        unfold lenB at *
        omega)
      omega
  · omega
