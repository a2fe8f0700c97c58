/-! MATH, bars: the class's costs -/
def COST (K : KB) (S : ST) : Prop := S.2 14 0 = 0 ∧ ∀ p, p ≠ 0 → VD K p → S.2 14 p ≠ 0 → S.2 14 p = nI (CB K p) ∧ S.2 13 p = nI (bc K p) ∧ (CB K p < 1048576 → S.2 15 p = nI (fpB K p))
theorem VD_in {K : KB} {p q : Nat} (h : inV p q) (g : VD K q) : VD K p := by
  refine ⟨by have := inV_le h; have := g.1; omega, fun k h1 h2 => ?_⟩
  have e := g.2 k h1 h2
  have : d8 p k ≤ d8 q k := by
    rcases (by omega : k = 0 ∨ k = 1 ∨ k = 2 ∨ k = 3) with rfl | rfl | rfl | rfl
    · exact h.1
    · exact h.2.1
    · exact h.2.2.1
    · exact h.2.2.2
  omega
def Fr (q : Nat) (S0 S : ST) : Prop := S.1 = S0.1 ∧ (∀ a, a ≠ 14 → a ≠ 15 → S.2 a = S0.2 a) ∧ ∀ p, p ≠ q → S.2 14 p = S0.2 14 p ∧ S.2 15 p = S0.2 15 p
def LSq (K : KB) (q n : Nat) (S0 S : ST) : Prop := Fr q S0 S ∧ S.2 14 q = nI (mnN (gB K q) n) ∧ (mnN (gB K q) n < 1048576 → S.2 15 q = nI (argN (gB K q) n))
theorem LSq_skip {K : KB} {q n n' : Nat} {S0 S : ST} (h : LSq K q n S0 S) (hn : n ≤ n') (g : ∀ p, n ≤ p → p < n' → 1048576 ≤ gB K q p) : LSq K q n' S0 S := by
  obtain ⟨d, rfl⟩ : ∃ d, n' = n + d := ⟨n' - n, by omega⟩
  obtain ⟨a, b⟩ := mn_skip (gB K q) n d g
  refine ⟨h.1, by rw [a]; exact h.2.1, fun c => ?_⟩
  rw [a] at c
  rw [b c]
  exact h.2.2 c
/-- what is known of smaller numbers of pieces -/
def SM (K : KB) (q : Nat) (S0 : ST) : Prop := S0.2 14 0 = 0 ∧ S0.2 13 q = nI (bc K q) ∧ ∀ p, p ≠ 0 → inV p q → p ≠ q → S0.2 14 p = nI (CB K p) ∧ S0.2 13 p = nI (bc K p)
theorem row8 {m e q : Nat} (hm : inV (8 * m) q) (he : e ≤ q % 8) : inV (8 * m + e) q ∧ (8 * m + e) / 8 = m ∧ ∀ e', e' ≤ e → inV (8 * m + e') (8 * m + e) := by
  have l := lt8 q
  obtain ⟨a, b, c, d⟩ := hm
  have f : ∀ e, e < 8 → (8 * m + e) / 512 = 8 * m / 512 ∧ (8 * m + e) / 64 % 8 = 8 * m / 64 % 8 ∧ (8 * m + e) / 8 % 8 = 8 * m / 8 % 8 ∧ (8 * m + e) % 8 = e := by
    intro e he
    refine ⟨by omega, by omega, by omega, by omega⟩
  obtain ⟨f1, f2, f3, f4⟩ := f e (by omega)
  refine ⟨?_, by omega, fun e' he' => ?_⟩
  · unfold inV
    rw [f1, f2, f3, f4]
    exact ⟨a, b, c, he⟩
  · obtain ⟨g1, g2, g3, g4⟩ := f e' (by omega)
    unfold inV
    rw [f1, f2, f3, f4, g1, g2, g3, g4]
    exact ⟨Nat.le_refl _, Nat.le_refl _, Nat.le_refl _, he'⟩
theorem c_try {K : KB} {S0 : ST} (ok : OKK K) {q m : Nat} (h0 : q ≠ 0) (hq : q < 4096) (sm : SM K q S0) (hm : inV (8 * m) q) {S : ST} (hS : LSq K q (8 * m) S0 S) : ∃ S', mX0_tryFirstBars S (nI q) (nI (8 * m)) (nI (q % 8)) = some S' ∧ LSq K q (8 * m + q % 8 + 1) S0 S' := by
  have l := lt8 q
  have hl := inV_le (row8 hm (Nat.le_refl _)).1
  have m0 := inV_le hm
  unfold mX0_tryFirstBars
  rw [nI_add, if_neg (nI_pos (by omega)), if_neg (by rw [ltI (by omega) (by omega)]; omega), show (4096 : Int32) = nI 4096 from rfl, if_pos (by rw [ltI (by omega) (by omega)]; omega)]
  have L : ∀ d v n S, v + d = 8 * m + q % 8 + 1 → 8 * m ≤ v → 1 ≤ v → d < n → LSq K q v S0 S → ∃ S', LPf (κ := ST → Int32 → Option (ST)) (fun _ _ => none) (fun kk => mX0_tryFirstBars_B30 kk (mX0_tryFirstBars_X30 (nI q) (nI (8 * m)) (nI (q % 8)) (nI (8 * m + q % 8))) (nI q) (nI (8 * m)) (nI (q % 8)) (nI (8 * m + q % 8))) n S (nI v) = some S' ∧ LSq K q (8 * m + q % 8 + 1) S0 S' := by
    intro d
    induction d with
    | zero =>
      intro v n S hv hv1 hv2 hn hS
      obtain ⟨n, rfl⟩ : ∃ m, n = m + 1 := ⟨n - 1, by omega⟩
      rw [LP_s]
      generalize LPf (κ := ST → Int32 → Option (ST)) (fun _ _ => none) _ n = k
      show ∃ S', mX0_tryFirstBars_B30 k _ (nI q) (nI (8 * m)) (nI (q % 8)) (nI (8 * m + q % 8)) S (nI v) = some S' ∧ _
      unfold mX0_tryFirstBars_B30
      rw [if_pos (by rw [ltI (by omega) (by omega)]; omega)]
      refine ⟨S, rfl, ?_⟩
      rw [← hv]
      exact hS
    | succ d ih =>
      intro v n S hv hv1 hv2 hn hS
      obtain ⟨n, rfl⟩ : ∃ m, n = m + 1 := ⟨n - 1, by omega⟩
      rw [LP_s]
      have ih' := fun S => ih (v + 1) n S (by omega) (by omega) (by omega) (by omega)
      revert ih'
      generalize LPf (κ := ST → Int32 → Option (ST)) (fun _ _ => none) _ n = k
      intro ih'
      show ∃ S', mX0_tryFirstBars_B30 k _ (nI q) (nI (8 * m)) (nI (q % 8)) (nI (8 * m + q % 8)) S (nI v) = some S' ∧ _
      obtain ⟨e, he⟩ : ∃ e, v = 8 * m + e := ⟨v - 8 * m, by omega⟩
      have ri := (row8 hm (show e ≤ q % 8 by omega)).1
      rw [← he] at ri
      have vq := inV_le ri
      have b13 : S.2 13 v = nI (bc K v) := by
        rw [hS.1.2.1 13 (by decide) (by decide)]
        by_cases g : v = q
        · rw [g]; exact sm.2.1
        · exact (sm.2.2 v (by omega) ri g).2
      have b14 : S.2 14 (q - v) = nI (CB K (q - v)) := by
        rw [(hS.1.2.2 (q - v) (by omega)).1]
        by_cases g : v = q
        · rw [g, Nat.sub_self, CB_0]; exact sm.1
        · exact (sm.2.2 (q - v) (by omega) (inV_sub ri) (by omega)).1
      have bl := bc_le ok v
      have cl := CB_le K (q - v)
      have ml := mnN_le (gB K q) v
      have hv0 : v ≠ 0 := by omega
      have gv : gB K q v = bc K v + CB K (q - v) := gB_in K hv0 ri
      unfold mX0_tryFirstBars_B30
      rw [if_neg (by rw [ltI (by omega) (by omega)]; omega), gdI (by omega) (by omega), clI (by omega), b13, show (1048576 : Int32) = nI 1048576 from rfl, ifLe (by omega) (by omega)]
      by_cases c : 1048576 ≤ bc K v
      · rw [if_pos c]
        refine ⟨S, rfl, LSq_skip hS (by omega) (fun p p1 p2 => ?_)⟩
        obtain ⟨e', he'⟩ : ∃ e', p = 8 * m + e' := ⟨p - 8 * m, by omega⟩
        have rp := row8 hm (show e' ≤ q % 8 by omega)
        have mo := bc_mono ok (rp.2.2 e (by omega)) (by rw [← he]; exact c)
        rw [he', gB_in K (by omega) rp.1, mo]
        omega
      · rw [if_neg c, gdI (by omega) (by omega), pk_sub (by omega), gdI (by omega) (by omega), gdI (by omega) (by omega), clI (by omega), clI (by omega), b14, hS.2.1, nI_add, ifLt (by omega) (by omega), nI_1]
        by_cases c2 : mnN (gB K q) v < bc K v + CB K (q - v)
        · rw [if_pos c2]
          refine ih' S ⟨hS.1, ?_, ?_⟩
          · rw [mnN_s, if_neg (by omega)]; exact hS.2.1
          · rw [mnN_s, argN_s, if_neg (by omega), if_neg (by omega)]; exact hS.2.2
        · rw [if_neg c2, gdI (by omega) (by omega), gdI (by omega) (by omega)]
          refine ih' _ ⟨⟨hS.1.1, fun a a1 a2 => ?_, fun p hp => ⟨?_, ?_⟩⟩, ?_, ?_⟩
          · rw [sGo a2, sGo a1]; exact hS.1.2.1 a a1 a2
          · rw [sGo (by decide), sGs (by omega), if_neg hp]; exact (hS.1.2.2 p hp).1
          · rw [sGs (by omega), if_neg hp, sGo (by decide)]; exact (hS.1.2.2 p hp).2
          · rw [sGo (by decide), sGs (by omega), if_pos rfl, mnN_s, if_pos (by omega), gv]
          · intro _
            rw [sGs (by omega), if_pos rfl, argN_s, if_pos (by omega)]
  by_cases c : m = 0
  · subst c
    rw [if_pos (by decide)]
    exact L (q % 8) 1 FU S (by omega) (by omega) (by omega) (FU_gt (by omega)) (LSq_skip hS (by omega) (fun p p1 p2 => by rw [gB_out K (by omega)]; omega))
  · rw [l1, if_neg (by rw [ltI (by omega) (by omega)]; omega)]
    exact L (q % 8 + 1) (8 * m) FU S (by omega) (by omega) (by omega) (FU_gt (by omega)) hS
theorem cat8 {i j k : Nat} (hj : j < 8) (hk : k < 8) : (8 * (i * 64 + j * 8 + k)) / 512 = i ∧ (8 * (i * 64 + j * 8 + k)) / 64 % 8 = j ∧ (8 * (i * 64 + j * 8 + k)) / 8 % 8 = k ∧ (8 * (i * 64 + j * 8 + k)) % 8 = 0 := mk8 (a := i) (d := 0) hj hk (by omega) (by omega)
/-- beyond a row, a field, a block nothing lies in q -/
theorem out3 {p q x : Nat} (h1 : 8 * x + q % 8 + 1 ≤ p) (h2 : p < 8 * (x + 1)) : ¬ (p ≠ 0 ∧ inV p q) := by
  rintro ⟨-, -, -, -, d⟩
  omega
theorem out2 {p q x : Nat} (h1 : 64 * x + 8 * (q / 8 % 8 + 1) ≤ p) (h2 : p < 64 * (x + 1)) : ¬ (p ≠ 0 ∧ inV p q) := by
  rintro ⟨-, -, -, d, -⟩
  generalize q / 8 % 8 = c at *
  omega
theorem out1 {p q x : Nat} (h1 : 512 * x + 64 * (q / 64 % 8 + 1) ≤ p) (h2 : p < 512 * (x + 1)) : ¬ (p ≠ 0 ∧ inV p q) := by
  rintro ⟨-, -, d, -, -⟩
  generalize q / 64 % 8 = c at *
  omega
theorem c_patterns {K : KB} {S0 : ST} (ok : OKK K) {q : Nat} (h0 : q ≠ 0) (hq : q < 4096) (sm : SM K q S0) (hS : LSq K q 0 S0 S0) : ∃ S', LPf (κ := ST → Int32 → Option (ST)) (fun _ _ => none) (fun kk => mX0_findLeastCost_B58 kk (mX0_findLeastCost_X58 (nI (q / 512)) (nI (q / 64 % 8)) (nI (q / 8 % 8)) (nI (q % 8)) (nI q)) (nI (q / 512)) (nI (q / 64 % 8)) (nI (q / 8 % 8)) (nI (q % 8)) (nI q)) FU S0 0 = some S' ∧ LSq K q (q + 1) S0 S' := by
  obtain ⟨lb, lc, ld⟩ := lt8 q
  have la : q / 512 < 8 := by omega
  -- the third
  have L3 : ∀ (X : ST → Int32 → Option ST) i j S, i ≤ q / 512 → j ≤ q / 64 % 8 → LSq K q (512 * i + 64 * j) S0 S → ∃ S', LSq K q (512 * i + 64 * (j + 1)) S0 S' ∧ LPf (κ := ST → Int32 → Option (ST)) (fun _ _ => none) (fun kk => mX0_findLeastCost_B76 kk X (nI (q / 512)) (nI (q / 64 % 8)) (nI (q / 8 % 8)) (nI (q % 8)) (nI q) (nI i) (nI j)) FU S (nI 0) = X S' (nI (q / 8 % 8 + 1)) := by
    intro X i j S hi hj hS
    obtain ⟨S', b1, b2⟩ := loopU (fun kk => mX0_findLeastCost_B76 kk X (nI (q / 512)) (nI (q / 64 % 8)) (nI (q / 8 % 8)) (nI (q % 8)) (nI q) (nI i) (nI j)) X (fun k S => LSq K q (512 * i + 64 * j + 8 * k) S0 S) (q / 8 % 8 + 1) (fun k T hT => by
        show mX0_findLeastCost_B76 k X _ _ _ _ _ _ _ T _ = _
        unfold mX0_findLeastCost_B76
        rw [if_pos (by rw [ltI (by omega) (by omega)]; omega)]) (fun kk T k hk hT => by
        have cc := cat8 (i := i) (j := j) (k := k) (by omega) (by omega)
        obtain ⟨S', a1, a2⟩ := c_try ok h0 hq sm (m := i * 64 + j * 8 + k) (by unfold inV; rw [cc.1, cc.2.1, cc.2.2.1, cc.2.2.2]; exact ⟨hi, hj, by omega, Nat.zero_le _⟩) (S := T) (by rw [show 8 * (i * 64 + j * 8 + k) = 512 * i + 64 * j + 8 * k by omega]; exact hT)
        refine ⟨S', ?_, ?_⟩
        · refine LSq_skip a2 (by omega) (fun p p1 p2 => ?_)
          rw [gB_out K (out3 (x := i * 64 + j * 8 + k) p1 (by omega))]
          omega
        · show mX0_findLeastCost_B76 kk X _ _ _ _ _ _ _ T _ = _
          unfold mX0_findLeastCost_B76
          rw [if_neg (by rw [ltI (by omega) (by omega)]; omega), l0, c_code (by omega) (by omega) (by omega) (by omega), Option.bind_some, show ((i * 8 + j) * 8 + k) * 8 + 0 = 8 * (i * 64 + j * 8 + k) by omega, a1, Option.bind_some, nI_1]) (q / 8 % 8 + 1) 0 FU S (by omega) (FU_gt (by omega)) (by simpa using hS)
    refine ⟨S', LSq_skip b1 (by omega) (fun p p1 p2 => ?_), b2⟩
    rw [gB_out K (out2 (x := 8 * i + j) (by omega) (by omega))]
    omega
  have L2 : ∀ (X : ST → Int32 → Option ST) i S, i ≤ q / 512 → LSq K q (512 * i) S0 S → ∃ S', LSq K q (512 * (i + 1)) S0 S' ∧ LPf (κ := ST → Int32 → Option (ST)) (fun _ _ => none) (fun kk => mX0_findLeastCost_B67 kk X (nI (q / 512)) (nI (q / 64 % 8)) (nI (q / 8 % 8)) (nI (q % 8)) (nI q) (nI i)) FU S (nI 0) = X S' (nI (q / 64 % 8 + 1)) := by
    intro X i S hi hS
    obtain ⟨S', b1, b2⟩ := loopU (fun kk => mX0_findLeastCost_B67 kk X (nI (q / 512)) (nI (q / 64 % 8)) (nI (q / 8 % 8)) (nI (q % 8)) (nI q) (nI i)) X (fun j S => LSq K q (512 * i + 64 * j) S0 S) (q / 64 % 8 + 1) (fun k T hT => by
        show mX0_findLeastCost_B67 k X _ _ _ _ _ _ T _ = _
        unfold mX0_findLeastCost_B67
        rw [if_pos (by rw [ltI (by omega) (by omega)]; omega)]) (fun kk T j hj hT => by
        obtain ⟨S', a1, a2⟩ := L3 (mX0_findLeastCost_X76 kk X (nI (q / 512)) (nI (q / 64 % 8)) (nI (q / 8 % 8)) (nI (q % 8)) (nI q) (nI i) (nI j)) i j T hi (by omega) hT
        refine ⟨S', a1, ?_⟩
        show mX0_findLeastCost_B67 kk X _ _ _ _ _ _ T _ = _
        unfold mX0_findLeastCost_B67
        rw [if_neg (by rw [ltI (by omega) (by omega)]; omega)]
        refine a2.trans ?_
        unfold mX0_findLeastCost_X76
        rw [nI_1]) (q / 64 % 8 + 1) 0 FU S (by omega) (FU_gt (by omega)) (by simpa using hS)
    refine ⟨S', LSq_skip b1 (by omega) (fun p p1 p2 => ?_), b2⟩
    rw [gB_out K (out1 (x := i) (by omega) (by omega))]
    omega
  obtain ⟨S', b1, b2⟩ := loopU (fun kk => mX0_findLeastCost_B58 kk (mX0_findLeastCost_X58 (nI (q / 512)) (nI (q / 64 % 8)) (nI (q / 8 % 8)) (nI (q % 8)) (nI q)) (nI (q / 512)) (nI (q / 64 % 8)) (nI (q / 8 % 8)) (nI (q % 8)) (nI q)) (mX0_findLeastCost_X58 (nI (q / 512)) (nI (q / 64 % 8)) (nI (q / 8 % 8)) (nI (q % 8)) (nI q)) (fun i S => LSq K q (512 * i) S0 S) (q / 512 + 1) (fun k T hT => by
        show mX0_findLeastCost_B58 k _ _ _ _ _ _ T _ = _
        unfold mX0_findLeastCost_B58
        rw [if_pos (by rw [ltI (by omega) (by omega)]; omega)]) (fun kk T i hi hT => by
        obtain ⟨S', a1, a2⟩ := L2 (mX0_findLeastCost_X67 kk (mX0_findLeastCost_X58 (nI (q / 512)) (nI (q / 64 % 8)) (nI (q / 8 % 8)) (nI (q % 8)) (nI q)) (nI (q / 512)) (nI (q / 64 % 8)) (nI (q / 8 % 8)) (nI (q % 8)) (nI q) (nI i)) i T (by omega) hT
        refine ⟨S', a1, ?_⟩
        show mX0_findLeastCost_B58 kk _ _ _ _ _ _ T _ = _
        unfold mX0_findLeastCost_B58
        rw [if_neg (by rw [ltI (by omega) (by omega)]; omega)]
        refine a2.trans ?_
        unfold mX0_findLeastCost_X67
        rw [nI_1]) (q / 512 + 1) 0 FU S0 (by omega) (FU_gt (by omega)) (by simpa using hS)
  refine ⟨S', b2, ?_⟩
  obtain ⟨d, hd⟩ : ∃ d, 512 * (q / 512 + 1) = q + 1 + d := ⟨512 * (q / 512 + 1) - (q + 1), by omega⟩
  have b1' : LSq K q (512 * (q / 512 + 1)) S0 S' := b1
  rw [hd] at b1'
  obtain ⟨a, b⟩ := mn_skip (gB K q) (q + 1) d (fun p p1 p2 => by
    rw [gB_out K (fun g => by have := inV_le g.2; omega)]; omega)
  refine ⟨b1'.1, by rw [← a]; exact b1'.2.1, fun c => ?_⟩
  rw [← b c]
  exact b1'.2.2 (by rw [a]; exact c)
