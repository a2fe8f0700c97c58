/-! MATH, bars: the class's costs of all numbers of pieces, its list -/
theorem gdT {α : Type} (x : Option α) : gd true x = x := rfl
def FrC (S0 S : ST) : Prop := S.1 = S0.1 ∧ ∀ a, a ≠ 13 → a ≠ 14 → a ≠ 15 → S.2 a = S0.2 a
theorem c_findLeastCost {K : KB} {S : ST} (ok : OKK K) (h : KC K S) (hc : COST K S) {q : Nat} (hv : VD K q) (hd : ∀ p, p ≠ 0 → inV p q → p ≠ q → S.2 14 p ≠ 0) : ∃ S', mX0_findLeastCost S (nI (q / 512)) (nI (q / 64 % 8)) (nI (q / 8 % 8)) (nI (q % 8)) = some S' ∧ FrC S S' ∧ COST K S' ∧ (q ≠ 0 → S'.2 14 q ≠ 0) ∧ ∀ p, p ≠ q → S'.2 14 p = S.2 14 p := by
  obtain ⟨lb, lc, ld⟩ := lt8 q
  have hq := hv.1
  unfold mX0_findLeastCost
  rw [c_code (by omega) lb lc ld, ← of8 q, Option.bind_some, w6b]
  by_cases c0 : q = 0
  · rw [if_neg (by rw [c0]; decide)]
    exact ⟨S, rfl, ⟨rfl, fun _ _ _ _ => rfl⟩, hc, fun g => absurd c0 g, fun _ _ => rfl⟩
  · rw [if_pos ⟨by rw [l1]; exact (nI_leI (by omega) (by omega)).mpr (by omega), (nI_leI (b := 4095) (by omega) (by omega)).mpr (by omega)⟩, gdI (by omega) (by omega), clI (by omega)]
    by_cases c1 : S.2 14 q = 0
    · rw [if_pos c1, c_barCost ok h c0 hv, Option.bind_some, gdI (by omega) (by omega), gdI (by omega) (by omega)]
      have sm : SM K q (sG (sG S 13 (nI q) (nI (bc K q))) 14 (nI q) 1048576) := by
        refine ⟨?_, ?_, fun p p0 p1 p2 => ⟨?_, ?_⟩⟩
        · rw [sGs (by omega), if_neg (by omega), sGo (by decide)]; exact hc.1
        · rw [sGo (by decide), sGs (by omega), if_pos rfl]
        · rw [sGs (by omega), if_neg p2, sGo (by decide)]; exact (hc.2 p p0 (VD_in p1 hv) (hd p p0 p1 p2)).1
        · rw [sGo (by decide), sGs (by omega), if_neg p2]; exact (hc.2 p p0 (VD_in p1 hv) (hd p p0 p1 p2)).2.1
      obtain ⟨S', a1, ⟨a2, a3, a4⟩, a5, a6⟩ := c_patterns ok c0 hq sm ⟨⟨rfl, fun _ _ _ => rfl, fun _ _ => ⟨rfl, rfl⟩⟩, by rw [sGs (by omega), if_pos rfl]; rfl, fun g => absurd g (Nat.lt_irrefl _)⟩
      rw [a1]
      have n14 : ∀ p, p ≠ q → S'.2 14 p = S.2 14 p := fun p hp => by rw [(a4 p hp).1, sGs (by omega), if_neg hp, sGo (by decide)]
      have n15 : ∀ p, p ≠ q → S'.2 15 p = S.2 15 p := fun p hp => by rw [(a4 p hp).2, sGo (by decide), sGo (by decide)]
      have n13 : ∀ p, S'.2 13 p = if p = q then nI (bc K q) else S.2 13 p := fun p => by rw [a3 13 (by decide) (by decide), sGo (by decide), sGs (by omega)]
      rw [← CB_s K c0] at a5 a6
      refine ⟨S', rfl, ⟨a2, fun a b1 b2 b3 => ?_⟩, ⟨?_, fun p p0 p1 p2 => ?_⟩, fun _ => ?_, n14⟩
      · rw [a3 a b2 b3, sGo b2, sGo b1]
      · rw [n14 0 (fun e => c0 e.symm)]; exact hc.1
      · by_cases e : p = q
        · subst e
          exact ⟨a5, by rw [n13, if_pos rfl], a6⟩
        · rw [n14 p e] at p2 ⊢
          rw [n13 p, if_neg e, n15 p e]
          exact hc.2 p p0 p1 p2
      · rw [a5]
        have := CB_pos ok c0
        have := CB_le K q
        exact nI_ne0 (by omega) (by omega)
    · rw [if_neg c1]
      exact ⟨S, rfl, ⟨rfl, fun _ _ _ _ => rfl⟩, hc, fun _ => c1, fun _ _ => rfl⟩
def wD (K : KB) (D : Nat → Nat) (k : Nat) : Nat := if k < K.1 1 then D k else 0
def DC (K : KB) (D : Nat → Nat) (S : ST) : Prop := ∀ k, k < K.1 1 → S.2 12 k = nI (D k)
def OKD (K : KB) (D : Nat → Nat) : Prop := ∀ k, k < K.1 1 → D k ≤ 5
theorem wD_le {K : KB} {D : Nat → Nat} (h : OKD K D) (k : Nat) : wD K D k ≤ 5 := by
  unfold wD
  split
  · next g => exact h k g
  · omega
def cD (K : KB) (D : Nat → Nat) : Nat := ((wD K D 0 * 8 + wD K D 1) * 8 + wD K D 2) * 8 + wD K D 3
theorem cD_d {K : KB} {D : Nat → Nat} (h : OKD K D) : cD K D / 512 = wD K D 0 ∧ cD K D / 64 % 8 = wD K D 1 ∧ cD K D / 8 % 8 = wD K D 2 ∧ cD K D % 8 = wD K D 3 :=
  mk8 (by have := wD_le h 1; omega) (by have := wD_le h 2; omega) (by have := wD_le h 3; omega) rfl
theorem cD_lt {K : KB} {D : Nat → Nat} (h : OKD K D) : cD K D < 4096 := by
  have a := wD_le h 0
  have b := wD_le h 1
  have c := wD_le h 2
  have d := wD_le h 3
  unfold cD
  omega
theorem cD_VD {K : KB} {D : Nat → Nat} (h : OKD K D) : VD K (cD K D) := by
  obtain ⟨a, b, c, d⟩ := cD_d h
  refine ⟨cD_lt h, fun k h1 h2 => ?_⟩
  have e : wD K D k = 0 := if_neg (by omega)
  rcases (by omega : k = 0 ∨ k = 1 ∨ k = 2 ∨ k = 3) with rfl | rfl | rfl | rfl
  · exact a.trans e
  · exact b.trans e
  · exact c.trans e
  · exact d.trans e
theorem cD_pcs {K : KB} {D : Nat → Nat} (h : OKD K D) : pcs (cD K D) ≤ 20 := by
  obtain ⟨a, b, c, d⟩ := cD_d h
  have a' := wD_le h 0
  have b' := wD_le h 1
  have c' := wD_le h 2
  have d' := wD_le h 3
  unfold pcs
  rw [a, b, c, d]
  omega
theorem c_wanted {K : KB} {D : Nat → Nat} {S : ST} (ok : OKK K) (h : KC K S) (hd : DC K D S) {k : Nat} (hk : k < 4) : mX3_wantedOf S (nI k) = some (nI (wD K D k)) := by
  have o := ok.2.1
  unfold mX3_wantedOf
  rw [h.2.1]
  unfold wD
  by_cases c : k < K.1 1
  · rw [if_neg (by rw [leI (by omega) (by omega)]; omega), l4, if_neg (by rw [leI (by omega) (by omega)]; omega), gdI (by omega) (by omega), clI (by omega), if_pos c, hd k c]
  · rw [if_pos (by rw [leI (by omega) (by omega)]; omega), if_neg c]; rfl
/-- so far -/
def JJ (K : KB) (D : Nat → Nat) (n : Nat) (S0 S : ST) : Prop := FrC S0 S ∧ COST K S ∧ ∀ p, p ≠ 0 → p < n → inV p (cD K D) → S.2 14 p ≠ 0
theorem JJ_skip {K : KB} {D : Nat → Nat} {n n' : Nat} {S0 S : ST} (h : JJ K D n S0 S) (g : ∀ p, n ≤ p → p < n' → ¬ (p ≠ 0 ∧ inV p (cD K D))) : JJ K D n' S0 S := by
  refine ⟨h.1, h.2.1, fun p p0 p1 p2 => ?_⟩
  by_cases c : p < n
  · exact h.2.2 p p0 c p2
  · exact absurd ⟨p0, p2⟩ (g p (by omega) p1)
theorem FrC_K {K : KB} {D : Nat → Nat} {S0 S : ST} (h : FrC S0 S) (k : KC K S0) (d : DC K D S0) : KC K S ∧ DC K D S := by
  refine ⟨KC_of ⟨by rw [h.1], by rw [h.1], by rw [h.1]⟩ ⟨h.2 9 (by decide) (by decide) (by decide), h.2 10 (by decide) (by decide) (by decide), h.2 11 (by decide) (by decide) (by decide)⟩ k, ?_⟩
  unfold DC
  rw [h.2 12 (by decide) (by decide) (by decide)]
  exact d
theorem c_findLeastCosts {K : KB} {D : Nat → Nat} {S0 : ST} (ok : OKK K) (okD : OKD K D) (h : KC K S0) (hd : DC K D S0) (hc : COST K S0) : ∃ S', mX0_findLeastCosts S0 = some S' ∧ JJ K D (cD K D + 1) S0 S' := by
  obtain ⟨da, db, dc, dd⟩ := cD_d okD
  have wa := wD_le okD 0
  have wb := wD_le okD 1
  have wc := wD_le okD 2
  have wd := wD_le okD 3
  have L4 : ∀ (X : ST → Int32 → Option ST) a b c S, a ≤ wD K D 0 → b ≤ wD K D 1 → c ≤ wD K D 2 → JJ K D (512 * a + 64 * b + 8 * c) S0 S → ∃ S', JJ K D (512 * a + 64 * b + 8 * (c + 1)) S0 S' ∧ LPf (κ := ST → Int32 → Option (ST)) (fun _ _ => none) (fun kk => mX0_findLeastCosts_B45 kk X (nI a) (nI b) (nI c)) FU S (nI 0) = X S' (nI (wD K D 3 + 1)) := by
    intro X a b c S ha hb hcc hS
    obtain ⟨S', b1, b2⟩ := loopU (fun kk => mX0_findLeastCosts_B45 kk X (nI a) (nI b) (nI c)) X (fun d S => JJ K D (512 * a + 64 * b + 8 * c + d) S0 S) (wD K D 3 + 1) (fun k T hT => by
        obtain ⟨k1, k2⟩ := FrC_K hT.1 h hd
        show mX0_findLeastCosts_B45 k X _ _ _ T _ = _
        unfold mX0_findLeastCosts_B45
        rw [l3, c_wanted ok k1 k2 (by omega), Option.bind_some, if_pos (by rw [ltI (by omega) (by omega)]; omega)]) (fun kk T d hd' hT => by
        obtain ⟨k1, k2⟩ := FrC_K hT.1 h hd
        obtain ⟨q, hq⟩ : ∃ q, q = ((a * 8 + b) * 8 + c) * 8 + d := ⟨_, rfl⟩
        obtain ⟨qa, qb, qc, qd⟩ := mk8 (by omega) (by omega) (by omega) hq
        have qi : inV q (cD K D) := by unfold inV; rw [qa, qb, qc, qd, da, db, dc, dd]; exact ⟨ha, hb, hcc, by omega⟩
        obtain ⟨S', a1, a2, a3, a4, a5⟩ := c_findLeastCost ok k1 hT.2.1 (VD_in qi (cD_VD okD)) (fun p p0 p1 p2 => hT.2.2 p p0 (by have := inV_le p1; omega) (inV_tr p1 qi))
        rw [qa, qb, qc, qd] at a1
        refine ⟨S', ⟨⟨a2.1.trans hT.1.1, fun x x1 x2 x3 => (a2.2 x x1 x2 x3).trans (hT.1.2 x x1 x2 x3)⟩, a3, fun p p0 p1 p2 => ?_⟩, ?_⟩
        · by_cases e : p = q
          · rw [e]; exact a4 (by rw [← e]; exact p0)
          · rw [a5 p e]; exact hT.2.2 p p0 (by omega) p2
        · show mX0_findLeastCosts_B45 kk X _ _ _ T _ = _
          unfold mX0_findLeastCosts_B45
          rw [l3, c_wanted ok k1 k2 (by omega), Option.bind_some, if_neg (by rw [ltI (by omega) (by omega)]; omega), a1, Option.bind_some, nI_1]) (wD K D 3 + 1) 0 FU S (by omega) (FU_gt (by omega)) (by simpa using hS)
    exact ⟨S', JJ_skip b1 (fun p p1 p2 => out3 (x := 64 * a + 8 * b + c) (by rw [dd]; omega) (by omega)), b2⟩
  have L3 : ∀ (X : ST → Int32 → Option ST) a b S, a ≤ wD K D 0 → b ≤ wD K D 1 → JJ K D (512 * a + 64 * b) S0 S → ∃ S', JJ K D (512 * a + 64 * (b + 1)) S0 S' ∧ LPf (κ := ST → Int32 → Option (ST)) (fun _ _ => none) (fun kk => mX0_findLeastCosts_B30 kk X (nI a) (nI b)) FU S (nI 0) = X S' (nI (wD K D 2 + 1)) := by
    intro X a b S ha hb hS
    obtain ⟨S', b1, b2⟩ := loopU (fun kk => mX0_findLeastCosts_B30 kk X (nI a) (nI b)) X (fun c S => JJ K D (512 * a + 64 * b + 8 * c) S0 S) (wD K D 2 + 1) (fun k T hT => by
        obtain ⟨k1, k2⟩ := FrC_K hT.1 h hd
        show mX0_findLeastCosts_B30 k X _ _ T _ = _
        unfold mX0_findLeastCosts_B30
        rw [l2, c_wanted ok k1 k2 (by omega), Option.bind_some, if_pos (by rw [ltI (by omega) (by omega)]; omega)]) (fun kk T c hc' hT => by
        obtain ⟨k1, k2⟩ := FrC_K hT.1 h hd
        obtain ⟨S', a1, a2⟩ := L4 (mX0_findLeastCosts_X45 kk X (nI a) (nI b) (nI c)) a b c T ha hb (by omega) hT
        refine ⟨S', a1, ?_⟩
        show mX0_findLeastCosts_B30 kk X _ _ T _ = _
        unfold mX0_findLeastCosts_B30
        rw [l2, c_wanted ok k1 k2 (by omega), Option.bind_some, if_neg (by rw [ltI (by omega) (by omega)]; omega)]
        refine a2.trans ?_
        unfold mX0_findLeastCosts_X45
        rw [nI_1]) (wD K D 2 + 1) 0 FU S (by omega) (FU_gt (by omega)) (by simpa using hS)
    exact ⟨S', JJ_skip b1 (fun p p1 p2 => out2 (x := 8 * a + b) (by rw [dc]; omega) (by omega)), b2⟩
  have L2 : ∀ (X : ST → Int32 → Option ST) a S, a ≤ wD K D 0 → JJ K D (512 * a) S0 S → ∃ S', JJ K D (512 * (a + 1)) S0 S' ∧ LPf (κ := ST → Int32 → Option (ST)) (fun _ _ => none) (fun kk => mX0_findLeastCosts_B16 kk X (nI a)) FU S (nI 0) = X S' (nI (wD K D 1 + 1)) := by
    intro X a S ha hS
    obtain ⟨S', b1, b2⟩ := loopU (fun kk => mX0_findLeastCosts_B16 kk X (nI a)) X (fun b S => JJ K D (512 * a + 64 * b) S0 S) (wD K D 1 + 1) (fun k T hT => by
        obtain ⟨k1, k2⟩ := FrC_K hT.1 h hd
        show mX0_findLeastCosts_B16 k X _ T _ = _
        unfold mX0_findLeastCosts_B16
        rw [l1, c_wanted ok k1 k2 (by omega), Option.bind_some, if_pos (by rw [ltI (by omega) (by omega)]; omega)]) (fun kk T b hb' hT => by
        obtain ⟨k1, k2⟩ := FrC_K hT.1 h hd
        obtain ⟨S', a1, a2⟩ := L3 (mX0_findLeastCosts_X30 kk X (nI a) (nI b)) a b T ha (by omega) hT
        refine ⟨S', a1, ?_⟩
        show mX0_findLeastCosts_B16 kk X _ T _ = _
        unfold mX0_findLeastCosts_B16
        rw [l1, c_wanted ok k1 k2 (by omega), Option.bind_some, if_neg (by rw [ltI (by omega) (by omega)]; omega)]
        refine a2.trans ?_
        unfold mX0_findLeastCosts_X30
        rw [nI_1]) (wD K D 1 + 1) 0 FU S (by omega) (FU_gt (by omega)) (by simpa using hS)
    exact ⟨S', JJ_skip b1 (fun p p1 p2 => out1 (x := a) (by rw [db]; omega) (by omega)), b2⟩
  obtain ⟨S', b1, b2⟩ := loopU (fun kk => mX0_findLeastCosts_B2 kk mX0_findLeastCosts_X2) mX0_findLeastCosts_X2 (fun a S => JJ K D (512 * a) S0 S) (wD K D 0 + 1) (fun k T hT => by
        obtain ⟨k1, k2⟩ := FrC_K hT.1 h hd
        show mX0_findLeastCosts_B2 k _ T _ = _
        unfold mX0_findLeastCosts_B2
        rw [l0, c_wanted ok k1 k2 (by omega), Option.bind_some, if_pos (by rw [ltI (by omega) (by omega)]; omega)]) (fun kk T a ha' hT => by
        obtain ⟨k1, k2⟩ := FrC_K hT.1 h hd
        obtain ⟨S', a1, a2⟩ := L2 (mX0_findLeastCosts_X16 kk mX0_findLeastCosts_X2 (nI a)) a T (by omega) hT
        refine ⟨S', a1, ?_⟩
        show mX0_findLeastCosts_B2 kk _ T _ = _
        unfold mX0_findLeastCosts_B2
        rw [l0, c_wanted ok k1 k2 (by omega), Option.bind_some, if_neg (by rw [ltI (by omega) (by omega)]; omega)]
        refine a2.trans ?_
        unfold mX0_findLeastCosts_X16
        rw [nI_1]) (wD K D 0 + 1) 0 FU S0 (by omega) (FU_gt (by omega)) ⟨⟨rfl, fun _ _ _ _ => rfl⟩, hc, fun p p0 p1 p2 => by omega⟩
  refine ⟨S', ?_, b1.1, b1.2.1, fun p p0 p1 p2 => b1.2.2 p p0 (by have := of8 (cD K D); rw [da, db, dc, dd] at this; omega) p2⟩
  unfold mX0_findLeastCosts
  exact b2
/-- what is left behind i bars -/
def lf (K : KB) (q : Nat) : Nat → Nat
  | 0 => q
  | i + 1 => lf K q i - fpB K (lf K q i)
theorem lf_ok (K : KB) {q : Nat} (hq : CB K q < 1048576) : ∀ i, (∀ j, j < i → lf K q j ≠ 0) → inV (lf K q i) q ∧ CB K (lf K q i) < 1048576 ∧ pcs (lf K q i) + i ≤ pcs q := by
  intro i
  induction i with
  | zero => intro _; exact ⟨inV_rf q, hq, Nat.le_refl _⟩
  | succ i ih =>
    intro h
    obtain ⟨a, b, c⟩ := ih (fun j hj => h j (by omega))
    obtain ⟨f0, f1, f2, -⟩ := fp_ok K (h i (by omega)) b
    refine ⟨inV_tr (inV_sub f1) a, ?_, ?_⟩
    · show CB K (lf K q i - fpB K (lf K q i)) < 1048576
      omega
    · show pcs (lf K q i - fpB K (lf K q i)) + (i + 1) ≤ pcs q
      have s := pcs_sub f1
      have s1 := pcs_pos f0
      omega
