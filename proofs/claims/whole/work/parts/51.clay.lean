/-! MATH, plates: the class's recursion is THE PLAN's -/
theorem c_lay {P : PC} (ok : OKP P) : ∀ d (S : ST) (L : PLN) st x y w v lv, CC P S → TBC P S → PLc P S L → 1 ≤ st → st ≤ P.1 3 → 1 ≤ w → x + w ≤ P.1 0 → 1 ≤ v → y + v ≤ P.1 1 → w + v + (P.1 3 - st) < d → lv + w + v ≤ 32 + st → L.1.length + w * v ≤ 256 → L.2.length + w * v ≤ 256 → ar L.1 + w * v ≤ P.1 0 * P.1 1 →
    ∃ S', mX2_lay d S (nI x) (nI y) (nI w) (nI v) (nI st) (nI lv) = some S' ∧ FRc S S' ∧ PLc P S' (L.1 ++ (pl P d st x y w v).1, L.2 ++ (pl P d st x y w v).2) := by
  obtain ⟨⟨-, w16⟩, ⟨-, h16⟩, k2, ⟨g1, g4⟩, -⟩ := id ok
  intro d
  induction d with
  | zero => intro S L st x y w v lv _ _ _ _ _ _ _ _ _ h; omega
  | succ d ih =>
    intro S L st x y w v lv h ht hL s1 s3 hw hxw hv hyv hm hlv n1 n2 na
    have wl := worth_lt ok (st := st) (x := x) (y := y) hw (by omega) hv (by omega)
    have h1 : 1 ≤ w * v := Nat.mul_pos hw hv
    have e3 : S.1 3 = nI (P.1 3) := h.1.2.2.2.1
    show ∃ S', mX2_layF (mX2_lay d) S (nI x) (nI y) (nI w) (nI v) (nI st) (nI lv) = some S' ∧ _
    unfold mX2_layF
    rw [c_of ok h ht s1 s3 hw hxw hv hyv, Option.bind_some, ifEq0 (by omega)]
    by_cases h0 : worth P st x y w v = 0
    · rw [if_pos h0, pl_0 h0]
      exact ⟨S, rfl, ⟨fun _ _ _ _ => rfl, fun _ _ _ => rfl⟩, by rw [List.append_nil, List.append_nil]; exact hL⟩
    · rw [if_neg h0, l34, ifLe (by omega) (by omega), if_pos (by omega), c_isClean ok h (by omega) (by omega) (by omega) (by omega), Option.bind_some, ifB]
      have hJ : (if (!spB P x y w v) = true then (mX1_firstOfValue S (nI w) (nI v) (nI (worth P st x y w v))).bind (fun r8 => mX2_lay_J60 (mX2_lay d) S (nI x) (nI y) (nI w) (nI v) (nI st) (nI lv) (nI (worth P st x y w v)) r8) else mX2_lay_J60 (mX2_lay d) S (nI x) (nI y) (nI w) (nI v) (nI st) (nI lv) (nI (worth P st x y w v)) (-1)) = mX2_lay_J60 (mX2_lay d) S (nI x) (nI y) (nI w) (nI v) (nI st) (nI lv) (nI (worth P st x y w v)) (oI (pcK P st x y w v)) := by
        unfold pcK
        by_cases c : spB P x y w v = true
        · rw [if_neg (by rw [c]; decide), if_pos c]
          rfl
        · rw [if_pos (by rw [Bool.eq_false_iff.mpr c]; rfl), if_neg c, c_firstOfValue ok h (by omega) (by omega) (by omega), Option.bind_some]
      refine exT hJ ?_
      unfold mX2_lay_J60
      cases hk : pcK P st x y w v with
      | some k =>
        obtain ⟨k1, k3, k4, k5⟩ := pcK_some hk
        have k8 := ok.2.2.2.2.2.2.1
        rw [if_neg (show ¬ (oI (some k) = -1) from nI_nm1 (by omega)), pl_k h0 hk]
        obtain ⟨S', a1, a2, a3⟩ := c_addPiece ok h hL (k := k) (x := x) (y := y) (w := w) (v := v) k3 (by omega) (by omega) (by omega) na
        refine ⟨S', ?_, a2, by rw [List.append_nil]; exact a3⟩
        show (mX2_addPiece S (nI k) (nI x) (nI y) (nI w) (nI v)).bind _ = _
        rw [a1, Option.bind_some]
      | none =>
        rw [if_pos (show oI none = -1 from rfl), c_firstCut ok h ht s1 s3 hw hxw hv hyv, Option.bind_some]
        cases hc : ctK P st x y w v with
        | none =>
          have son := stage_on (by omega) h0 hk hc
          rw [if_pos (show oI none = -1 from rfl), e3, ifLe (by omega) (by omega), if_neg (by omega), nI_1, nI_1, pl_s h0 hk hc, if_pos son]
          obtain ⟨S', a1, a2, a3⟩ := ih S L (st + 1) x y w v (lv + 1) h ht hL (by omega) (by omega) hw hxw hv hyv (by omega) (by omega) n1 n2 na
          exact ⟨S', by rw [a1, Option.bind_some], a2, a3⟩
        | some c =>
          obtain ⟨c1, c2⟩ := ctK_some hc
          have hsd : sideP P st w v ≤ 16 := by unfold sideP; by_cases hy : wayP P st = 0 <;> simp [hy] <;> omega
          obtain ⟨⟨b1, b2, b3, b4, b5⟩, ⟨d1, d2, d3, d4, d5, d6, d7⟩, g⟩ := cut_geo (x := x) (y := y) hw hv c1 c2
          have p1 : 1 ≤ w1P P st w c * v1P P st v c := Nat.mul_pos b1 b2
          have p2 : 1 ≤ w2P P st w c * v2P P st v c := Nat.mul_pos d1 d2
          rw [if_neg (show ¬ (oI (some c) = -1) from nI_nm1 (by omega)), pl_c h0 hk hc]
          obtain ⟨S1, a1, a2, a3⟩ := c_addCut ok h hL (st := st) (x := x) (y := y) (w := w) (v := v) (c := c) s1 (by omega) (by omega)
          have hC1 := FRc_CC a2 h
          have hT1 := FRc_TBC a2 ht
          have z1 := pl_size P d st x y _ _ b1 b2
          have z2 := pl_size P d st (x2P P st x c) (y2P P st y c) _ _ d1 d2
          obtain ⟨S2, f1, f2, f3⟩ := ih S1 (L.1, L.2 ++ [cRow P st x y w v c]) st x y (w1P P st w c) (v1P P st v c) (lv + 1) hC1 hT1 a3 s1 s3 b1 (by omega) b2 (by omega) (by omega) (by omega) (by show L.1.length + _ ≤ 256; omega) (by show (L.2 ++ [cRow P st x y w v c]).length + _ ≤ 256; rw [List.length_append, List.length_singleton]; omega) (by show ar L.1 + _ ≤ _; omega)
          have hC2 := FRc_CC f2 hC1
          have hT2 := FRc_TBC f2 hT1
          obtain ⟨S3, i1, i2, i3⟩ := ih S2 (L.1 ++ (pl P d st x y (w1P P st w c) (v1P P st v c)).1, L.2 ++ [cRow P st x y w v c] ++ (pl P d st x y (w1P P st w c) (v1P P st v c)).2) st (x2P P st x c) (y2P P st y c) (w2P P st w c) (v2P P st v c) (lv + 1) hC2 hT2 f3 s1 s3 d1 (by omega) d2 (by omega) (by omega) (by omega) (by show (L.1 ++ _).length + _ ≤ 256; rw [List.length_append]; omega) (by show (L.2 ++ [cRow P st x y w v c] ++ _).length + _ ≤ 256; rw [List.length_append, List.length_append, List.length_singleton]; omega) (by show ar (L.1 ++ _) + _ ≤ _; rw [ar_app]; omega)
          refine ⟨S3, ?_, FRc_tr a2 (FRc_tr f2 i2), ?_⟩
          · show (mX2_addCut S (nI x) (nI y) (nI w) (nI v) (nI st) (nI c)).bind _ = _
            rw [a1, Option.bind_some]
            show (mX2_layBoth (mX2_lay d) S1 (nI x) (nI y) (nI w) (nI v) (nI st) (nI c) (nI lv + 1)).bind _ = _
            rw [nI_1]
            have eK : S1.1 2 = nI (P.1 2) := hC1.1.2.2.1
            have hw2 : wayP P st < 2 := Nat.mod_lt _ (by decide)
            unfold mX2_layBoth
            rw [c_partsWidth ok hC1 s1 (by omega), Option.bind_some, eK, ifEq0 (by omega)]
            unfold sideP at c2
            unfold w1P v1P at f1
            unfold x2P y2P w2P v2P at i1
            by_cases hy : wayP P st = 0
            · simp only [if_pos hy] at f1 i1 c2
              rw [if_neg (by omega), f1, Option.bind_some, nI_add, nI_add, pk_sub (by omega), show w - (c + P.1 2) = w - c - P.1 2 by omega, show x + (c + P.1 2) = x + c + P.1 2 by omega, i1]
              rfl
            · simp only [if_neg hy] at f1 i1 c2
              rw [if_pos (by omega), f1, Option.bind_some, nI_add, nI_add, pk_sub (by omega), show v - (c + P.1 2) = v - c - P.1 2 by omega, show y + (c + P.1 2) = y + c + P.1 2 by omega, i1]
              rfl
          · have e1 : L.1 ++ (pl P d st x y (w1P P st w c) (v1P P st v c)).1 ++ (pl P d st (x2P P st x c) (y2P P st y c) (w2P P st w c) (v2P P st v c)).1 = L.1 ++ ((pl P d st x y (w1P P st w c) (v1P P st v c)).1 ++ (pl P d st (x2P P st x c) (y2P P st y c) (w2P P st w c) (v2P P st v c)).1) := List.append_assoc _ _ _
            have e2 : L.2 ++ [cRow P st x y w v c] ++ (pl P d st x y (w1P P st w c) (v1P P st v c)).2 ++ (pl P d st (x2P P st x c) (y2P P st y c) (w2P P st w c) (v2P P st v c)).2 = L.2 ++ cRow P st x y w v c :: ((pl P d st x y (w1P P st w c) (v1P P st v c)).2 ++ (pl P d st (x2P P st x c) (y2P P st y c) (w2P P st w c) (v2P P st v c)).2) := by
              rw [List.append_assoc, List.append_assoc]
              rfl
            rw [← e1, ← e2]
            exact i3
/-- THE PLAN -/
def plan (P : PC) : PLN := pl P 40 1 0 0 (P.1 0) (P.1 1)
theorem c_planReady {P : PC} {S : ST} (ok : OKP P) (h : CC P S) (hst : S.1 7 = 0 → TBC P S) (hsp : S.1 11 = 0 → PLc P S (plan P) ∧ S.1 7 = 0) : ∃ S', mX2_makeReady S = some S' ∧ (∀ k, k < 7 ∨ 11 < k → S'.1 k = S.1 k) ∧ (∀ a, a < 5 ∨ 8 < a → S'.2 a = S.2 a) ∧ S'.1 7 = 0 ∧ S'.1 11 = 0 ∧ TBC P S' ∧ PLc P S' (plan P) := by
  obtain ⟨⟨w1, w16⟩, ⟨h1, h16⟩, k2, ⟨g1, g4⟩, -⟩ := id ok
  unfold mX2_makeReady
  by_cases q : S.1 11 = 0
  · rw [if_pos q]
    obtain ⟨a, b⟩ := hsp q
    exact ⟨S, rfl, fun _ _ => rfl, fun _ _ => rfl, b, q, hst b, a⟩
  · rw [if_neg q]
    obtain ⟨S1, a1, a2, a3, a4, a5⟩ := c_makeReady ok h hst
    have hC1 : CC P S1 := CC_of (fun k hk => a2 k (by omega)) (fun a ha => a3 a (by omega) (by omega)) h
    rw [a1, Option.bind_some, hC1.1.1, hC1.1.2.1, pk_mul]
    obtain ⟨S2, hS2⟩ : ∃ z, z = sI (sI (sI S1 8 0) 9 0) 10 (nI (P.1 0 * P.1 1)) := ⟨_, rfl⟩
    rw [← hS2]
    have f2 : FRc S1 S2 := ⟨fun k x y z => by rw [hS2, sI_i, if_neg z, sI_i, if_neg y, sI_i, if_neg x], fun a _ _ => by rw [hS2]; rfl⟩
    have hL : PLc P S2 ([], []) := by
      refine ⟨by rw [hS2]; rfl, by rw [hS2]; rfl, by rw [hS2]; rfl, fun i j hi _ => absurd hi (Nat.not_lt_zero _), fun i j hi _ => absurd hi (Nat.not_lt_zero _)⟩
    have hWH : P.1 0 * P.1 1 ≤ 16 * 16 := Nat.mul_le_mul w16 h16
    obtain ⟨S3, b1, b2, b3⟩ := c_lay ok 40 S2 ([], []) 1 0 0 (P.1 0) (P.1 1) 1 (FRc_CC f2 hC1) (FRc_TBC f2 a5) hL (by omega) g1 w1 (by omega) h1 (by omega) (by omega) (by omega) (by show 0 + _ ≤ 256; omega) (by show 0 + _ ≤ 256; omega) (by show 0 + _ ≤ _; omega)
    have b1' : mX2_lay 40 S2 0 0 (nI (P.1 0)) (nI (P.1 1)) 1 1 = some S3 := b1
    rw [b1', Option.bind_some]
    have b4 := FRc_tr f2 b2
    refine ⟨sI S3 11 0, rfl, fun k hk => ?_, fun a ha => ?_, ?_, by rw [sI_i, if_pos rfl], ?_, ?_⟩
    · by_cases e : k = 11
      · omega
      · rw [sI_i, if_neg e, b4.1 k (by omega) (by omega) (by omega)]
        exact a2 k (by omega)
    · rw [sI_g, b4.2 a (by omega) (by omega)]
      exact a3 a (by omega) (by omega)
    · rw [sI_i, if_neg (by decide), b4.1 7 (by decide) (by decide) (by decide)]
      exact a4
    · have := FRc_TBC b4 a5
      exact ⟨this.1, this.2⟩
    · exact ⟨b3.1, b3.2.1, b3.2.2.1, b3.2.2.2.1, b3.2.2.2.2⟩
