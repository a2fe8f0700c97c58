/-! MATH, plates: the reference lays THE PLAN -/
def vQ (P : PC) (Q : List (List Nat)) : Prop := ∀ p, p ∈ Q → ∃ st x y w v, p = [st, x, y, w, v] ∧ 1 ≤ st ∧ st ≤ P.1 3 ∧ 1 ≤ w ∧ x + w ≤ P.1 0 ∧ 1 ≤ v ∧ y + v ≤ P.1 1
def plp (P : PC) (p : List Nat) : PLN := pl P 40 (p.getD 0 0) (p.getD 1 0) (p.getD 2 0) (p.getD 3 0) (p.getD 4 0)
def plQ (P : PC) : List (List Nat) → PLN
  | [] => ([], [])
  | p :: Q => ((plp P p).1 ++ (plQ P Q).1, (plp P p).2 ++ (plQ P Q).2)
def potp (P : PC) (p : List Nat) : Nat := 2 * (p.getD 3 0 * p.getD 4 0) - 1 + (P.1 3 - p.getD 0 0) * (p.getD 3 0 * p.getD 4 0)
def potQ (P : PC) : List (List Nat) → Nat
  | [] => 0
  | p :: Q => potp P p + potQ P Q
theorem plQ_app (P : PC) (A B : List (List Nat)) : (plQ P (A ++ B)).1 = (plQ P A).1 ++ (plQ P B).1 ∧ (plQ P (A ++ B)).2 = (plQ P A).2 ++ (plQ P B).2 := by
  induction A with
  | nil => exact ⟨rfl, rfl⟩
  | cons a A ih =>
    show (plp P a).1 ++ (plQ P (A ++ B)).1 = ((plp P a).1 ++ (plQ P A).1) ++ (plQ P B).1 ∧ (plp P a).2 ++ (plQ P (A ++ B)).2 = ((plp P a).2 ++ (plQ P A).2) ++ (plQ P B).2
    rw [ih.1, ih.2, List.append_assoc, List.append_assoc]
    exact ⟨rfl, rfl⟩
theorem potQ_app (P : PC) (A B : List (List Nat)) : potQ P (A ++ B) = potQ P A + potQ P B := by
  induction A with
  | nil => show potQ P B = 0 + potQ P B; omega
  | cons a A ih => show potp P a + potQ P (A ++ B) = potp P a + potQ P A + potQ P B; omega
theorem vQ_len {P : PC} : ∀ Q, vQ P Q → Q.length ≤ ar Q := by
  intro Q
  induction Q with
  | nil => intro _; exact Nat.le_refl _
  | cons p Q ih =>
    intro h
    obtain ⟨st, x, y, w, v, rfl, -, -, a, -, b, -⟩ := h p List.mem_cons_self
    have i := ih (fun q hq => h q (List.mem_cons_of_mem _ hq))
    have : 1 ≤ w * v := Nat.mul_pos a b
    show Q.length + 1 ≤ w * v + ar Q
    omega
theorem m_layPart {P : PC} {T : ST} (ok : OKP P) (h : CM P T) (hs : SPT T) (ht : TBM P T) {Q : List (List Nat)} {L : PLN} (hQ : STK T Q) (hL : PLm T L) {st x y w v : Nat} (s1 : 1 ≤ st) (s3 : st ≤ P.1 3) (hw : 1 ≤ w) (hxw : x + w ≤ P.1 0) (hv : 1 ≤ v) (hyv : y + v ≤ P.1 1) (hn : L.1.length < 256) (hn2 : L.2.length < 256) (hq : Q.length < 257) :
    ∃ (T' : ST) (Q' : List (List Nat)) (L' : PLN), mX7_layPart T (nI st) (nI x) (nI y) (nI w) (nI v) = some T' ∧ FRm T T' ∧ STK T' (Q' ++ Q) ∧ PLm T' L' ∧ vQ P Q' ∧ potQ P Q' + 1 ≤ potp P [st, x, y, w, v] ∧ L'.1.length + ar Q' ≤ L.1.length + w * v ∧ L'.2.length + (ar Q' - Q'.length) ≤ L.2.length + (w * v - 1) ∧ ar Q' ≤ w * v ∧ L'.1 ++ (plQ P Q').1 = L.1 ++ (pl P 40 st x y w v).1 ∧ L'.2 ++ (plQ P Q').2 = L.2 ++ (pl P 40 st x y w v).2 := by
  obtain ⟨⟨-, w16⟩, ⟨-, h16⟩, k2, ⟨g1, g4⟩, -⟩ := id ok
  have wl := worth_lt ok (st := st) (x := x) (y := y) hw (by omega) hv (by omega)
  have h1 : 1 ≤ w * v := Nat.mul_pos hw hv
  have kl := kM_lt (st := st) (x := x) (y := y) (w := w) (h := v) (by omega) hw (by omega) hv (by omega)
  have hpot : 1 ≤ potp P [st, x, y, w, v] := by
    show 1 ≤ 2 * (w * v) - 1 + (P.1 3 - st) * (w * v)
    omega
  have hw2 : wayP P st < 2 := Nat.mod_lt _ (by decide)
  unfold mX7_layPart
  rw [m_at hs s1 (by omega) hw (by omega) hv (by omega), Option.bind_some, gdI kl (by omega), clI (by omega), ht st x y w v s1 s3 hw hxw hv hyv, ifEq0 (by omega)]
  by_cases h0 : worth P st x y w v = 0
  · rw [if_pos h0, show (40 : Nat) = 39 + 1 from rfl, pl_0 h0]
    exact ⟨T, [], L, rfl, ⟨fun _ _ _ _ => rfl, fun _ _ => rfl⟩, hQ, hL, fun p hp => absurd hp List.not_mem_nil, by show 0 + 1 ≤ _; omega, by show _ + 0 ≤ _; omega, by show _ + (0 - 0) ≤ _; omega, Nat.zero_le _, rfl, rfl⟩
  · rw [if_neg h0]
    have hP := m_isPiece ok h hQ hL (st := st) (x := x) (y := y) hw hxw hv hyv hn
    cases hk : pcK P st x y w v with
    | some k =>
      obtain ⟨T', a1, a2, a3, a4⟩ := hP.1 k hk
      rw [a1, Option.bind_some, show (40 : Nat) = 39 + 1 from rfl, pl_k h0 hk]
      refine ⟨T', [], _, if_neg (show ¬ ((1 : Int32) = 0) by decide), a2, a3, a4, fun p hp => absurd hp List.not_mem_nil, by show 0 + 1 ≤ _; omega, ?_, ?_, Nat.zero_le _, ?_, ?_⟩
      · show (L.1 ++ [pRow P k x y w v]).length + 0 ≤ _
        rw [List.length_append, List.length_singleton]; omega
      · show L.2.length + (0 - 0) ≤ _; omega
      · show (L.1 ++ [pRow P k x y w v]) ++ [] = _; rw [List.append_nil]
      · rfl
    | none =>
      rw [hP.2 hk, Option.bind_some, if_pos rfl, m_wayOf ok h s1 (by omega), Option.bind_some, ifEq0 (by omega)]
      have eK : T.1 2 = nI (P.1 2) := h.1.2.2.1
      have hsd : sideP P st w v ≤ 16 := by unfold sideP; by_cases hy : wayP P st = 0 <;> simp [hy] <;> omega
      have hJ : (if wayP P st = 0 then mX7_layPart_J58 T (nI st) (nI x) (nI y) (nI w) (nI v) (nI (worth P st x y w v)) (nI (wayP P st)) (nI w) else mX7_layPart_J58 T (nI st) (nI x) (nI y) (nI w) (nI v) (nI (worth P st x y w v)) (nI (wayP P st)) (nI v)) = mX7_layPart_J58 T (nI st) (nI x) (nI y) (nI w) (nI v) (nI (worth P st x y w v)) (nI (wayP P st)) (nI (sideP P st w v)) := by
        unfold sideP
        by_cases hy : wayP P st = 0
        · rw [if_pos hy, if_pos hy]
        · rw [if_neg hy, if_neg hy]
      rw [hJ]
      unfold mX7_layPart_J58
      -- the cuts in their order
      have loop : ∀ d c n, c + d = sideP P st w v - P.1 2 - 1 + 1 → 1 ≤ c → d < n → LPf (κ := Int32 → Option (ST)) (fun _ => none) (fun kk => mX7_layPart_B63 kk (mX7_layPart_X63 T (nI st) (nI x) (nI y) (nI w) (nI v) (nI (worth P st x y w v)) (nI (wayP P st)) (nI (sideP P st w v))) T (nI st) (nI x) (nI y) (nI w) (nI v) (nI (worth P st x y w v)) (nI (wayP P st)) (nI (sideP P st w v))) n (nI c) = match fC (cutP P (worth P) st x y w v) (worth P st x y w v) d c with
          | some q => gd (inB (nI L.2.length) 256) (mX7_layPart_J127 (fun _ => none) (fun _ => none) (sG T 14 (nI L.2.length) (nI st)) (nI st) (nI x) (nI y) (nI w) (nI v) (nI (worth P st x y w v)) (nI (wayP P st)) (nI (sideP P st w v)) (nI q) (nI (if wayP P st = 0 then x + q else y + q)) (nI L.2.length))
          | none => (mX7_lay T (nI (st + 1)) (nI x) (nI y) (nI w) (nI v)).bind (fun r4 => some r4) := by
        intro d
        induction d with
        | zero =>
          intro c n hc c1 hn
          obtain ⟨n, rfl⟩ : ∃ m, n = m + 1 := ⟨n - 1, by omega⟩
          rw [LP_s]
          unfold mX7_layPart_B63
          rw [eK, nI_add, ifLe (by omega) (by omega), if_pos (by omega)]
          unfold mX7_layPart_X63
          rw [nI_1]
          rfl
        | succ d ihd =>
          intro c n hc c1 hn
          obtain ⟨n, rfl⟩ : ∃ m, n = m + 1 := ⟨n - 1, by omega⟩
          have c2 : c + P.1 2 < sideP P st w v := by omega
          have ihc := ihd (c + 1) n (by omega) (by omega) (by omega)
          have b1 := cut_lt ok (st := st) (x := x) (y := y) hw (by omega) hv (by omega) c1 c2
          rw [LP_s]
          generalize LPf (κ := Int32 → Option (ST)) (fun _ => none) (fun kk => mX7_layPart_B63 kk (mX7_layPart_X63 T (nI st) (nI x) (nI y) (nI w) (nI v) (nI (worth P st x y w v)) (nI (wayP P st)) (nI (sideP P st w v))) T (nI st) (nI x) (nI y) (nI w) (nI v) (nI (worth P st x y w v)) (nI (wayP P st)) (nI (sideP P st w v))) n = K at ihc ⊢
          unfold mX7_layPart_B63
          rw [eK, nI_add, ifLe (by omega) (by omega), if_neg (by omega), m_both ok h hs s1 s3 hw hxw hv hyv c1 c2 (fun x' y' w' v' a b c d e => ht st x' y' w' v' s1 s3 a b c d), Option.bind_some, ifEq (by omega) (by omega), nI_1, hL.2.1, nI_add, nI_add, ifEq0 (by omega)]
          have ef : fC (cutP P (worth P) st x y w v) (worth P st x y w v) (d + 1) c = if cutP P (worth P) st x y w v c = worth P st x y w v then some c else fC (cutP P (worth P) st x y w v) (worth P st x y w v) d (c + 1) := rfl
          rw [ef]
          by_cases q : cutP P (worth P) st x y w v c = worth P st x y w v
          · rw [if_pos q, if_pos q]
            show _ = gd (inB (nI L.2.length) 256) _
            congr 1
            by_cases hy : wayP P st = 0
            · rw [if_pos hy, if_pos hy]; rfl
            · rw [if_neg hy, if_neg hy]; rfl
          · rw [if_neg q, if_neg q]; exact ihc
      have hl := loop (sideP P st w v - P.1 2 - 1) 1 FU (by omega) (by omega) (FU_gt (by omega))
      have hl2 : LPf (κ := Int32 → Option (ST)) (fun _ => none) (fun kk => mX7_layPart_B63 kk (mX7_layPart_X63 T (nI st) (nI x) (nI y) (nI w) (nI v) (nI (worth P st x y w v)) (nI (wayP P st)) (nI (sideP P st w v))) T (nI st) (nI x) (nI y) (nI w) (nI v) (nI (worth P st x y w v)) (nI (wayP P st)) (nI (sideP P st w v))) FU 1 = _ := hl
      rw [hl2]
      cases hc : ctK P st x y w v with
      | none =>
        have hc' : fC (cutP P (worth P) st x y w v) (worth P st x y w v) (sideP P st w v - P.1 2 - 1) 1 = none := hc
        have son := stage_on (by omega) h0 hk hc
        obtain ⟨T', a1, a2, a3, a4⟩ := m_push hQ hL (by omega) (st + 1) x y w v
        rw [hc', show (40 : Nat) = 39 + 1 from rfl, pl_s h0 hk hc, if_pos son, pl_stable P 39 40 (st + 1) x y w v hw hv (by omega) (by omega)]
        refine ⟨T', [[st + 1, x, y, w, v]], L, ?_, a2, a3, a4, ?_, ?_, ?_, ?_, ?_, ?_, ?_⟩
        · show (mX7_lay T (nI (st + 1)) (nI x) (nI y) (nI w) (nI v)).bind _ = _
          rw [a1, Option.bind_some]
        · intro p hp
          rw [List.mem_singleton] at hp
          exact ⟨st + 1, x, y, w, v, hp, by omega, by omega, hw, hxw, hv, hyv⟩
        · show 2 * (w * v) - 1 + (P.1 3 - (st + 1)) * (w * v) + 0 + 1 ≤ 2 * (w * v) - 1 + (P.1 3 - st) * (w * v)
          obtain ⟨e, he⟩ : ∃ e, P.1 3 - st = e + 1 := ⟨P.1 3 - st - 1, by omega⟩
          rw [show P.1 3 - (st + 1) = e by omega, he, Nat.add_mul]
          omega
        · show _ + (w * v + 0) ≤ _; omega
        · show _ + (w * v + 0 - 1) ≤ _; omega
        · show w * v + 0 ≤ _; omega
        · show _ ++ ((pl P 40 (st + 1) x y w v).1 ++ []) = _; rw [List.append_nil]
        · show _ ++ ((pl P 40 (st + 1) x y w v).2 ++ []) = _; rw [List.append_nil]
      | some c =>
        have hc' : fC (cutP P (worth P) st x y w v) (worth P st x y w v) (sideP P st w v - P.1 2 - 1) 1 = some c := hc
        obtain ⟨c1, c2⟩ := ctK_some hc
        obtain ⟨⟨b1, b2, b3, b4, b5⟩, ⟨d1, d2, d3, d4, d5, d6, d7⟩, g⟩ := cut_geo (x := x) (y := y) hw hv c1 c2
        have p1 : 1 ≤ w1P P st w c * v1P P st v c := Nat.mul_pos b1 b2
        have p2 : 1 ≤ w2P P st w c * v2P P st v c := Nat.mul_pos d1 d2
        rw [hc', show (40 : Nat) = 39 + 1 from rfl, pl_c h0 hk hc, pl_stable P 39 40 st x y _ _ b1 b2 (by omega) (by omega), pl_stable P 39 40 st (x2P P st x c) (y2P P st y c) _ _ d1 d2 (by omega) (by omega)]
        show ∃ (T' : ST) (Q' : List (List Nat)) (L' : PLN), gd (inB (nI L.2.length) 256) _ = some T' ∧ _
        rw [gdI hn2 (by omega)]
        unfold mX7_layPart_J127
        obtain ⟨T1, hT1⟩ : ∃ z, z = sI (sG (sG (sG (sG (sG (sG T 14 (nI L.2.length) (nI st)) 15 (nI L.2.length) (nI (if wayP P st = 0 then x + c else y + c))) 16 (nI L.2.length) (nI x)) 17 (nI L.2.length) (nI y)) 18 (nI L.2.length) (nI w)) 19 (nI L.2.length) (nI v)) 9 (nI (L.2.length + 1)) := ⟨_, rfl⟩
        rw [show (sG T 14 (nI L.2.length) (nI st)).1 9 = nI L.2.length from hL.2.1, show (sG T 14 (nI L.2.length) (nI st)).1 2 = nI (P.1 2) from eK, gdI hn2 (by omega), gdI hn2 (by omega), gdI hn2 (by omega), gdI hn2 (by omega), gdI hn2 (by omega), nI_1, ← hT1, ifEq0 (by omega)]
        have f1 : FRm T T1 := by
          refine ⟨fun q q1 q2 q3 => ?_, fun q hq => ?_⟩
          · rw [hT1, sI_i, if_neg q2]; rfl
          · rw [hT1, sI_g, sGo (show q ≠ 19 by omega), sGo (show q ≠ 18 by omega), sGo (show q ≠ 17 by omega), sGo (show q ≠ 16 by omega), sGo (show q ≠ 15 by omega), sGo (show q ≠ 14 by omega)]
        have f2 : STK T1 Q := by
          refine ⟨by rw [hT1]; exact hQ.1, fun i j hi hj => ?_⟩
          rw [hT1, sI_g, sGo (by decide), sGo (by decide), sGo (by decide), sGo (by decide), sGo (by decide), sGo (by decide)]
          exact hQ.2 i j hi hj
        have f3 : PLm T1 (L.1, L.2 ++ [cRow P st x y w v c]) := by
          obtain ⟨z8, z9, zp, zc⟩ := hL
          refine ⟨by rw [hT1]; exact z8, ?_, fun i hi => ?_, fun i hi => ?_⟩
          · show _ = nI (L.2 ++ [cRow P st x y w v c]).length
            rw [hT1, sI_i, if_pos rfl, List.length_append]; rfl
          · have := zp i hi
            rw [hT1]
            simp only [sI_g, sGo (show (10 : Nat) ≠ 14 by decide), sGo (show (10 : Nat) ≠ 15 by decide), sGo (show (10 : Nat) ≠ 16 by decide), sGo (show (10 : Nat) ≠ 17 by decide), sGo (show (10 : Nat) ≠ 18 by decide), sGo (show (10 : Nat) ≠ 19 by decide), sGo (show (11 : Nat) ≠ 14 by decide), sGo (show (11 : Nat) ≠ 15 by decide), sGo (show (11 : Nat) ≠ 16 by decide), sGo (show (11 : Nat) ≠ 17 by decide), sGo (show (11 : Nat) ≠ 18 by decide), sGo (show (11 : Nat) ≠ 19 by decide), sGo (show (12 : Nat) ≠ 14 by decide), sGo (show (12 : Nat) ≠ 15 by decide), sGo (show (12 : Nat) ≠ 16 by decide), sGo (show (12 : Nat) ≠ 17 by decide), sGo (show (12 : Nat) ≠ 18 by decide), sGo (show (12 : Nat) ≠ 19 by decide), sGo (show (13 : Nat) ≠ 14 by decide), sGo (show (13 : Nat) ≠ 15 by decide), sGo (show (13 : Nat) ≠ 16 by decide), sGo (show (13 : Nat) ≠ 17 by decide), sGo (show (13 : Nat) ≠ 18 by decide), sGo (show (13 : Nat) ≠ 19 by decide)]
            exact this
          · have hi2 : i < L.2.length + 1 := by
              have : (L.2 ++ [cRow P st x y w v c]).length = L.2.length + 1 := by rw [List.length_append]; rfl
              rw [← this]; exact hi
            have r14 : T1.2 14 i = if i = L.2.length then nI st else T.2 14 i := by rw [hT1, sI_g, sGo (by decide), sGo (by decide), sGo (by decide), sGo (by decide), sGo (by decide), sGs (by omega)]
            have r15 : T1.2 15 i = if i = L.2.length then nI (if wayP P st = 0 then x + c else y + c) else T.2 15 i := by rw [hT1, sI_g, sGo (by decide), sGo (by decide), sGo (by decide), sGo (by decide), sGs (by omega), sGo (by decide)]
            have r16 : T1.2 16 i = if i = L.2.length then nI x else T.2 16 i := by rw [hT1, sI_g, sGo (by decide), sGo (by decide), sGo (by decide), sGs (by omega), sGo (by decide), sGo (by decide)]
            have r17 : T1.2 17 i = if i = L.2.length then nI y else T.2 17 i := by rw [hT1, sI_g, sGo (by decide), sGo (by decide), sGs (by omega), sGo (by decide), sGo (by decide), sGo (by decide)]
            have r18 : T1.2 18 i = if i = L.2.length then nI w else T.2 18 i := by rw [hT1, sI_g, sGo (by decide), sGs (by omega), sGo (by decide), sGo (by decide), sGo (by decide), sGo (by decide)]
            have r19 : T1.2 19 i = if i = L.2.length then nI v else T.2 19 i := by rw [hT1, sI_g, sGs (by omega), sGo (by decide), sGo (by decide), sGo (by decide), sGo (by decide), sGo (by decide)]
            show _ = nI (((L.2 ++ [cRow P st x y w v c]).getD i []).getD 0 0) ∧ _ = nI (((L.2 ++ [cRow P st x y w v c]).getD i []).getD 2 0) ∧ _ = nI (((L.2 ++ [cRow P st x y w v c]).getD i []).getD 3 0) ∧ _ = nI (((L.2 ++ [cRow P st x y w v c]).getD i []).getD 4 0) ∧ _ = nI (((L.2 ++ [cRow P st x y w v c]).getD i []).getD 5 0) ∧ _ = nI (((L.2 ++ [cRow P st x y w v c]).getD i []).getD 6 0)
            rw [getD_app, r14, r15, r16, r17, r18, r19]
            by_cases e : i < L.2.length
            · have ne : ¬ i = L.2.length := by omega
              rw [if_pos e, if_neg ne, if_neg ne, if_neg ne, if_neg ne, if_neg ne, if_neg ne]
              exact zc i e
            · obtain rfl : i = L.2.length := by omega
              rw [if_neg e, if_pos rfl, if_pos rfl, if_pos rfl, if_pos rfl, if_pos rfl, if_pos rfl, Nat.sub_self]
              exact ⟨rfl, rfl, rfl, rfl, rfl, rfl⟩
        obtain ⟨T2, a1, a2, a3, a4⟩ := m_push f2 f3 (by omega) st (x2P P st x c) (y2P P st y c) (w2P P st w c) (v2P P st v c)
        obtain ⟨T3, e1, e2, e3, e4⟩ := m_push a3 a4 (by show Q.length + 1 < 260; omega) st x y (w1P P st w c) (v1P P st v c)
        refine ⟨T3, [[st, x, y, w1P P st w c, v1P P st v c], [st, x2P P st x c, y2P P st y c, w2P P st w c, v2P P st v c]], (L.1, L.2 ++ [cRow P st x y w v c]), ?_, FRm_tr f1 (FRm_tr a2 e2), e3, e4, ?_, ?_, ?_, ?_, ?_, ?_, ?_⟩
        · unfold sideP at c2
          unfold w1P v1P at e1
          unfold x2P y2P w2P v2P at a1
          by_cases hy : wayP P st = 0
          · simp only [if_pos hy] at e1 a1 c2
            rw [if_pos hy, nI_add, nI_add, pk_sub (by omega), pk_sub (by omega), a1, Option.bind_some, e1, Option.bind_some]
          · simp only [if_neg hy] at e1 a1 c2
            rw [if_neg hy, nI_add, nI_add, pk_sub (by omega), pk_sub (by omega), a1, Option.bind_some, e1, Option.bind_some]
        · intro p hp
          rcases List.mem_cons.mp hp with rfl | hp
          · exact ⟨_, _, _, _, _, rfl, s1, s3, b1, by omega, b2, by omega⟩
          · rw [List.mem_singleton] at hp
            exact ⟨_, _, _, _, _, hp, s1, s3, d1, by omega, d2, by omega⟩
        · show 2 * (w1P P st w c * v1P P st v c) - 1 + (P.1 3 - st) * (w1P P st w c * v1P P st v c) + (2 * (w2P P st w c * v2P P st v c) - 1 + (P.1 3 - st) * (w2P P st w c * v2P P st v c) + 0) + 1 ≤ 2 * (w * v) - 1 + (P.1 3 - st) * (w * v)
          have := Nat.mul_le_mul_left (P.1 3 - st) g
          rw [Nat.mul_add] at this
          omega
        · show L.1.length + (w1P P st w c * v1P P st v c + (w2P P st w c * v2P P st v c + 0)) ≤ _; omega
        · show (L.2 ++ [cRow P st x y w v c]).length + (w1P P st w c * v1P P st v c + (w2P P st w c * v2P P st v c + 0) - 2) ≤ _
          rw [List.length_append, List.length_singleton]
          omega
        · show w1P P st w c * v1P P st v c + (w2P P st w c * v2P P st v c + 0) ≤ _; omega
        · show L.1 ++ ((pl P 40 st x y (w1P P st w c) (v1P P st v c)).1 ++ ((pl P 40 st (x2P P st x c) (y2P P st y c) (w2P P st w c) (v2P P st v c)).1 ++ [])) = _
          rw [List.append_nil]
        · show (L.2 ++ [cRow P st x y w v c]) ++ ((pl P 40 st x y (w1P P st w c) (v1P P st v c)).2 ++ ((pl P 40 st (x2P P st x c) (y2P P st y c) (w2P P st w c) (v2P P st v c)).2 ++ [])) = _
          rw [List.append_nil, List.append_assoc]
          rfl
