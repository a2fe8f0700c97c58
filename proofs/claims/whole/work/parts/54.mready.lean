/-! MATH, plates: the reference's plan, ready -/
theorem m_layLoop {P : PC} (ok : OKP P) : ∀ n (T : ST) (Q : List (List Nat)) (L : PLN), CM P T → SPT T → TBM P T → STK T Q → PLm T L → vQ P Q → potQ P Q < n → L.1.length + ar Q ≤ 256 → L.2.length + (ar Q - Q.length) ≤ 255 → ar Q ≤ 256 →
    ∃ T', LPf (κ := ST → Option (ST)) (fun _ => none) (fun kk => mX7_layPlan_B30 kk mX7_layPlan_X30) n T = some T' ∧ FRm T T' ∧ PLm T' (L.1 ++ (plQ P Q).1, L.2 ++ (plQ P Q).2) := by
  intro n
  induction n with
  | zero => intro T Q L _ _ _ _ _ _ h; omega
  | succ n ih =>
    intro T Q L h hs ht hQ hL hv hp n1 n2 na
    rw [LP_s]
    unfold mX7_layPlan_B30
    cases Q with
    | nil =>
      have e10 : T.1 10 = nI 0 := hQ.1
      rw [e10, if_pos (by decide)]
      refine ⟨T, rfl, ⟨fun _ _ _ _ => rfl, fun _ _ => rfl⟩, ?_⟩
      show PLm T (L.1 ++ [], L.2 ++ [])
      rw [List.append_nil, List.append_nil]
      exact hL
    | cons p Q0 =>
      obtain ⟨st, x, y, w, v, rfl, s1, s3, hw, hxw, hv1, hyv⟩ := hv p List.mem_cons_self
      have hv0 : vQ P Q0 := fun q hq => hv q (List.mem_cons_of_mem _ hq)
      have l0' := vQ_len Q0 hv0
      have h1 : 1 ≤ w * v := Nat.mul_pos hw hv1
      have ea : ar ([st, x, y, w, v] :: Q0) = w * v + ar Q0 := rfl
      have el : ([st, x, y, w, v] :: Q0).length = Q0.length + 1 := rfl
      rw [ea] at n1 n2 na
      rw [el] at n2
      have e10 : T.1 10 = nI ((Q0.length + 1) * 5) := hQ.1
      have rd : ∀ j, j < 5 → T.2 20 (Q0.length * 5 + j) = nI ([st, x, y, w, v].getD j 0) := by
        intro j hj
        rw [hQ.2 Q0.length j (by rw [el]; omega) hj, List.reverse_cons, getD_app, List.length_reverse, if_neg (Nat.lt_irrefl _), Nat.sub_self]
        rfl
      rw [e10, ifLe0 (by omega), if_neg (by omega), l5, pk_sub (by omega), show (Q0.length + 1) * 5 - 5 = Q0.length * 5 by omega, l1, l2, l3, l4, nI_add, nI_add, nI_add, nI_add, gdI (by omega) (by omega), gdI (by omega) (by omega), gdI (by omega) (by omega), gdI (by omega) (by omega), gdI (by omega) (by omega), clI (by omega), clI (by omega), clI (by omega), clI (by omega), clI (by omega), rd 1 (by decide), rd 2 (by decide), rd 3 (by decide), rd 4 (by decide), show T.2 20 (Q0.length * 5) = nI st from rd 0 (by decide)]
      obtain ⟨T1, hT1⟩ : ∃ z, z = sI T 10 (nI (Q0.length * 5)) := ⟨_, rfl⟩
      rw [← hT1]
      have f1 : FRm T T1 := ⟨fun q q1 q2 q3 => by rw [hT1, sI_i, if_neg q3], fun q hq => by rw [hT1]; rfl⟩
      have f2 : STK T1 Q0 := by
        refine ⟨by rw [hT1]; rfl, fun i j hi hj => ?_⟩
        rw [hT1, sI_g, hQ.2 i j (by rw [el]; omega) hj, List.reverse_cons, getD_app, List.length_reverse, if_pos hi]
      have f3 : PLm T1 L := by
        rw [hT1]
        exact ⟨hL.1, hL.2.1, hL.2.2.1, hL.2.2.2⟩
      obtain ⟨T2, Q', L', a1, a2, a3, a4, a5, a6, a7, a8, a9, a10, a11⟩ := m_layPart ok (FRm_CM f1 h) (FRm_SPT f1 hs) (FRm_TBM f1 ht) f2 f3 s1 s3 hw hxw hv1 hyv (by omega) (by omega) (by omega)
      have b1 := FRm_tr f1 a2
      have hvq : vQ P (Q' ++ Q0) := fun q hq => (List.mem_append.mp hq).elim (a5 q) (hv0 q)
      have lq := vQ_len Q' a5
      obtain ⟨T3, c1, c2, c3⟩ := ih T2 (Q' ++ Q0) L' (FRm_CM b1 h) (FRm_SPT b1 hs) (FRm_TBM b1 ht) a3 a4 hvq (by rw [potQ_app]; have : potQ P ([st, x, y, w, v] :: Q0) = potp P [st, x, y, w, v] + potQ P Q0 := rfl; omega) (by rw [ar_app]; omega) (by rw [ar_app, List.length_append]; omega) (by rw [ar_app]; omega)
      refine ⟨T3, ?_, FRm_tr b1 c2, ?_⟩
      · show (mX7_layPart T1 (nI st) (nI x) (nI y) (nI w) (nI v)).bind _ = _
        rw [a1, Option.bind_some]
        exact c1
      · obtain ⟨z1, z2⟩ := plQ_app P Q' Q0
        rw [z1, z2, ← List.append_assoc, ← List.append_assoc, a10, a11, List.append_assoc, List.append_assoc] at c3
        exact c3
theorem m_layPlan {P : PC} {T : ST} (ok : OKP P) (h : CM P T) (hs : SPT T) (ht : TBM P T) : ∃ T', mX7_layPlan T = some T' ∧ FRm T T' ∧ PLm T' (plan P) := by
  obtain ⟨⟨w1, w16⟩, ⟨h1, h16⟩, k2, ⟨g1, g4⟩, -⟩ := id ok
  unfold mX7_layPlan
  rw [h.1.1, h.1.2.1]
  obtain ⟨T0, hT0⟩ : ∃ z, z = sI (sI (sI T 8 0) 9 0) 10 0 := ⟨_, rfl⟩
  rw [← hT0]
  have f0 : FRm T T0 := ⟨fun q q1 q2 q3 => by rw [hT0, sI_i, if_neg q3, sI_i, if_neg q2, sI_i, if_neg q1], fun q hq => by rw [hT0]; rfl⟩
  have q0 : STK T0 [] := ⟨by rw [hT0]; rfl, fun i j hi _ => absurd hi (Nat.not_lt_zero _)⟩
  have p0 : PLm T0 ([], []) := ⟨by rw [hT0]; rfl, by rw [hT0]; rfl, fun i hi => absurd hi (Nat.not_lt_zero _), fun i hi => absurd hi (Nat.not_lt_zero _)⟩
  obtain ⟨T1, a1, a2, a3, a4⟩ := m_push q0 p0 (by decide) 1 0 0 (P.1 0) (P.1 1)
  have a1' : mX7_lay T0 1 0 0 (nI (P.1 0)) (nI (P.1 1)) = some T1 := a1
  rw [a1', Option.bind_some]
  have b1 := FRm_tr f0 a2
  have hWH : P.1 0 * P.1 1 ≤ 16 * 16 := Nat.mul_le_mul w16 h16
  have hWH1 : 1 ≤ P.1 0 * P.1 1 := Nat.mul_pos w1 h1
  have hg : (P.1 3 - 1) * (P.1 0 * P.1 1) ≤ 3 * 256 := Nat.mul_le_mul (by omega) (by omega)
  obtain ⟨T2, c1, c2, c3⟩ := m_layLoop ok FU T1 [[1, 0, 0, P.1 0, P.1 1]] ([], []) (FRm_CM b1 h) (FRm_SPT b1 hs) (FRm_TBM b1 ht) a3 a4 (fun p hp => by rw [List.mem_singleton] at hp; exact ⟨1, 0, 0, P.1 0, P.1 1, hp, by omega, g1, w1, by omega, h1, by omega⟩) (FU_gt (by show 2 * (P.1 0 * P.1 1) - 1 + (P.1 3 - 1) * (P.1 0 * P.1 1) + 0 < 99999; omega)) (by show 0 + (P.1 0 * P.1 1 + 0) ≤ 256; omega) (by show 0 + (P.1 0 * P.1 1 + 0 - 1) ≤ 255; omega) (by show P.1 0 * P.1 1 + 0 ≤ 256; omega)
  refine ⟨T2, c1, FRm_tr b1 c2, ?_⟩
  have e : (plQ P [[1, 0, 0, P.1 0, P.1 1]]).1 = (plan P).1 ∧ (plQ P [[1, 0, 0, P.1 0, P.1 1]]).2 = (plan P).2 := ⟨List.append_nil _, List.append_nil _⟩
  rw [e.1, e.2] at c3
  exact c3
/-- the reference's table and lists, when they are asked for -/
theorem m_work {P : PC} {T : ST} (ok : OKP P) (h : CM P T) (hs : SPT T) (hw : T.1 7 ≠ 0 → TBM P T ∧ PLm T (plan P)) : ∃ T', mX7_work T = some T' ∧ (∀ k, k < 7 ∨ 10 < k → T'.1 k = T.1 k) ∧ (∀ a, a < 9 ∨ 20 < a → T'.2 a = T.2 a) ∧ T'.1 7 ≠ 0 ∧ TBM P T' ∧ PLm T' (plan P) := by
  unfold mX7_work
  by_cases q : T.1 7 = 0
  · rw [if_pos q]
    have h1 : CM P (sI T 7 1) := ⟨⟨h.1.1, h.1.2.1, h.1.2.2.1, h.1.2.2.2.1, h.1.2.2.2.2.1, h.1.2.2.2.2.2.1, h.1.2.2.2.2.2.2⟩, h.2.1, h.2.2⟩
    obtain ⟨T1, a1, a2⟩ := m_worths ok h1 hs (mX7_work_X15)
    have a2' : LPf (κ := ST → Int32 → Option (ST)) (fun _ _ => none) (fun kk => mX7_work_B15 kk mX7_work_X15) FU (sI T 7 1) 1 = _ := a2
    rw [a2']
    have t1 : TBM P T1 := fun st x y w v b c d e f g => a1.2.2 st x y w v b c d e f g (by omega)
    obtain ⟨T2, b1, b2, b3⟩ := m_layPlan ok (CM_of a1.1 a1.2.1 h1) (SPT_of (T := sI T 7 1) a1.2.1 hs) t1
    unfold mX7_work_X15
    rw [b1, Option.bind_some]
    refine ⟨T2, rfl, fun k hk => ?_, fun a ha => ?_, ?_, FRm_TBM b2 t1, b3⟩
    · rw [b2.1 k (by omega) (by omega) (by omega), a1.1, sI_i, if_neg (by omega)]
    · rw [b2.2 a (by omega), a1.2.1 a (by omega)]; rfl
    · rw [b2.1 7 (by decide) (by decide) (by decide), a1.1, sI_i, if_pos rfl]
      decide
  · rw [if_neg q]
    obtain ⟨a, b⟩ := hw q
    exact ⟨T, rfl, fun _ _ => rfl, fun _ _ => rfl, q, a, b⟩
