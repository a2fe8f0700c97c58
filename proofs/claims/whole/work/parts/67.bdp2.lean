/-! MATH, bars: the reference, one row at one cut -/
/-- a fact that omega leaves shut -/
def HH (p : Prop) : Prop := p
theorem m_row {K : KB} {w cut i : Nat} {T1 T : ST} (ok : OKK K) (hK : KM K T1) (hP : ∀ r, r < w + 1 → PTr K w T1 r) (hw : w < 1296) (hp : pcs (cv w) ≤ 20) (hc : cut < w) (hin : HH (inV (cv cut) (cv w))) (hcb : CB K (cv cut) < 1048576) (hi : 1 ≤ i) (hi2 : i ≤ w - cut) (h : DPI K w cut i T1 T) (k x : ST → Int32 → Option ST) : ∃ T', DPI K w cut (i + 1) T1 T' ∧ mX7_list_B95 k x (nI w) (nI cut) T (nI i) = k T' (nI (i + 1)) := by
  have o3 := ok.1
  have sk : (inV (cv i) (cv (w - cut)) → inV (cv i) (cv w) → 1048576 ≤ bc K (cv i)) → DPI K w cut (i + 1) T1 T := fun g => DP_wk h (fun r x hr hrw x0 xin hx => by
    by_cases e : r - x = cut ∧ x = i
    · obtain ⟨e1, e2⟩ := e
      right
      subst e2
      obtain ⟨f1, f2⟩ := in_rest xin hrw
      rw [e1] at f1
      exact Nat.le_trans (g f1 (inV_tr xin hrw)) (Nat.le_add_right _ _)
    · left
      clear xin hrw g
      omega)
  rcases (DP_done h (by omega) (Nat.le_refl cut)).1 hin with ⟨e, -⟩ | ⟨-, e25, e26⟩
  · omega
  unfold mX7_list_B95
  rw [pk_sub (by omega), if_neg (by rw [ltI (by omega) (by omega)]; omega), gdI (by omega) (by omega), clI (a := cut) (by omega), e25, if_neg (nI_nm1 (by omega)), gdI (by omega) (by omega), clI (a := i) (by omega), h.2.1 27 (by decide) (by decide), nI_1]
  by_cases c : HH (inV (cv i) (cv w))
  · rw [((hP i (by omega)).1 ⟨by omega, c⟩).1]
    by_cases z : sfB K (cv i) = 0
    · rw [z, gD_0, if_pos rfl]
      refine ⟨T, sk (fun _ _ => ?_), rfl⟩
      rcases bc_or ok (cv i) with ⟨-, b⟩ | ⟨b, -⟩
      · exact Nat.le_of_eq b.symm
      · omega
    · obtain ⟨-, b2, b3, b4, b5⟩ := (bc_or ok (cv i)).resolve_left (fun q => z q.1)
      rw [if_neg (gD_ne z (by omega)), m_isIn (r := i) (w := w - cut) (by omega) (by omega), Option.bind_some, ifB]
      by_cases d : HH (inV (cv i) (cv (w - cut)))
      · rw [if_pos (decide_eq_true (p := inV (cv i) (cv (w - cut))) d)]
        obtain ⟨s, hs⟩ : ∃ s, sfB K (cv i) = s + 1 := ⟨sfB K (cv i) - 1, by omega⟩
        have f1 : cut + i ≤ w := (cv_add hin d).1
        have f3 : HH (inV (cv (cut + i)) (cv w)) := (cv_add hin d).2.2.1
        have f4 : HH (inV (cv i) (cv (cut + i))) := (cv_add hin d).2.2.2.1
        have f5 : cv (cut + i) - cv i = cv cut := (cv_add hin d).2.2.2.2
        have p1 := pcs_sub f4
        have p2 := pcs_sub f3
        have p3 := pcs_pos (cv_ne (r := i) (by omega))
        rw [f5] at p1
        have cb := CB_bnd ok (cv cut) (by omega) hcb
        have ks := (hK.2.2.2.1 s (by omega)).2
        have kb := ok.2.2.2.1 s (by omega)
        rw [hs, Nat.add_sub_cancel] at b3
        have q1 : CB K (cv cut) / 21 + K.2 1 s = (bc K (cv i) + CB K (cv cut)) / 21 := by rw [b3]; omega
        have q2 : CB K (cv cut) % 21 + 1 = (bc K (cv i) + CB K (cv cut)) % 21 := by rw [b3]; omega
        rw [hs, gD_s, gdI (by omega) (by omega), gdI (by omega) (by omega), gdI (by omega) (by omega), gdI (by omega) (by omega), clI (a := s) (by omega), h.2.1 22 (by decide) (by decide), ks, e26, nI_add, nI_add, nI_1, q1, q2]
        obtain ⟨m, m1, m2⟩ := (h.2.2.2.2 (cut + i) (by omega) f1).2 f3
        obtain ⟨T', t1, t2, t3, t4, t5⟩ := m_reach (r := cut + i) (s := bc K (cv i) + CB K (cv cut)) (by omega) m1 (by omega)
        rw [t1, Option.bind_some]
        refine ⟨T', ⟨t2.trans h.1, fun a a1 a2 => (t3 a a1 a2).trans (h.2.1 a a1 a2), ?_, ?_, fun r r0 hr => ?_⟩, rfl⟩
        · rw [(t4 0 (by omega)).1]; exact h.2.2.1
        · rw [(t4 0 (by omega)).2]; exact h.2.2.2.1
        · by_cases er : r = cut + i
          · subst er
            refine ⟨fun g => absurd f3 g, fun _ => ⟨_, t5, ?_⟩⟩
            obtain ⟨m3, m4, m5⟩ := m2
            have lb := CB_lb K (cv_ne (r := i) (by omega)) f4
            rw [f5] at lb
            refine ⟨?_, ?_, fun x x0 xin hx => ?_⟩
            · split
              · exact lb
              · exact m3
            · split <;> omega
            · by_cases ex : x = i
              · clear xin
                rw [ex, Nat.add_sub_cancel]; split <;> omega
              · have xl := (cv_sub xin).1
                have m6 := m5 x x0 xin (by clear xin; omega)
                split
                · rename_i lt; exact Nat.le_trans (Nat.le_of_lt lt) m6
                · exact m6
          · obtain ⟨a1, a2⟩ := h.2.2.2.2 r r0 hr
            refine ⟨fun g => by rw [(t4 r er).1]; exact a1 g, fun g => ?_⟩
            obtain ⟨m', k1, k2, k3, k4⟩ := a2 g
            refine ⟨m', ?_, k2, k3, fun x x0 xin hx => k4 x x0 xin ?_⟩
            · unfold REP; rw [(t4 r er).1, (t4 r er).2]; exact k1
            · have xl := (cv_sub xin).1
              clear xin g
              omega
      · rw [if_neg (fun q => d (of_decide_eq_true (p := inV (cv i) (cv (w - cut))) q))]
        exact ⟨T, sk (fun g _ => absurd g d), rfl⟩
  · rw [(hP i (by omega)).2 (fun g => c g.2), if_pos rfl]
    exact ⟨T, sk (fun _ g => absurd g c), rfl⟩
