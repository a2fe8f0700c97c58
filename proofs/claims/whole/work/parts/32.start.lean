set_option maxHeartbeats 4000000 in
set_option maxRecDepth 100000 in
theorem start_open (T0 : ST) (hT0 : mX7_tail S0M = some T0) (hlaw : ∀ (xs : Nat → Int32) (L : Nat), L ≤ 384 → ∃ n, mL xs L n S0C T0 0 = some 1) {p : Program} {e : Env} {s : State} {m : MethodId} {below : List Frame} {meth : Method} {c : Code} (l : Launch) {b L : Nat} {xs : Nat → Int32} (hL : L ≤ 384) (C0 : lw_At p s m meth c b L xs) : W p l e room_1 s m #[Value.ref b] below meth c s.heap [] 0 0 (lw_Z below #[Value.ref b] s) (entryFrame m ([Value.ref b] : List Value).toArray 4) := by
  obtain ⟨hx, hb0, hr, hml, hown, hts0, hX, hbl, hlocks, hgv⟩ := C0
  have hb : c.code = cL_law := hb0
  have hts : ∀ w ∈ wsL_law, w.before #[Value.ref b] s = true := fun w h => hts0 w (wsL_law_in w h)
  have X : CX p m c cL_law s #[Value.ref b] wsL_law RL := ⟨hx, hb, hts, hown⟩
  have hA : ∀ q : Nat, s.heap.size ≤ q → (fun q : Nat => s.heap.size ≤ q) q := fun _ h => h
  obtain ⟨c0, i0, hKn0⟩ := u_known (C := RX0) (T := TX0) (N := 10) (n := 10) hts inlX0 (hts (Cond.instantiable RX0 10) (List.mem_of_getElem? (i := 33) rfl))
  obtain ⟨c1, i1, hKn1⟩ := u_known (C := RX1) (T := TX1) (N := 5) (n := 5) hts inlX1 (hts (Cond.instantiable RX1 5) (List.mem_of_getElem? (i := 16) rfl))
  obtain ⟨c2, i2, hKn2⟩ := u_known (C := RX2) (T := TX2) (N := 9) (n := 9) hts inlX2 (hts (Cond.instantiable RX2 9) (List.mem_of_getElem? (i := 28) rfl))
  obtain ⟨c3, i3, hKn3⟩ := u_known (C := RX3) (T := TX3) (N := 7) (n := 7) hts inlX3 (hts (Cond.instantiable RX3 7) (List.mem_of_getElem? (i := 22) rfl))
  obtain ⟨c4, i4, hKn4⟩ := u_known (C := RX4) (T := TX4) (N := 7) (n := 7) hts inlX4 (hts (Cond.instantiable RX4 7) (List.mem_of_getElem? (i := 13) rfl))
  obtain ⟨c5, i5, hKn5⟩ := u_known (C := RX5) (T := TX5) (N := 5) (n := 5) hts inlX5 (hts (Cond.instantiable RX5 5) (List.mem_of_getElem? (i := 19) rfl))
  obtain ⟨c6, i6, hKn6⟩ := u_known (C := RX6) (T := TX6) (N := 6) (n := 6) hts inlX6 (hts (Cond.instantiable RX6 6) (List.mem_of_getElem? (i := 1) rfl))
  obtain ⟨c7, i7, hKn7⟩ := u_known (C := RX7) (T := TX7) (N := 47) (n := 47) hts inlX7 (hts (Cond.instantiable RX7 47) (List.mem_of_getElem? (i := 4) rfl))
  obtain ⟨dC, dI, hKc⟩ : ∃ (dC : Nat → ClassId) (dI : Nat → Nat → Nat), ∀ (k : Nat) (q : vw_C), vwCl[k]? = some q → u_Kn s q.1 q.2.1 q.2.2 (dC k) (dI k) := by
    refine ⟨fun k => if k = 0 then c0 else if k = 1 then c1 else if k = 2 then c2 else if k = 3 then c3 else if k = 4 then c4 else if k = 5 then c5 else if k = 6 then c6 else c7, fun k => if k = 0 then i0 else if k = 1 then i1 else if k = 2 then i2 else if k = 3 then i3 else if k = 4 then i4 else if k = 5 then i5 else if k = 6 then i6 else i7, ?_⟩
    intro k q hq
    match k, hq with
    | 0, hq => cases hq; exact hKn0
    | 1, hq => cases hq; exact hKn1
    | 2, hq => cases hq; exact hKn2
    | 3, hq => cases hq; exact hKn3
    | 4, hq => cases hq; exact hKn4
    | 5, hq => cases hq; exact hKn5
    | 6, hq => cases hq; exact hKn6
    | 7, hq => cases hq; exact hKn7
    | k + 8, hq => simp [vwCl] at hq
  obtain ⟨cI, kI, mI, fI, gI, eI⟩ := Cond.arrayClass_spec (hts (Cond.arrayClass .int) (List.mem_of_getElem? (i := 45) rfl))
  obtain ⟨cZ, kZ, mZ, fZ, gZ, eZ⟩ := Cond.arrayClass_spec (hts (Cond.arrayClass .boolean) (List.mem_of_getElem? (i := 54) rfl))
  have hK : va_K (dC, dI) vwCl (TYS cI cZ) s := by
    refine ⟨hKc, fun k q h => ?_⟩
    match k, h with
    | 0, h => cases h; exact ⟨fun n z => ⟨fun k h => (by cases h), kI, gI, mI, eI⟩, fI⟩
    | 1, h => cases h; exact ⟨fun n z => ⟨fun k h => (by cases h), kZ, gZ, mZ, eZ⟩, fZ⟩
    | k + 2, h => simp [TYS] at h
  have hNW : NW s := ⟨va_Nw.of rfl (hts0 (.methodLinkNest "CuttingRules$BarList" 72 yX6_within "CuttingRules") (List.mem_of_getElem? (i := 514) (by decide +kernel))), va_Nw.of rfl (hts0 (.methodLinkNest "CuttingRules$Sheet" 34 yX6_within "CuttingRules") (List.mem_of_getElem? (i := 310) (by decide +kernel))), va_Nw.of rfl (hts0 (.methodLinkNest "CuttingRules$Worths" 54 yX6_within "CuttingRules") (List.mem_of_getElem? (i := 342) (by decide +kernel)))⟩
  have hNI : NI s := ⟨va_Nw.of rfl (hts0 (.methodLinkNest "CuttingRules" 11 yX4_init "CuttingRules") (List.mem_of_getElem? (i := 57) (by decide +kernel))), va_Nw.of rfl (hts0 (.methodLinkNest "CuttingRules" 14 yX1_init "CuttingRules") (List.mem_of_getElem? (i := 101) (by decide +kernel))), va_Nw.of rfl (hts0 (.methodLinkNest "CuttingRules" 22 yX3_init "CuttingRules") (List.mem_of_getElem? (i := 149) (by decide +kernel)))⟩
  have hS : va_S (fun q : Nat => s.heap.size ≤ q) s.heap s.heap [] := va_S.rf
  have hP : va_P (dC, dI) vwCl [] s.heap := fun k q h => by simp at h
  have hD : va_D (fun q : Nat => s.heap.size ≤ q) [] := ⟨fun i j p q h => by simp at h, fun k q h => by simp at h⟩
  have hl := lv_entry ([.ref b]) (n := 4) (Nat.le_of_ble_eq_true rfl)
  rw [lg_entry_eq]
  generalize (lg_sl ([.ref b]) ++ List.replicate (4 - (lg_sl ([.ref b])).length) Slot.unset).toArray = ls at hl ⊢
  replace hl : lv_has ls 4 [(0, .ref b)] := hl
  refine va_new (ci := 6) (fs := [.null, .null, .null, .null, .null, .null]) (C := RX6) (T := TX6) (N := 6) hx hb hts inlX6 tyX6 tyX6_ok hown (hts (Cond.classLink RL 7 RX6) (List.mem_of_getElem? (i := 0) rfl)) (hts (Cond.instantiable RX6 6) (List.mem_of_getElem? (i := 1) rfl)) (hts (Cond.initialized RX6) (List.mem_of_getElem? (i := 2) rfl)) hK hP hD hS hA rfl (fun j hj => by match j, hj with | 0, _ => exact rfl | 1, _ => exact rfl | 2, _ => exact rfl | 3, _ => exact rfl | 4, _ => exact rfl | 5, _ => exact rfl | j + 6, hj => exact absurd hj (by omega)) (Nat.le_of_ble_eq_true rfl) (Nat.le_of_ble_eq_true rfl) dL_law_0 (fun q1 H hP hD hS => ?_)
  replace hP : va_P (dC, dI) vwCl [(q1, .inr (6, [.null, .null, .null, .null, .null, .null]))] H := hP
  replace hD : va_D (fun q : Nat => s.heap.size ≤ q) [(q1, .inr (6, [.null, .null, .null, .null, .null, .null]))] := hD
  refine W.widen (k := 1) (n := 6) (by decide) (by decide) ?_
  refine lv_dup hx hb dL_law_3 rfl ?_
  have hFc := va_free (wc := [(q1, .inr (6, [.null, .null, .null, .null, .null, .null]))]) hD hS hA [0] rfl
  refine va_callv (va_runI (As := []) (rest := [.ref q1]) ⟨hx, hb, hml, hown, hts⟩ (kX6_init l (dC, dI) cI cZ q1 H.size) (cwI 0 hts gL_law_X6_init rfl rfl rfl (hts (Cond.initialized RX6) (List.mem_of_getElem? (i := 2) rfl)) (hts (Cond.methodLink RL 9 yX6_init) (List.mem_of_getElem? (i := 6) rfl)) (hts (Cond.instanceMethod yX6_init) (List.mem_of_getElem? (i := 7) rfl)) rfl (by decide +kernel) ⟨Nat.le_of_ble_eq_true rfl, Nat.le_of_ble_eq_true rfl⟩) ⟨FB_K _ _ (dC, dI) cI cZ H.size, fun U hU hW => ⟨rfl, by rw [hU], by rw [hU]; exact hP, va_K.moved hW.alike hK, hD.weaken (fun _ _ _ _ => trivial), NI_warm hW hNI⟩⟩ rfl rfl hl.1 rfl (lv_room (Nat.le_of_ble_eq_true rfl)) dL_law_4 ⟨Nat.le_of_ble_eq_true rfl, Nat.le_of_ble_eq_true rfl⟩) hS (fun q _ h => hFc q h) hFc (fun u t H1 locs ht hvm hw hB hz1 hk1 hS => ?_)
  obtain ⟨a, ha0, hAa, hAAa, hPC, -⟩ := hB
  rw [ht] at hPC
  have hLa : ∀ k, k < 24 → s.heap.size ≤ a k := fun k hk => hFc _ (hAAa k hk)
  clear hP hD hFc hk1 hAAa
  generalize H1 = H at hPC hS ⊢
  refine W.widen (k := 24) (n := 90756) (by decide) (by decide) ?_
  refine lv_astore_n (lv' := [(1, .ref q1), (0, .ref b)]) hx hb dL_law_7 rfl hl (by decide) rfl (fun ls hl => ?_)
  have hP : va_P (dC, dI) vwCl [] H := fun k q h => by simp at h
  have hD : va_D (fun q : Nat => s.heap.size ≤ q) [] := ⟨fun i j p q h => by simp at h, fun k q h => by simp at h⟩
  have hPC0 := hPC
  have hDC : va_D (fun q : Nat => s.heap.size ≤ q) (wC a cI cZ S0C) := wC_D hAa hLa
  replace hP := hPC
  replace hD := hDC
  refine va_new (ci := 7) (fs := [.int 0, .int 0, .int 0, .int 0, .int 0, .int 0, .null, .null, .null, .null, .int 0, .null, .null, .null, .null, .null, .null, .int 0, .int 0, .null, .null, .null, .null, .int 0, .null, .null, .null, .null, .null, .null, .null, .int 0, .int 0, .null, .null, .int 0, .null, .null, .int 0, .int 0, .int 0, .null, .null, .null, .null, .int 0, .null]) (C := RX7) (T := TX7) (N := 47) hx hb hts inlX7 tyX7 tyX7_ok hown (hts (Cond.classLink RL 10 RX7) (List.mem_of_getElem? (i := 3) rfl)) (hts (Cond.instantiable RX7 47) (List.mem_of_getElem? (i := 4) rfl)) (hts (Cond.initialized RX7) (List.mem_of_getElem? (i := 5) rfl)) hK hP hD hS hA rfl (fun j hj => by match j, hj with | 0, _ => exact rfl | 1, _ => exact rfl | 2, _ => exact rfl | 3, _ => exact rfl | 4, _ => exact rfl | 5, _ => exact rfl | 6, _ => exact rfl | 7, _ => exact rfl | 8, _ => exact rfl | 9, _ => exact rfl | 10, _ => exact rfl | 11, _ => exact rfl | 12, _ => exact rfl | 13, _ => exact rfl | 14, _ => exact rfl | 15, _ => exact rfl | 16, _ => exact rfl | 17, _ => exact rfl | 18, _ => exact rfl | 19, _ => exact rfl | 20, _ => exact rfl | 21, _ => exact rfl | 22, _ => exact rfl | 23, _ => exact rfl | 24, _ => exact rfl | 25, _ => exact rfl | 26, _ => exact rfl | 27, _ => exact rfl | 28, _ => exact rfl | 29, _ => exact rfl | 30, _ => exact rfl | 31, _ => exact rfl | 32, _ => exact rfl | 33, _ => exact rfl | 34, _ => exact rfl | 35, _ => exact rfl | 36, _ => exact rfl | 37, _ => exact rfl | 38, _ => exact rfl | 39, _ => exact rfl | 40, _ => exact rfl | 41, _ => exact rfl | 42, _ => exact rfl | 43, _ => exact rfl | 44, _ => exact rfl | 45, _ => exact rfl | 46, _ => exact rfl | j + 47, hj => exact absurd hj (by omega)) (Nat.le_of_ble_eq_true rfl) (Nat.le_of_ble_eq_true rfl) dL_law_8 (fun q2 H hP hD hS => ?_)
  have hPC : va_P (dC, dI) vwCl (wC a cI cZ S0C) H := hP.sub (ws' := wC a cI cZ S0C) [0, 1, 2, 3, 4, 5, 6, 7, 8, 9, 10, 11, 12, 13, 14, 15, 16, 17, 18, 19, 20, 21, 22, 23] rfl
  have hq2 : ∀ i, i < 24 → a i ≠ q2 := by
    intro i hi e
    have h1 : (wC a cI cZ S0C ++ [(q2, .inr (7, [.int 0, .int 0, .int 0, .int 0, .int 0, .int 0, .null, .null, .null, .null, .int 0, .null, .null, .null, .null, .null, .null, .int 0, .int 0, .null, .null, .null, .null, .int 0, .null, .null, .null, .null, .null, .null, .null, .int 0, .int 0, .null, .null, .int 0, .null, .null, .int 0, .int 0, .int 0, .null, .null, .null, .null, .int 0, .null]))])[i]? = some ((wC a cI cZ S0C)[i]'(by exact hi)) := by rw [List.getElem?_append_left (by exact hi)]; exact List.getElem?_eq_getElem _
    have h2 : (wC a cI cZ S0C ++ [(q2, .inr (7, [.int 0, .int 0, .int 0, .int 0, .int 0, .int 0, .null, .null, .null, .null, .int 0, .null, .null, .null, .null, .null, .null, .int 0, .int 0, .null, .null, .null, .null, .int 0, .null, .null, .null, .null, .null, .null, .null, .int 0, .int 0, .null, .null, .int 0, .null, .null, .int 0, .int 0, .int 0, .null, .null, .null, .null, .int 0, .null]))])[24]? = some (q2, .inr (7, [.int 0, .int 0, .int 0, .int 0, .int 0, .int 0, .null, .null, .null, .null, .int 0, .null, .null, .null, .null, .null, .null, .int 0, .int 0, .null, .null, .null, .null, .int 0, .null, .null, .null, .null, .null, .null, .null, .int 0, .int 0, .null, .null, .int 0, .null, .null, .int 0, .int 0, .int 0, .null, .null, .null, .null, .int 0, .null])) := rfl
    have h3 := (keyC i _ (List.getElem?_eq_getElem (l := wC a cI cZ S0C) (by exact hi))).2
    have h4 := hD.1 i 24 _ _ h1 h2 (by rw [h3]; exact e)
    omega
  have hP7 := hP.sub (ws' := [(q2, .inr (7, [.int 0, .int 0, .int 0, .int 0, .int 0, .int 0, .null, .null, .null, .null, .int 0, .null, .null, .null, .null, .null, .null, .int 0, .int 0, .null, .null, .null, .null, .int 0, .null, .null, .null, .null, .null, .null, .null, .int 0, .int 0, .null, .null, .int 0, .null, .null, .int 0, .int 0, .int 0, .null, .null, .null, .null, .int 0, .null]))]) [24] rfl
  have hD7 := hD.sub (ws' := [(q2, .inr (7, [.int 0, .int 0, .int 0, .int 0, .int 0, .int 0, .null, .null, .null, .null, .int 0, .null, .null, .null, .null, .null, .null, .int 0, .int 0, .null, .null, .null, .null, .int 0, .null, .null, .null, .null, .null, .null, .null, .int 0, .int 0, .null, .null, .int 0, .null, .null, .int 0, .int 0, .int 0, .null, .null, .null, .null, .int 0, .null]))]) [24] (by decide) rfl
  clear hP hD
  have hP := hP7
  have hD := hD7
  refine W.widen (k := 25) (n := 90803) (by decide) (by decide) ?_
  refine lv_dup hx hb dL_law_11 rfl ?_
  have hFc := va_free (wc := [(q2, .inr (7, [.int 0, .int 0, .int 0, .int 0, .int 0, .int 0, .null, .null, .null, .null, .int 0, .null, .null, .null, .null, .null, .null, .int 0, .int 0, .null, .null, .null, .null, .int 0, .null, .null, .null, .null, .null, .null, .null, .int 0, .int 0, .null, .null, .int 0, .null, .null, .int 0, .int 0, .int 0, .null, .null, .null, .null, .int 0, .null]))]) hD hS hA [0] rfl
  have hltC : ∀ i, i < 24 → a i < H.size := by
    intro i hi
    have h3 := keyC i _ (List.getElem?_eq_getElem (l := wC a cI cZ S0C) (by exact hi))
    have h4 := (hPC i _ (List.getElem?_eq_getElem (l := wC a cI cZ S0C) (by exact hi))).lt
    rw [h3.2] at h4
    exact h4
  refine va_callv (va_runI (As := []) (rest := [.ref q2]) ⟨hx, hb, hml, hown, hts⟩ (kX7_init l (dC, dI) cI cZ q2 H.size T0 hT0) (cwI 0 hts gL_law_X7_init rfl rfl rfl (hts (Cond.initialized RX7) (List.mem_of_getElem? (i := 5) rfl)) (hts (Cond.methodLink RL 12 yX7_init) (List.mem_of_getElem? (i := 103) rfl)) (hts (Cond.instanceMethod yX7_init) (List.mem_of_getElem? (i := 104) rfl)) rfl (by decide +kernel) ⟨Nat.le_of_ble_eq_true rfl, Nat.le_of_ble_eq_true rfl⟩) ⟨FB_K _ _ (dC, dI) cI cZ H.size, fun U hU hW => ⟨rfl, by rw [hU], by rw [hU]; exact hP, va_K.moved hW.alike hK, hD.weaken (fun _ _ _ _ => trivial), NI_warm hW hNI⟩⟩ rfl rfl hl.1 rfl (lv_room (Nat.le_of_ble_eq_true rfl)) dL_law_12 ⟨Nat.le_of_ble_eq_true rfl, Nat.le_of_ble_eq_true rfl⟩) hS (fun q _ h => hFc q h) hFc (fun u t H1 locs ht hvm hw hB hz1 hk1 hS => ?_)
  obtain ⟨bb, hb0, hAb, hAAb, hPM, -⟩ := hB
  rw [ht] at hPM
  have hLb : ∀ k, k < 31 → s.heap.size ≤ bb k := fun k hk => hFc _ (hAAb k hk)
  have hnA : ∀ i, i < 24 → ¬ va_A [(q2, .inr (7, [.int 0, .int 0, .int 0, .int 0, .int 0, .int 0, .null, .null, .null, .null, .int 0, .null, .null, .null, .null, .null, .null, .int 0, .int 0, .null, .null, .null, .null, .int 0, .null, .null, .null, .null, .null, .null, .null, .int 0, .int 0, .null, .null, .int 0, .null, .null, .int 0, .int 0, .int 0, .null, .null, .null, .null, .int 0, .null]))] H.size (a i) := by
    intro i hi h
    rcases h with ⟨k, e, h⟩ | h
    · match k, h with
      | 0, h => cases h; exact hq2 i hi rfl
      | k + 1, h => simp at h
    · exact absurd (hltC i hi) (Nat.not_lt.mpr h)
  have hab : ∀ i j, i < 24 → j < 31 → a i ≠ bb j := fun i j hi hj e => hnA i hi (by rw [e]; exact hAAb j hj)
  have hPC1 : va_P (dC, dI) vwCl (wC a cI cZ S0C) H1 := hPC.kept (fun k q hq => by
  · obtain ⟨h1, h2⟩ := keyC k q hq
    exact hk1 q.1 (hPC k q hq).lt (by rw [h2]; exact hnA k h1))
  generalize H1 = H at hPM hPC1 hS ⊢
  refine W.widen (k := lawC) (n := lawS) (Nat.le_of_ble_eq_true rfl) (Nat.le_of_ble_eq_true rfl) ?_
  refine lv_astore_n (lv' := [(2, .ref q2), (1, .ref q1), (0, .ref b)]) hx hb dL_law_15 rfl hl (by decide) rfl (fun ls hl => ?_)
  refine lv_iconst (v := (0 : Int32)) hx hb dL_law_16 (by decide) ?_
  refine lv_istore_n (lv' := [(3, .int 0), (2, .ref q2), (1, .ref q1), (0, .ref b)]) hx hb dL_law_17 rfl hl (by decide) rfl (fun ls hl => ?_)
  have hl2 : lv_has ls 4 [(0, .ref b), (1, .ref (a 0)), (2, .ref (bb 0)), (3, .int 0)] := by rw [ha0, hb0]; exact lv_sub hl [3, 2, 1, 0] rfl
  have hlw := hlaw xs L hL
  exact Exists.elim hlw (fun n hn => law_loop X hK hNW hml hX hbl hAa hAb hLa hLb hab hr hlocks n S0C T0 0 H locs ls hPC1 hPM hS hl2 hn)
