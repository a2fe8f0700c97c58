/-! THE LAW'S BODY. By law.py. -/
def lawC : Nat := 55
def lawS : Nat := 174177
theorem lawC_le : lawC ≤ room_1.cells := Nat.le_of_ble_eq_true rfl
theorem lawS_le : lawS ≤ room_1.slots := Nat.le_of_ble_eq_true rfl
theorem acA {n : Nat} {a : Nat → Nat} {s0 h : Nat} (hL : ∀ k, k < n → s0 ≤ a k) (hs : s0 ≤ h) : ∀ q, AC n a h q → s0 ≤ q := fun q hq => hq.elim (fun ⟨k, hk, e⟩ => by rw [e]; exact hL k hk) (fun g => Nat.le_trans hs g)
theorem keyC {a : Nat → Nat} {cI cZ : ClassId} {S : ST} (k : Nat) (q : Nat × va_E) (h : (wC a cI cZ S)[k]? = some q) : k < 24 ∧ q.1 = a k := by
  have hk : k < 24 := (List.getElem?_eq_some_iff.mp h).1
  refine ⟨hk, ?_⟩
  match k, hk, h with
  | 0, _, h => cases h; rfl
  | 1, _, h => cases h; rfl
  | 2, _, h => cases h; rfl
  | 3, _, h => cases h; rfl
  | 4, _, h => cases h; rfl
  | 5, _, h => cases h; rfl
  | 6, _, h => cases h; rfl
  | 7, _, h => cases h; rfl
  | 8, _, h => cases h; rfl
  | 9, _, h => cases h; rfl
  | 10, _, h => cases h; rfl
  | 11, _, h => cases h; rfl
  | 12, _, h => cases h; rfl
  | 13, _, h => cases h; rfl
  | 14, _, h => cases h; rfl
  | 15, _, h => cases h; rfl
  | 16, _, h => cases h; rfl
  | 17, _, h => cases h; rfl
  | 18, _, h => cases h; rfl
  | 19, _, h => cases h; rfl
  | 20, _, h => cases h; rfl
  | 21, _, h => cases h; rfl
  | 22, _, h => cases h; rfl
  | 23, _, h => cases h; rfl
  | k + 24, hk, _ => exact absurd hk (by omega)
theorem keyM {a : Nat → Nat} {cI cZ : ClassId} {S : ST} (k : Nat) (q : Nat × va_E) (h : (wM a cI cZ S)[k]? = some q) : k < 31 ∧ q.1 = a k := by
  have hk : k < 31 := (List.getElem?_eq_some_iff.mp h).1
  refine ⟨hk, ?_⟩
  match k, hk, h with
  | 0, _, h => cases h; rfl
  | 1, _, h => cases h; rfl
  | 2, _, h => cases h; rfl
  | 3, _, h => cases h; rfl
  | 4, _, h => cases h; rfl
  | 5, _, h => cases h; rfl
  | 6, _, h => cases h; rfl
  | 7, _, h => cases h; rfl
  | 8, _, h => cases h; rfl
  | 9, _, h => cases h; rfl
  | 10, _, h => cases h; rfl
  | 11, _, h => cases h; rfl
  | 12, _, h => cases h; rfl
  | 13, _, h => cases h; rfl
  | 14, _, h => cases h; rfl
  | 15, _, h => cases h; rfl
  | 16, _, h => cases h; rfl
  | 17, _, h => cases h; rfl
  | 18, _, h => cases h; rfl
  | 19, _, h => cases h; rfl
  | 20, _, h => cases h; rfl
  | 21, _, h => cases h; rfl
  | 22, _, h => cases h; rfl
  | 23, _, h => cases h; rfl
  | 24, _, h => cases h; rfl
  | 25, _, h => cases h; rfl
  | 26, _, h => cases h; rfl
  | 27, _, h => cases h; rfl
  | 28, _, h => cases h; rfl
  | 29, _, h => cases h; rfl
  | 30, _, h => cases h; rfl
  | k + 31, hk, _ => exact absurd hk (by omega)
theorem disCM {a b : Nat → Nat} {cI cZ : ClassId} {T : ST} (hab : ∀ i j, i < 24 → j < 31 → a i ≠ b j) : ∀ (k : Nat) (q : Nat × va_E), (wM b cI cZ T)[k]? = some q → ∀ j, j < 24 → q.1 ≠ a j := fun k q h j hj e => by
  obtain ⟨h1, h2⟩ := keyM k q h
  exact hab j k hj h1 (by rw [← e, h2])
theorem disMC {a b : Nat → Nat} {cI cZ : ClassId} {S : ST} (hab : ∀ i j, i < 24 → j < 31 → a i ≠ b j) : ∀ (k : Nat) (q : Nat × va_E), (wC a cI cZ S)[k]? = some q → ∀ j, j < 31 → q.1 ≠ b j := fun k q h j hj e => by
  obtain ⟨h1, h2⟩ := keyC k q h
  exact hab k j h1 hj (by rw [← h2, e])
section CALLL
variable {p : Program} {l : Launch} {e : Env} {R : Room} {s : State} {m : MethodId} {args : Array Value} {below : List Frame} {meth : Method} {c : Code} {H : Heap} {locs : List Loc} {cells slots : Nat} {Q : State → Prop}
variable {Ts ws : List Cond} {cc bytes : ByteArray} {nL maxL index n pc : Nat} {own C : String} {y : MethodName} {ret : Option FieldType} {rm : Room} {b : Addr} {As rest st0 : List Value} {ls : Array Slot} {D : va_G} {cI cZ : ClassId}
theorem callLI {wf wo : ST → va_W} {S T : ST} {res : Int32 × ST} {N : Nat} {a : Nat → Nat} {H0 : Heap} {A : Nat → Prop} (X : CX p m c cc s args Ts own) (hK : va_K D vwCl (TYS cI cZ) s) (hN : NW s) (hml : c.maxLocals = nL) (hP : va_P D vwCl (wf S) H) (hPo : va_P D vwCl (wo T) H) (hS : va_S A H0 H locs) (hAa : ∀ q, AC N a H.size q → A q) (hdis : ∀ (k : Nat) (q : Nat × va_E), (wo T)[k]? = some q → ∀ j, j < N → q.1 ≠ a j) (hsz : ls.size = nL)
    (hM : Met l y ws rm (va_Pc (Value.ref b :: As) (PreW (wf S) D cI cZ H.size)) (va_Qi (fun (r : Int32) (T : ST) => (r, T) = res) (PostW wf D cI cZ) (AC N a H.size)) 0 0 (AC N a H.size)) (cw : CallW R s args own C index y bytes maxL ret ws rm 0 0 n) (hrec : ∃ cell : Cell, H[b]? = some cell ∧ cell.vm.isStatics = false ∧ s.vm.findClass C = some cell.cls)
    (hn : As.length = n) (hst : st0 = As.reverse ++ .ref b :: rest) (hroom : (rest.map fun v => v.category).sum ≤ 8) (hdg : decode cc pc = .ok (.invokevirtual index, 3)) (hf : cells ≤ R.cells ∧ slots ≤ R.slots)
    (kk : ∀ (H1 : Heap) (locs1 : List Loc), va_P D vwCl (wf res.2) H1 → va_P D vwCl (wo T) H1 → va_S A H0 H1 locs1 → W p l e R s m args below meth c H1 locs1 cells slots Q (F0 m (pc + 3) ls (.int res.1 :: rest))) : W p l e R s m args below meth c H locs cells slots Q (F0 m pc ls st0) := by
  subst hst
  refine va_calli (va_runV (As := As) (rest := rest) ⟨X.1, X.2.1, hml, X.2.2.2, X.2.2.1⟩ hM cw ⟨FB_W _ (wf S) D cI cZ H.size, hrec, fun U hU hW => ⟨rfl, by rw [hU], by rw [hU]; exact hP, va_K.moved hW.alike hK, NW_warm hW hN⟩⟩ rfl hn hsz rfl (lv_room hroom) hdg ⟨hf.1, hf.2⟩) hS (fun q _ h => hAa q h) hAa (fun r u t H1 locs1 ht hvm hw hB hz1 hk1 hS1 => ?_)
  subst hw
  refine kk H1 locs1 (by rw [← ht]; exact hB.1) (hPo.kept (fun k q hq => hk1 q.1 (hPo k q hq).lt (fun hac => ?_))) hS1
  rcases hac with ⟨j, hj, ej⟩ | hge
  · exact hdis k q hq j hj ej
  · exact absurd (hPo k q hq).lt (Nat.not_lt.mpr hge)
end CALLL

set_option maxHeartbeats 4000000 in
set_option maxRecDepth 100000 in
theorem law_c0 {p : Program} {l : Launch} {e : Env} {s : State} {m : MethodId} {below : List Frame} {meth : Method} {c : Code} {D : va_G} {cI cZ : ClassId} {a b : Nat → Nat} {bs L : Nat} {xs : Nat → Int32} (X : CX p m c cL_law s #[Value.ref bs] wsL_law RL) (hK : va_K D vwCl (TYS cI cZ) s) (hNW : NW s) (hml : c.maxLocals = 4) (hX : va_X bs L xs s s.heap) (hbl : bs < s.heap.size) (hA : AP 24 a) (hB : AP 31 b) (hLa : ∀ k, k < 24 → s.heap.size ≤ a k) (hLb : ∀ k, k < 31 → s.heap.size ≤ b k) (hab : ∀ i j, i < 24 → j < 31 → a i ≠ b j) (k : ST → ST → Int32 → Option Int32) (hk : (∀ (S T : ST) (i : Int32) (H : Heap) (locs : List Loc) (ls : Array Slot), va_P D vwCl (wC a cI cZ S) H → va_P D vwCl (wM b cI cZ T) H → va_S (fun q : Nat => s.heap.size ≤ q) s.heap H locs → lv_has ls 4 [(0, .ref bs), (1, .ref (a 0)), (2, .ref (b 0)), (3, .int i)] → k S T i = some 1 → W p l e room_1 s m #[Value.ref bs] below meth c H locs lawC lawS (lw_Z below #[Value.ref bs] s) (F0 m 18 ls []))) : ∀ (S T : ST) (i : Int32) (H : Heap) (locs : List Loc) (ls : Array Slot), va_P D vwCl (wC a cI cZ S) H → va_P D vwCl (wM b cI cZ T) H → va_S (fun q : Nat => s.heap.size ≤ q) s.heap H locs → lv_has ls 4 [(0, .ref bs), (1, .ref (a 0)), (2, .ref (b 0)), (3, .int i)] → mL_c0 k xs L S T i = some 1 → W p l e room_1 s m #[Value.ref bs] below meth c H locs lawC lawS (lw_Z below #[Value.ref bs] s) (F0 m 128 ls []) := by
  have hbA : ¬ (fun q : Nat => s.heap.size ≤ q) bs := Nat.not_le.mpr hbl
  have hx := X.1
  have hb := X.2.1
  intro S T i H locs ls hP hPo hS hl hm
  unfold mL_c0 at hm
  refine lv_aload_n hx hb dL_law_128 rfl (lv_at hl 1 rfl) ?_
  refine lv_aload_n hx hb dL_law_129 rfl (lv_at hl 0 rfl) ?_
  refine lv_iload_n hx hb dL_law_130 rfl (lv_at hl 3 rfl) ?_
  refine lv_iconst (v := (1 : Int32)) hx hb dL_law_131 (by decide) ?_
  refine lv_iadd hx hb dL_law_132 ?_
  obtain ⟨h1, hm⟩ := gd_ok hm
  refine va_sld hx hb hX hbl hbA hS (inB_ok h1) dL_law_133 ?_
  refine lv_aload_n hx hb dL_law_134 rfl (lv_at hl 0 rfl) ?_
  refine lv_iload_n hx hb dL_law_135 rfl (lv_at hl 3 rfl) ?_
  refine lv_iconst (v := (2 : Int32)) hx hb dL_law_136 (by decide) ?_
  refine lv_iadd hx hb dL_law_137 ?_
  obtain ⟨h1, hm⟩ := gd_ok hm
  refine va_sld hx hb hX hbl hbA hS (inB_ok h1) dL_law_138 ?_
  refine lv_aload_n hx hb dL_law_139 rfl (lv_at hl 0 rfl) ?_
  refine lv_iload_n hx hb dL_law_140 rfl (lv_at hl 3 rfl) ?_
  refine lv_iconst (v := (3 : Int32)) hx hb dL_law_141 (by decide) ?_
  refine lv_iadd hx hb dL_law_142 ?_
  obtain ⟨h1, hm⟩ := gd_ok hm
  refine va_sld hx hb hX hbl hbA hS (inB_ok h1) dL_law_143 ?_
  refine lv_aload_n hx hb dL_law_144 rfl (lv_at hl 0 rfl) ?_
  refine lv_iload_n hx hb dL_law_145 rfl (lv_at hl 3 rfl) ?_
  refine lv_iconst (v := (4 : Int32)) hx hb dL_law_146 (by decide) ?_
  refine lv_iadd hx hb dL_law_147 ?_
  obtain ⟨h1, hm⟩ := gd_ok hm
  refine va_sld hx hb hX hbl hbA hS (inB_ok h1) dL_law_148 ?_
  refine lv_aload_n hx hb dL_law_149 rfl (lv_at hl 0 rfl) ?_
  refine lv_iload_n hx hb dL_law_150 rfl (lv_at hl 3 rfl) ?_
  refine lv_iconst (v := (5 : Int32)) hx hb dL_law_151 (by decide) ?_
  refine lv_iadd hx hb dL_law_152 ?_
  obtain ⟨h1, hm⟩ := gd_ok hm
  refine va_sld hx hb hX hbl hbA hS (inB_ok h1) dL_law_153 ?_
  obtain ⟨r1, hr1, hm⟩ := bd_ok hm
  refine callLI (wf := wC a cI cZ) (wo := wM b cI cZ) (T := T) (A := (fun q : Nat => s.heap.size ≤ q)) (rest := []) X hK hNW hml hP hPo hS (acA hLa hS.1) (disCM hab) hl.1 (kX6_plate l D a cI cZ hA S H.size (xs (i + (1 : Int32)).toNatClampNeg) (xs (i + (2 : Int32)).toNatClampNeg) (xs (i + (3 : Int32)).toNatClampNeg) (xs (i + (4 : Int32)).toNatClampNeg) (xs (i + (5 : Int32)).toNatClampNeg) r1 hr1) (cwV 5 X.2.2.1 gL_law_X6_plate rfl rfl rfl (by decide +kernel) ⟨Nat.le_of_ble_eq_true rfl, Nat.le_of_ble_eq_true rfl⟩) (vC_X6 hK hP) rfl rfl (Nat.le_of_ble_eq_true rfl) dL_law_154 ⟨lawC_le, lawS_le⟩ (fun H locs hP hPo hS => ?_)
  refine lv_aload_n hx hb dL_law_157 rfl (lv_at hl 2 rfl) ?_
  refine lv_aload_n hx hb dL_law_158 rfl (lv_at hl 0 rfl) ?_
  refine lv_iload_n hx hb dL_law_159 rfl (lv_at hl 3 rfl) ?_
  refine lv_iconst (v := (1 : Int32)) hx hb dL_law_160 (by decide) ?_
  refine lv_iadd hx hb dL_law_161 ?_
  obtain ⟨h1, hm⟩ := gd_ok hm
  refine va_sld hx hb hX hbl hbA hS (inB_ok h1) dL_law_162 ?_
  refine lv_aload_n hx hb dL_law_163 rfl (lv_at hl 0 rfl) ?_
  refine lv_iload_n hx hb dL_law_164 rfl (lv_at hl 3 rfl) ?_
  refine lv_iconst (v := (2 : Int32)) hx hb dL_law_165 (by decide) ?_
  refine lv_iadd hx hb dL_law_166 ?_
  obtain ⟨h1, hm⟩ := gd_ok hm
  refine va_sld hx hb hX hbl hbA hS (inB_ok h1) dL_law_167 ?_
  refine lv_aload_n hx hb dL_law_168 rfl (lv_at hl 0 rfl) ?_
  refine lv_iload_n hx hb dL_law_169 rfl (lv_at hl 3 rfl) ?_
  refine lv_iconst (v := (3 : Int32)) hx hb dL_law_170 (by decide) ?_
  refine lv_iadd hx hb dL_law_171 ?_
  obtain ⟨h1, hm⟩ := gd_ok hm
  refine va_sld hx hb hX hbl hbA hS (inB_ok h1) dL_law_172 ?_
  refine lv_aload_n hx hb dL_law_173 rfl (lv_at hl 0 rfl) ?_
  refine lv_iload_n hx hb dL_law_174 rfl (lv_at hl 3 rfl) ?_
  refine lv_iconst (v := (4 : Int32)) hx hb dL_law_175 (by decide) ?_
  refine lv_iadd hx hb dL_law_176 ?_
  obtain ⟨h1, hm⟩ := gd_ok hm
  refine va_sld hx hb hX hbl hbA hS (inB_ok h1) dL_law_177 ?_
  refine lv_aload_n hx hb dL_law_178 rfl (lv_at hl 0 rfl) ?_
  refine lv_iload_n hx hb dL_law_179 rfl (lv_at hl 3 rfl) ?_
  refine lv_iconst (v := (5 : Int32)) hx hb dL_law_180 (by decide) ?_
  refine lv_iadd hx hb dL_law_181 ?_
  obtain ⟨h1, hm⟩ := gd_ok hm
  refine va_sld hx hb hX hbl hbA hS (inB_ok h1) dL_law_182 ?_
  obtain ⟨r2, hr2, hm⟩ := bd_ok hm
  refine callLI (wf := wM b cI cZ) (wo := wC a cI cZ) (T := r1.2) (A := (fun q : Nat => s.heap.size ≤ q)) (rest := [.int r1.1]) X hK hNW hml hPo hP hS (acA hLb hS.1) (disMC hab) hl.1 (kX7_plate l D b cI cZ hB T H.size (xs (i + (1 : Int32)).toNatClampNeg) (xs (i + (2 : Int32)).toNatClampNeg) (xs (i + (3 : Int32)).toNatClampNeg) (xs (i + (4 : Int32)).toNatClampNeg) (xs (i + (5 : Int32)).toNatClampNeg) r2 hr2) (cwV 5 X.2.2.1 gL_law_X7_plate rfl rfl rfl (by decide +kernel) ⟨Nat.le_of_ble_eq_true rfl, Nat.le_of_ble_eq_true rfl⟩) (vM_X7 hK hPo) rfl rfl (Nat.le_of_ble_eq_true rfl) dL_law_183 ⟨lawC_le, lawS_le⟩ (fun H locs hPo hP hS => ?_)
  refine lv_icmp_eq (tgt := 744) hx hb dL_law_186 (by decide) (fun hc => ?_) (fun hc => ?_)
  · replace hm := (if_pos hc).symm.trans hm
    refine lv_iinc (v := (i + (6 : Int32))) (lv' := [(3, .int (i + (6 : Int32))), (0, .ref bs), (1, .ref (a 0)), (2, .ref (b 0))]) hx hb dL_law_744 hl (k := 3) rfl rfl (by decide) rfl (fun ls hl => ?_)
    refine lv_goto (tgt := 18) hx hb dL_law_747 (by decide) ?_
    exact hk r1.2 r2.2 (i + (6 : Int32)) H locs ls hP hPo hS (lv_sub hl [1, 2, 3, 0] rfl) hm
  · replace hm := (if_neg hc).symm.trans hm
    refine lv_iconst (v := (0 : Int32)) hx hb dL_law_189 (by decide) ?_
    exact absurd (Option.some.inj hm) (by decide)
set_option maxHeartbeats 4000000 in
set_option maxRecDepth 100000 in
theorem law_c1 {p : Program} {l : Launch} {e : Env} {s : State} {m : MethodId} {below : List Frame} {meth : Method} {c : Code} {D : va_G} {cI cZ : ClassId} {a b : Nat → Nat} {bs L : Nat} {xs : Nat → Int32} (X : CX p m c cL_law s #[Value.ref bs] wsL_law RL) (hK : va_K D vwCl (TYS cI cZ) s) (hNW : NW s) (hml : c.maxLocals = 4) (hX : va_X bs L xs s s.heap) (hbl : bs < s.heap.size) (hA : AP 24 a) (hB : AP 31 b) (hLa : ∀ k, k < 24 → s.heap.size ≤ a k) (hLb : ∀ k, k < 31 → s.heap.size ≤ b k) (hab : ∀ i j, i < 24 → j < 31 → a i ≠ b j) (k : ST → ST → Int32 → Option Int32) (hk : (∀ (S T : ST) (i : Int32) (H : Heap) (locs : List Loc) (ls : Array Slot), va_P D vwCl (wC a cI cZ S) H → va_P D vwCl (wM b cI cZ T) H → va_S (fun q : Nat => s.heap.size ≤ q) s.heap H locs → lv_has ls 4 [(0, .ref bs), (1, .ref (a 0)), (2, .ref (b 0)), (3, .int i)] → k S T i = some 1 → W p l e room_1 s m #[Value.ref bs] below meth c H locs lawC lawS (lw_Z below #[Value.ref bs] s) (F0 m 18 ls []))) : ∀ (S T : ST) (i : Int32) (H : Heap) (locs : List Loc) (ls : Array Slot), va_P D vwCl (wC a cI cZ S) H → va_P D vwCl (wM b cI cZ T) H → va_S (fun q : Nat => s.heap.size ≤ q) s.heap H locs → lv_has ls 4 [(0, .ref bs), (1, .ref (a 0)), (2, .ref (b 0)), (3, .int i)] → mL_c1 k xs L S T i = some 1 → W p l e room_1 s m #[Value.ref bs] below meth c H locs lawC lawS (lw_Z below #[Value.ref bs] s) (F0 m 191 ls []) := by
  have hbA : ¬ (fun q : Nat => s.heap.size ≤ q) bs := Nat.not_le.mpr hbl
  have hx := X.1
  have hb := X.2.1
  intro S T i H locs ls hP hPo hS hl hm
  unfold mL_c1 at hm
  refine lv_aload_n hx hb dL_law_191 rfl (lv_at hl 1 rfl) ?_
  refine lv_aload_n hx hb dL_law_192 rfl (lv_at hl 0 rfl) ?_
  refine lv_iload_n hx hb dL_law_193 rfl (lv_at hl 3 rfl) ?_
  refine lv_iconst (v := (1 : Int32)) hx hb dL_law_194 (by decide) ?_
  refine lv_iadd hx hb dL_law_195 ?_
  obtain ⟨h1, hm⟩ := gd_ok hm
  refine va_sld hx hb hX hbl hbA hS (inB_ok h1) dL_law_196 ?_
  refine lv_aload_n hx hb dL_law_197 rfl (lv_at hl 0 rfl) ?_
  refine lv_iload_n hx hb dL_law_198 rfl (lv_at hl 3 rfl) ?_
  refine lv_iconst (v := (2 : Int32)) hx hb dL_law_199 (by decide) ?_
  refine lv_iadd hx hb dL_law_200 ?_
  obtain ⟨h1, hm⟩ := gd_ok hm
  refine va_sld hx hb hX hbl hbA hS (inB_ok h1) dL_law_201 ?_
  refine lv_aload_n hx hb dL_law_202 rfl (lv_at hl 0 rfl) ?_
  refine lv_iload_n hx hb dL_law_203 rfl (lv_at hl 3 rfl) ?_
  refine lv_iconst (v := (3 : Int32)) hx hb dL_law_204 (by decide) ?_
  refine lv_iadd hx hb dL_law_205 ?_
  obtain ⟨h1, hm⟩ := gd_ok hm
  refine va_sld hx hb hX hbl hbA hS (inB_ok h1) dL_law_206 ?_
  refine lv_aload_n hx hb dL_law_207 rfl (lv_at hl 0 rfl) ?_
  refine lv_iload_n hx hb dL_law_208 rfl (lv_at hl 3 rfl) ?_
  refine lv_iconst (v := (4 : Int32)) hx hb dL_law_209 (by decide) ?_
  refine lv_iadd hx hb dL_law_210 ?_
  obtain ⟨h1, hm⟩ := gd_ok hm
  refine va_sld hx hb hX hbl hbA hS (inB_ok h1) dL_law_211 ?_
  obtain ⟨r1, hr1, hm⟩ := bd_ok hm
  refine callLI (wf := wC a cI cZ) (wo := wM b cI cZ) (T := T) (A := (fun q : Nat => s.heap.size ≤ q)) (rest := []) X hK hNW hml hP hPo hS (acA hLa hS.1) (disCM hab) hl.1 (kX6_defect l D a cI cZ hA S H.size (xs (i + (1 : Int32)).toNatClampNeg) (xs (i + (2 : Int32)).toNatClampNeg) (xs (i + (3 : Int32)).toNatClampNeg) (xs (i + (4 : Int32)).toNatClampNeg) r1 hr1) (cwV 4 X.2.2.1 gL_law_X6_defect rfl rfl rfl (by decide +kernel) ⟨Nat.le_of_ble_eq_true rfl, Nat.le_of_ble_eq_true rfl⟩) (vC_X6 hK hP) rfl rfl (Nat.le_of_ble_eq_true rfl) dL_law_212 ⟨lawC_le, lawS_le⟩ (fun H locs hP hPo hS => ?_)
  refine lv_aload_n hx hb dL_law_215 rfl (lv_at hl 2 rfl) ?_
  refine lv_aload_n hx hb dL_law_216 rfl (lv_at hl 0 rfl) ?_
  refine lv_iload_n hx hb dL_law_217 rfl (lv_at hl 3 rfl) ?_
  refine lv_iconst (v := (1 : Int32)) hx hb dL_law_218 (by decide) ?_
  refine lv_iadd hx hb dL_law_219 ?_
  obtain ⟨h1, hm⟩ := gd_ok hm
  refine va_sld hx hb hX hbl hbA hS (inB_ok h1) dL_law_220 ?_
  refine lv_aload_n hx hb dL_law_221 rfl (lv_at hl 0 rfl) ?_
  refine lv_iload_n hx hb dL_law_222 rfl (lv_at hl 3 rfl) ?_
  refine lv_iconst (v := (2 : Int32)) hx hb dL_law_223 (by decide) ?_
  refine lv_iadd hx hb dL_law_224 ?_
  obtain ⟨h1, hm⟩ := gd_ok hm
  refine va_sld hx hb hX hbl hbA hS (inB_ok h1) dL_law_225 ?_
  refine lv_aload_n hx hb dL_law_226 rfl (lv_at hl 0 rfl) ?_
  refine lv_iload_n hx hb dL_law_227 rfl (lv_at hl 3 rfl) ?_
  refine lv_iconst (v := (3 : Int32)) hx hb dL_law_228 (by decide) ?_
  refine lv_iadd hx hb dL_law_229 ?_
  obtain ⟨h1, hm⟩ := gd_ok hm
  refine va_sld hx hb hX hbl hbA hS (inB_ok h1) dL_law_230 ?_
  refine lv_aload_n hx hb dL_law_231 rfl (lv_at hl 0 rfl) ?_
  refine lv_iload_n hx hb dL_law_232 rfl (lv_at hl 3 rfl) ?_
  refine lv_iconst (v := (4 : Int32)) hx hb dL_law_233 (by decide) ?_
  refine lv_iadd hx hb dL_law_234 ?_
  obtain ⟨h1, hm⟩ := gd_ok hm
  refine va_sld hx hb hX hbl hbA hS (inB_ok h1) dL_law_235 ?_
  obtain ⟨r2, hr2, hm⟩ := bd_ok hm
  refine callLI (wf := wM b cI cZ) (wo := wC a cI cZ) (T := r1.2) (A := (fun q : Nat => s.heap.size ≤ q)) (rest := [.int r1.1]) X hK hNW hml hPo hP hS (acA hLb hS.1) (disMC hab) hl.1 (kX7_defect l D b cI cZ hB T H.size (xs (i + (1 : Int32)).toNatClampNeg) (xs (i + (2 : Int32)).toNatClampNeg) (xs (i + (3 : Int32)).toNatClampNeg) (xs (i + (4 : Int32)).toNatClampNeg) r2 hr2) (cwV 4 X.2.2.1 gL_law_X7_defect rfl rfl rfl (by decide +kernel) ⟨Nat.le_of_ble_eq_true rfl, Nat.le_of_ble_eq_true rfl⟩) (vM_X7 hK hPo) rfl rfl (Nat.le_of_ble_eq_true rfl) dL_law_236 ⟨lawC_le, lawS_le⟩ (fun H locs hPo hP hS => ?_)
  refine lv_icmp_eq (tgt := 744) hx hb dL_law_239 (by decide) (fun hc => ?_) (fun hc => ?_)
  · replace hm := (if_pos hc).symm.trans hm
    refine lv_iinc (v := (i + (6 : Int32))) (lv' := [(3, .int (i + (6 : Int32))), (0, .ref bs), (1, .ref (a 0)), (2, .ref (b 0))]) hx hb dL_law_744 hl (k := 3) rfl rfl (by decide) rfl (fun ls hl => ?_)
    refine lv_goto (tgt := 18) hx hb dL_law_747 (by decide) ?_
    exact hk r1.2 r2.2 (i + (6 : Int32)) H locs ls hP hPo hS (lv_sub hl [1, 2, 3, 0] rfl) hm
  · replace hm := (if_neg hc).symm.trans hm
    refine lv_iconst (v := (0 : Int32)) hx hb dL_law_242 (by decide) ?_
    exact absurd (Option.some.inj hm) (by decide)
set_option maxHeartbeats 4000000 in
set_option maxRecDepth 100000 in
theorem law_c2 {p : Program} {l : Launch} {e : Env} {s : State} {m : MethodId} {below : List Frame} {meth : Method} {c : Code} {D : va_G} {cI cZ : ClassId} {a b : Nat → Nat} {bs L : Nat} {xs : Nat → Int32} (X : CX p m c cL_law s #[Value.ref bs] wsL_law RL) (hK : va_K D vwCl (TYS cI cZ) s) (hNW : NW s) (hml : c.maxLocals = 4) (hX : va_X bs L xs s s.heap) (hbl : bs < s.heap.size) (hA : AP 24 a) (hB : AP 31 b) (hLa : ∀ k, k < 24 → s.heap.size ≤ a k) (hLb : ∀ k, k < 31 → s.heap.size ≤ b k) (hab : ∀ i j, i < 24 → j < 31 → a i ≠ b j) (k : ST → ST → Int32 → Option Int32) (hk : (∀ (S T : ST) (i : Int32) (H : Heap) (locs : List Loc) (ls : Array Slot), va_P D vwCl (wC a cI cZ S) H → va_P D vwCl (wM b cI cZ T) H → va_S (fun q : Nat => s.heap.size ≤ q) s.heap H locs → lv_has ls 4 [(0, .ref bs), (1, .ref (a 0)), (2, .ref (b 0)), (3, .int i)] → k S T i = some 1 → W p l e room_1 s m #[Value.ref bs] below meth c H locs lawC lawS (lw_Z below #[Value.ref bs] s) (F0 m 18 ls []))) : ∀ (S T : ST) (i : Int32) (H : Heap) (locs : List Loc) (ls : Array Slot), va_P D vwCl (wC a cI cZ S) H → va_P D vwCl (wM b cI cZ T) H → va_S (fun q : Nat => s.heap.size ≤ q) s.heap H locs → lv_has ls 4 [(0, .ref bs), (1, .ref (a 0)), (2, .ref (b 0)), (3, .int i)] → mL_c2 k xs L S T i = some 1 → W p l e room_1 s m #[Value.ref bs] below meth c H locs lawC lawS (lw_Z below #[Value.ref bs] s) (F0 m 244 ls []) := by
  have hbA : ¬ (fun q : Nat => s.heap.size ≤ q) bs := Nat.not_le.mpr hbl
  have hx := X.1
  have hb := X.2.1
  intro S T i H locs ls hP hPo hS hl hm
  unfold mL_c2 at hm
  refine lv_aload_n hx hb dL_law_244 rfl (lv_at hl 1 rfl) ?_
  refine lv_aload_n hx hb dL_law_245 rfl (lv_at hl 0 rfl) ?_
  refine lv_iload_n hx hb dL_law_246 rfl (lv_at hl 3 rfl) ?_
  refine lv_iconst (v := (1 : Int32)) hx hb dL_law_247 (by decide) ?_
  refine lv_iadd hx hb dL_law_248 ?_
  obtain ⟨h1, hm⟩ := gd_ok hm
  refine va_sld hx hb hX hbl hbA hS (inB_ok h1) dL_law_249 ?_
  refine lv_aload_n hx hb dL_law_250 rfl (lv_at hl 0 rfl) ?_
  refine lv_iload_n hx hb dL_law_251 rfl (lv_at hl 3 rfl) ?_
  refine lv_iconst (v := (2 : Int32)) hx hb dL_law_252 (by decide) ?_
  refine lv_iadd hx hb dL_law_253 ?_
  obtain ⟨h1, hm⟩ := gd_ok hm
  refine va_sld hx hb hX hbl hbA hS (inB_ok h1) dL_law_254 ?_
  refine lv_aload_n hx hb dL_law_255 rfl (lv_at hl 0 rfl) ?_
  refine lv_iload_n hx hb dL_law_256 rfl (lv_at hl 3 rfl) ?_
  refine lv_iconst (v := (3 : Int32)) hx hb dL_law_257 (by decide) ?_
  refine lv_iadd hx hb dL_law_258 ?_
  obtain ⟨h1, hm⟩ := gd_ok hm
  refine va_sld hx hb hX hbl hbA hS (inB_ok h1) dL_law_259 ?_
  refine lv_aload_n hx hb dL_law_260 rfl (lv_at hl 0 rfl) ?_
  refine lv_iload_n hx hb dL_law_261 rfl (lv_at hl 3 rfl) ?_
  refine lv_iconst (v := (4 : Int32)) hx hb dL_law_262 (by decide) ?_
  refine lv_iadd hx hb dL_law_263 ?_
  obtain ⟨h1, hm⟩ := gd_ok hm
  refine va_sld hx hb hX hbl hbA hS (inB_ok h1) dL_law_264 ?_
  have kJ273 : ∀ (z21 : Int32), mL_J273 k xs L S T i z21 = some 1 → W p l e room_1 s m #[Value.ref bs] below meth c H locs lawC lawS (lw_Z below #[Value.ref bs] s) (F0 m 273 ls [.int z21, .int (xs (i + (3 : Int32)).toNatClampNeg), .int (xs (i + (2 : Int32)).toNatClampNeg), .int (xs (i + (1 : Int32)).toNatClampNeg), .ref (a 0)]) := by
    intro z21 hm
    unfold mL_J273 at hm
    obtain ⟨r1, hr1, hm⟩ := bd_ok hm
    refine callLI (wf := wC a cI cZ) (wo := wM b cI cZ) (T := T) (A := (fun q : Nat => s.heap.size ≤ q)) (rest := []) X hK hNW hml hP hPo hS (acA hLa hS.1) (disCM hab) hl.1 (kX6_kind l D a cI cZ hA S H.size (xs (i + (1 : Int32)).toNatClampNeg) (xs (i + (2 : Int32)).toNatClampNeg) (xs (i + (3 : Int32)).toNatClampNeg) z21 r1 hr1) (cwV 4 X.2.2.1 gL_law_X6_kind rfl rfl rfl (by decide +kernel) ⟨Nat.le_of_ble_eq_true rfl, Nat.le_of_ble_eq_true rfl⟩) (vC_X6 hK hP) rfl rfl (Nat.le_of_ble_eq_true rfl) dL_law_273 ⟨lawC_le, lawS_le⟩ (fun H locs hP hPo hS => ?_)
    refine lv_aload_n hx hb dL_law_276 rfl (lv_at hl 2 rfl) ?_
    refine lv_aload_n hx hb dL_law_277 rfl (lv_at hl 0 rfl) ?_
    refine lv_iload_n hx hb dL_law_278 rfl (lv_at hl 3 rfl) ?_
    refine lv_iconst (v := (1 : Int32)) hx hb dL_law_279 (by decide) ?_
    refine lv_iadd hx hb dL_law_280 ?_
    obtain ⟨h1, hm⟩ := gd_ok hm
    refine va_sld hx hb hX hbl hbA hS (inB_ok h1) dL_law_281 ?_
    refine lv_aload_n hx hb dL_law_282 rfl (lv_at hl 0 rfl) ?_
    refine lv_iload_n hx hb dL_law_283 rfl (lv_at hl 3 rfl) ?_
    refine lv_iconst (v := (2 : Int32)) hx hb dL_law_284 (by decide) ?_
    refine lv_iadd hx hb dL_law_285 ?_
    obtain ⟨h1, hm⟩ := gd_ok hm
    refine va_sld hx hb hX hbl hbA hS (inB_ok h1) dL_law_286 ?_
    refine lv_aload_n hx hb dL_law_287 rfl (lv_at hl 0 rfl) ?_
    refine lv_iload_n hx hb dL_law_288 rfl (lv_at hl 3 rfl) ?_
    refine lv_iconst (v := (3 : Int32)) hx hb dL_law_289 (by decide) ?_
    refine lv_iadd hx hb dL_law_290 ?_
    obtain ⟨h1, hm⟩ := gd_ok hm
    refine va_sld hx hb hX hbl hbA hS (inB_ok h1) dL_law_291 ?_
    refine lv_aload_n hx hb dL_law_292 rfl (lv_at hl 0 rfl) ?_
    refine lv_iload_n hx hb dL_law_293 rfl (lv_at hl 3 rfl) ?_
    refine lv_iconst (v := (4 : Int32)) hx hb dL_law_294 (by decide) ?_
    refine lv_iadd hx hb dL_law_295 ?_
    obtain ⟨h1, hm⟩ := gd_ok hm
    refine va_sld hx hb hX hbl hbA hS (inB_ok h1) dL_law_296 ?_
    have kJ305 : ∀ (z22 : Int32), mL_J305 k xs L S T i r1 z22 = some 1 → W p l e room_1 s m #[Value.ref bs] below meth c H locs lawC lawS (lw_Z below #[Value.ref bs] s) (F0 m 305 ls [.int z22, .int (xs (i + (3 : Int32)).toNatClampNeg), .int (xs (i + (2 : Int32)).toNatClampNeg), .int (xs (i + (1 : Int32)).toNatClampNeg), .ref (b 0), .int r1.1]) := by
      intro z22 hm
      unfold mL_J305 at hm
      obtain ⟨r2, hr2, hm⟩ := bd_ok hm
      refine callLI (wf := wM b cI cZ) (wo := wC a cI cZ) (T := r1.2) (A := (fun q : Nat => s.heap.size ≤ q)) (rest := [.int r1.1]) X hK hNW hml hPo hP hS (acA hLb hS.1) (disMC hab) hl.1 (kX7_kind l D b cI cZ hB T H.size (xs (i + (1 : Int32)).toNatClampNeg) (xs (i + (2 : Int32)).toNatClampNeg) (xs (i + (3 : Int32)).toNatClampNeg) z22 r2 hr2) (cwV 4 X.2.2.1 gL_law_X7_kind rfl rfl rfl (by decide +kernel) ⟨Nat.le_of_ble_eq_true rfl, Nat.le_of_ble_eq_true rfl⟩) (vM_X7 hK hPo) rfl rfl (Nat.le_of_ble_eq_true rfl) dL_law_305 ⟨lawC_le, lawS_le⟩ (fun H locs hPo hP hS => ?_)
      refine lv_icmp_eq (tgt := 744) hx hb dL_law_308 (by decide) (fun hc => ?_) (fun hc => ?_)
      · replace hm := (if_pos hc).symm.trans hm
        refine lv_iinc (v := (i + (6 : Int32))) (lv' := [(3, .int (i + (6 : Int32))), (0, .ref bs), (1, .ref (a 0)), (2, .ref (b 0))]) hx hb dL_law_744 hl (k := 3) rfl rfl (by decide) rfl (fun ls hl => ?_)
        refine lv_goto (tgt := 18) hx hb dL_law_747 (by decide) ?_
        exact hk r1.2 r2.2 (i + (6 : Int32)) H locs ls hP hPo hS (lv_sub hl [1, 2, 3, 0] rfl) hm
      · replace hm := (if_neg hc).symm.trans hm
        refine lv_iconst (v := (0 : Int32)) hx hb dL_law_311 (by decide) ?_
        exact absurd (Option.some.inj hm) (by decide)
    refine lv_if_eq (tgt := 304) hx hb dL_law_297 (by decide) (fun hc => ?_) (fun hc => ?_)
    · replace hm := (if_pos hc).symm.trans hm
      refine lv_iconst (v := (0 : Int32)) hx hb dL_law_304 (by decide) ?_
      exact kJ305 (0 : Int32) hm
    · replace hm := (if_neg hc).symm.trans hm
      refine lv_iconst (v := (1 : Int32)) hx hb dL_law_300 (by decide) ?_
      refine lv_goto (tgt := 305) hx hb dL_law_301 (by decide) ?_
      exact kJ305 (1 : Int32) hm
  refine lv_if_eq (tgt := 272) hx hb dL_law_265 (by decide) (fun hc => ?_) (fun hc => ?_)
  · replace hm := (if_pos hc).symm.trans hm
    refine lv_iconst (v := (0 : Int32)) hx hb dL_law_272 (by decide) ?_
    exact kJ273 (0 : Int32) hm
  · replace hm := (if_neg hc).symm.trans hm
    refine lv_iconst (v := (1 : Int32)) hx hb dL_law_268 (by decide) ?_
    refine lv_goto (tgt := 273) hx hb dL_law_269 (by decide) ?_
    exact kJ273 (1 : Int32) hm
set_option maxHeartbeats 4000000 in
set_option maxRecDepth 100000 in
theorem law_c3 {p : Program} {l : Launch} {e : Env} {s : State} {m : MethodId} {below : List Frame} {meth : Method} {c : Code} {D : va_G} {cI cZ : ClassId} {a b : Nat → Nat} {bs L : Nat} {xs : Nat → Int32} (X : CX p m c cL_law s #[Value.ref bs] wsL_law RL) (hK : va_K D vwCl (TYS cI cZ) s) (hNW : NW s) (hml : c.maxLocals = 4) (hX : va_X bs L xs s s.heap) (hbl : bs < s.heap.size) (hA : AP 24 a) (hB : AP 31 b) (hLa : ∀ k, k < 24 → s.heap.size ≤ a k) (hLb : ∀ k, k < 31 → s.heap.size ≤ b k) (hab : ∀ i j, i < 24 → j < 31 → a i ≠ b j) (k : ST → ST → Int32 → Option Int32) (hk : (∀ (S T : ST) (i : Int32) (H : Heap) (locs : List Loc) (ls : Array Slot), va_P D vwCl (wC a cI cZ S) H → va_P D vwCl (wM b cI cZ T) H → va_S (fun q : Nat => s.heap.size ≤ q) s.heap H locs → lv_has ls 4 [(0, .ref bs), (1, .ref (a 0)), (2, .ref (b 0)), (3, .int i)] → k S T i = some 1 → W p l e room_1 s m #[Value.ref bs] below meth c H locs lawC lawS (lw_Z below #[Value.ref bs] s) (F0 m 18 ls []))) : ∀ (S T : ST) (i : Int32) (H : Heap) (locs : List Loc) (ls : Array Slot), va_P D vwCl (wC a cI cZ S) H → va_P D vwCl (wM b cI cZ T) H → va_S (fun q : Nat => s.heap.size ≤ q) s.heap H locs → lv_has ls 4 [(0, .ref bs), (1, .ref (a 0)), (2, .ref (b 0)), (3, .int i)] → mL_c3 k xs L S T i = some 1 → W p l e room_1 s m #[Value.ref bs] below meth c H locs lawC lawS (lw_Z below #[Value.ref bs] s) (F0 m 313 ls []) := by
  have hbA : ¬ (fun q : Nat => s.heap.size ≤ q) bs := Nat.not_le.mpr hbl
  have hx := X.1
  have hb := X.2.1
  intro S T i H locs ls hP hPo hS hl hm
  unfold mL_c3 at hm
  refine lv_aload_n hx hb dL_law_313 rfl (lv_at hl 1 rfl) ?_
  refine lv_aload_n hx hb dL_law_314 rfl (lv_at hl 0 rfl) ?_
  refine lv_iload_n hx hb dL_law_315 rfl (lv_at hl 3 rfl) ?_
  refine lv_iconst (v := (1 : Int32)) hx hb dL_law_316 (by decide) ?_
  refine lv_iadd hx hb dL_law_317 ?_
  obtain ⟨h1, hm⟩ := gd_ok hm
  refine va_sld hx hb hX hbl hbA hS (inB_ok h1) dL_law_318 ?_
  refine lv_aload_n hx hb dL_law_319 rfl (lv_at hl 0 rfl) ?_
  refine lv_iload_n hx hb dL_law_320 rfl (lv_at hl 3 rfl) ?_
  refine lv_iconst (v := (2 : Int32)) hx hb dL_law_321 (by decide) ?_
  refine lv_iadd hx hb dL_law_322 ?_
  obtain ⟨h1, hm⟩ := gd_ok hm
  refine va_sld hx hb hX hbl hbA hS (inB_ok h1) dL_law_323 ?_
  obtain ⟨r1, hr1, hm⟩ := bd_ok hm
  refine callLI (wf := wC a cI cZ) (wo := wM b cI cZ) (T := T) (A := (fun q : Nat => s.heap.size ≤ q)) (rest := []) X hK hNW hml hP hPo hS (acA hLa hS.1) (disCM hab) hl.1 (kX6_value l D a cI cZ hA S H.size (xs (i + (1 : Int32)).toNatClampNeg) (xs (i + (2 : Int32)).toNatClampNeg) r1 hr1) (cwV 2 X.2.2.1 gL_law_X6_value rfl rfl rfl (by decide +kernel) ⟨Nat.le_of_ble_eq_true rfl, Nat.le_of_ble_eq_true rfl⟩) (vC_X6 hK hP) rfl rfl (Nat.le_of_ble_eq_true rfl) dL_law_324 ⟨lawC_le, lawS_le⟩ (fun H locs hP hPo hS => ?_)
  refine lv_aload_n hx hb dL_law_327 rfl (lv_at hl 2 rfl) ?_
  refine lv_aload_n hx hb dL_law_328 rfl (lv_at hl 0 rfl) ?_
  refine lv_iload_n hx hb dL_law_329 rfl (lv_at hl 3 rfl) ?_
  refine lv_iconst (v := (1 : Int32)) hx hb dL_law_330 (by decide) ?_
  refine lv_iadd hx hb dL_law_331 ?_
  obtain ⟨h1, hm⟩ := gd_ok hm
  refine va_sld hx hb hX hbl hbA hS (inB_ok h1) dL_law_332 ?_
  refine lv_aload_n hx hb dL_law_333 rfl (lv_at hl 0 rfl) ?_
  refine lv_iload_n hx hb dL_law_334 rfl (lv_at hl 3 rfl) ?_
  refine lv_iconst (v := (2 : Int32)) hx hb dL_law_335 (by decide) ?_
  refine lv_iadd hx hb dL_law_336 ?_
  obtain ⟨h1, hm⟩ := gd_ok hm
  refine va_sld hx hb hX hbl hbA hS (inB_ok h1) dL_law_337 ?_
  obtain ⟨r2, hr2, hm⟩ := bd_ok hm
  refine callLI (wf := wM b cI cZ) (wo := wC a cI cZ) (T := r1.2) (A := (fun q : Nat => s.heap.size ≤ q)) (rest := [.int r1.1]) X hK hNW hml hPo hP hS (acA hLb hS.1) (disMC hab) hl.1 (kX7_value l D b cI cZ hB T H.size (xs (i + (1 : Int32)).toNatClampNeg) (xs (i + (2 : Int32)).toNatClampNeg) r2 hr2) (cwV 2 X.2.2.1 gL_law_X7_value rfl rfl rfl (by decide +kernel) ⟨Nat.le_of_ble_eq_true rfl, Nat.le_of_ble_eq_true rfl⟩) (vM_X7 hK hPo) rfl rfl (Nat.le_of_ble_eq_true rfl) dL_law_338 ⟨lawC_le, lawS_le⟩ (fun H locs hPo hP hS => ?_)
  refine lv_icmp_eq (tgt := 744) hx hb dL_law_341 (by decide) (fun hc => ?_) (fun hc => ?_)
  · replace hm := (if_pos hc).symm.trans hm
    refine lv_iinc (v := (i + (6 : Int32))) (lv' := [(3, .int (i + (6 : Int32))), (0, .ref bs), (1, .ref (a 0)), (2, .ref (b 0))]) hx hb dL_law_744 hl (k := 3) rfl rfl (by decide) rfl (fun ls hl => ?_)
    refine lv_goto (tgt := 18) hx hb dL_law_747 (by decide) ?_
    exact hk r1.2 r2.2 (i + (6 : Int32)) H locs ls hP hPo hS (lv_sub hl [1, 2, 3, 0] rfl) hm
  · replace hm := (if_neg hc).symm.trans hm
    refine lv_iconst (v := (0 : Int32)) hx hb dL_law_344 (by decide) ?_
    exact absurd (Option.some.inj hm) (by decide)
set_option maxHeartbeats 4000000 in
set_option maxRecDepth 100000 in
theorem law_c4 {p : Program} {l : Launch} {e : Env} {s : State} {m : MethodId} {below : List Frame} {meth : Method} {c : Code} {D : va_G} {cI cZ : ClassId} {a b : Nat → Nat} {bs L : Nat} {xs : Nat → Int32} (X : CX p m c cL_law s #[Value.ref bs] wsL_law RL) (hK : va_K D vwCl (TYS cI cZ) s) (hNW : NW s) (hml : c.maxLocals = 4) (hX : va_X bs L xs s s.heap) (hbl : bs < s.heap.size) (hA : AP 24 a) (hB : AP 31 b) (hLa : ∀ k, k < 24 → s.heap.size ≤ a k) (hLb : ∀ k, k < 31 → s.heap.size ≤ b k) (hab : ∀ i j, i < 24 → j < 31 → a i ≠ b j) (k : ST → ST → Int32 → Option Int32) (hk : (∀ (S T : ST) (i : Int32) (H : Heap) (locs : List Loc) (ls : Array Slot), va_P D vwCl (wC a cI cZ S) H → va_P D vwCl (wM b cI cZ T) H → va_S (fun q : Nat => s.heap.size ≤ q) s.heap H locs → lv_has ls 4 [(0, .ref bs), (1, .ref (a 0)), (2, .ref (b 0)), (3, .int i)] → k S T i = some 1 → W p l e room_1 s m #[Value.ref bs] below meth c H locs lawC lawS (lw_Z below #[Value.ref bs] s) (F0 m 18 ls []))) : ∀ (S T : ST) (i : Int32) (H : Heap) (locs : List Loc) (ls : Array Slot), va_P D vwCl (wC a cI cZ S) H → va_P D vwCl (wM b cI cZ T) H → va_S (fun q : Nat => s.heap.size ≤ q) s.heap H locs → lv_has ls 4 [(0, .ref bs), (1, .ref (a 0)), (2, .ref (b 0)), (3, .int i)] → mL_c4 k xs L S T i = some 1 → W p l e room_1 s m #[Value.ref bs] below meth c H locs lawC lawS (lw_Z below #[Value.ref bs] s) (F0 m 346 ls []) := by
  have hbA : ¬ (fun q : Nat => s.heap.size ≤ q) bs := Nat.not_le.mpr hbl
  have hx := X.1
  have hb := X.2.1
  intro S T i H locs ls hP hPo hS hl hm
  unfold mL_c4 at hm
  refine lv_aload_n hx hb dL_law_346 rfl (lv_at hl 1 rfl) ?_
  refine lv_aload_n hx hb dL_law_347 rfl (lv_at hl 0 rfl) ?_
  refine lv_iload_n hx hb dL_law_348 rfl (lv_at hl 3 rfl) ?_
  refine lv_iconst (v := (1 : Int32)) hx hb dL_law_349 (by decide) ?_
  refine lv_iadd hx hb dL_law_350 ?_
  obtain ⟨h1, hm⟩ := gd_ok hm
  refine va_sld hx hb hX hbl hbA hS (inB_ok h1) dL_law_351 ?_
  refine lv_aload_n hx hb dL_law_352 rfl (lv_at hl 0 rfl) ?_
  refine lv_iload_n hx hb dL_law_353 rfl (lv_at hl 3 rfl) ?_
  refine lv_iconst (v := (2 : Int32)) hx hb dL_law_354 (by decide) ?_
  refine lv_iadd hx hb dL_law_355 ?_
  obtain ⟨h1, hm⟩ := gd_ok hm
  refine va_sld hx hb hX hbl hbA hS (inB_ok h1) dL_law_356 ?_
  refine lv_aload_n hx hb dL_law_357 rfl (lv_at hl 0 rfl) ?_
  refine lv_iload_n hx hb dL_law_358 rfl (lv_at hl 3 rfl) ?_
  refine lv_iconst (v := (3 : Int32)) hx hb dL_law_359 (by decide) ?_
  refine lv_iadd hx hb dL_law_360 ?_
  obtain ⟨h1, hm⟩ := gd_ok hm
  refine va_sld hx hb hX hbl hbA hS (inB_ok h1) dL_law_361 ?_
  refine lv_aload_n hx hb dL_law_362 rfl (lv_at hl 0 rfl) ?_
  refine lv_iload_n hx hb dL_law_363 rfl (lv_at hl 3 rfl) ?_
  refine lv_iconst (v := (4 : Int32)) hx hb dL_law_364 (by decide) ?_
  refine lv_iadd hx hb dL_law_365 ?_
  obtain ⟨h1, hm⟩ := gd_ok hm
  refine va_sld hx hb hX hbl hbA hS (inB_ok h1) dL_law_366 ?_
  refine lv_aload_n hx hb dL_law_367 rfl (lv_at hl 0 rfl) ?_
  refine lv_iload_n hx hb dL_law_368 rfl (lv_at hl 3 rfl) ?_
  refine lv_iconst (v := (5 : Int32)) hx hb dL_law_369 (by decide) ?_
  refine lv_iadd hx hb dL_law_370 ?_
  obtain ⟨h1, hm⟩ := gd_ok hm
  refine va_sld hx hb hX hbl hbA hS (inB_ok h1) dL_law_371 ?_
  obtain ⟨r1, hr1, hm⟩ := bd_ok hm
  refine callLI (wf := wC a cI cZ) (wo := wM b cI cZ) (T := T) (A := (fun q : Nat => s.heap.size ≤ q)) (rest := []) X hK hNW hml hP hPo hS (acA hLa hS.1) (disCM hab) hl.1 (kX6_worth l D a cI cZ hA S H.size (xs (i + (1 : Int32)).toNatClampNeg) (xs (i + (2 : Int32)).toNatClampNeg) (xs (i + (3 : Int32)).toNatClampNeg) (xs (i + (4 : Int32)).toNatClampNeg) (xs (i + (5 : Int32)).toNatClampNeg) r1 hr1) (cwV 5 X.2.2.1 gL_law_X6_worth rfl rfl rfl (by decide +kernel) ⟨Nat.le_of_ble_eq_true rfl, Nat.le_of_ble_eq_true rfl⟩) (vC_X6 hK hP) rfl rfl (Nat.le_of_ble_eq_true rfl) dL_law_372 ⟨lawC_le, lawS_le⟩ (fun H locs hP hPo hS => ?_)
  refine lv_aload_n hx hb dL_law_375 rfl (lv_at hl 2 rfl) ?_
  refine lv_aload_n hx hb dL_law_376 rfl (lv_at hl 0 rfl) ?_
  refine lv_iload_n hx hb dL_law_377 rfl (lv_at hl 3 rfl) ?_
  refine lv_iconst (v := (1 : Int32)) hx hb dL_law_378 (by decide) ?_
  refine lv_iadd hx hb dL_law_379 ?_
  obtain ⟨h1, hm⟩ := gd_ok hm
  refine va_sld hx hb hX hbl hbA hS (inB_ok h1) dL_law_380 ?_
  refine lv_aload_n hx hb dL_law_381 rfl (lv_at hl 0 rfl) ?_
  refine lv_iload_n hx hb dL_law_382 rfl (lv_at hl 3 rfl) ?_
  refine lv_iconst (v := (2 : Int32)) hx hb dL_law_383 (by decide) ?_
  refine lv_iadd hx hb dL_law_384 ?_
  obtain ⟨h1, hm⟩ := gd_ok hm
  refine va_sld hx hb hX hbl hbA hS (inB_ok h1) dL_law_385 ?_
  refine lv_aload_n hx hb dL_law_386 rfl (lv_at hl 0 rfl) ?_
  refine lv_iload_n hx hb dL_law_387 rfl (lv_at hl 3 rfl) ?_
  refine lv_iconst (v := (3 : Int32)) hx hb dL_law_388 (by decide) ?_
  refine lv_iadd hx hb dL_law_389 ?_
  obtain ⟨h1, hm⟩ := gd_ok hm
  refine va_sld hx hb hX hbl hbA hS (inB_ok h1) dL_law_390 ?_
  refine lv_aload_n hx hb dL_law_391 rfl (lv_at hl 0 rfl) ?_
  refine lv_iload_n hx hb dL_law_392 rfl (lv_at hl 3 rfl) ?_
  refine lv_iconst (v := (4 : Int32)) hx hb dL_law_393 (by decide) ?_
  refine lv_iadd hx hb dL_law_394 ?_
  obtain ⟨h1, hm⟩ := gd_ok hm
  refine va_sld hx hb hX hbl hbA hS (inB_ok h1) dL_law_395 ?_
  refine lv_aload_n hx hb dL_law_396 rfl (lv_at hl 0 rfl) ?_
  refine lv_iload_n hx hb dL_law_397 rfl (lv_at hl 3 rfl) ?_
  refine lv_iconst (v := (5 : Int32)) hx hb dL_law_398 (by decide) ?_
  refine lv_iadd hx hb dL_law_399 ?_
  obtain ⟨h1, hm⟩ := gd_ok hm
  refine va_sld hx hb hX hbl hbA hS (inB_ok h1) dL_law_400 ?_
  obtain ⟨r2, hr2, hm⟩ := bd_ok hm
  refine callLI (wf := wM b cI cZ) (wo := wC a cI cZ) (T := r1.2) (A := (fun q : Nat => s.heap.size ≤ q)) (rest := [.int r1.1]) X hK hNW hml hPo hP hS (acA hLb hS.1) (disMC hab) hl.1 (kX7_worth l D b cI cZ hB T H.size (xs (i + (1 : Int32)).toNatClampNeg) (xs (i + (2 : Int32)).toNatClampNeg) (xs (i + (3 : Int32)).toNatClampNeg) (xs (i + (4 : Int32)).toNatClampNeg) (xs (i + (5 : Int32)).toNatClampNeg) r2 hr2) (cwV 5 X.2.2.1 gL_law_X7_worth rfl rfl rfl (by decide +kernel) ⟨Nat.le_of_ble_eq_true rfl, Nat.le_of_ble_eq_true rfl⟩) (vM_X7 hK hPo) rfl rfl (Nat.le_of_ble_eq_true rfl) dL_law_401 ⟨lawC_le, lawS_le⟩ (fun H locs hPo hP hS => ?_)
  refine lv_icmp_eq (tgt := 744) hx hb dL_law_404 (by decide) (fun hc => ?_) (fun hc => ?_)
  · replace hm := (if_pos hc).symm.trans hm
    refine lv_iinc (v := (i + (6 : Int32))) (lv' := [(3, .int (i + (6 : Int32))), (0, .ref bs), (1, .ref (a 0)), (2, .ref (b 0))]) hx hb dL_law_744 hl (k := 3) rfl rfl (by decide) rfl (fun ls hl => ?_)
    refine lv_goto (tgt := 18) hx hb dL_law_747 (by decide) ?_
    exact hk r1.2 r2.2 (i + (6 : Int32)) H locs ls hP hPo hS (lv_sub hl [1, 2, 3, 0] rfl) hm
  · replace hm := (if_neg hc).symm.trans hm
    refine lv_iconst (v := (0 : Int32)) hx hb dL_law_407 (by decide) ?_
    exact absurd (Option.some.inj hm) (by decide)
set_option maxHeartbeats 4000000 in
set_option maxRecDepth 100000 in
theorem law_c5 {p : Program} {l : Launch} {e : Env} {s : State} {m : MethodId} {below : List Frame} {meth : Method} {c : Code} {D : va_G} {cI cZ : ClassId} {a b : Nat → Nat} {bs L : Nat} {xs : Nat → Int32} (X : CX p m c cL_law s #[Value.ref bs] wsL_law RL) (hK : va_K D vwCl (TYS cI cZ) s) (hNW : NW s) (hml : c.maxLocals = 4) (hX : va_X bs L xs s s.heap) (hbl : bs < s.heap.size) (hA : AP 24 a) (hB : AP 31 b) (hLa : ∀ k, k < 24 → s.heap.size ≤ a k) (hLb : ∀ k, k < 31 → s.heap.size ≤ b k) (hab : ∀ i j, i < 24 → j < 31 → a i ≠ b j) (k : ST → ST → Int32 → Option Int32) (hk : (∀ (S T : ST) (i : Int32) (H : Heap) (locs : List Loc) (ls : Array Slot), va_P D vwCl (wC a cI cZ S) H → va_P D vwCl (wM b cI cZ T) H → va_S (fun q : Nat => s.heap.size ≤ q) s.heap H locs → lv_has ls 4 [(0, .ref bs), (1, .ref (a 0)), (2, .ref (b 0)), (3, .int i)] → k S T i = some 1 → W p l e room_1 s m #[Value.ref bs] below meth c H locs lawC lawS (lw_Z below #[Value.ref bs] s) (F0 m 18 ls []))) : ∀ (S T : ST) (i : Int32) (H : Heap) (locs : List Loc) (ls : Array Slot), va_P D vwCl (wC a cI cZ S) H → va_P D vwCl (wM b cI cZ T) H → va_S (fun q : Nat => s.heap.size ≤ q) s.heap H locs → lv_has ls 4 [(0, .ref bs), (1, .ref (a 0)), (2, .ref (b 0)), (3, .int i)] → mL_c5 k xs L S T i = some 1 → W p l e room_1 s m #[Value.ref bs] below meth c H locs lawC lawS (lw_Z below #[Value.ref bs] s) (F0 m 409 ls []) := by
  have hbA : ¬ (fun q : Nat => s.heap.size ≤ q) bs := Nat.not_le.mpr hbl
  have hx := X.1
  have hb := X.2.1
  intro S T i H locs ls hP hPo hS hl hm
  unfold mL_c5 at hm
  refine lv_aload_n hx hb dL_law_409 rfl (lv_at hl 1 rfl) ?_
  obtain ⟨r1, hr1, hm⟩ := bd_ok hm
  refine callLI (wf := wC a cI cZ) (wo := wM b cI cZ) (T := T) (A := (fun q : Nat => s.heap.size ≤ q)) (rest := []) X hK hNW hml hP hPo hS (acA hLa hS.1) (disCM hab) hl.1 (kX6_pieces l D a cI cZ hA S H.size  r1 hr1) (cwV 0 X.2.2.1 gL_law_X6_pieces rfl rfl rfl (by decide +kernel) ⟨Nat.le_of_ble_eq_true rfl, Nat.le_of_ble_eq_true rfl⟩) (vC_X6 hK hP) rfl rfl (Nat.le_of_ble_eq_true rfl) dL_law_410 ⟨lawC_le, lawS_le⟩ (fun H locs hP hPo hS => ?_)
  refine lv_aload_n hx hb dL_law_413 rfl (lv_at hl 2 rfl) ?_
  obtain ⟨r2, hr2, hm⟩ := bd_ok hm
  refine callLI (wf := wM b cI cZ) (wo := wC a cI cZ) (T := r1.2) (A := (fun q : Nat => s.heap.size ≤ q)) (rest := [.int r1.1]) X hK hNW hml hPo hP hS (acA hLb hS.1) (disMC hab) hl.1 (kX7_pieces l D b cI cZ hB T H.size  r2 hr2) (cwV 0 X.2.2.1 gL_law_X7_pieces rfl rfl rfl (by decide +kernel) ⟨Nat.le_of_ble_eq_true rfl, Nat.le_of_ble_eq_true rfl⟩) (vM_X7 hK hPo) rfl rfl (Nat.le_of_ble_eq_true rfl) dL_law_414 ⟨lawC_le, lawS_le⟩ (fun H locs hPo hP hS => ?_)
  refine lv_icmp_eq (tgt := 744) hx hb dL_law_417 (by decide) (fun hc => ?_) (fun hc => ?_)
  · replace hm := (if_pos hc).symm.trans hm
    refine lv_iinc (v := (i + (6 : Int32))) (lv' := [(3, .int (i + (6 : Int32))), (0, .ref bs), (1, .ref (a 0)), (2, .ref (b 0))]) hx hb dL_law_744 hl (k := 3) rfl rfl (by decide) rfl (fun ls hl => ?_)
    refine lv_goto (tgt := 18) hx hb dL_law_747 (by decide) ?_
    exact hk r1.2 r2.2 (i + (6 : Int32)) H locs ls hP hPo hS (lv_sub hl [1, 2, 3, 0] rfl) hm
  · replace hm := (if_neg hc).symm.trans hm
    refine lv_iconst (v := (0 : Int32)) hx hb dL_law_420 (by decide) ?_
    exact absurd (Option.some.inj hm) (by decide)
set_option maxHeartbeats 4000000 in
set_option maxRecDepth 100000 in
theorem law_c6 {p : Program} {l : Launch} {e : Env} {s : State} {m : MethodId} {below : List Frame} {meth : Method} {c : Code} {D : va_G} {cI cZ : ClassId} {a b : Nat → Nat} {bs L : Nat} {xs : Nat → Int32} (X : CX p m c cL_law s #[Value.ref bs] wsL_law RL) (hK : va_K D vwCl (TYS cI cZ) s) (hNW : NW s) (hml : c.maxLocals = 4) (hX : va_X bs L xs s s.heap) (hbl : bs < s.heap.size) (hA : AP 24 a) (hB : AP 31 b) (hLa : ∀ k, k < 24 → s.heap.size ≤ a k) (hLb : ∀ k, k < 31 → s.heap.size ≤ b k) (hab : ∀ i j, i < 24 → j < 31 → a i ≠ b j) (k : ST → ST → Int32 → Option Int32) (hk : (∀ (S T : ST) (i : Int32) (H : Heap) (locs : List Loc) (ls : Array Slot), va_P D vwCl (wC a cI cZ S) H → va_P D vwCl (wM b cI cZ T) H → va_S (fun q : Nat => s.heap.size ≤ q) s.heap H locs → lv_has ls 4 [(0, .ref bs), (1, .ref (a 0)), (2, .ref (b 0)), (3, .int i)] → k S T i = some 1 → W p l e room_1 s m #[Value.ref bs] below meth c H locs lawC lawS (lw_Z below #[Value.ref bs] s) (F0 m 18 ls []))) : ∀ (S T : ST) (i : Int32) (H : Heap) (locs : List Loc) (ls : Array Slot), va_P D vwCl (wC a cI cZ S) H → va_P D vwCl (wM b cI cZ T) H → va_S (fun q : Nat => s.heap.size ≤ q) s.heap H locs → lv_has ls 4 [(0, .ref bs), (1, .ref (a 0)), (2, .ref (b 0)), (3, .int i)] → mL_c6 k xs L S T i = some 1 → W p l e room_1 s m #[Value.ref bs] below meth c H locs lawC lawS (lw_Z below #[Value.ref bs] s) (F0 m 422 ls []) := by
  have hbA : ¬ (fun q : Nat => s.heap.size ≤ q) bs := Nat.not_le.mpr hbl
  have hx := X.1
  have hb := X.2.1
  intro S T i H locs ls hP hPo hS hl hm
  unfold mL_c6 at hm
  refine lv_aload_n hx hb dL_law_422 rfl (lv_at hl 1 rfl) ?_
  refine lv_aload_n hx hb dL_law_423 rfl (lv_at hl 0 rfl) ?_
  refine lv_iload_n hx hb dL_law_424 rfl (lv_at hl 3 rfl) ?_
  refine lv_iconst (v := (1 : Int32)) hx hb dL_law_425 (by decide) ?_
  refine lv_iadd hx hb dL_law_426 ?_
  obtain ⟨h1, hm⟩ := gd_ok hm
  refine va_sld hx hb hX hbl hbA hS (inB_ok h1) dL_law_427 ?_
  refine lv_aload_n hx hb dL_law_428 rfl (lv_at hl 0 rfl) ?_
  refine lv_iload_n hx hb dL_law_429 rfl (lv_at hl 3 rfl) ?_
  refine lv_iconst (v := (2 : Int32)) hx hb dL_law_430 (by decide) ?_
  refine lv_iadd hx hb dL_law_431 ?_
  obtain ⟨h1, hm⟩ := gd_ok hm
  refine va_sld hx hb hX hbl hbA hS (inB_ok h1) dL_law_432 ?_
  obtain ⟨r1, hr1, hm⟩ := bd_ok hm
  refine callLI (wf := wC a cI cZ) (wo := wM b cI cZ) (T := T) (A := (fun q : Nat => s.heap.size ≤ q)) (rest := []) X hK hNW hml hP hPo hS (acA hLa hS.1) (disCM hab) hl.1 (kX6_piece l D a cI cZ hA S H.size (xs (i + (1 : Int32)).toNatClampNeg) (xs (i + (2 : Int32)).toNatClampNeg) r1 hr1) (cwV 2 X.2.2.1 gL_law_X6_piece rfl rfl rfl (by decide +kernel) ⟨Nat.le_of_ble_eq_true rfl, Nat.le_of_ble_eq_true rfl⟩) (vC_X6 hK hP) rfl rfl (Nat.le_of_ble_eq_true rfl) dL_law_433 ⟨lawC_le, lawS_le⟩ (fun H locs hP hPo hS => ?_)
  refine lv_aload_n hx hb dL_law_436 rfl (lv_at hl 2 rfl) ?_
  refine lv_aload_n hx hb dL_law_437 rfl (lv_at hl 0 rfl) ?_
  refine lv_iload_n hx hb dL_law_438 rfl (lv_at hl 3 rfl) ?_
  refine lv_iconst (v := (1 : Int32)) hx hb dL_law_439 (by decide) ?_
  refine lv_iadd hx hb dL_law_440 ?_
  obtain ⟨h1, hm⟩ := gd_ok hm
  refine va_sld hx hb hX hbl hbA hS (inB_ok h1) dL_law_441 ?_
  refine lv_aload_n hx hb dL_law_442 rfl (lv_at hl 0 rfl) ?_
  refine lv_iload_n hx hb dL_law_443 rfl (lv_at hl 3 rfl) ?_
  refine lv_iconst (v := (2 : Int32)) hx hb dL_law_444 (by decide) ?_
  refine lv_iadd hx hb dL_law_445 ?_
  obtain ⟨h1, hm⟩ := gd_ok hm
  refine va_sld hx hb hX hbl hbA hS (inB_ok h1) dL_law_446 ?_
  obtain ⟨r2, hr2, hm⟩ := bd_ok hm
  refine callLI (wf := wM b cI cZ) (wo := wC a cI cZ) (T := r1.2) (A := (fun q : Nat => s.heap.size ≤ q)) (rest := [.int r1.1]) X hK hNW hml hPo hP hS (acA hLb hS.1) (disMC hab) hl.1 (kX7_piece l D b cI cZ hB T H.size (xs (i + (1 : Int32)).toNatClampNeg) (xs (i + (2 : Int32)).toNatClampNeg) r2 hr2) (cwV 2 X.2.2.1 gL_law_X7_piece rfl rfl rfl (by decide +kernel) ⟨Nat.le_of_ble_eq_true rfl, Nat.le_of_ble_eq_true rfl⟩) (vM_X7 hK hPo) rfl rfl (Nat.le_of_ble_eq_true rfl) dL_law_447 ⟨lawC_le, lawS_le⟩ (fun H locs hPo hP hS => ?_)
  refine lv_icmp_eq (tgt := 744) hx hb dL_law_450 (by decide) (fun hc => ?_) (fun hc => ?_)
  · replace hm := (if_pos hc).symm.trans hm
    refine lv_iinc (v := (i + (6 : Int32))) (lv' := [(3, .int (i + (6 : Int32))), (0, .ref bs), (1, .ref (a 0)), (2, .ref (b 0))]) hx hb dL_law_744 hl (k := 3) rfl rfl (by decide) rfl (fun ls hl => ?_)
    refine lv_goto (tgt := 18) hx hb dL_law_747 (by decide) ?_
    exact hk r1.2 r2.2 (i + (6 : Int32)) H locs ls hP hPo hS (lv_sub hl [1, 2, 3, 0] rfl) hm
  · replace hm := (if_neg hc).symm.trans hm
    refine lv_iconst (v := (0 : Int32)) hx hb dL_law_453 (by decide) ?_
    exact absurd (Option.some.inj hm) (by decide)
set_option maxHeartbeats 4000000 in
set_option maxRecDepth 100000 in
theorem law_c7 {p : Program} {l : Launch} {e : Env} {s : State} {m : MethodId} {below : List Frame} {meth : Method} {c : Code} {D : va_G} {cI cZ : ClassId} {a b : Nat → Nat} {bs L : Nat} {xs : Nat → Int32} (X : CX p m c cL_law s #[Value.ref bs] wsL_law RL) (hK : va_K D vwCl (TYS cI cZ) s) (hNW : NW s) (hml : c.maxLocals = 4) (hX : va_X bs L xs s s.heap) (hbl : bs < s.heap.size) (hA : AP 24 a) (hB : AP 31 b) (hLa : ∀ k, k < 24 → s.heap.size ≤ a k) (hLb : ∀ k, k < 31 → s.heap.size ≤ b k) (hab : ∀ i j, i < 24 → j < 31 → a i ≠ b j) (k : ST → ST → Int32 → Option Int32) (hk : (∀ (S T : ST) (i : Int32) (H : Heap) (locs : List Loc) (ls : Array Slot), va_P D vwCl (wC a cI cZ S) H → va_P D vwCl (wM b cI cZ T) H → va_S (fun q : Nat => s.heap.size ≤ q) s.heap H locs → lv_has ls 4 [(0, .ref bs), (1, .ref (a 0)), (2, .ref (b 0)), (3, .int i)] → k S T i = some 1 → W p l e room_1 s m #[Value.ref bs] below meth c H locs lawC lawS (lw_Z below #[Value.ref bs] s) (F0 m 18 ls []))) : ∀ (S T : ST) (i : Int32) (H : Heap) (locs : List Loc) (ls : Array Slot), va_P D vwCl (wC a cI cZ S) H → va_P D vwCl (wM b cI cZ T) H → va_S (fun q : Nat => s.heap.size ≤ q) s.heap H locs → lv_has ls 4 [(0, .ref bs), (1, .ref (a 0)), (2, .ref (b 0)), (3, .int i)] → mL_c7 k xs L S T i = some 1 → W p l e room_1 s m #[Value.ref bs] below meth c H locs lawC lawS (lw_Z below #[Value.ref bs] s) (F0 m 455 ls []) := by
  have hbA : ¬ (fun q : Nat => s.heap.size ≤ q) bs := Nat.not_le.mpr hbl
  have hx := X.1
  have hb := X.2.1
  intro S T i H locs ls hP hPo hS hl hm
  unfold mL_c7 at hm
  refine lv_aload_n hx hb dL_law_455 rfl (lv_at hl 1 rfl) ?_
  obtain ⟨r1, hr1, hm⟩ := bd_ok hm
  refine callLI (wf := wC a cI cZ) (wo := wM b cI cZ) (T := T) (A := (fun q : Nat => s.heap.size ≤ q)) (rest := []) X hK hNW hml hP hPo hS (acA hLa hS.1) (disCM hab) hl.1 (kX6_cuts l D a cI cZ hA S H.size  r1 hr1) (cwV 0 X.2.2.1 gL_law_X6_cuts rfl rfl rfl (by decide +kernel) ⟨Nat.le_of_ble_eq_true rfl, Nat.le_of_ble_eq_true rfl⟩) (vC_X6 hK hP) rfl rfl (Nat.le_of_ble_eq_true rfl) dL_law_456 ⟨lawC_le, lawS_le⟩ (fun H locs hP hPo hS => ?_)
  refine lv_aload_n hx hb dL_law_459 rfl (lv_at hl 2 rfl) ?_
  obtain ⟨r2, hr2, hm⟩ := bd_ok hm
  refine callLI (wf := wM b cI cZ) (wo := wC a cI cZ) (T := r1.2) (A := (fun q : Nat => s.heap.size ≤ q)) (rest := [.int r1.1]) X hK hNW hml hPo hP hS (acA hLb hS.1) (disMC hab) hl.1 (kX7_cuts l D b cI cZ hB T H.size  r2 hr2) (cwV 0 X.2.2.1 gL_law_X7_cuts rfl rfl rfl (by decide +kernel) ⟨Nat.le_of_ble_eq_true rfl, Nat.le_of_ble_eq_true rfl⟩) (vM_X7 hK hPo) rfl rfl (Nat.le_of_ble_eq_true rfl) dL_law_460 ⟨lawC_le, lawS_le⟩ (fun H locs hPo hP hS => ?_)
  refine lv_icmp_eq (tgt := 744) hx hb dL_law_463 (by decide) (fun hc => ?_) (fun hc => ?_)
  · replace hm := (if_pos hc).symm.trans hm
    refine lv_iinc (v := (i + (6 : Int32))) (lv' := [(3, .int (i + (6 : Int32))), (0, .ref bs), (1, .ref (a 0)), (2, .ref (b 0))]) hx hb dL_law_744 hl (k := 3) rfl rfl (by decide) rfl (fun ls hl => ?_)
    refine lv_goto (tgt := 18) hx hb dL_law_747 (by decide) ?_
    exact hk r1.2 r2.2 (i + (6 : Int32)) H locs ls hP hPo hS (lv_sub hl [1, 2, 3, 0] rfl) hm
  · replace hm := (if_neg hc).symm.trans hm
    refine lv_iconst (v := (0 : Int32)) hx hb dL_law_466 (by decide) ?_
    exact absurd (Option.some.inj hm) (by decide)
set_option maxHeartbeats 4000000 in
set_option maxRecDepth 100000 in
theorem law_c8 {p : Program} {l : Launch} {e : Env} {s : State} {m : MethodId} {below : List Frame} {meth : Method} {c : Code} {D : va_G} {cI cZ : ClassId} {a b : Nat → Nat} {bs L : Nat} {xs : Nat → Int32} (X : CX p m c cL_law s #[Value.ref bs] wsL_law RL) (hK : va_K D vwCl (TYS cI cZ) s) (hNW : NW s) (hml : c.maxLocals = 4) (hX : va_X bs L xs s s.heap) (hbl : bs < s.heap.size) (hA : AP 24 a) (hB : AP 31 b) (hLa : ∀ k, k < 24 → s.heap.size ≤ a k) (hLb : ∀ k, k < 31 → s.heap.size ≤ b k) (hab : ∀ i j, i < 24 → j < 31 → a i ≠ b j) (k : ST → ST → Int32 → Option Int32) (hk : (∀ (S T : ST) (i : Int32) (H : Heap) (locs : List Loc) (ls : Array Slot), va_P D vwCl (wC a cI cZ S) H → va_P D vwCl (wM b cI cZ T) H → va_S (fun q : Nat => s.heap.size ≤ q) s.heap H locs → lv_has ls 4 [(0, .ref bs), (1, .ref (a 0)), (2, .ref (b 0)), (3, .int i)] → k S T i = some 1 → W p l e room_1 s m #[Value.ref bs] below meth c H locs lawC lawS (lw_Z below #[Value.ref bs] s) (F0 m 18 ls []))) : ∀ (S T : ST) (i : Int32) (H : Heap) (locs : List Loc) (ls : Array Slot), va_P D vwCl (wC a cI cZ S) H → va_P D vwCl (wM b cI cZ T) H → va_S (fun q : Nat => s.heap.size ≤ q) s.heap H locs → lv_has ls 4 [(0, .ref bs), (1, .ref (a 0)), (2, .ref (b 0)), (3, .int i)] → mL_c8 k xs L S T i = some 1 → W p l e room_1 s m #[Value.ref bs] below meth c H locs lawC lawS (lw_Z below #[Value.ref bs] s) (F0 m 468 ls []) := by
  have hbA : ¬ (fun q : Nat => s.heap.size ≤ q) bs := Nat.not_le.mpr hbl
  have hx := X.1
  have hb := X.2.1
  intro S T i H locs ls hP hPo hS hl hm
  unfold mL_c8 at hm
  refine lv_aload_n hx hb dL_law_468 rfl (lv_at hl 1 rfl) ?_
  refine lv_aload_n hx hb dL_law_469 rfl (lv_at hl 0 rfl) ?_
  refine lv_iload_n hx hb dL_law_470 rfl (lv_at hl 3 rfl) ?_
  refine lv_iconst (v := (1 : Int32)) hx hb dL_law_471 (by decide) ?_
  refine lv_iadd hx hb dL_law_472 ?_
  obtain ⟨h1, hm⟩ := gd_ok hm
  refine va_sld hx hb hX hbl hbA hS (inB_ok h1) dL_law_473 ?_
  refine lv_aload_n hx hb dL_law_474 rfl (lv_at hl 0 rfl) ?_
  refine lv_iload_n hx hb dL_law_475 rfl (lv_at hl 3 rfl) ?_
  refine lv_iconst (v := (2 : Int32)) hx hb dL_law_476 (by decide) ?_
  refine lv_iadd hx hb dL_law_477 ?_
  obtain ⟨h1, hm⟩ := gd_ok hm
  refine va_sld hx hb hX hbl hbA hS (inB_ok h1) dL_law_478 ?_
  obtain ⟨r1, hr1, hm⟩ := bd_ok hm
  refine callLI (wf := wC a cI cZ) (wo := wM b cI cZ) (T := T) (A := (fun q : Nat => s.heap.size ≤ q)) (rest := []) X hK hNW hml hP hPo hS (acA hLa hS.1) (disCM hab) hl.1 (kX6_cut l D a cI cZ hA S H.size (xs (i + (1 : Int32)).toNatClampNeg) (xs (i + (2 : Int32)).toNatClampNeg) r1 hr1) (cwV 2 X.2.2.1 gL_law_X6_cut rfl rfl rfl (by decide +kernel) ⟨Nat.le_of_ble_eq_true rfl, Nat.le_of_ble_eq_true rfl⟩) (vC_X6 hK hP) rfl rfl (Nat.le_of_ble_eq_true rfl) dL_law_479 ⟨lawC_le, lawS_le⟩ (fun H locs hP hPo hS => ?_)
  refine lv_aload_n hx hb dL_law_482 rfl (lv_at hl 2 rfl) ?_
  refine lv_aload_n hx hb dL_law_483 rfl (lv_at hl 0 rfl) ?_
  refine lv_iload_n hx hb dL_law_484 rfl (lv_at hl 3 rfl) ?_
  refine lv_iconst (v := (1 : Int32)) hx hb dL_law_485 (by decide) ?_
  refine lv_iadd hx hb dL_law_486 ?_
  obtain ⟨h1, hm⟩ := gd_ok hm
  refine va_sld hx hb hX hbl hbA hS (inB_ok h1) dL_law_487 ?_
  refine lv_aload_n hx hb dL_law_488 rfl (lv_at hl 0 rfl) ?_
  refine lv_iload_n hx hb dL_law_489 rfl (lv_at hl 3 rfl) ?_
  refine lv_iconst (v := (2 : Int32)) hx hb dL_law_490 (by decide) ?_
  refine lv_iadd hx hb dL_law_491 ?_
  obtain ⟨h1, hm⟩ := gd_ok hm
  refine va_sld hx hb hX hbl hbA hS (inB_ok h1) dL_law_492 ?_
  obtain ⟨r2, hr2, hm⟩ := bd_ok hm
  refine callLI (wf := wM b cI cZ) (wo := wC a cI cZ) (T := r1.2) (A := (fun q : Nat => s.heap.size ≤ q)) (rest := [.int r1.1]) X hK hNW hml hPo hP hS (acA hLb hS.1) (disMC hab) hl.1 (kX7_cut l D b cI cZ hB T H.size (xs (i + (1 : Int32)).toNatClampNeg) (xs (i + (2 : Int32)).toNatClampNeg) r2 hr2) (cwV 2 X.2.2.1 gL_law_X7_cut rfl rfl rfl (by decide +kernel) ⟨Nat.le_of_ble_eq_true rfl, Nat.le_of_ble_eq_true rfl⟩) (vM_X7 hK hPo) rfl rfl (Nat.le_of_ble_eq_true rfl) dL_law_493 ⟨lawC_le, lawS_le⟩ (fun H locs hPo hP hS => ?_)
  refine lv_icmp_eq (tgt := 744) hx hb dL_law_496 (by decide) (fun hc => ?_) (fun hc => ?_)
  · replace hm := (if_pos hc).symm.trans hm
    refine lv_iinc (v := (i + (6 : Int32))) (lv' := [(3, .int (i + (6 : Int32))), (0, .ref bs), (1, .ref (a 0)), (2, .ref (b 0))]) hx hb dL_law_744 hl (k := 3) rfl rfl (by decide) rfl (fun ls hl => ?_)
    refine lv_goto (tgt := 18) hx hb dL_law_747 (by decide) ?_
    exact hk r1.2 r2.2 (i + (6 : Int32)) H locs ls hP hPo hS (lv_sub hl [1, 2, 3, 0] rfl) hm
  · replace hm := (if_neg hc).symm.trans hm
    refine lv_iconst (v := (0 : Int32)) hx hb dL_law_499 (by decide) ?_
    exact absurd (Option.some.inj hm) (by decide)
set_option maxHeartbeats 4000000 in
set_option maxRecDepth 100000 in
theorem law_c9 {p : Program} {l : Launch} {e : Env} {s : State} {m : MethodId} {below : List Frame} {meth : Method} {c : Code} {D : va_G} {cI cZ : ClassId} {a b : Nat → Nat} {bs L : Nat} {xs : Nat → Int32} (X : CX p m c cL_law s #[Value.ref bs] wsL_law RL) (hK : va_K D vwCl (TYS cI cZ) s) (hNW : NW s) (hml : c.maxLocals = 4) (hX : va_X bs L xs s s.heap) (hbl : bs < s.heap.size) (hA : AP 24 a) (hB : AP 31 b) (hLa : ∀ k, k < 24 → s.heap.size ≤ a k) (hLb : ∀ k, k < 31 → s.heap.size ≤ b k) (hab : ∀ i j, i < 24 → j < 31 → a i ≠ b j) (k : ST → ST → Int32 → Option Int32) (hk : (∀ (S T : ST) (i : Int32) (H : Heap) (locs : List Loc) (ls : Array Slot), va_P D vwCl (wC a cI cZ S) H → va_P D vwCl (wM b cI cZ T) H → va_S (fun q : Nat => s.heap.size ≤ q) s.heap H locs → lv_has ls 4 [(0, .ref bs), (1, .ref (a 0)), (2, .ref (b 0)), (3, .int i)] → k S T i = some 1 → W p l e room_1 s m #[Value.ref bs] below meth c H locs lawC lawS (lw_Z below #[Value.ref bs] s) (F0 m 18 ls []))) : ∀ (S T : ST) (i : Int32) (H : Heap) (locs : List Loc) (ls : Array Slot), va_P D vwCl (wC a cI cZ S) H → va_P D vwCl (wM b cI cZ T) H → va_S (fun q : Nat => s.heap.size ≤ q) s.heap H locs → lv_has ls 4 [(0, .ref bs), (1, .ref (a 0)), (2, .ref (b 0)), (3, .int i)] → mL_c9 k xs L S T i = some 1 → W p l e room_1 s m #[Value.ref bs] below meth c H locs lawC lawS (lw_Z below #[Value.ref bs] s) (F0 m 501 ls []) := by
  have hbA : ¬ (fun q : Nat => s.heap.size ≤ q) bs := Nat.not_le.mpr hbl
  have hx := X.1
  have hb := X.2.1
  intro S T i H locs ls hP hPo hS hl hm
  unfold mL_c9 at hm
  refine lv_aload_n hx hb dL_law_501 rfl (lv_at hl 1 rfl) ?_
  obtain ⟨r1, hr1, hm⟩ := bd_ok hm
  refine callLI (wf := wC a cI cZ) (wo := wM b cI cZ) (T := T) (A := (fun q : Nat => s.heap.size ≤ q)) (rest := []) X hK hNW hml hP hPo hS (acA hLa hS.1) (disCM hab) hl.1 (kX6_waste l D a cI cZ hA S H.size  r1 hr1) (cwV 0 X.2.2.1 gL_law_X6_waste rfl rfl rfl (by decide +kernel) ⟨Nat.le_of_ble_eq_true rfl, Nat.le_of_ble_eq_true rfl⟩) (vC_X6 hK hP) rfl rfl (Nat.le_of_ble_eq_true rfl) dL_law_502 ⟨lawC_le, lawS_le⟩ (fun H locs hP hPo hS => ?_)
  refine lv_aload_n hx hb dL_law_505 rfl (lv_at hl 2 rfl) ?_
  obtain ⟨r2, hr2, hm⟩ := bd_ok hm
  refine callLI (wf := wM b cI cZ) (wo := wC a cI cZ) (T := r1.2) (A := (fun q : Nat => s.heap.size ≤ q)) (rest := [.int r1.1]) X hK hNW hml hPo hP hS (acA hLb hS.1) (disMC hab) hl.1 (kX7_waste l D b cI cZ hB T H.size  r2 hr2) (cwV 0 X.2.2.1 gL_law_X7_waste rfl rfl rfl (by decide +kernel) ⟨Nat.le_of_ble_eq_true rfl, Nat.le_of_ble_eq_true rfl⟩) (vM_X7 hK hPo) rfl rfl (Nat.le_of_ble_eq_true rfl) dL_law_506 ⟨lawC_le, lawS_le⟩ (fun H locs hPo hP hS => ?_)
  refine lv_icmp_eq (tgt := 744) hx hb dL_law_509 (by decide) (fun hc => ?_) (fun hc => ?_)
  · replace hm := (if_pos hc).symm.trans hm
    refine lv_iinc (v := (i + (6 : Int32))) (lv' := [(3, .int (i + (6 : Int32))), (0, .ref bs), (1, .ref (a 0)), (2, .ref (b 0))]) hx hb dL_law_744 hl (k := 3) rfl rfl (by decide) rfl (fun ls hl => ?_)
    refine lv_goto (tgt := 18) hx hb dL_law_747 (by decide) ?_
    exact hk r1.2 r2.2 (i + (6 : Int32)) H locs ls hP hPo hS (lv_sub hl [1, 2, 3, 0] rfl) hm
  · replace hm := (if_neg hc).symm.trans hm
    refine lv_iconst (v := (0 : Int32)) hx hb dL_law_512 (by decide) ?_
    exact absurd (Option.some.inj hm) (by decide)
set_option maxHeartbeats 4000000 in
set_option maxRecDepth 100000 in
theorem law_c10 {p : Program} {l : Launch} {e : Env} {s : State} {m : MethodId} {below : List Frame} {meth : Method} {c : Code} {D : va_G} {cI cZ : ClassId} {a b : Nat → Nat} {bs L : Nat} {xs : Nat → Int32} (X : CX p m c cL_law s #[Value.ref bs] wsL_law RL) (hK : va_K D vwCl (TYS cI cZ) s) (hNW : NW s) (hml : c.maxLocals = 4) (hX : va_X bs L xs s s.heap) (hbl : bs < s.heap.size) (hA : AP 24 a) (hB : AP 31 b) (hLa : ∀ k, k < 24 → s.heap.size ≤ a k) (hLb : ∀ k, k < 31 → s.heap.size ≤ b k) (hab : ∀ i j, i < 24 → j < 31 → a i ≠ b j) (k : ST → ST → Int32 → Option Int32) (hk : (∀ (S T : ST) (i : Int32) (H : Heap) (locs : List Loc) (ls : Array Slot), va_P D vwCl (wC a cI cZ S) H → va_P D vwCl (wM b cI cZ T) H → va_S (fun q : Nat => s.heap.size ≤ q) s.heap H locs → lv_has ls 4 [(0, .ref bs), (1, .ref (a 0)), (2, .ref (b 0)), (3, .int i)] → k S T i = some 1 → W p l e room_1 s m #[Value.ref bs] below meth c H locs lawC lawS (lw_Z below #[Value.ref bs] s) (F0 m 18 ls []))) : ∀ (S T : ST) (i : Int32) (H : Heap) (locs : List Loc) (ls : Array Slot), va_P D vwCl (wC a cI cZ S) H → va_P D vwCl (wM b cI cZ T) H → va_S (fun q : Nat => s.heap.size ≤ q) s.heap H locs → lv_has ls 4 [(0, .ref bs), (1, .ref (a 0)), (2, .ref (b 0)), (3, .int i)] → mL_c10 k xs L S T i = some 1 → W p l e room_1 s m #[Value.ref bs] below meth c H locs lawC lawS (lw_Z below #[Value.ref bs] s) (F0 m 514 ls []) := by
  have hbA : ¬ (fun q : Nat => s.heap.size ≤ q) bs := Nat.not_le.mpr hbl
  have hx := X.1
  have hb := X.2.1
  intro S T i H locs ls hP hPo hS hl hm
  unfold mL_c10 at hm
  refine lv_aload_n hx hb dL_law_514 rfl (lv_at hl 1 rfl) ?_
  refine lv_aload_n hx hb dL_law_515 rfl (lv_at hl 0 rfl) ?_
  refine lv_iload_n hx hb dL_law_516 rfl (lv_at hl 3 rfl) ?_
  refine lv_iconst (v := (1 : Int32)) hx hb dL_law_517 (by decide) ?_
  refine lv_iadd hx hb dL_law_518 ?_
  obtain ⟨h1, hm⟩ := gd_ok hm
  refine va_sld hx hb hX hbl hbA hS (inB_ok h1) dL_law_519 ?_
  refine lv_aload_n hx hb dL_law_520 rfl (lv_at hl 0 rfl) ?_
  refine lv_iload_n hx hb dL_law_521 rfl (lv_at hl 3 rfl) ?_
  refine lv_iconst (v := (2 : Int32)) hx hb dL_law_522 (by decide) ?_
  refine lv_iadd hx hb dL_law_523 ?_
  obtain ⟨h1, hm⟩ := gd_ok hm
  refine va_sld hx hb hX hbl hbA hS (inB_ok h1) dL_law_524 ?_
  obtain ⟨r1, hr1, hm⟩ := bd_ok hm
  refine callLI (wf := wC a cI cZ) (wo := wM b cI cZ) (T := T) (A := (fun q : Nat => s.heap.size ≤ q)) (rest := []) X hK hNW hml hP hPo hS (acA hLa hS.1) (disCM hab) hl.1 (kX6_stock l D a cI cZ hA S H.size (xs (i + (1 : Int32)).toNatClampNeg) (xs (i + (2 : Int32)).toNatClampNeg) r1 hr1) (cwV 2 X.2.2.1 gL_law_X6_stock rfl rfl rfl (by decide +kernel) ⟨Nat.le_of_ble_eq_true rfl, Nat.le_of_ble_eq_true rfl⟩) (vC_X6 hK hP) rfl rfl (Nat.le_of_ble_eq_true rfl) dL_law_525 ⟨lawC_le, lawS_le⟩ (fun H locs hP hPo hS => ?_)
  refine lv_aload_n hx hb dL_law_528 rfl (lv_at hl 2 rfl) ?_
  refine lv_aload_n hx hb dL_law_529 rfl (lv_at hl 0 rfl) ?_
  refine lv_iload_n hx hb dL_law_530 rfl (lv_at hl 3 rfl) ?_
  refine lv_iconst (v := (1 : Int32)) hx hb dL_law_531 (by decide) ?_
  refine lv_iadd hx hb dL_law_532 ?_
  obtain ⟨h1, hm⟩ := gd_ok hm
  refine va_sld hx hb hX hbl hbA hS (inB_ok h1) dL_law_533 ?_
  refine lv_aload_n hx hb dL_law_534 rfl (lv_at hl 0 rfl) ?_
  refine lv_iload_n hx hb dL_law_535 rfl (lv_at hl 3 rfl) ?_
  refine lv_iconst (v := (2 : Int32)) hx hb dL_law_536 (by decide) ?_
  refine lv_iadd hx hb dL_law_537 ?_
  obtain ⟨h1, hm⟩ := gd_ok hm
  refine va_sld hx hb hX hbl hbA hS (inB_ok h1) dL_law_538 ?_
  obtain ⟨r2, hr2, hm⟩ := bd_ok hm
  refine callLI (wf := wM b cI cZ) (wo := wC a cI cZ) (T := r1.2) (A := (fun q : Nat => s.heap.size ≤ q)) (rest := [.int r1.1]) X hK hNW hml hPo hP hS (acA hLb hS.1) (disMC hab) hl.1 (kX7_stock l D b cI cZ hB T H.size (xs (i + (1 : Int32)).toNatClampNeg) (xs (i + (2 : Int32)).toNatClampNeg) r2 hr2) (cwV 2 X.2.2.1 gL_law_X7_stock rfl rfl rfl (by decide +kernel) ⟨Nat.le_of_ble_eq_true rfl, Nat.le_of_ble_eq_true rfl⟩) (vM_X7 hK hPo) rfl rfl (Nat.le_of_ble_eq_true rfl) dL_law_539 ⟨lawC_le, lawS_le⟩ (fun H locs hPo hP hS => ?_)
  refine lv_icmp_eq (tgt := 744) hx hb dL_law_542 (by decide) (fun hc => ?_) (fun hc => ?_)
  · replace hm := (if_pos hc).symm.trans hm
    refine lv_iinc (v := (i + (6 : Int32))) (lv' := [(3, .int (i + (6 : Int32))), (0, .ref bs), (1, .ref (a 0)), (2, .ref (b 0))]) hx hb dL_law_744 hl (k := 3) rfl rfl (by decide) rfl (fun ls hl => ?_)
    refine lv_goto (tgt := 18) hx hb dL_law_747 (by decide) ?_
    exact hk r1.2 r2.2 (i + (6 : Int32)) H locs ls hP hPo hS (lv_sub hl [1, 2, 3, 0] rfl) hm
  · replace hm := (if_neg hc).symm.trans hm
    refine lv_iconst (v := (0 : Int32)) hx hb dL_law_545 (by decide) ?_
    exact absurd (Option.some.inj hm) (by decide)
set_option maxHeartbeats 4000000 in
set_option maxRecDepth 100000 in
theorem law_c11 {p : Program} {l : Launch} {e : Env} {s : State} {m : MethodId} {below : List Frame} {meth : Method} {c : Code} {D : va_G} {cI cZ : ClassId} {a b : Nat → Nat} {bs L : Nat} {xs : Nat → Int32} (X : CX p m c cL_law s #[Value.ref bs] wsL_law RL) (hK : va_K D vwCl (TYS cI cZ) s) (hNW : NW s) (hml : c.maxLocals = 4) (hX : va_X bs L xs s s.heap) (hbl : bs < s.heap.size) (hA : AP 24 a) (hB : AP 31 b) (hLa : ∀ k, k < 24 → s.heap.size ≤ a k) (hLb : ∀ k, k < 31 → s.heap.size ≤ b k) (hab : ∀ i j, i < 24 → j < 31 → a i ≠ b j) (k : ST → ST → Int32 → Option Int32) (hk : (∀ (S T : ST) (i : Int32) (H : Heap) (locs : List Loc) (ls : Array Slot), va_P D vwCl (wC a cI cZ S) H → va_P D vwCl (wM b cI cZ T) H → va_S (fun q : Nat => s.heap.size ≤ q) s.heap H locs → lv_has ls 4 [(0, .ref bs), (1, .ref (a 0)), (2, .ref (b 0)), (3, .int i)] → k S T i = some 1 → W p l e room_1 s m #[Value.ref bs] below meth c H locs lawC lawS (lw_Z below #[Value.ref bs] s) (F0 m 18 ls []))) : ∀ (S T : ST) (i : Int32) (H : Heap) (locs : List Loc) (ls : Array Slot), va_P D vwCl (wC a cI cZ S) H → va_P D vwCl (wM b cI cZ T) H → va_S (fun q : Nat => s.heap.size ≤ q) s.heap H locs → lv_has ls 4 [(0, .ref bs), (1, .ref (a 0)), (2, .ref (b 0)), (3, .int i)] → mL_c11 k xs L S T i = some 1 → W p l e room_1 s m #[Value.ref bs] below meth c H locs lawC lawS (lw_Z below #[Value.ref bs] s) (F0 m 547 ls []) := by
  have hbA : ¬ (fun q : Nat => s.heap.size ≤ q) bs := Nat.not_le.mpr hbl
  have hx := X.1
  have hb := X.2.1
  intro S T i H locs ls hP hPo hS hl hm
  unfold mL_c11 at hm
  refine lv_aload_n hx hb dL_law_547 rfl (lv_at hl 1 rfl) ?_
  refine lv_aload_n hx hb dL_law_548 rfl (lv_at hl 0 rfl) ?_
  refine lv_iload_n hx hb dL_law_549 rfl (lv_at hl 3 rfl) ?_
  refine lv_iconst (v := (1 : Int32)) hx hb dL_law_550 (by decide) ?_
  refine lv_iadd hx hb dL_law_551 ?_
  obtain ⟨h1, hm⟩ := gd_ok hm
  refine va_sld hx hb hX hbl hbA hS (inB_ok h1) dL_law_552 ?_
  refine lv_aload_n hx hb dL_law_553 rfl (lv_at hl 0 rfl) ?_
  refine lv_iload_n hx hb dL_law_554 rfl (lv_at hl 3 rfl) ?_
  refine lv_iconst (v := (2 : Int32)) hx hb dL_law_555 (by decide) ?_
  refine lv_iadd hx hb dL_law_556 ?_
  obtain ⟨h1, hm⟩ := gd_ok hm
  refine va_sld hx hb hX hbl hbA hS (inB_ok h1) dL_law_557 ?_
  obtain ⟨r1, hr1, hm⟩ := bd_ok hm
  refine callLI (wf := wC a cI cZ) (wo := wM b cI cZ) (T := T) (A := (fun q : Nat => s.heap.size ≤ q)) (rest := []) X hK hNW hml hP hPo hS (acA hLa hS.1) (disCM hab) hl.1 (kX6_order l D a cI cZ hA S H.size (xs (i + (1 : Int32)).toNatClampNeg) (xs (i + (2 : Int32)).toNatClampNeg) r1 hr1) (cwV 2 X.2.2.1 gL_law_X6_order rfl rfl rfl (by decide +kernel) ⟨Nat.le_of_ble_eq_true rfl, Nat.le_of_ble_eq_true rfl⟩) (vC_X6 hK hP) rfl rfl (Nat.le_of_ble_eq_true rfl) dL_law_558 ⟨lawC_le, lawS_le⟩ (fun H locs hP hPo hS => ?_)
  refine lv_aload_n hx hb dL_law_561 rfl (lv_at hl 2 rfl) ?_
  refine lv_aload_n hx hb dL_law_562 rfl (lv_at hl 0 rfl) ?_
  refine lv_iload_n hx hb dL_law_563 rfl (lv_at hl 3 rfl) ?_
  refine lv_iconst (v := (1 : Int32)) hx hb dL_law_564 (by decide) ?_
  refine lv_iadd hx hb dL_law_565 ?_
  obtain ⟨h1, hm⟩ := gd_ok hm
  refine va_sld hx hb hX hbl hbA hS (inB_ok h1) dL_law_566 ?_
  refine lv_aload_n hx hb dL_law_567 rfl (lv_at hl 0 rfl) ?_
  refine lv_iload_n hx hb dL_law_568 rfl (lv_at hl 3 rfl) ?_
  refine lv_iconst (v := (2 : Int32)) hx hb dL_law_569 (by decide) ?_
  refine lv_iadd hx hb dL_law_570 ?_
  obtain ⟨h1, hm⟩ := gd_ok hm
  refine va_sld hx hb hX hbl hbA hS (inB_ok h1) dL_law_571 ?_
  obtain ⟨r2, hr2, hm⟩ := bd_ok hm
  refine callLI (wf := wM b cI cZ) (wo := wC a cI cZ) (T := r1.2) (A := (fun q : Nat => s.heap.size ≤ q)) (rest := [.int r1.1]) X hK hNW hml hPo hP hS (acA hLb hS.1) (disMC hab) hl.1 (kX7_order l D b cI cZ hB T H.size (xs (i + (1 : Int32)).toNatClampNeg) (xs (i + (2 : Int32)).toNatClampNeg) r2 hr2) (cwV 2 X.2.2.1 gL_law_X7_order rfl rfl rfl (by decide +kernel) ⟨Nat.le_of_ble_eq_true rfl, Nat.le_of_ble_eq_true rfl⟩) (vM_X7 hK hPo) rfl rfl (Nat.le_of_ble_eq_true rfl) dL_law_572 ⟨lawC_le, lawS_le⟩ (fun H locs hPo hP hS => ?_)
  refine lv_icmp_eq (tgt := 744) hx hb dL_law_575 (by decide) (fun hc => ?_) (fun hc => ?_)
  · replace hm := (if_pos hc).symm.trans hm
    refine lv_iinc (v := (i + (6 : Int32))) (lv' := [(3, .int (i + (6 : Int32))), (0, .ref bs), (1, .ref (a 0)), (2, .ref (b 0))]) hx hb dL_law_744 hl (k := 3) rfl rfl (by decide) rfl (fun ls hl => ?_)
    refine lv_goto (tgt := 18) hx hb dL_law_747 (by decide) ?_
    exact hk r1.2 r2.2 (i + (6 : Int32)) H locs ls hP hPo hS (lv_sub hl [1, 2, 3, 0] rfl) hm
  · replace hm := (if_neg hc).symm.trans hm
    refine lv_iconst (v := (0 : Int32)) hx hb dL_law_578 (by decide) ?_
    exact absurd (Option.some.inj hm) (by decide)
set_option maxHeartbeats 4000000 in
set_option maxRecDepth 100000 in
theorem law_c12 {p : Program} {l : Launch} {e : Env} {s : State} {m : MethodId} {below : List Frame} {meth : Method} {c : Code} {D : va_G} {cI cZ : ClassId} {a b : Nat → Nat} {bs L : Nat} {xs : Nat → Int32} (X : CX p m c cL_law s #[Value.ref bs] wsL_law RL) (hK : va_K D vwCl (TYS cI cZ) s) (hNW : NW s) (hml : c.maxLocals = 4) (hX : va_X bs L xs s s.heap) (hbl : bs < s.heap.size) (hA : AP 24 a) (hB : AP 31 b) (hLa : ∀ k, k < 24 → s.heap.size ≤ a k) (hLb : ∀ k, k < 31 → s.heap.size ≤ b k) (hab : ∀ i j, i < 24 → j < 31 → a i ≠ b j) (k : ST → ST → Int32 → Option Int32) (hk : (∀ (S T : ST) (i : Int32) (H : Heap) (locs : List Loc) (ls : Array Slot), va_P D vwCl (wC a cI cZ S) H → va_P D vwCl (wM b cI cZ T) H → va_S (fun q : Nat => s.heap.size ≤ q) s.heap H locs → lv_has ls 4 [(0, .ref bs), (1, .ref (a 0)), (2, .ref (b 0)), (3, .int i)] → k S T i = some 1 → W p l e room_1 s m #[Value.ref bs] below meth c H locs lawC lawS (lw_Z below #[Value.ref bs] s) (F0 m 18 ls []))) : ∀ (S T : ST) (i : Int32) (H : Heap) (locs : List Loc) (ls : Array Slot), va_P D vwCl (wC a cI cZ S) H → va_P D vwCl (wM b cI cZ T) H → va_S (fun q : Nat => s.heap.size ≤ q) s.heap H locs → lv_has ls 4 [(0, .ref bs), (1, .ref (a 0)), (2, .ref (b 0)), (3, .int i)] → mL_c12 k xs L S T i = some 1 → W p l e room_1 s m #[Value.ref bs] below meth c H locs lawC lawS (lw_Z below #[Value.ref bs] s) (F0 m 580 ls []) := by
  have hbA : ¬ (fun q : Nat => s.heap.size ≤ q) bs := Nat.not_le.mpr hbl
  have hx := X.1
  have hb := X.2.1
  intro S T i H locs ls hP hPo hS hl hm
  unfold mL_c12 at hm
  refine lv_aload_n hx hb dL_law_580 rfl (lv_at hl 1 rfl) ?_
  refine lv_aload_n hx hb dL_law_581 rfl (lv_at hl 0 rfl) ?_
  refine lv_iload_n hx hb dL_law_582 rfl (lv_at hl 3 rfl) ?_
  refine lv_iconst (v := (1 : Int32)) hx hb dL_law_583 (by decide) ?_
  refine lv_iadd hx hb dL_law_584 ?_
  obtain ⟨h1, hm⟩ := gd_ok hm
  refine va_sld hx hb hX hbl hbA hS (inB_ok h1) dL_law_585 ?_
  refine lv_aload_n hx hb dL_law_586 rfl (lv_at hl 0 rfl) ?_
  refine lv_iload_n hx hb dL_law_587 rfl (lv_at hl 3 rfl) ?_
  refine lv_iconst (v := (2 : Int32)) hx hb dL_law_588 (by decide) ?_
  refine lv_iadd hx hb dL_law_589 ?_
  obtain ⟨h1, hm⟩ := gd_ok hm
  refine va_sld hx hb hX hbl hbA hS (inB_ok h1) dL_law_590 ?_
  obtain ⟨r1, hr1, hm⟩ := bd_ok hm
  refine callLI (wf := wC a cI cZ) (wo := wM b cI cZ) (T := T) (A := (fun q : Nat => s.heap.size ≤ q)) (rest := []) X hK hNW hml hP hPo hS (acA hLa hS.1) (disCM hab) hl.1 (kX6_demand l D a cI cZ hA S H.size (xs (i + (1 : Int32)).toNatClampNeg) (xs (i + (2 : Int32)).toNatClampNeg) r1 hr1) (cwV 2 X.2.2.1 gL_law_X6_demand rfl rfl rfl (by decide +kernel) ⟨Nat.le_of_ble_eq_true rfl, Nat.le_of_ble_eq_true rfl⟩) (vC_X6 hK hP) rfl rfl (Nat.le_of_ble_eq_true rfl) dL_law_591 ⟨lawC_le, lawS_le⟩ (fun H locs hP hPo hS => ?_)
  refine lv_aload_n hx hb dL_law_594 rfl (lv_at hl 2 rfl) ?_
  refine lv_aload_n hx hb dL_law_595 rfl (lv_at hl 0 rfl) ?_
  refine lv_iload_n hx hb dL_law_596 rfl (lv_at hl 3 rfl) ?_
  refine lv_iconst (v := (1 : Int32)) hx hb dL_law_597 (by decide) ?_
  refine lv_iadd hx hb dL_law_598 ?_
  obtain ⟨h1, hm⟩ := gd_ok hm
  refine va_sld hx hb hX hbl hbA hS (inB_ok h1) dL_law_599 ?_
  refine lv_aload_n hx hb dL_law_600 rfl (lv_at hl 0 rfl) ?_
  refine lv_iload_n hx hb dL_law_601 rfl (lv_at hl 3 rfl) ?_
  refine lv_iconst (v := (2 : Int32)) hx hb dL_law_602 (by decide) ?_
  refine lv_iadd hx hb dL_law_603 ?_
  obtain ⟨h1, hm⟩ := gd_ok hm
  refine va_sld hx hb hX hbl hbA hS (inB_ok h1) dL_law_604 ?_
  obtain ⟨r2, hr2, hm⟩ := bd_ok hm
  refine callLI (wf := wM b cI cZ) (wo := wC a cI cZ) (T := r1.2) (A := (fun q : Nat => s.heap.size ≤ q)) (rest := [.int r1.1]) X hK hNW hml hPo hP hS (acA hLb hS.1) (disMC hab) hl.1 (kX7_demand l D b cI cZ hB T H.size (xs (i + (1 : Int32)).toNatClampNeg) (xs (i + (2 : Int32)).toNatClampNeg) r2 hr2) (cwV 2 X.2.2.1 gL_law_X7_demand rfl rfl rfl (by decide +kernel) ⟨Nat.le_of_ble_eq_true rfl, Nat.le_of_ble_eq_true rfl⟩) (vM_X7 hK hPo) rfl rfl (Nat.le_of_ble_eq_true rfl) dL_law_605 ⟨lawC_le, lawS_le⟩ (fun H locs hPo hP hS => ?_)
  refine lv_icmp_eq (tgt := 744) hx hb dL_law_608 (by decide) (fun hc => ?_) (fun hc => ?_)
  · replace hm := (if_pos hc).symm.trans hm
    refine lv_iinc (v := (i + (6 : Int32))) (lv' := [(3, .int (i + (6 : Int32))), (0, .ref bs), (1, .ref (a 0)), (2, .ref (b 0))]) hx hb dL_law_744 hl (k := 3) rfl rfl (by decide) rfl (fun ls hl => ?_)
    refine lv_goto (tgt := 18) hx hb dL_law_747 (by decide) ?_
    exact hk r1.2 r2.2 (i + (6 : Int32)) H locs ls hP hPo hS (lv_sub hl [1, 2, 3, 0] rfl) hm
  · replace hm := (if_neg hc).symm.trans hm
    refine lv_iconst (v := (0 : Int32)) hx hb dL_law_611 (by decide) ?_
    exact absurd (Option.some.inj hm) (by decide)
set_option maxHeartbeats 4000000 in
set_option maxRecDepth 100000 in
theorem law_c13 {p : Program} {l : Launch} {e : Env} {s : State} {m : MethodId} {below : List Frame} {meth : Method} {c : Code} {D : va_G} {cI cZ : ClassId} {a b : Nat → Nat} {bs L : Nat} {xs : Nat → Int32} (X : CX p m c cL_law s #[Value.ref bs] wsL_law RL) (hK : va_K D vwCl (TYS cI cZ) s) (hNW : NW s) (hml : c.maxLocals = 4) (hX : va_X bs L xs s s.heap) (hbl : bs < s.heap.size) (hA : AP 24 a) (hB : AP 31 b) (hLa : ∀ k, k < 24 → s.heap.size ≤ a k) (hLb : ∀ k, k < 31 → s.heap.size ≤ b k) (hab : ∀ i j, i < 24 → j < 31 → a i ≠ b j) (k : ST → ST → Int32 → Option Int32) (hk : (∀ (S T : ST) (i : Int32) (H : Heap) (locs : List Loc) (ls : Array Slot), va_P D vwCl (wC a cI cZ S) H → va_P D vwCl (wM b cI cZ T) H → va_S (fun q : Nat => s.heap.size ≤ q) s.heap H locs → lv_has ls 4 [(0, .ref bs), (1, .ref (a 0)), (2, .ref (b 0)), (3, .int i)] → k S T i = some 1 → W p l e room_1 s m #[Value.ref bs] below meth c H locs lawC lawS (lw_Z below #[Value.ref bs] s) (F0 m 18 ls []))) : ∀ (S T : ST) (i : Int32) (H : Heap) (locs : List Loc) (ls : Array Slot), va_P D vwCl (wC a cI cZ S) H → va_P D vwCl (wM b cI cZ T) H → va_S (fun q : Nat => s.heap.size ≤ q) s.heap H locs → lv_has ls 4 [(0, .ref bs), (1, .ref (a 0)), (2, .ref (b 0)), (3, .int i)] → mL_c13 k xs L S T i = some 1 → W p l e room_1 s m #[Value.ref bs] below meth c H locs lawC lawS (lw_Z below #[Value.ref bs] s) (F0 m 613 ls []) := by
  have hbA : ¬ (fun q : Nat => s.heap.size ≤ q) bs := Nat.not_le.mpr hbl
  have hx := X.1
  have hb := X.2.1
  intro S T i H locs ls hP hPo hS hl hm
  unfold mL_c13 at hm
  refine lv_aload_n hx hb dL_law_613 rfl (lv_at hl 1 rfl) ?_
  refine lv_aload_n hx hb dL_law_614 rfl (lv_at hl 0 rfl) ?_
  refine lv_iload_n hx hb dL_law_615 rfl (lv_at hl 3 rfl) ?_
  refine lv_iconst (v := (1 : Int32)) hx hb dL_law_616 (by decide) ?_
  refine lv_iadd hx hb dL_law_617 ?_
  obtain ⟨h1, hm⟩ := gd_ok hm
  refine va_sld hx hb hX hbl hbA hS (inB_ok h1) dL_law_618 ?_
  obtain ⟨r1, hr1, hm⟩ := bd_ok hm
  refine callLI (wf := wC a cI cZ) (wo := wM b cI cZ) (T := T) (A := (fun q : Nat => s.heap.size ≤ q)) (rest := []) X hK hNW hml hP hPo hS (acA hLa hS.1) (disCM hab) hl.1 (kX6_blade l D a cI cZ hA S H.size (xs (i + (1 : Int32)).toNatClampNeg) r1 hr1) (cwV 1 X.2.2.1 gL_law_X6_blade rfl rfl rfl (by decide +kernel) ⟨Nat.le_of_ble_eq_true rfl, Nat.le_of_ble_eq_true rfl⟩) (vC_X6 hK hP) rfl rfl (Nat.le_of_ble_eq_true rfl) dL_law_619 ⟨lawC_le, lawS_le⟩ (fun H locs hP hPo hS => ?_)
  refine lv_aload_n hx hb dL_law_622 rfl (lv_at hl 2 rfl) ?_
  refine lv_aload_n hx hb dL_law_623 rfl (lv_at hl 0 rfl) ?_
  refine lv_iload_n hx hb dL_law_624 rfl (lv_at hl 3 rfl) ?_
  refine lv_iconst (v := (1 : Int32)) hx hb dL_law_625 (by decide) ?_
  refine lv_iadd hx hb dL_law_626 ?_
  obtain ⟨h1, hm⟩ := gd_ok hm
  refine va_sld hx hb hX hbl hbA hS (inB_ok h1) dL_law_627 ?_
  obtain ⟨r2, hr2, hm⟩ := bd_ok hm
  refine callLI (wf := wM b cI cZ) (wo := wC a cI cZ) (T := r1.2) (A := (fun q : Nat => s.heap.size ≤ q)) (rest := [.int r1.1]) X hK hNW hml hPo hP hS (acA hLb hS.1) (disMC hab) hl.1 (kX7_blade l D b cI cZ hB T H.size (xs (i + (1 : Int32)).toNatClampNeg) r2 hr2) (cwV 1 X.2.2.1 gL_law_X7_blade rfl rfl rfl (by decide +kernel) ⟨Nat.le_of_ble_eq_true rfl, Nat.le_of_ble_eq_true rfl⟩) (vM_X7 hK hPo) rfl rfl (Nat.le_of_ble_eq_true rfl) dL_law_628 ⟨lawC_le, lawS_le⟩ (fun H locs hPo hP hS => ?_)
  refine lv_icmp_eq (tgt := 744) hx hb dL_law_631 (by decide) (fun hc => ?_) (fun hc => ?_)
  · replace hm := (if_pos hc).symm.trans hm
    refine lv_iinc (v := (i + (6 : Int32))) (lv' := [(3, .int (i + (6 : Int32))), (0, .ref bs), (1, .ref (a 0)), (2, .ref (b 0))]) hx hb dL_law_744 hl (k := 3) rfl rfl (by decide) rfl (fun ls hl => ?_)
    refine lv_goto (tgt := 18) hx hb dL_law_747 (by decide) ?_
    exact hk r1.2 r2.2 (i + (6 : Int32)) H locs ls hP hPo hS (lv_sub hl [1, 2, 3, 0] rfl) hm
  · replace hm := (if_neg hc).symm.trans hm
    refine lv_iconst (v := (0 : Int32)) hx hb dL_law_634 (by decide) ?_
    exact absurd (Option.some.inj hm) (by decide)
set_option maxHeartbeats 4000000 in
set_option maxRecDepth 100000 in
theorem law_c14 {p : Program} {l : Launch} {e : Env} {s : State} {m : MethodId} {below : List Frame} {meth : Method} {c : Code} {D : va_G} {cI cZ : ClassId} {a b : Nat → Nat} {bs L : Nat} {xs : Nat → Int32} (X : CX p m c cL_law s #[Value.ref bs] wsL_law RL) (hK : va_K D vwCl (TYS cI cZ) s) (hNW : NW s) (hml : c.maxLocals = 4) (hX : va_X bs L xs s s.heap) (hbl : bs < s.heap.size) (hA : AP 24 a) (hB : AP 31 b) (hLa : ∀ k, k < 24 → s.heap.size ≤ a k) (hLb : ∀ k, k < 31 → s.heap.size ≤ b k) (hab : ∀ i j, i < 24 → j < 31 → a i ≠ b j) (k : ST → ST → Int32 → Option Int32) (hk : (∀ (S T : ST) (i : Int32) (H : Heap) (locs : List Loc) (ls : Array Slot), va_P D vwCl (wC a cI cZ S) H → va_P D vwCl (wM b cI cZ T) H → va_S (fun q : Nat => s.heap.size ≤ q) s.heap H locs → lv_has ls 4 [(0, .ref bs), (1, .ref (a 0)), (2, .ref (b 0)), (3, .int i)] → k S T i = some 1 → W p l e room_1 s m #[Value.ref bs] below meth c H locs lawC lawS (lw_Z below #[Value.ref bs] s) (F0 m 18 ls []))) : ∀ (S T : ST) (i : Int32) (H : Heap) (locs : List Loc) (ls : Array Slot), va_P D vwCl (wC a cI cZ S) H → va_P D vwCl (wM b cI cZ T) H → va_S (fun q : Nat => s.heap.size ≤ q) s.heap H locs → lv_has ls 4 [(0, .ref bs), (1, .ref (a 0)), (2, .ref (b 0)), (3, .int i)] → mL_c14 k xs L S T i = some 1 → W p l e room_1 s m #[Value.ref bs] below meth c H locs lawC lawS (lw_Z below #[Value.ref bs] s) (F0 m 636 ls []) := by
  have hbA : ¬ (fun q : Nat => s.heap.size ≤ q) bs := Nat.not_le.mpr hbl
  have hx := X.1
  have hb := X.2.1
  intro S T i H locs ls hP hPo hS hl hm
  unfold mL_c14 at hm
  refine lv_aload_n hx hb dL_law_636 rfl (lv_at hl 1 rfl) ?_
  obtain ⟨r1, hr1, hm⟩ := bd_ok hm
  refine callLI (wf := wC a cI cZ) (wo := wM b cI cZ) (T := T) (A := (fun q : Nat => s.heap.size ≤ q)) (rest := []) X hK hNW hml hP hPo hS (acA hLa hS.1) (disCM hab) hl.1 (kX6_price l D a cI cZ hA S H.size  r1 hr1) (cwV 0 X.2.2.1 gL_law_X6_price rfl rfl rfl (by decide +kernel) ⟨Nat.le_of_ble_eq_true rfl, Nat.le_of_ble_eq_true rfl⟩) (vC_X6 hK hP) rfl rfl (Nat.le_of_ble_eq_true rfl) dL_law_637 ⟨lawC_le, lawS_le⟩ (fun H locs hP hPo hS => ?_)
  refine lv_aload_n hx hb dL_law_640 rfl (lv_at hl 2 rfl) ?_
  obtain ⟨r2, hr2, hm⟩ := bd_ok hm
  refine callLI (wf := wM b cI cZ) (wo := wC a cI cZ) (T := r1.2) (A := (fun q : Nat => s.heap.size ≤ q)) (rest := [.int r1.1]) X hK hNW hml hPo hP hS (acA hLb hS.1) (disMC hab) hl.1 (kX7_price l D b cI cZ hB T H.size  r2 hr2) (cwV 0 X.2.2.1 gL_law_X7_price rfl rfl rfl (by decide +kernel) ⟨Nat.le_of_ble_eq_true rfl, Nat.le_of_ble_eq_true rfl⟩) (vM_X7 hK hPo) rfl rfl (Nat.le_of_ble_eq_true rfl) dL_law_641 ⟨lawC_le, lawS_le⟩ (fun H locs hPo hP hS => ?_)
  refine lv_icmp_eq (tgt := 744) hx hb dL_law_644 (by decide) (fun hc => ?_) (fun hc => ?_)
  · replace hm := (if_pos hc).symm.trans hm
    refine lv_iinc (v := (i + (6 : Int32))) (lv' := [(3, .int (i + (6 : Int32))), (0, .ref bs), (1, .ref (a 0)), (2, .ref (b 0))]) hx hb dL_law_744 hl (k := 3) rfl rfl (by decide) rfl (fun ls hl => ?_)
    refine lv_goto (tgt := 18) hx hb dL_law_747 (by decide) ?_
    exact hk r1.2 r2.2 (i + (6 : Int32)) H locs ls hP hPo hS (lv_sub hl [1, 2, 3, 0] rfl) hm
  · replace hm := (if_neg hc).symm.trans hm
    refine lv_iconst (v := (0 : Int32)) hx hb dL_law_647 (by decide) ?_
    exact absurd (Option.some.inj hm) (by decide)
set_option maxHeartbeats 4000000 in
set_option maxRecDepth 100000 in
theorem law_c15 {p : Program} {l : Launch} {e : Env} {s : State} {m : MethodId} {below : List Frame} {meth : Method} {c : Code} {D : va_G} {cI cZ : ClassId} {a b : Nat → Nat} {bs L : Nat} {xs : Nat → Int32} (X : CX p m c cL_law s #[Value.ref bs] wsL_law RL) (hK : va_K D vwCl (TYS cI cZ) s) (hNW : NW s) (hml : c.maxLocals = 4) (hX : va_X bs L xs s s.heap) (hbl : bs < s.heap.size) (hA : AP 24 a) (hB : AP 31 b) (hLa : ∀ k, k < 24 → s.heap.size ≤ a k) (hLb : ∀ k, k < 31 → s.heap.size ≤ b k) (hab : ∀ i j, i < 24 → j < 31 → a i ≠ b j) (k : ST → ST → Int32 → Option Int32) (hk : (∀ (S T : ST) (i : Int32) (H : Heap) (locs : List Loc) (ls : Array Slot), va_P D vwCl (wC a cI cZ S) H → va_P D vwCl (wM b cI cZ T) H → va_S (fun q : Nat => s.heap.size ≤ q) s.heap H locs → lv_has ls 4 [(0, .ref bs), (1, .ref (a 0)), (2, .ref (b 0)), (3, .int i)] → k S T i = some 1 → W p l e room_1 s m #[Value.ref bs] below meth c H locs lawC lawS (lw_Z below #[Value.ref bs] s) (F0 m 18 ls []))) : ∀ (S T : ST) (i : Int32) (H : Heap) (locs : List Loc) (ls : Array Slot), va_P D vwCl (wC a cI cZ S) H → va_P D vwCl (wM b cI cZ T) H → va_S (fun q : Nat => s.heap.size ≤ q) s.heap H locs → lv_has ls 4 [(0, .ref bs), (1, .ref (a 0)), (2, .ref (b 0)), (3, .int i)] → mL_c15 k xs L S T i = some 1 → W p l e room_1 s m #[Value.ref bs] below meth c H locs lawC lawS (lw_Z below #[Value.ref bs] s) (F0 m 649 ls []) := by
  have hbA : ¬ (fun q : Nat => s.heap.size ≤ q) bs := Nat.not_le.mpr hbl
  have hx := X.1
  have hb := X.2.1
  intro S T i H locs ls hP hPo hS hl hm
  unfold mL_c15 at hm
  refine lv_aload_n hx hb dL_law_649 rfl (lv_at hl 1 rfl) ?_
  obtain ⟨r1, hr1, hm⟩ := bd_ok hm
  refine callLI (wf := wC a cI cZ) (wo := wM b cI cZ) (T := T) (A := (fun q : Nat => s.heap.size ≤ q)) (rest := []) X hK hNW hml hP hPo hS (acA hLa hS.1) (disCM hab) hl.1 (kX6_bars l D a cI cZ hA S H.size  r1 hr1) (cwV 0 X.2.2.1 gL_law_X6_bars rfl rfl rfl (by decide +kernel) ⟨Nat.le_of_ble_eq_true rfl, Nat.le_of_ble_eq_true rfl⟩) (vC_X6 hK hP) rfl rfl (Nat.le_of_ble_eq_true rfl) dL_law_650 ⟨lawC_le, lawS_le⟩ (fun H locs hP hPo hS => ?_)
  refine lv_aload_n hx hb dL_law_653 rfl (lv_at hl 2 rfl) ?_
  obtain ⟨r2, hr2, hm⟩ := bd_ok hm
  refine callLI (wf := wM b cI cZ) (wo := wC a cI cZ) (T := r1.2) (A := (fun q : Nat => s.heap.size ≤ q)) (rest := [.int r1.1]) X hK hNW hml hPo hP hS (acA hLb hS.1) (disMC hab) hl.1 (kX7_bars l D b cI cZ hB T H.size  r2 hr2) (cwV 0 X.2.2.1 gL_law_X7_bars rfl rfl rfl (by decide +kernel) ⟨Nat.le_of_ble_eq_true rfl, Nat.le_of_ble_eq_true rfl⟩) (vM_X7 hK hPo) rfl rfl (Nat.le_of_ble_eq_true rfl) dL_law_654 ⟨lawC_le, lawS_le⟩ (fun H locs hPo hP hS => ?_)
  refine lv_icmp_eq (tgt := 744) hx hb dL_law_657 (by decide) (fun hc => ?_) (fun hc => ?_)
  · replace hm := (if_pos hc).symm.trans hm
    refine lv_iinc (v := (i + (6 : Int32))) (lv' := [(3, .int (i + (6 : Int32))), (0, .ref bs), (1, .ref (a 0)), (2, .ref (b 0))]) hx hb dL_law_744 hl (k := 3) rfl rfl (by decide) rfl (fun ls hl => ?_)
    refine lv_goto (tgt := 18) hx hb dL_law_747 (by decide) ?_
    exact hk r1.2 r2.2 (i + (6 : Int32)) H locs ls hP hPo hS (lv_sub hl [1, 2, 3, 0] rfl) hm
  · replace hm := (if_neg hc).symm.trans hm
    refine lv_iconst (v := (0 : Int32)) hx hb dL_law_660 (by decide) ?_
    exact absurd (Option.some.inj hm) (by decide)
set_option maxHeartbeats 4000000 in
set_option maxRecDepth 100000 in
theorem law_c16 {p : Program} {l : Launch} {e : Env} {s : State} {m : MethodId} {below : List Frame} {meth : Method} {c : Code} {D : va_G} {cI cZ : ClassId} {a b : Nat → Nat} {bs L : Nat} {xs : Nat → Int32} (X : CX p m c cL_law s #[Value.ref bs] wsL_law RL) (hK : va_K D vwCl (TYS cI cZ) s) (hNW : NW s) (hml : c.maxLocals = 4) (hX : va_X bs L xs s s.heap) (hbl : bs < s.heap.size) (hA : AP 24 a) (hB : AP 31 b) (hLa : ∀ k, k < 24 → s.heap.size ≤ a k) (hLb : ∀ k, k < 31 → s.heap.size ≤ b k) (hab : ∀ i j, i < 24 → j < 31 → a i ≠ b j) (k : ST → ST → Int32 → Option Int32) (hk : (∀ (S T : ST) (i : Int32) (H : Heap) (locs : List Loc) (ls : Array Slot), va_P D vwCl (wC a cI cZ S) H → va_P D vwCl (wM b cI cZ T) H → va_S (fun q : Nat => s.heap.size ≤ q) s.heap H locs → lv_has ls 4 [(0, .ref bs), (1, .ref (a 0)), (2, .ref (b 0)), (3, .int i)] → k S T i = some 1 → W p l e room_1 s m #[Value.ref bs] below meth c H locs lawC lawS (lw_Z below #[Value.ref bs] s) (F0 m 18 ls []))) : ∀ (S T : ST) (i : Int32) (H : Heap) (locs : List Loc) (ls : Array Slot), va_P D vwCl (wC a cI cZ S) H → va_P D vwCl (wM b cI cZ T) H → va_S (fun q : Nat => s.heap.size ≤ q) s.heap H locs → lv_has ls 4 [(0, .ref bs), (1, .ref (a 0)), (2, .ref (b 0)), (3, .int i)] → mL_c16 k xs L S T i = some 1 → W p l e room_1 s m #[Value.ref bs] below meth c H locs lawC lawS (lw_Z below #[Value.ref bs] s) (F0 m 662 ls []) := by
  have hbA : ¬ (fun q : Nat => s.heap.size ≤ q) bs := Nat.not_le.mpr hbl
  have hx := X.1
  have hb := X.2.1
  intro S T i H locs ls hP hPo hS hl hm
  unfold mL_c16 at hm
  refine lv_aload_n hx hb dL_law_662 rfl (lv_at hl 1 rfl) ?_
  refine lv_aload_n hx hb dL_law_663 rfl (lv_at hl 0 rfl) ?_
  refine lv_iload_n hx hb dL_law_664 rfl (lv_at hl 3 rfl) ?_
  refine lv_iconst (v := (1 : Int32)) hx hb dL_law_665 (by decide) ?_
  refine lv_iadd hx hb dL_law_666 ?_
  obtain ⟨h1, hm⟩ := gd_ok hm
  refine va_sld hx hb hX hbl hbA hS (inB_ok h1) dL_law_667 ?_
  refine lv_aload_n hx hb dL_law_668 rfl (lv_at hl 0 rfl) ?_
  refine lv_iload_n hx hb dL_law_669 rfl (lv_at hl 3 rfl) ?_
  refine lv_iconst (v := (2 : Int32)) hx hb dL_law_670 (by decide) ?_
  refine lv_iadd hx hb dL_law_671 ?_
  obtain ⟨h1, hm⟩ := gd_ok hm
  refine va_sld hx hb hX hbl hbA hS (inB_ok h1) dL_law_672 ?_
  obtain ⟨r1, hr1, hm⟩ := bd_ok hm
  refine callLI (wf := wC a cI cZ) (wo := wM b cI cZ) (T := T) (A := (fun q : Nat => s.heap.size ≤ q)) (rest := []) X hK hNW hml hP hPo hS (acA hLa hS.1) (disCM hab) hl.1 (kX6_bar l D a cI cZ hA S H.size (xs (i + (1 : Int32)).toNatClampNeg) (xs (i + (2 : Int32)).toNatClampNeg) r1 hr1) (cwV 2 X.2.2.1 gL_law_X6_bar rfl rfl rfl (by decide +kernel) ⟨Nat.le_of_ble_eq_true rfl, Nat.le_of_ble_eq_true rfl⟩) (vC_X6 hK hP) rfl rfl (Nat.le_of_ble_eq_true rfl) dL_law_673 ⟨lawC_le, lawS_le⟩ (fun H locs hP hPo hS => ?_)
  refine lv_aload_n hx hb dL_law_676 rfl (lv_at hl 2 rfl) ?_
  refine lv_aload_n hx hb dL_law_677 rfl (lv_at hl 0 rfl) ?_
  refine lv_iload_n hx hb dL_law_678 rfl (lv_at hl 3 rfl) ?_
  refine lv_iconst (v := (1 : Int32)) hx hb dL_law_679 (by decide) ?_
  refine lv_iadd hx hb dL_law_680 ?_
  obtain ⟨h1, hm⟩ := gd_ok hm
  refine va_sld hx hb hX hbl hbA hS (inB_ok h1) dL_law_681 ?_
  refine lv_aload_n hx hb dL_law_682 rfl (lv_at hl 0 rfl) ?_
  refine lv_iload_n hx hb dL_law_683 rfl (lv_at hl 3 rfl) ?_
  refine lv_iconst (v := (2 : Int32)) hx hb dL_law_684 (by decide) ?_
  refine lv_iadd hx hb dL_law_685 ?_
  obtain ⟨h1, hm⟩ := gd_ok hm
  refine va_sld hx hb hX hbl hbA hS (inB_ok h1) dL_law_686 ?_
  obtain ⟨r2, hr2, hm⟩ := bd_ok hm
  refine callLI (wf := wM b cI cZ) (wo := wC a cI cZ) (T := r1.2) (A := (fun q : Nat => s.heap.size ≤ q)) (rest := [.int r1.1]) X hK hNW hml hPo hP hS (acA hLb hS.1) (disMC hab) hl.1 (kX7_bar l D b cI cZ hB T H.size (xs (i + (1 : Int32)).toNatClampNeg) (xs (i + (2 : Int32)).toNatClampNeg) r2 hr2) (cwV 2 X.2.2.1 gL_law_X7_bar rfl rfl rfl (by decide +kernel) ⟨Nat.le_of_ble_eq_true rfl, Nat.le_of_ble_eq_true rfl⟩) (vM_X7 hK hPo) rfl rfl (Nat.le_of_ble_eq_true rfl) dL_law_687 ⟨lawC_le, lawS_le⟩ (fun H locs hPo hP hS => ?_)
  refine lv_icmp_eq (tgt := 744) hx hb dL_law_690 (by decide) (fun hc => ?_) (fun hc => ?_)
  · replace hm := (if_pos hc).symm.trans hm
    refine lv_iinc (v := (i + (6 : Int32))) (lv' := [(3, .int (i + (6 : Int32))), (0, .ref bs), (1, .ref (a 0)), (2, .ref (b 0))]) hx hb dL_law_744 hl (k := 3) rfl rfl (by decide) rfl (fun ls hl => ?_)
    refine lv_goto (tgt := 18) hx hb dL_law_747 (by decide) ?_
    exact hk r1.2 r2.2 (i + (6 : Int32)) H locs ls hP hPo hS (lv_sub hl [1, 2, 3, 0] rfl) hm
  · replace hm := (if_neg hc).symm.trans hm
    refine lv_iconst (v := (0 : Int32)) hx hb dL_law_693 (by decide) ?_
    exact absurd (Option.some.inj hm) (by decide)
set_option maxHeartbeats 4000000 in
set_option maxRecDepth 100000 in
theorem law_c17 {p : Program} {l : Launch} {e : Env} {s : State} {m : MethodId} {below : List Frame} {meth : Method} {c : Code} {D : va_G} {cI cZ : ClassId} {a b : Nat → Nat} {bs L : Nat} {xs : Nat → Int32} (X : CX p m c cL_law s #[Value.ref bs] wsL_law RL) (hK : va_K D vwCl (TYS cI cZ) s) (hNW : NW s) (hml : c.maxLocals = 4) (hX : va_X bs L xs s s.heap) (hbl : bs < s.heap.size) (hA : AP 24 a) (hB : AP 31 b) (hLa : ∀ k, k < 24 → s.heap.size ≤ a k) (hLb : ∀ k, k < 31 → s.heap.size ≤ b k) (hab : ∀ i j, i < 24 → j < 31 → a i ≠ b j) (k : ST → ST → Int32 → Option Int32) (hk : (∀ (S T : ST) (i : Int32) (H : Heap) (locs : List Loc) (ls : Array Slot), va_P D vwCl (wC a cI cZ S) H → va_P D vwCl (wM b cI cZ T) H → va_S (fun q : Nat => s.heap.size ≤ q) s.heap H locs → lv_has ls 4 [(0, .ref bs), (1, .ref (a 0)), (2, .ref (b 0)), (3, .int i)] → k S T i = some 1 → W p l e room_1 s m #[Value.ref bs] below meth c H locs lawC lawS (lw_Z below #[Value.ref bs] s) (F0 m 18 ls []))) : ∀ (S T : ST) (i : Int32) (H : Heap) (locs : List Loc) (ls : Array Slot), va_P D vwCl (wC a cI cZ S) H → va_P D vwCl (wM b cI cZ T) H → va_S (fun q : Nat => s.heap.size ≤ q) s.heap H locs → lv_has ls 4 [(0, .ref bs), (1, .ref (a 0)), (2, .ref (b 0)), (3, .int i)] → mL_c17 k xs L S T i = some 1 → W p l e room_1 s m #[Value.ref bs] below meth c H locs lawC lawS (lw_Z below #[Value.ref bs] s) (F0 m 695 ls []) := by
  have hbA : ¬ (fun q : Nat => s.heap.size ≤ q) bs := Nat.not_le.mpr hbl
  have hx := X.1
  have hb := X.2.1
  intro S T i H locs ls hP hPo hS hl hm
  unfold mL_c17 at hm
  refine lv_aload_n hx hb dL_law_695 rfl (lv_at hl 1 rfl) ?_
  refine lv_aload_n hx hb dL_law_696 rfl (lv_at hl 0 rfl) ?_
  refine lv_iload_n hx hb dL_law_697 rfl (lv_at hl 3 rfl) ?_
  refine lv_iconst (v := (1 : Int32)) hx hb dL_law_698 (by decide) ?_
  refine lv_iadd hx hb dL_law_699 ?_
  obtain ⟨h1, hm⟩ := gd_ok hm
  refine va_sld hx hb hX hbl hbA hS (inB_ok h1) dL_law_700 ?_
  obtain ⟨r1, hr1, hm⟩ := bd_ok hm
  refine callRV (rest := []) X hK hNW hml hP hl.1 (kX6_told l D a cI cZ S (xs (i + (1 : Int32)).toNatClampNeg) r1 hr1) (cwV 1 X.2.2.1 gL_law_X6_told rfl rfl rfl (by decide +kernel) ⟨Nat.le_of_ble_eq_true rfl, Nat.le_of_ble_eq_true rfl⟩) (vC_X6 hK hP) rfl rfl (Nat.le_of_ble_eq_true rfl) dL_law_701 ⟨lawC_le, lawS_le⟩ ?_
  refine lv_aload_n hx hb dL_law_704 rfl (lv_at hl 2 rfl) ?_
  refine lv_aload_n hx hb dL_law_705 rfl (lv_at hl 0 rfl) ?_
  refine lv_iload_n hx hb dL_law_706 rfl (lv_at hl 3 rfl) ?_
  refine lv_iconst (v := (1 : Int32)) hx hb dL_law_707 (by decide) ?_
  refine lv_iadd hx hb dL_law_708 ?_
  obtain ⟨h1, hm⟩ := gd_ok hm
  refine va_sld hx hb hX hbl hbA hS (inB_ok h1) dL_law_709 ?_
  obtain ⟨r2, hr2, hm⟩ := bd_ok hm
  refine callRV (rest := [.int r1]) X hK hNW hml hPo hl.1 (kX7_told l D b cI cZ T (xs (i + (1 : Int32)).toNatClampNeg) r2 hr2) (cwV 1 X.2.2.1 gL_law_X7_told rfl rfl rfl (by decide +kernel) ⟨Nat.le_of_ble_eq_true rfl, Nat.le_of_ble_eq_true rfl⟩) (vM_X7 hK hPo) rfl rfl (Nat.le_of_ble_eq_true rfl) dL_law_710 ⟨lawC_le, lawS_le⟩ ?_
  refine lv_icmp_eq (tgt := 744) hx hb dL_law_713 (by decide) (fun hc => ?_) (fun hc => ?_)
  · replace hm := (if_pos hc).symm.trans hm
    refine lv_iinc (v := (i + (6 : Int32))) (lv' := [(3, .int (i + (6 : Int32))), (0, .ref bs), (1, .ref (a 0)), (2, .ref (b 0))]) hx hb dL_law_744 hl (k := 3) rfl rfl (by decide) rfl (fun ls hl => ?_)
    refine lv_goto (tgt := 18) hx hb dL_law_747 (by decide) ?_
    exact hk S T (i + (6 : Int32)) H locs ls hP hPo hS (lv_sub hl [1, 2, 3, 0] rfl) hm
  · replace hm := (if_neg hc).symm.trans hm
    refine lv_iconst (v := (0 : Int32)) hx hb dL_law_716 (by decide) ?_
    exact absurd (Option.some.inj hm) (by decide)
set_option maxHeartbeats 4000000 in
set_option maxRecDepth 100000 in
theorem law_c18 {p : Program} {l : Launch} {e : Env} {s : State} {m : MethodId} {below : List Frame} {meth : Method} {c : Code} {D : va_G} {cI cZ : ClassId} {a b : Nat → Nat} {bs L : Nat} {xs : Nat → Int32} (X : CX p m c cL_law s #[Value.ref bs] wsL_law RL) (hK : va_K D vwCl (TYS cI cZ) s) (hNW : NW s) (hml : c.maxLocals = 4) (hX : va_X bs L xs s s.heap) (hbl : bs < s.heap.size) (hA : AP 24 a) (hB : AP 31 b) (hLa : ∀ k, k < 24 → s.heap.size ≤ a k) (hLb : ∀ k, k < 31 → s.heap.size ≤ b k) (hab : ∀ i j, i < 24 → j < 31 → a i ≠ b j) (k : ST → ST → Int32 → Option Int32) (hk : (∀ (S T : ST) (i : Int32) (H : Heap) (locs : List Loc) (ls : Array Slot), va_P D vwCl (wC a cI cZ S) H → va_P D vwCl (wM b cI cZ T) H → va_S (fun q : Nat => s.heap.size ≤ q) s.heap H locs → lv_has ls 4 [(0, .ref bs), (1, .ref (a 0)), (2, .ref (b 0)), (3, .int i)] → k S T i = some 1 → W p l e room_1 s m #[Value.ref bs] below meth c H locs lawC lawS (lw_Z below #[Value.ref bs] s) (F0 m 18 ls []))) : ∀ (S T : ST) (i : Int32) (H : Heap) (locs : List Loc) (ls : Array Slot), va_P D vwCl (wC a cI cZ S) H → va_P D vwCl (wM b cI cZ T) H → va_S (fun q : Nat => s.heap.size ≤ q) s.heap H locs → lv_has ls 4 [(0, .ref bs), (1, .ref (a 0)), (2, .ref (b 0)), (3, .int i)] → mL_c18 k xs L S T i = some 1 → W p l e room_1 s m #[Value.ref bs] below meth c H locs lawC lawS (lw_Z below #[Value.ref bs] s) (F0 m 718 ls []) := by
  have hbA : ¬ (fun q : Nat => s.heap.size ≤ q) bs := Nat.not_le.mpr hbl
  have hx := X.1
  have hb := X.2.1
  intro S T i H locs ls hP hPo hS hl hm
  unfold mL_c18 at hm
  refine lv_aload_n hx hb dL_law_718 rfl (lv_at hl 1 rfl) ?_
  obtain ⟨r1, hr1, hm⟩ := bd_ok hm
  refine callLI (wf := wC a cI cZ) (wo := wM b cI cZ) (T := T) (A := (fun q : Nat => s.heap.size ≤ q)) (rest := []) X hK hNW hml hP hPo hS (acA hLa hS.1) (disCM hab) hl.1 (kX6_noKinds l D a cI cZ hA S H.size  r1 hr1) (cwV 0 X.2.2.1 gL_law_X6_noKinds rfl rfl rfl (by decide +kernel) ⟨Nat.le_of_ble_eq_true rfl, Nat.le_of_ble_eq_true rfl⟩) (vC_X6 hK hP) rfl rfl (Nat.le_of_ble_eq_true rfl) dL_law_719 ⟨lawC_le, lawS_le⟩ (fun H locs hP hPo hS => ?_)
  refine lv_aload_n hx hb dL_law_722 rfl (lv_at hl 2 rfl) ?_
  obtain ⟨r2, hr2, hm⟩ := bd_ok hm
  refine callLI (wf := wM b cI cZ) (wo := wC a cI cZ) (T := r1.2) (A := (fun q : Nat => s.heap.size ≤ q)) (rest := [.int r1.1]) X hK hNW hml hPo hP hS (acA hLb hS.1) (disMC hab) hl.1 (kX7_noKinds l D b cI cZ hB T H.size  r2 hr2) (cwV 0 X.2.2.1 gL_law_X7_noKinds rfl rfl rfl (by decide +kernel) ⟨Nat.le_of_ble_eq_true rfl, Nat.le_of_ble_eq_true rfl⟩) (vM_X7 hK hPo) rfl rfl (Nat.le_of_ble_eq_true rfl) dL_law_723 ⟨lawC_le, lawS_le⟩ (fun H locs hPo hP hS => ?_)
  refine lv_icmp_eq (tgt := 744) hx hb dL_law_726 (by decide) (fun hc => ?_) (fun hc => ?_)
  · replace hm := (if_pos hc).symm.trans hm
    refine lv_iinc (v := (i + (6 : Int32))) (lv' := [(3, .int (i + (6 : Int32))), (0, .ref bs), (1, .ref (a 0)), (2, .ref (b 0))]) hx hb dL_law_744 hl (k := 3) rfl rfl (by decide) rfl (fun ls hl => ?_)
    refine lv_goto (tgt := 18) hx hb dL_law_747 (by decide) ?_
    exact hk r1.2 r2.2 (i + (6 : Int32)) H locs ls hP hPo hS (lv_sub hl [1, 2, 3, 0] rfl) hm
  · replace hm := (if_neg hc).symm.trans hm
    refine lv_iconst (v := (0 : Int32)) hx hb dL_law_729 (by decide) ?_
    exact absurd (Option.some.inj hm) (by decide)
set_option maxHeartbeats 4000000 in
set_option maxRecDepth 100000 in
theorem law_c19 {p : Program} {l : Launch} {e : Env} {s : State} {m : MethodId} {below : List Frame} {meth : Method} {c : Code} {D : va_G} {cI cZ : ClassId} {a b : Nat → Nat} {bs L : Nat} {xs : Nat → Int32} (X : CX p m c cL_law s #[Value.ref bs] wsL_law RL) (hK : va_K D vwCl (TYS cI cZ) s) (hNW : NW s) (hml : c.maxLocals = 4) (hX : va_X bs L xs s s.heap) (hbl : bs < s.heap.size) (hA : AP 24 a) (hB : AP 31 b) (hLa : ∀ k, k < 24 → s.heap.size ≤ a k) (hLb : ∀ k, k < 31 → s.heap.size ≤ b k) (hab : ∀ i j, i < 24 → j < 31 → a i ≠ b j) (k : ST → ST → Int32 → Option Int32) (hk : (∀ (S T : ST) (i : Int32) (H : Heap) (locs : List Loc) (ls : Array Slot), va_P D vwCl (wC a cI cZ S) H → va_P D vwCl (wM b cI cZ T) H → va_S (fun q : Nat => s.heap.size ≤ q) s.heap H locs → lv_has ls 4 [(0, .ref bs), (1, .ref (a 0)), (2, .ref (b 0)), (3, .int i)] → k S T i = some 1 → W p l e room_1 s m #[Value.ref bs] below meth c H locs lawC lawS (lw_Z below #[Value.ref bs] s) (F0 m 18 ls []))) : ∀ (S T : ST) (i : Int32) (H : Heap) (locs : List Loc) (ls : Array Slot), va_P D vwCl (wC a cI cZ S) H → va_P D vwCl (wM b cI cZ T) H → va_S (fun q : Nat => s.heap.size ≤ q) s.heap H locs → lv_has ls 4 [(0, .ref bs), (1, .ref (a 0)), (2, .ref (b 0)), (3, .int i)] → mL_c19 k xs L S T i = some 1 → W p l e room_1 s m #[Value.ref bs] below meth c H locs lawC lawS (lw_Z below #[Value.ref bs] s) (F0 m 731 ls []) := by
  have hbA : ¬ (fun q : Nat => s.heap.size ≤ q) bs := Nat.not_le.mpr hbl
  have hx := X.1
  have hb := X.2.1
  intro S T i H locs ls hP hPo hS hl hm
  unfold mL_c19 at hm
  refine lv_aload_n hx hb dL_law_731 rfl (lv_at hl 1 rfl) ?_
  obtain ⟨r1, hr1, hm⟩ := bd_ok hm
  refine callLI (wf := wC a cI cZ) (wo := wM b cI cZ) (T := T) (A := (fun q : Nat => s.heap.size ≤ q)) (rest := []) X hK hNW hml hP hPo hS (acA hLa hS.1) (disCM hab) hl.1 (kX6_noBars l D a cI cZ hA S H.size  r1 hr1) (cwV 0 X.2.2.1 gL_law_X6_noBars rfl rfl rfl (by decide +kernel) ⟨Nat.le_of_ble_eq_true rfl, Nat.le_of_ble_eq_true rfl⟩) (vC_X6 hK hP) rfl rfl (Nat.le_of_ble_eq_true rfl) dL_law_732 ⟨lawC_le, lawS_le⟩ (fun H locs hP hPo hS => ?_)
  refine lv_aload_n hx hb dL_law_735 rfl (lv_at hl 2 rfl) ?_
  obtain ⟨r2, hr2, hm⟩ := bd_ok hm
  refine callLI (wf := wM b cI cZ) (wo := wC a cI cZ) (T := r1.2) (A := (fun q : Nat => s.heap.size ≤ q)) (rest := [.int r1.1]) X hK hNW hml hPo hP hS (acA hLb hS.1) (disMC hab) hl.1 (kX7_noBars l D b cI cZ hB T H.size  r2 hr2) (cwV 0 X.2.2.1 gL_law_X7_noBars rfl rfl rfl (by decide +kernel) ⟨Nat.le_of_ble_eq_true rfl, Nat.le_of_ble_eq_true rfl⟩) (vM_X7 hK hPo) rfl rfl (Nat.le_of_ble_eq_true rfl) dL_law_736 ⟨lawC_le, lawS_le⟩ (fun H locs hPo hP hS => ?_)
  refine lv_icmp_eq (tgt := 744) hx hb dL_law_739 (by decide) (fun hc => ?_) (fun hc => ?_)
  · replace hm := (if_pos hc).symm.trans hm
    refine lv_iinc (v := (i + (6 : Int32))) (lv' := [(3, .int (i + (6 : Int32))), (0, .ref bs), (1, .ref (a 0)), (2, .ref (b 0))]) hx hb dL_law_744 hl (k := 3) rfl rfl (by decide) rfl (fun ls hl => ?_)
    refine lv_goto (tgt := 18) hx hb dL_law_747 (by decide) ?_
    exact hk r1.2 r2.2 (i + (6 : Int32)) H locs ls hP hPo hS (lv_sub hl [1, 2, 3, 0] rfl) hm
  · replace hm := (if_neg hc).symm.trans hm
    refine lv_iconst (v := (0 : Int32)) hx hb dL_law_742 (by decide) ?_
    exact absurd (Option.some.inj hm) (by decide)
set_option maxHeartbeats 4000000 in
set_option maxRecDepth 100000 in
theorem law_body {p : Program} {l : Launch} {e : Env} {s : State} {m : MethodId} {below : List Frame} {meth : Method} {c : Code} {D : va_G} {cI cZ : ClassId} {a b : Nat → Nat} {bs L : Nat} {xs : Nat → Int32} (X : CX p m c cL_law s #[Value.ref bs] wsL_law RL) (hK : va_K D vwCl (TYS cI cZ) s) (hNW : NW s) (hml : c.maxLocals = 4) (hX : va_X bs L xs s s.heap) (hbl : bs < s.heap.size) (hA : AP 24 a) (hB : AP 31 b) (hLa : ∀ k, k < 24 → s.heap.size ≤ a k) (hLb : ∀ k, k < 31 → s.heap.size ≤ b k) (hab : ∀ i j, i < 24 → j < 31 → a i ≠ b j) (hr : meth.sig.returnType = ret) (hlocks : meth.locks = false) (k : ST → ST → Int32 → Option Int32) (hk : (∀ (S T : ST) (i : Int32) (H : Heap) (locs : List Loc) (ls : Array Slot), va_P D vwCl (wC a cI cZ S) H → va_P D vwCl (wM b cI cZ T) H → va_S (fun q : Nat => s.heap.size ≤ q) s.heap H locs → lv_has ls 4 [(0, .ref bs), (1, .ref (a 0)), (2, .ref (b 0)), (3, .int i)] → k S T i = some 1 → W p l e room_1 s m #[Value.ref bs] below meth c H locs lawC lawS (lw_Z below #[Value.ref bs] s) (F0 m 18 ls []))) : ∀ (S T : ST) (i : Int32) (H : Heap) (locs : List Loc) (ls : Array Slot), va_P D vwCl (wC a cI cZ S) H → va_P D vwCl (wM b cI cZ T) H → va_S (fun q : Nat => s.heap.size ≤ q) s.heap H locs → lv_has ls 4 [(0, .ref bs), (1, .ref (a 0)), (2, .ref (b 0)), (3, .int i)] → mL_B k xs L S T i = some 1 → W p l e room_1 s m #[Value.ref bs] below meth c H locs lawC lawS (lw_Z below #[Value.ref bs] s) (F0 m 18 ls []) := by
  have hbA : ¬ (fun q : Nat => s.heap.size ≤ q) bs := Nat.not_le.mpr hbl
  have hx := X.1
  have hb := X.2.1
  intro S T i H locs ls hP hPo hS hl hm
  unfold mL_B at hm
  refine lv_iload_n hx hb dL_law_18 rfl (lv_at hl 3 rfl) ?_
  refine lv_aload_n hx hb dL_law_19 rfl (lv_at hl 0 rfl) ?_
  refine va_slen hx hb hX hbl hbA hS dL_law_20 ?_
  refine lv_bipush (v := (6 : Int32)) hx hb dL_law_21 (by decide) ?_
  refine lv_isub hx hb dL_law_23 ?_
  refine lv_icmp_gt (tgt := 750) hx hb dL_law_24 (by decide) (fun hc => ?_) (fun hc => ?_)
  · refine lv_iconst (v := (1 : Int32)) hx hb dL_law_750 (by decide) ?_
    refine va_forget (fun q hq => hS.2.2 q hq) ?_
    refine W.widen (k := 600000) (n := 7302250) lawC_le lawS_le ?_
    exact lw_ret hx hb hr hlocks dL_law_751
  · replace hm := (if_neg hc).symm.trans hm
    refine lv_aload_n hx hb dL_law_27 rfl (lv_at hl 0 rfl) ?_
    refine lv_iload_n hx hb dL_law_28 rfl (lv_at hl 3 rfl) ?_
    obtain ⟨h1, hm⟩ := gd_ok hm
    refine va_sld hx hb hX hbl hbA hS (inB_ok h1) dL_law_29 ?_
    refine lv_bipush (v := (31 : Int32)) hx hb dL_law_30 (by decide) ?_
    refine lv_iand hx hb dL_law_32 ?_
    by_cases hq0 : ((xs i.toNatClampNeg) &&& (31 : Int32)) = (0 : Int32)
    · replace hm := (if_pos hq0).symm.trans hm
      refine lv_tableIn (off := 95) (tgt := 128) hx hb dL_law_33 (by rw [hq0]; decide) (by rw [hq0]; decide) (by rw [hq0]; rfl) (by decide) ?_
      exact law_c0 X hK hNW hml hX hbl hA hB hLa hLb hab k hk S T i H locs ls hP hPo hS hl hm
    · replace hm := (if_neg hq0).symm.trans hm
      by_cases hq1 : ((xs i.toNatClampNeg) &&& (31 : Int32)) = (1 : Int32)
      · replace hm := (if_pos hq1).symm.trans hm
        refine lv_tableIn (off := 158) (tgt := 191) hx hb dL_law_33 (by rw [hq1]; decide) (by rw [hq1]; decide) (by rw [hq1]; rfl) (by decide) ?_
        exact law_c1 X hK hNW hml hX hbl hA hB hLa hLb hab k hk S T i H locs ls hP hPo hS hl hm
      · replace hm := (if_neg hq1).symm.trans hm
        by_cases hq2 : ((xs i.toNatClampNeg) &&& (31 : Int32)) = (2 : Int32)
        · replace hm := (if_pos hq2).symm.trans hm
          refine lv_tableIn (off := 211) (tgt := 244) hx hb dL_law_33 (by rw [hq2]; decide) (by rw [hq2]; decide) (by rw [hq2]; rfl) (by decide) ?_
          exact law_c2 X hK hNW hml hX hbl hA hB hLa hLb hab k hk S T i H locs ls hP hPo hS hl hm
        · replace hm := (if_neg hq2).symm.trans hm
          by_cases hq3 : ((xs i.toNatClampNeg) &&& (31 : Int32)) = (3 : Int32)
          · replace hm := (if_pos hq3).symm.trans hm
            refine lv_tableIn (off := 280) (tgt := 313) hx hb dL_law_33 (by rw [hq3]; decide) (by rw [hq3]; decide) (by rw [hq3]; rfl) (by decide) ?_
            exact law_c3 X hK hNW hml hX hbl hA hB hLa hLb hab k hk S T i H locs ls hP hPo hS hl hm
          · replace hm := (if_neg hq3).symm.trans hm
            by_cases hq4 : ((xs i.toNatClampNeg) &&& (31 : Int32)) = (4 : Int32)
            · replace hm := (if_pos hq4).symm.trans hm
              refine lv_tableIn (off := 313) (tgt := 346) hx hb dL_law_33 (by rw [hq4]; decide) (by rw [hq4]; decide) (by rw [hq4]; rfl) (by decide) ?_
              exact law_c4 X hK hNW hml hX hbl hA hB hLa hLb hab k hk S T i H locs ls hP hPo hS hl hm
            · replace hm := (if_neg hq4).symm.trans hm
              by_cases hq5 : ((xs i.toNatClampNeg) &&& (31 : Int32)) = (5 : Int32)
              · replace hm := (if_pos hq5).symm.trans hm
                refine lv_tableIn (off := 376) (tgt := 409) hx hb dL_law_33 (by rw [hq5]; decide) (by rw [hq5]; decide) (by rw [hq5]; rfl) (by decide) ?_
                exact law_c5 X hK hNW hml hX hbl hA hB hLa hLb hab k hk S T i H locs ls hP hPo hS hl hm
              · replace hm := (if_neg hq5).symm.trans hm
                by_cases hq6 : ((xs i.toNatClampNeg) &&& (31 : Int32)) = (6 : Int32)
                · replace hm := (if_pos hq6).symm.trans hm
                  refine lv_tableIn (off := 389) (tgt := 422) hx hb dL_law_33 (by rw [hq6]; decide) (by rw [hq6]; decide) (by rw [hq6]; rfl) (by decide) ?_
                  exact law_c6 X hK hNW hml hX hbl hA hB hLa hLb hab k hk S T i H locs ls hP hPo hS hl hm
                · replace hm := (if_neg hq6).symm.trans hm
                  by_cases hq7 : ((xs i.toNatClampNeg) &&& (31 : Int32)) = (7 : Int32)
                  · replace hm := (if_pos hq7).symm.trans hm
                    refine lv_tableIn (off := 422) (tgt := 455) hx hb dL_law_33 (by rw [hq7]; decide) (by rw [hq7]; decide) (by rw [hq7]; rfl) (by decide) ?_
                    exact law_c7 X hK hNW hml hX hbl hA hB hLa hLb hab k hk S T i H locs ls hP hPo hS hl hm
                  · replace hm := (if_neg hq7).symm.trans hm
                    by_cases hq8 : ((xs i.toNatClampNeg) &&& (31 : Int32)) = (8 : Int32)
                    · replace hm := (if_pos hq8).symm.trans hm
                      refine lv_tableIn (off := 435) (tgt := 468) hx hb dL_law_33 (by rw [hq8]; decide) (by rw [hq8]; decide) (by rw [hq8]; rfl) (by decide) ?_
                      exact law_c8 X hK hNW hml hX hbl hA hB hLa hLb hab k hk S T i H locs ls hP hPo hS hl hm
                    · replace hm := (if_neg hq8).symm.trans hm
                      by_cases hq9 : ((xs i.toNatClampNeg) &&& (31 : Int32)) = (9 : Int32)
                      · replace hm := (if_pos hq9).symm.trans hm
                        refine lv_tableIn (off := 468) (tgt := 501) hx hb dL_law_33 (by rw [hq9]; decide) (by rw [hq9]; decide) (by rw [hq9]; rfl) (by decide) ?_
                        exact law_c9 X hK hNW hml hX hbl hA hB hLa hLb hab k hk S T i H locs ls hP hPo hS hl hm
                      · replace hm := (if_neg hq9).symm.trans hm
                        by_cases hq10 : ((xs i.toNatClampNeg) &&& (31 : Int32)) = (10 : Int32)
                        · replace hm := (if_pos hq10).symm.trans hm
                          refine lv_tableIn (off := 481) (tgt := 514) hx hb dL_law_33 (by rw [hq10]; decide) (by rw [hq10]; decide) (by rw [hq10]; rfl) (by decide) ?_
                          exact law_c10 X hK hNW hml hX hbl hA hB hLa hLb hab k hk S T i H locs ls hP hPo hS hl hm
                        · replace hm := (if_neg hq10).symm.trans hm
                          by_cases hq11 : ((xs i.toNatClampNeg) &&& (31 : Int32)) = (11 : Int32)
                          · replace hm := (if_pos hq11).symm.trans hm
                            refine lv_tableIn (off := 514) (tgt := 547) hx hb dL_law_33 (by rw [hq11]; decide) (by rw [hq11]; decide) (by rw [hq11]; rfl) (by decide) ?_
                            exact law_c11 X hK hNW hml hX hbl hA hB hLa hLb hab k hk S T i H locs ls hP hPo hS hl hm
                          · replace hm := (if_neg hq11).symm.trans hm
                            by_cases hq12 : ((xs i.toNatClampNeg) &&& (31 : Int32)) = (12 : Int32)
                            · replace hm := (if_pos hq12).symm.trans hm
                              refine lv_tableIn (off := 547) (tgt := 580) hx hb dL_law_33 (by rw [hq12]; decide) (by rw [hq12]; decide) (by rw [hq12]; rfl) (by decide) ?_
                              exact law_c12 X hK hNW hml hX hbl hA hB hLa hLb hab k hk S T i H locs ls hP hPo hS hl hm
                            · replace hm := (if_neg hq12).symm.trans hm
                              by_cases hq13 : ((xs i.toNatClampNeg) &&& (31 : Int32)) = (13 : Int32)
                              · replace hm := (if_pos hq13).symm.trans hm
                                refine lv_tableIn (off := 580) (tgt := 613) hx hb dL_law_33 (by rw [hq13]; decide) (by rw [hq13]; decide) (by rw [hq13]; rfl) (by decide) ?_
                                exact law_c13 X hK hNW hml hX hbl hA hB hLa hLb hab k hk S T i H locs ls hP hPo hS hl hm
                              · replace hm := (if_neg hq13).symm.trans hm
                                by_cases hq14 : ((xs i.toNatClampNeg) &&& (31 : Int32)) = (14 : Int32)
                                · replace hm := (if_pos hq14).symm.trans hm
                                  refine lv_tableIn (off := 603) (tgt := 636) hx hb dL_law_33 (by rw [hq14]; decide) (by rw [hq14]; decide) (by rw [hq14]; rfl) (by decide) ?_
                                  exact law_c14 X hK hNW hml hX hbl hA hB hLa hLb hab k hk S T i H locs ls hP hPo hS hl hm
                                · replace hm := (if_neg hq14).symm.trans hm
                                  by_cases hq15 : ((xs i.toNatClampNeg) &&& (31 : Int32)) = (15 : Int32)
                                  · replace hm := (if_pos hq15).symm.trans hm
                                    refine lv_tableIn (off := 616) (tgt := 649) hx hb dL_law_33 (by rw [hq15]; decide) (by rw [hq15]; decide) (by rw [hq15]; rfl) (by decide) ?_
                                    exact law_c15 X hK hNW hml hX hbl hA hB hLa hLb hab k hk S T i H locs ls hP hPo hS hl hm
                                  · replace hm := (if_neg hq15).symm.trans hm
                                    by_cases hq16 : ((xs i.toNatClampNeg) &&& (31 : Int32)) = (16 : Int32)
                                    · replace hm := (if_pos hq16).symm.trans hm
                                      refine lv_tableIn (off := 629) (tgt := 662) hx hb dL_law_33 (by rw [hq16]; decide) (by rw [hq16]; decide) (by rw [hq16]; rfl) (by decide) ?_
                                      exact law_c16 X hK hNW hml hX hbl hA hB hLa hLb hab k hk S T i H locs ls hP hPo hS hl hm
                                    · replace hm := (if_neg hq16).symm.trans hm
                                      by_cases hq17 : ((xs i.toNatClampNeg) &&& (31 : Int32)) = (17 : Int32)
                                      · replace hm := (if_pos hq17).symm.trans hm
                                        refine lv_tableIn (off := 662) (tgt := 695) hx hb dL_law_33 (by rw [hq17]; decide) (by rw [hq17]; decide) (by rw [hq17]; rfl) (by decide) ?_
                                        exact law_c17 X hK hNW hml hX hbl hA hB hLa hLb hab k hk S T i H locs ls hP hPo hS hl hm
                                      · replace hm := (if_neg hq17).symm.trans hm
                                        by_cases hq18 : ((xs i.toNatClampNeg) &&& (31 : Int32)) = (18 : Int32)
                                        · replace hm := (if_pos hq18).symm.trans hm
                                          refine lv_tableIn (off := 685) (tgt := 718) hx hb dL_law_33 (by rw [hq18]; decide) (by rw [hq18]; decide) (by rw [hq18]; rfl) (by decide) ?_
                                          exact law_c18 X hK hNW hml hX hbl hA hB hLa hLb hab k hk S T i H locs ls hP hPo hS hl hm
                                        · replace hm := (if_neg hq18).symm.trans hm
                                          by_cases hq19 : ((xs i.toNatClampNeg) &&& (31 : Int32)) = (19 : Int32)
                                          · replace hm := (if_pos hq19).symm.trans hm
                                            refine lv_tableIn (off := 698) (tgt := 731) hx hb dL_law_33 (by rw [hq19]; decide) (by rw [hq19]; decide) (by rw [hq19]; rfl) (by decide) ?_
                                            exact law_c19 X hK hNW hml hX hbl hA hB hLa hLb hab k hk S T i H locs ls hP hPo hS hl hm
                                          · replace hm := (if_neg hq19).symm.trans hm
                                            refine lv_tableOut (tgt := 744) hx hb dL_law_33 (tbOut (n := 19) rfl (fun k hk => ?_)) (by decide) ?_
                                            · match k, hk with
                                              | 0, _ => exact hq0
                                              | 1, _ => exact hq1
                                              | 2, _ => exact hq2
                                              | 3, _ => exact hq3
                                              | 4, _ => exact hq4
                                              | 5, _ => exact hq5
                                              | 6, _ => exact hq6
                                              | 7, _ => exact hq7
                                              | 8, _ => exact hq8
                                              | 9, _ => exact hq9
                                              | 10, _ => exact hq10
                                              | 11, _ => exact hq11
                                              | 12, _ => exact hq12
                                              | 13, _ => exact hq13
                                              | 14, _ => exact hq14
                                              | 15, _ => exact hq15
                                              | 16, _ => exact hq16
                                              | 17, _ => exact hq17
                                              | 18, _ => exact hq18
                                              | 19, _ => exact hq19
                                              | k + 20, hk => exact absurd hk (by omega)
                                            · refine lv_iinc (v := (i + (6 : Int32))) (lv' := [(3, .int (i + (6 : Int32))), (0, .ref bs), (1, .ref (a 0)), (2, .ref (b 0))]) hx hb dL_law_744 hl (k := 3) rfl rfl (by decide) rfl (fun ls hl => ?_)
                                              refine lv_goto (tgt := 18) hx hb dL_law_747 (by decide) ?_
                                              exact hk S T (i + (6 : Int32)) H locs ls hP hPo hS (lv_sub hl [1, 2, 3, 0] rfl) hm
theorem law_loop {p : Program} {l : Launch} {e : Env} {s : State} {m : MethodId} {below : List Frame} {meth : Method} {c : Code} {D : va_G} {cI cZ : ClassId} {a b : Nat → Nat} {bs L : Nat} {xs : Nat → Int32} (X : CX p m c cL_law s #[Value.ref bs] wsL_law RL) (hK : va_K D vwCl (TYS cI cZ) s) (hNW : NW s) (hml : c.maxLocals = 4) (hX : va_X bs L xs s s.heap) (hbl : bs < s.heap.size) (hA : AP 24 a) (hB : AP 31 b) (hLa : ∀ k, k < 24 → s.heap.size ≤ a k) (hLb : ∀ k, k < 31 → s.heap.size ≤ b k) (hab : ∀ i j, i < 24 → j < 31 → a i ≠ b j) (hr : meth.sig.returnType = ret) (hlocks : meth.locks = false) : ∀ (n : Nat) (S T : ST) (i : Int32) (H : Heap) (locs : List Loc) (ls : Array Slot), va_P D vwCl (wC a cI cZ S) H → va_P D vwCl (wM b cI cZ T) H → va_S (fun q : Nat => s.heap.size ≤ q) s.heap H locs → lv_has ls 4 [(0, .ref bs), (1, .ref (a 0)), (2, .ref (b 0)), (3, .int i)] → mL xs L n S T i = some 1 → W p l e room_1 s m #[Value.ref bs] below meth c H locs lawC lawS (lw_Z below #[Value.ref bs] s) (F0 m 18 ls []) := by
  intro n
  induction n with
  | zero =>
    intro S T i H locs ls hP hPo hS hl hm
    exact (noS (show (none : Option Int32) = some 1 from hm)).elim
  | succ n ih =>
    intro S T i H locs ls hP hPo hS hl hm
    exact law_body X hK hNW hml hX hbl hA hB hLa hLb hab hr hlocks (mL xs L n) ih S T i H locs ls hP hPo hS hl hm
