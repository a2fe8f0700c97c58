/-! BASE: the mirrors' words, the context of a walk, and rows for calls. My own. -/
abbrev ST : Type := (Nat → Int32) × (Nat → Nat → Int32)
def sI (S : ST) (k : Nat) (v : Int32) : ST := (va_up S.1 k v, S.2)
def sG (S : ST) (k : Nat) (j : Int32) (v : Int32) : ST := (S.1, va_up S.2 k (upd (S.2 k) j.toNatClampNeg v))
def inB (i : Int32) (n : Nat) : Bool := decide (¬ (i < 0 ∨ n ≤ i.toNatClampNeg))
theorem inB_ok {i : Int32} {n : Nat} (h : inB i n = true) : vp_in i n := (of_decide_eq_true h : ¬ (i < 0 ∨ n ≤ i.toNatClampNeg))
theorem noS {α : Type} {r : α} (h : (none : Option α) = some r) : False := by cases h
def gd {α : Type} (b : Bool) (x : Option α) : Option α := match b with
  | true => x
  | false => none
theorem gd_ok {α : Type} {b : Bool} {x : Option α} {r : α} (h : gd b x = some r) : b = true ∧ x = some r := by
  cases b with
  | true => exact ⟨rfl, h⟩
  | false => exact (noS (show (none : Option α) = some r from h)).elim
theorem bd_ok {α β : Type} {x : Option α} {f : α → Option β} {r : β} (h : x.bind f = some r) : ∃ a, x = some a ∧ f a = some r := by
  cases x with
  | none => exact (noS (show (none : Option β) = some r from h)).elim
  | some a => exact ⟨a, rfl, h⟩
/-- a loop: n turns of F at the most -/
def LPf {κ : Type} (z : κ) (F : κ → κ) : Nat → κ
  | 0 => z
  | n + 1 => F (LPf z F n)
def FU : Nat := 100000
/-- a boolean that fits -/
def zB (v : Int32) : Bool := decide (v = 0 ∨ v = 1)
theorem zB_ok {v : Int32} (h : zB v = true) : narrow .boolean (.int v) = .int v ∧ fits .boolean (.int v) = true := by
  rcases of_decide_eq_true h with rfl | rfl <;> exact ⟨rfl, rfl⟩
abbrev TYS (cI cZ : ClassId) : List (ClassId × FieldType) := [(cI, .int), (cZ, .boolean)]
def AC (n : Nat) (a : Nat → Nat) (sz : Nat) : Nat → Prop := fun q => (∃ k, k < n ∧ q = a k) ∨ sz ≤ q
def AP (n : Nat) (a : Nat → Nat) : Prop := ∀ i j, i < n → j < n → a i = a j → i = j
theorem AC_mono {n : Nat} {a : Nat → Nat} {s1 s2 : Nat} (h : s1 ≤ s2) {q : Nat} (hq : AC n a s2 q) : AC n a s1 q := hq.elim Or.inl (fun g => Or.inr (Nat.le_trans h g))
def NW (U : State) : Prop := va_Nw (.methodLinkNest "CuttingRules$BarList" 72 yX6_within "CuttingRules") U ∧ va_Nw (.methodLinkNest "CuttingRules$Sheet" 34 yX6_within "CuttingRules") U ∧ va_Nw (.methodLinkNest "CuttingRules$Worths" 54 yX6_within "CuttingRules") U
theorem NW_same {u U : State} (h : u.vm = U.vm) (q : NW u) : NW U := ⟨va_Nw.same rfl h q.1, va_Nw.same rfl h q.2.1, va_Nw.same rfl h q.2.2⟩
theorem NW_warm {s U : State} (hW : s.WarmedH U.vm) (q : NW s) : NW U := ⟨va_Nw.warmM hW q.1, va_Nw.warmM hW q.2.1, va_Nw.warmM hW q.2.2⟩
/-- what holds all along a walk -/
def CX (p : Program) (m : MethodId) (c : Code) (cc : ByteArray) (s : State) (args : Array Value) (Ts : List Cond) (own : String) : Prop :=
  p.tables.exec = Jvm.exec ∧ c.code = cc ∧ (∀ w ∈ Ts, w.before args s = true) ∧ s.vm.findClass own = some m.cls
def PreR (wf : va_W) (D : va_G) (cI cZ : ClassId) (U : State) : Prop := va_P D vwCl wf U.heap ∧ va_K D vwCl (TYS cI cZ) U ∧ NW U
def PreW (wf : va_W) (D : va_G) (cI cZ : ClassId) (sz : Nat) (U : State) : Prop := U.heap.size = sz ∧ va_P D vwCl wf U.heap ∧ va_K D vwCl (TYS cI cZ) U ∧ NW U
def PostW (wf : ST → va_W) (D : va_G) (cI cZ : ClassId) (T : ST) (t : State) : Prop := va_P D vwCl (wf T) t.heap ∧ va_K D vwCl (TYS cI cZ) t
theorem FB_T (av : List Value) : FrameBlind (va_Pc av (fun _ => True)) := fun _ _ _ _ q => q
theorem FB_R (av : List Value) (wf : va_W) (D : va_G) (cI cZ : ClassId) : FrameBlind (va_Pc av (PreR wf D cI cZ)) := fun a U g mk q => ⟨q.1, q.2.1, va_K.moved (u := U) (U := U.calling g mk a) (Vm.Alike.refl U.vm) q.2.2.1, NW_same (u := U) (U := U.calling g mk a) rfl q.2.2.2⟩
theorem FB_W (av : List Value) (wf : va_W) (D : va_G) (cI cZ : ClassId) (sz : Nat) : FrameBlind (va_Pc av (PreW wf D cI cZ sz)) := fun a U g mk q => ⟨q.1, q.2.1, q.2.2.1, va_K.moved (u := U) (U := U.calling g mk a) (Vm.Alike.refl U.vm) q.2.2.2.1, NW_same (u := U) (U := U.calling g mk a) rfl q.2.2.2.2⟩
/-- a method's walk from its entry -/
theorem metB {l : Launch} {y : MethodName} {ws ws' : List Cond} {rm : Room} {av : List Value} {Bq : State → Prop} {Qc : Array Value → State → Outcome → State → Prop} {mc ms : Nat} {free : Addr → Prop} {cc : ByteArray} {maxL : Nat} {ret : Option FieldType} (hy : plainName y.cls = true) (hw : ws = Cond.code y cc maxL ret :: ws') (hle : (lg_sl av).length ≤ maxL)
    (body : ∀ p e s m below meth c ls, CX p m c cc s av.toArray ws y.cls → c.maxLocals = maxL → meth.sig.returnType = ret → meth.locks = false → (y.name = "<init>" → meth.name = "<init>") → Bq s → lv_has ls maxL (lv_args 0 av) →
      W p l e rm s m av.toArray below meth c s.heap [] 0 0 (MQ below Qc av.toArray s mc ms free) (F0 m 0 ls [])) : Met l y ws rm (va_Pc av Bq) Qc mc ms free := by
  refine Met.ofW (cc := cc) (maxL := maxL) (ret := ret) hy hw ?_
  intro p e s m args below meth c s₁ B hml hv
  obtain ⟨rfl, hv⟩ := hv
  have hl := lv_entry av (n := maxL) hle
  rw [lg_entry_eq]
  exact body p e s m below meth c _ ⟨B.exec, B.bytes, atoms_spec (ws := ws) B.pre, findClass_of_methodNamed B.named⟩ hml B.returns B.notSynchronized (fun h => by rw [← h]; exact (name_of_methodNamed B.named B.method).1) hv hl
section CALLS
variable {p : Program} {l : Launch} {e : Env} {R : Room} {s : State} {m : MethodId} {args : Array Value} {below : List Frame} {meth : Method} {c : Code} {H : Heap} {locs : List Loc} {cells slots : Nat} {Q : State → Prop}
variable {Ts ws : List Cond} {cc bytes : ByteArray} {nL maxL index n pc : Nat} {own C host : String} {y : MethodName} {ret : Option FieldType} {rm : Room} {b : Addr} {As rest st0 : List Value} {ls : Array Slot} {D : va_G} {cI cZ : ClassId}
theorem callRV {wf : va_W} {res : Int32} (X : CX p m c cc s args Ts own) (hK : va_K D vwCl (TYS cI cZ) s) (hN : NW s) (hml : c.maxLocals = nL) (hP : va_P D vwCl wf H) (hsz : ls.size = nL)
    (hM : Met l y ws rm (va_Pc (Value.ref b :: As) (PreR wf D cI cZ)) (vp_Si (fun r => r = res)) 0 0 (fun _ => False)) (cw : CallW R s args own C index y bytes maxL ret ws rm 0 0 n) (hrec : ∃ cell : Cell, H[b]? = some cell ∧ cell.vm.isStatics = false ∧ s.vm.findClass C = some cell.cls)
    (hn : As.length = n) (hst : st0 = As.reverse ++ .ref b :: rest) (hroom : (rest.map fun v => v.category).sum ≤ 8) (hdg : decode cc pc = .ok (.invokevirtual index, 3)) (hf : cells ≤ R.cells ∧ slots ≤ R.slots)
    (kk : W p l e R s m args below meth c H locs cells slots Q (F0 m (pc + 3) ls (.int res :: rest))) : W p l e R s m args below meth c H locs cells slots Q (F0 m pc ls st0) := by
  subst hst
  refine vp_callSi (W.runV (As := As) (rest := rest) ⟨X.1, X.2.1, hml, X.2.2.2, X.2.2.1⟩ hM cw ⟨FB_R _ wf D cI cZ, hrec, fun U hU hW => ⟨rfl, by rw [hU]; exact hP, va_K.moved hW.alike hK, NW_warm hW hN⟩⟩ rfl hn hsz rfl (lv_room hroom) hdg ⟨hf.1, hf.2⟩) (fun r er => ?_)
  rw [er]
  exact kk
theorem callRS {res : Int32} (X : CX p m c cc s args Ts own) (hml : c.maxLocals = nL) (hsz : ls.size = nL)
    (hM : Met l y ws rm (va_Pc As (fun _ => True)) (vp_Si (fun r => r = res)) 0 0 (fun _ => False)) (cw : CallB R s args own index y bytes maxL ret ws rm 0 0 n ∧ (Cond.static y).before args s = true)
    (hn : As.length = n) (hst : st0 = As.reverse ++ rest) (hroom : (rest.map fun v => v.category).sum ≤ 8) (hdg : decode cc pc = .ok (.invokestatic index, 3)) (hf : cells ≤ R.cells ∧ slots ≤ R.slots)
    (kk : W p l e R s m args below meth c H locs cells slots Q (F0 m (pc + 3) ls (.int res :: rest))) : W p l e R s m args below meth c H locs cells slots Q (F0 m pc ls st0) := by
  subst hst
  refine vp_callSi (W.runS (As := As) (rest := rest) ⟨X.1, X.2.1, hml, X.2.2.2, X.2.2.1⟩ hM cw ⟨FB_T _, fun U hU hW => ⟨rfl, trivial⟩⟩ rfl hn hsz rfl (lv_room hroom) hdg ⟨hf.1, hf.2⟩) (fun r er => ?_)
  rw [er]
  exact kk
theorem callRN {res : Int32} (X : CX p m c cc s args Ts own) (hml : c.maxLocals = nL) (hsz : ls.size = nL)
    (hM : Met l y ws rm (va_Pc As (fun _ => True)) (vp_Si (fun r => r = res)) 0 0 (fun _ => False)) (cw : va_CN R s args own index y host bytes maxL ret ws rm 0 0 n ∧ (Cond.static y).before args s = true ∧ True)
    (hn : As.length = n) (hst : st0 = As.reverse ++ rest) (hroom : (rest.map fun v => v.category).sum ≤ 8) (hdg : decode cc pc = .ok (.invokestatic index, 3)) (hf : cells ≤ R.cells ∧ slots ≤ R.slots)
    (kk : W p l e R s m args below meth c H locs cells slots Q (F0 m (pc + 3) ls (.int res :: rest))) : W p l e R s m args below meth c H locs cells slots Q (F0 m pc ls st0) := by
  subst hst
  refine vp_callSi (va_Run.run (va_runSN (As := As) (rest := rest) ⟨X.1, X.2.1, hml, X.2.2.2, X.2.2.1⟩ hM cw ⟨FB_T _, fun U hU hW => ⟨rfl, trivial⟩⟩ rfl hn hsz rfl (lv_room hroom) hdg ⟨hf.1, hf.2⟩)) (fun r er => ?_)
  rw [er]
  exact kk
theorem callWV {wf : ST → va_W} {S res : ST} {N : Nat} {a : Nat → Nat} {H0 : Heap} (X : CX p m c cc s args Ts own) (hK : va_K D vwCl (TYS cI cZ) s) (hN : NW s) (hml : c.maxLocals = nL) (hP : va_P D vwCl (wf S) H) (hS : va_S (AC N a H0.size) H0 H locs) (hsz : ls.size = nL)
    (hM : Met l y ws rm (va_Pc (Value.ref b :: As) (PreW (wf S) D cI cZ H.size)) (va_Qv (fun T : ST => T = res) (PostW wf D cI cZ) (AC N a H.size)) 0 0 (AC N a H.size)) (cw : CallW R s args own C index y bytes maxL ret ws rm 0 0 n) (hrec : ∃ cell : Cell, H[b]? = some cell ∧ cell.vm.isStatics = false ∧ s.vm.findClass C = some cell.cls)
    (hn : As.length = n) (hst : st0 = As.reverse ++ .ref b :: rest) (hroom : (rest.map fun v => v.category).sum ≤ 8) (hdg : decode cc pc = .ok (.invokevirtual index, 3)) (hf : cells ≤ R.cells ∧ slots ≤ R.slots)
    (kk : ∀ (H1 : Heap) (locs1 : List Loc), va_P D vwCl (wf res) H1 → va_S (AC N a H0.size) H0 H1 locs1 → W p l e R s m args below meth c H1 locs1 cells slots Q (F0 m (pc + 3) ls rest)) : W p l e R s m args below meth c H locs cells slots Q (F0 m pc ls st0) := by
  subst hst
  refine va_callv (va_runV (As := As) (rest := rest) ⟨X.1, X.2.1, hml, X.2.2.2, X.2.2.1⟩ hM cw ⟨FB_W _ (wf S) D cI cZ H.size, hrec, fun U hU hW => ⟨rfl, by rw [hU], by rw [hU]; exact hP, va_K.moved hW.alike hK, NW_warm hW hN⟩⟩ rfl hn hsz rfl (lv_room hroom) hdg ⟨hf.1, hf.2⟩) hS (fun q _ h => AC_mono hS.1 h) (fun q h => AC_mono hS.1 h) (fun u t H1 locs1 ht hvm hw hB hz1 hk1 hS1 => ?_)
  subst hw
  exact kk H1 locs1 (by rw [← ht]; exact hB.1) hS1
theorem callWI {wf : ST → va_W} {S : ST} {res : Int32 × ST} {N : Nat} {a : Nat → Nat} {H0 : Heap} (X : CX p m c cc s args Ts own) (hK : va_K D vwCl (TYS cI cZ) s) (hN : NW s) (hml : c.maxLocals = nL) (hP : va_P D vwCl (wf S) H) (hS : va_S (AC N a H0.size) H0 H locs) (hsz : ls.size = nL)
    (hM : Met l y ws rm (va_Pc (Value.ref b :: As) (PreW (wf S) D cI cZ H.size)) (va_Qi (fun (r : Int32) (T : ST) => (r, T) = res) (PostW wf D cI cZ) (AC N a H.size)) 0 0 (AC N a H.size)) (cw : CallW R s args own C index y bytes maxL ret ws rm 0 0 n) (hrec : ∃ cell : Cell, H[b]? = some cell ∧ cell.vm.isStatics = false ∧ s.vm.findClass C = some cell.cls)
    (hn : As.length = n) (hst : st0 = As.reverse ++ .ref b :: rest) (hroom : (rest.map fun v => v.category).sum ≤ 8) (hdg : decode cc pc = .ok (.invokevirtual index, 3)) (hf : cells ≤ R.cells ∧ slots ≤ R.slots)
    (kk : ∀ (H1 : Heap) (locs1 : List Loc), va_P D vwCl (wf res.2) H1 → va_S (AC N a H0.size) H0 H1 locs1 → W p l e R s m args below meth c H1 locs1 cells slots Q (F0 m (pc + 3) ls (.int res.1 :: rest))) : W p l e R s m args below meth c H locs cells slots Q (F0 m pc ls st0) := by
  subst hst
  refine va_calli (va_runV (As := As) (rest := rest) ⟨X.1, X.2.1, hml, X.2.2.2, X.2.2.1⟩ hM cw ⟨FB_W _ (wf S) D cI cZ H.size, hrec, fun U hU hW => ⟨rfl, by rw [hU], by rw [hU]; exact hP, va_K.moved hW.alike hK, NW_warm hW hN⟩⟩ rfl hn hsz rfl (lv_room hroom) hdg ⟨hf.1, hf.2⟩) hS (fun q _ h => AC_mono hS.1 h) (fun q h => AC_mono hS.1 h) (fun r u t H1 locs1 ht hvm hw hB hz1 hk1 hS1 => ?_)
  subst hw
  exact kk H1 locs1 (by rw [← ht]; exact hB.1) hS1
theorem callWS {wf : ST → va_W} {S res : ST} {N : Nat} {a : Nat → Nat} {H0 : Heap} (X : CX p m c cc s args Ts own) (hK : va_K D vwCl (TYS cI cZ) s) (hN : NW s) (hml : c.maxLocals = nL) (hP : va_P D vwCl (wf S) H) (hS : va_S (AC N a H0.size) H0 H locs) (hsz : ls.size = nL)
    (hM : Met l y ws rm (va_Pc As (PreW (wf S) D cI cZ H.size)) (va_Qv (fun T : ST => T = res) (PostW wf D cI cZ) (AC N a H.size)) 0 0 (AC N a H.size)) (cw : CallB R s args own index y bytes maxL ret ws rm 0 0 n ∧ (Cond.static y).before args s = true)
    (hn : As.length = n) (hst : st0 = As.reverse ++ rest) (hroom : (rest.map fun v => v.category).sum ≤ 8) (hdg : decode cc pc = .ok (.invokestatic index, 3)) (hf : cells ≤ R.cells ∧ slots ≤ R.slots)
    (kk : ∀ (H1 : Heap) (locs1 : List Loc), va_P D vwCl (wf res) H1 → va_S (AC N a H0.size) H0 H1 locs1 → W p l e R s m args below meth c H1 locs1 cells slots Q (F0 m (pc + 3) ls rest)) : W p l e R s m args below meth c H locs cells slots Q (F0 m pc ls st0) := by
  subst hst
  refine va_callv (va_runS (As := As) (rest := rest) ⟨X.1, X.2.1, hml, X.2.2.2, X.2.2.1⟩ hM cw ⟨FB_W _ (wf S) D cI cZ H.size, fun U hU hW => ⟨rfl, by rw [hU], by rw [hU]; exact hP, va_K.moved hW.alike hK, NW_warm hW hN⟩⟩ rfl hn hsz rfl (lv_room hroom) hdg ⟨hf.1, hf.2⟩) hS (fun q _ h => AC_mono hS.1 h) (fun q h => AC_mono hS.1 h) (fun u t H1 locs1 ht hvm hw hB hz1 hk1 hS1 => ?_)
  subst hw
  exact kk H1 locs1 (by rw [← ht]; exact hB.1) hS1
/-- the ends of a walk -/
theorem endR {v res : Int32} {ty : FieldType} (X : CX p m c cc s args Ts own) (hr : meth.sig.returnType = some ty) (hn : narrow ty (.int v) = .int v) (hlocks : meth.locks = false) (hm : some v = some res) (hdg : decode cc pc = .ok (.ireturn, 1)) : W p l e R s m args below meth c s.heap [] cells slots (MQ below (vp_Si (fun r => r = res)) args s cells slots (fun _ => False)) (F0 m pc ls [.int v]) :=
  W.zret X.1 X.2.1 hr hn (fun t ht hW => ⟨v, rfl, Option.some.inj hm, ht⟩) (fun _ h => absurd h List.not_mem_nil) hdg hlocks
theorem endI {v : Int32} {S : ST} {res : Int32 × ST} {ty : FieldType} {wf : ST → va_W} {A : Nat → Prop} (X : CX p m c cc s args Ts own) (hK : va_K D vwCl (TYS cI cZ) s) (hr : meth.sig.returnType = some ty) (hn : narrow ty (.int v) = .int v) (hlocks : meth.locks = false) (hm : some (v, S) = some res) (hP : va_P D vwCl (wf S) H) (hS : va_S A s.heap H locs) (hdg : decode cc pc = .ok (.ireturn, 1)) : W p l e R s m args below meth c H locs cells slots (MQ below (va_Qi (fun (r : Int32) (T : ST) => (r, T) = res) (PostW wf D cI cZ) A) args s cells slots A) (F0 m pc ls [.int v]) :=
  W.zret X.1 X.2.1 hr hn (fun t ht hW => ⟨⟨v, S, rfl, Option.some.inj hm, by rw [ht]; exact hP, va_K.moved hW.alike hK⟩, hS.F ht⟩) hS.2.2 hdg hlocks
theorem endV {S res : ST} {wf : ST → va_W} {A : Nat → Prop} (X : CX p m c cc s args Ts own) (hK : va_K D vwCl (TYS cI cZ) s) (hr : meth.sig.returnType = none) (hlocks : meth.locks = false) (hm : some S = some res) (hP : va_P D vwCl (wf S) H) (hS : va_S A s.heap H locs) (hdg : decode cc pc = .ok (.return_, 1)) : W p l e R s m args below meth c H locs cells slots (MQ below (va_Qv (fun T : ST => T = res) (PostW wf D cI cZ) A) args s cells slots A) (F0 m pc ls []) :=
  W.vret X.1 X.2.1 hr (fun t ht hW => ⟨⟨S, rfl, Option.some.inj hm, by rw [ht]; exact hP, va_K.moved hW.alike hK⟩, hS.F ht⟩) hS.2.2 hdg hlocks
end CALLS
