section
-- ===== PART A: goes FIRST, ahead of the names: the tables' words, and 'selects' of the private methods out of them =====
/-- a private method of a class that the tables say can be made, by its rows of tables_1 -/
def lw_okq (q : MethodName × Nat) : Prop := (q.1.cls ≠ "java/lang/invoke/MethodHandle" ∧ q.1.cls ≠ "java/lang/invoke/VarHandle") ∧ Cond.instantiable q.1.cls q.2 ∈ tables_1 ∧ Cond.privateMethod q.1 ∈ tables_1 ∧ Cond.instanceMethod q.1 ∈ tables_1
theorem lw_p0 : lw_okq (⟨"CuttingRules$Worths", "fillSizes", "()V"⟩, 5) := ⟨⟨by decide +kernel, by decide +kernel⟩, List.mem_of_getElem? (i := 89) (by decide +kernel), List.mem_of_getElem? (i := 300) (by decide +kernel), List.mem_of_getElem? (i := 301) (by decide +kernel)⟩
theorem lw_p1 : lw_okq (⟨"CuttingRules$Worths", "mostOfSize", "(III)I"⟩, 5) := ⟨⟨by decide +kernel, by decide +kernel⟩, List.mem_of_getElem? (i := 89) (by decide +kernel), List.mem_of_getElem? (i := 308) (by decide +kernel), List.mem_of_getElem? (i := 309) (by decide +kernel)⟩
theorem lw_p2 : lw_okq (⟨"CuttingRules$Worths", "ofSize", "(III)I"⟩, 5) := ⟨⟨by decide +kernel, by decide +kernel⟩, List.mem_of_getElem? (i := 89) (by decide +kernel), List.mem_of_getElem? (i := 327) (by decide +kernel), List.mem_of_getElem? (i := 328) (by decide +kernel)⟩
theorem lw_p3 : lw_okq (⟨"CuttingRules$Worths", "fillParts", "()V"⟩, 5) := ⟨⟨by decide +kernel, by decide +kernel⟩, List.mem_of_getElem? (i := 89) (by decide +kernel), List.mem_of_getElem? (i := 341) (by decide +kernel), List.mem_of_getElem? (i := 342) (by decide +kernel)⟩
theorem lw_p4 : lw_okq (⟨"CuttingRules$Worths", "fillPart", "(IIII)V"⟩, 5) := ⟨⟨by decide +kernel, by decide +kernel⟩, List.mem_of_getElem? (i := 89) (by decide +kernel), List.mem_of_getElem? (i := 345) (by decide +kernel), List.mem_of_getElem? (i := 346) (by decide +kernel)⟩
theorem lw_p5 : lw_okq (⟨"CuttingRules$Worths", "mostOfCuts", "(IIIII)I"⟩, 5) := ⟨⟨by decide +kernel, by decide +kernel⟩, List.mem_of_getElem? (i := 89) (by decide +kernel), List.mem_of_getElem? (i := 359) (by decide +kernel), List.mem_of_getElem? (i := 360) (by decide +kernel)⟩
theorem lw_p6 : lw_okq (⟨"CuttingRules$Plan", "lay", "(IIIII)V"⟩, 9) := ⟨⟨by decide +kernel, by decide +kernel⟩, List.mem_of_getElem? (i := 149) (by decide +kernel), List.mem_of_getElem? (i := 376) (by decide +kernel), List.mem_of_getElem? (i := 377) (by decide +kernel)⟩
theorem lw_p7 : lw_okq (⟨"CuttingRules$Plan", "addPiece", "(IIIII)V"⟩, 9) := ⟨⟨by decide +kernel, by decide +kernel⟩, List.mem_of_getElem? (i := 149) (by decide +kernel), List.mem_of_getElem? (i := 386) (by decide +kernel), List.mem_of_getElem? (i := 387) (by decide +kernel)⟩
theorem lw_p8 : lw_okq (⟨"CuttingRules$Plan", "firstCut", "(IIIIII)I"⟩, 9) := ⟨⟨by decide +kernel, by decide +kernel⟩, List.mem_of_getElem? (i := 149) (by decide +kernel), List.mem_of_getElem? (i := 391) (by decide +kernel), List.mem_of_getElem? (i := 392) (by decide +kernel)⟩
theorem lw_p9 : lw_okq (⟨"CuttingRules$Plan", "addCut", "(IIIIII)V"⟩, 9) := ⟨⟨by decide +kernel, by decide +kernel⟩, List.mem_of_getElem? (i := 149) (by decide +kernel), List.mem_of_getElem? (i := 401) (by decide +kernel), List.mem_of_getElem? (i := 402) (by decide +kernel)⟩
theorem lw_p10 : lw_okq (⟨"CuttingRules$Plan", "layBoth", "(IIIIII)V"⟩, 9) := ⟨⟨by decide +kernel, by decide +kernel⟩, List.mem_of_getElem? (i := 149) (by decide +kernel), List.mem_of_getElem? (i := 406) (by decide +kernel), List.mem_of_getElem? (i := 407) (by decide +kernel)⟩
theorem lw_p11 : lw_okq (⟨"CuttingRules$BarList", "findLeastCosts", "()V"⟩, 10) := ⟨⟨by decide +kernel, by decide +kernel⟩, List.mem_of_getElem? (i := 188) (by decide +kernel), List.mem_of_getElem? (i := 469) (by decide +kernel), List.mem_of_getElem? (i := 470) (by decide +kernel)⟩
theorem lw_p12 : lw_okq (⟨"CuttingRules$BarList", "findLeastCost", "(IIII)V"⟩, 10) := ⟨⟨by decide +kernel, by decide +kernel⟩, List.mem_of_getElem? (i := 188) (by decide +kernel), List.mem_of_getElem? (i := 477) (by decide +kernel), List.mem_of_getElem? (i := 478) (by decide +kernel)⟩
theorem lw_p13 : lw_okq (⟨"CuttingRules$BarList", "barCost", "(I)I"⟩, 10) := ⟨⟨by decide +kernel, by decide +kernel⟩, List.mem_of_getElem? (i := 188) (by decide +kernel), List.mem_of_getElem? (i := 485) (by decide +kernel), List.mem_of_getElem? (i := 486) (by decide +kernel)⟩
theorem lw_p14 : lw_okq (⟨"CuttingRules$BarList", "lengthWanted", "(I)I"⟩, 10) := ⟨⟨by decide +kernel, by decide +kernel⟩, List.mem_of_getElem? (i := 188) (by decide +kernel), List.mem_of_getElem? (i := 489) (by decide +kernel), List.mem_of_getElem? (i := 490) (by decide +kernel)⟩
theorem lw_p15 : lw_okq (⟨"CuttingRules$BarList", "tryFirstBars", "(III)V"⟩, 10) := ⟨⟨by decide +kernel, by decide +kernel⟩, List.mem_of_getElem? (i := 188) (by decide +kernel), List.mem_of_getElem? (i := 501) (by decide +kernel), List.mem_of_getElem? (i := 502) (by decide +kernel)⟩
def lw_privs_1 : List (MethodName × Nat) := [(⟨"CuttingRules$Worths", "fillSizes", "()V"⟩, 5), (⟨"CuttingRules$Worths", "mostOfSize", "(III)I"⟩, 5), (⟨"CuttingRules$Worths", "ofSize", "(III)I"⟩, 5), (⟨"CuttingRules$Worths", "fillParts", "()V"⟩, 5), (⟨"CuttingRules$Worths", "fillPart", "(IIII)V"⟩, 5), (⟨"CuttingRules$Worths", "mostOfCuts", "(IIIII)I"⟩, 5), (⟨"CuttingRules$Plan", "lay", "(IIIII)V"⟩, 9), (⟨"CuttingRules$Plan", "addPiece", "(IIIII)V"⟩, 9), (⟨"CuttingRules$Plan", "firstCut", "(IIIIII)I"⟩, 9), (⟨"CuttingRules$Plan", "addCut", "(IIIIII)V"⟩, 9), (⟨"CuttingRules$Plan", "layBoth", "(IIIIII)V"⟩, 9), (⟨"CuttingRules$BarList", "findLeastCosts", "()V"⟩, 10), (⟨"CuttingRules$BarList", "findLeastCost", "(IIII)V"⟩, 10), (⟨"CuttingRules$BarList", "barCost", "(I)I"⟩, 10), (⟨"CuttingRules$BarList", "lengthWanted", "(I)I"⟩, 10), (⟨"CuttingRules$BarList", "tryFirstBars", "(III)V"⟩, 10)]
theorem lw_r1 : ∀ q ∈ lw_privs_1, lw_okq q := List.forall_mem_cons.mpr ⟨lw_p0, List.forall_mem_cons.mpr ⟨lw_p1, List.forall_mem_cons.mpr ⟨lw_p2, List.forall_mem_cons.mpr ⟨lw_p3, List.forall_mem_cons.mpr ⟨lw_p4, List.forall_mem_cons.mpr ⟨lw_p5, List.forall_mem_cons.mpr ⟨lw_p6, List.forall_mem_cons.mpr ⟨lw_p7, List.forall_mem_cons.mpr ⟨lw_p8, List.forall_mem_cons.mpr ⟨lw_p9, List.forall_mem_cons.mpr ⟨lw_p10, List.forall_mem_cons.mpr ⟨lw_p11, List.forall_mem_cons.mpr ⟨lw_p12, List.forall_mem_cons.mpr ⟨lw_p13, List.forall_mem_cons.mpr ⟨lw_p14, List.forall_mem_cons.mpr ⟨lw_p15, fun _ h => absurd h List.not_mem_nil⟩⟩⟩⟩⟩⟩⟩⟩⟩⟩⟩⟩⟩⟩⟩⟩
theorem lw_p16 : lw_okq (⟨"CuttingRules$BarList", "takeBars", "(I)V"⟩, 10) := ⟨⟨by decide +kernel, by decide +kernel⟩, List.mem_of_getElem? (i := 188) (by decide +kernel), List.mem_of_getElem? (i := 506) (by decide +kernel), List.mem_of_getElem? (i := 507) (by decide +kernel)⟩
theorem lw_p17 : lw_okq (⟨"CuttingRulesModel", "lies", "(IIII)Z"⟩, 47) := ⟨⟨by decide +kernel, by decide +kernel⟩, List.mem_of_getElem? (i := 534) (by decide +kernel), List.mem_of_getElem? (i := 694) (by decide +kernel), List.mem_of_getElem? (i := 695) (by decide +kernel)⟩
theorem lw_p18 : lw_okq (⟨"CuttingRulesModel", "work", "()V"⟩, 47) := ⟨⟨by decide +kernel, by decide +kernel⟩, List.mem_of_getElem? (i := 534) (by decide +kernel), List.mem_of_getElem? (i := 710) (by decide +kernel), List.mem_of_getElem? (i := 711) (by decide +kernel)⟩
theorem lw_p19 : lw_okq (⟨"CuttingRulesModel", "workPart", "(IIII)V"⟩, 47) := ⟨⟨by decide +kernel, by decide +kernel⟩, List.mem_of_getElem? (i := 534) (by decide +kernel), List.mem_of_getElem? (i := 714) (by decide +kernel), List.mem_of_getElem? (i := 715) (by decide +kernel)⟩
theorem lw_p20 : lw_okq (⟨"CuttingRulesModel", "bestPiece", "(IIII)I"⟩, 47) := ⟨⟨by decide +kernel, by decide +kernel⟩, List.mem_of_getElem? (i := 534) (by decide +kernel), List.mem_of_getElem? (i := 718) (by decide +kernel), List.mem_of_getElem? (i := 719) (by decide +kernel)⟩
theorem lw_p21 : lw_okq (⟨"CuttingRulesModel", "isLike", "(IIII)Z"⟩, 47) := ⟨⟨by decide +kernel, by decide +kernel⟩, List.mem_of_getElem? (i := 534) (by decide +kernel), List.mem_of_getElem? (i := 722) (by decide +kernel), List.mem_of_getElem? (i := 723) (by decide +kernel)⟩
theorem lw_p22 : lw_okq (⟨"CuttingRulesModel", "isSpoiled", "(IIII)Z"⟩, 47) := ⟨⟨by decide +kernel, by decide +kernel⟩, List.mem_of_getElem? (i := 534) (by decide +kernel), List.mem_of_getElem? (i := 726) (by decide +kernel), List.mem_of_getElem? (i := 727) (by decide +kernel)⟩
theorem lw_p23 : lw_okq (⟨"CuttingRulesModel", "wayOf", "(I)I"⟩, 47) := ⟨⟨by decide +kernel, by decide +kernel⟩, List.mem_of_getElem? (i := 534) (by decide +kernel), List.mem_of_getElem? (i := 730) (by decide +kernel), List.mem_of_getElem? (i := 731) (by decide +kernel)⟩
theorem lw_p24 : lw_okq (⟨"CuttingRulesModel", "both", "(IIIIII)I"⟩, 47) := ⟨⟨by decide +kernel, by decide +kernel⟩, List.mem_of_getElem? (i := 534) (by decide +kernel), List.mem_of_getElem? (i := 734) (by decide +kernel), List.mem_of_getElem? (i := 735) (by decide +kernel)⟩
theorem lw_p25 : lw_okq (⟨"CuttingRulesModel", "at", "(IIIII)I"⟩, 47) := ⟨⟨by decide +kernel, by decide +kernel⟩, List.mem_of_getElem? (i := 534) (by decide +kernel), List.mem_of_getElem? (i := 738) (by decide +kernel), List.mem_of_getElem? (i := 739) (by decide +kernel)⟩
theorem lw_p26 : lw_okq (⟨"CuttingRulesModel", "layPlan", "()V"⟩, 47) := ⟨⟨by decide +kernel, by decide +kernel⟩, List.mem_of_getElem? (i := 534) (by decide +kernel), List.mem_of_getElem? (i := 742) (by decide +kernel), List.mem_of_getElem? (i := 743) (by decide +kernel)⟩
theorem lw_p27 : lw_okq (⟨"CuttingRulesModel", "lay", "(IIIII)V"⟩, 47) := ⟨⟨by decide +kernel, by decide +kernel⟩, List.mem_of_getElem? (i := 534) (by decide +kernel), List.mem_of_getElem? (i := 746) (by decide +kernel), List.mem_of_getElem? (i := 747) (by decide +kernel)⟩
theorem lw_p28 : lw_okq (⟨"CuttingRulesModel", "layPart", "(IIIII)V"⟩, 47) := ⟨⟨by decide +kernel, by decide +kernel⟩, List.mem_of_getElem? (i := 534) (by decide +kernel), List.mem_of_getElem? (i := 750) (by decide +kernel), List.mem_of_getElem? (i := 751) (by decide +kernel)⟩
theorem lw_p29 : lw_okq (⟨"CuttingRulesModel", "isPiece", "(IIIII)Z"⟩, 47) := ⟨⟨by decide +kernel, by decide +kernel⟩, List.mem_of_getElem? (i := 534) (by decide +kernel), List.mem_of_getElem? (i := 754) (by decide +kernel), List.mem_of_getElem? (i := 755) (by decide +kernel)⟩
theorem lw_p30 : lw_okq (⟨"CuttingRulesModel", "pieceSide", "(IZ)I"⟩, 47) := ⟨⟨by decide +kernel, by decide +kernel⟩, List.mem_of_getElem? (i := 534) (by decide +kernel), List.mem_of_getElem? (i := 766) (by decide +kernel), List.mem_of_getElem? (i := 767) (by decide +kernel)⟩
theorem lw_p31 : lw_okq (⟨"CuttingRulesModel", "list", "()V"⟩, 47) := ⟨⟨by decide +kernel, by decide +kernel⟩, List.mem_of_getElem? (i := 534) (by decide +kernel), List.mem_of_getElem? (i := 802) (by decide +kernel), List.mem_of_getElem? (i := 803) (by decide +kernel)⟩
def lw_privs_2 : List (MethodName × Nat) := [(⟨"CuttingRules$BarList", "takeBars", "(I)V"⟩, 10), (⟨"CuttingRulesModel", "lies", "(IIII)Z"⟩, 47), (⟨"CuttingRulesModel", "work", "()V"⟩, 47), (⟨"CuttingRulesModel", "workPart", "(IIII)V"⟩, 47), (⟨"CuttingRulesModel", "bestPiece", "(IIII)I"⟩, 47), (⟨"CuttingRulesModel", "isLike", "(IIII)Z"⟩, 47), (⟨"CuttingRulesModel", "isSpoiled", "(IIII)Z"⟩, 47), (⟨"CuttingRulesModel", "wayOf", "(I)I"⟩, 47), (⟨"CuttingRulesModel", "both", "(IIIIII)I"⟩, 47), (⟨"CuttingRulesModel", "at", "(IIIII)I"⟩, 47), (⟨"CuttingRulesModel", "layPlan", "()V"⟩, 47), (⟨"CuttingRulesModel", "lay", "(IIIII)V"⟩, 47), (⟨"CuttingRulesModel", "layPart", "(IIIII)V"⟩, 47), (⟨"CuttingRulesModel", "isPiece", "(IIIII)Z"⟩, 47), (⟨"CuttingRulesModel", "pieceSide", "(IZ)I"⟩, 47), (⟨"CuttingRulesModel", "list", "()V"⟩, 47)]
theorem lw_r2 : ∀ q ∈ lw_privs_2, lw_okq q := List.forall_mem_cons.mpr ⟨lw_p16, List.forall_mem_cons.mpr ⟨lw_p17, List.forall_mem_cons.mpr ⟨lw_p18, List.forall_mem_cons.mpr ⟨lw_p19, List.forall_mem_cons.mpr ⟨lw_p20, List.forall_mem_cons.mpr ⟨lw_p21, List.forall_mem_cons.mpr ⟨lw_p22, List.forall_mem_cons.mpr ⟨lw_p23, List.forall_mem_cons.mpr ⟨lw_p24, List.forall_mem_cons.mpr ⟨lw_p25, List.forall_mem_cons.mpr ⟨lw_p26, List.forall_mem_cons.mpr ⟨lw_p27, List.forall_mem_cons.mpr ⟨lw_p28, List.forall_mem_cons.mpr ⟨lw_p29, List.forall_mem_cons.mpr ⟨lw_p30, List.forall_mem_cons.mpr ⟨lw_p31, fun _ h => absurd h List.not_mem_nil⟩⟩⟩⟩⟩⟩⟩⟩⟩⟩⟩⟩⟩⟩⟩⟩
theorem lw_p32 : lw_okq (⟨"CuttingRulesModel", "all", "()I"⟩, 47) := ⟨⟨by decide +kernel, by decide +kernel⟩, List.mem_of_getElem? (i := 534) (by decide +kernel), List.mem_of_getElem? (i := 806) (by decide +kernel), List.mem_of_getElem? (i := 807) (by decide +kernel)⟩
theorem lw_p33 : lw_okq (⟨"CuttingRulesModel", "findPattern", "(I)V"⟩, 47) := ⟨⟨by decide +kernel, by decide +kernel⟩, List.mem_of_getElem? (i := 534) (by decide +kernel), List.mem_of_getElem? (i := 816) (by decide +kernel), List.mem_of_getElem? (i := 817) (by decide +kernel)⟩
theorem lw_p34 : lw_okq (⟨"CuttingRulesModel", "reach", "(III)V"⟩, 47) := ⟨⟨by decide +kernel, by decide +kernel⟩, List.mem_of_getElem? (i := 534) (by decide +kernel), List.mem_of_getElem? (i := 820) (by decide +kernel), List.mem_of_getElem? (i := 821) (by decide +kernel)⟩
theorem lw_p35 : lw_okq (⟨"CuttingRulesModel", "isBest", "(II)Z"⟩, 47) := ⟨⟨by decide +kernel, by decide +kernel⟩, List.mem_of_getElem? (i := 534) (by decide +kernel), List.mem_of_getElem? (i := 824) (by decide +kernel), List.mem_of_getElem? (i := 825) (by decide +kernel)⟩
def lw_privs_3 : List (MethodName × Nat) := [(⟨"CuttingRulesModel", "all", "()I"⟩, 47), (⟨"CuttingRulesModel", "findPattern", "(I)V"⟩, 47), (⟨"CuttingRulesModel", "reach", "(III)V"⟩, 47), (⟨"CuttingRulesModel", "isBest", "(II)Z"⟩, 47)]
theorem lw_r3 : ∀ q ∈ lw_privs_3, lw_okq q := List.forall_mem_cons.mpr ⟨lw_p32, List.forall_mem_cons.mpr ⟨lw_p33, List.forall_mem_cons.mpr ⟨lw_p34, List.forall_mem_cons.mpr ⟨lw_p35, fun _ h => absurd h List.not_mem_nil⟩⟩⟩⟩
def lw_privs : List (MethodName × Nat) := lw_privs_1 ++ (lw_privs_2 ++ (lw_privs_3))
def lw_tbl : List Cond := k2_sels lw_privs ++ tables_1
theorem lw_privs_ok : ∀ q ∈ lw_privs, lw_okq q := by
  show ∀ q ∈ lw_privs_1 ++ (lw_privs_2 ++ (lw_privs_3)), lw_okq q
  exact List.forall_mem_append.mpr ⟨lw_r1, List.forall_mem_append.mpr ⟨lw_r2, lw_r3⟩⟩
-- ===== end of PART A; then your names; then what follows =====
end
section
/-! ===== BEGIN words of one list among another's, by their places ===== -/
theorem goodIn_r {big : List Cond} (ws : List Cond) (ps : List Nat) (hp : ws = ps.filterMap (fun i => big[i]?)) (h : ws.all goodWord = true) : GoodIn big ws := by
  intro w hw
  have h1 := List.all_eq_true.mp h w hw
  rw [hp] at hw
  obtain ⟨i, -, hi⟩ := List.mem_filterMap.mp hw
  have hm : w ∈ big := by first | exact List.mem_of_getElem? hi | exact List.getElem?_mem hi
  exact ⟨hm, good_of_word h1⟩
theorem goodIn_app {big a b : List Cond} (ha : GoodIn big a) (hb : GoodIn big b) : GoodIn big (a ++ b) := fun w h => (List.mem_append.mp h).elim (ha w) (hb w)
theorem goodIn_ca {big a b : List Cond} {c : Cond} (ha : GoodIn big (c :: a)) (hb : GoodIn big b) : GoodIn big (c :: (a ++ b)) := fun w h => (List.mem_cons.mp h).elim (fun e => ha w (List.mem_cons.mpr (Or.inl e))) (fun h => (List.mem_append.mp h).elim (fun h => ha w (List.mem_cons.mpr (Or.inr h))) (hb w))
theorem goodIn_sub {big ws : List Cond} (hm : ∀ w ∈ ws, w ∈ big) (h : ws.all goodWord = true) : GoodIn big ws := fun w hw => ⟨hm w hw, good_of_word (List.all_eq_true.mp h w hw)⟩
/-! ===== END ===== -/

/-! ===== BEGIN printed: names, fields, word lists, decode rows ===== -/
def RX0 : String := "CuttingRules$BarList"
def TX0 : u_T := fun k => match k with
  | 0 => ("CuttingRules$BarList", "rack", "LCuttingRules$Rack;", true)
  | 1 => ("CuttingRules$BarList", "barCosts", "[I", true)
  | 2 => ("CuttingRules$BarList", "leastCosts", "[I", true)
  | 3 => ("CuttingRules$BarList", "firstPatterns", "[I", true)
  | 4 => ("CuttingRules$BarList", "patterns", "[I", true)
  | 5 => ("CuttingRules$BarList", "count", "I", false)
  | 6 => ("CuttingRules$BarList", "priceTogether", "I", false)
  | 7 => ("CuttingRules$BarList", "isShort", "Z", false)
  | 8 => ("CuttingRules$BarList", "costsStale", "Z", false)
  | _ => ("CuttingRules$BarList", "barsStale", "Z", false)
def tyX0 : Nat → FieldType := fun k => match k with
  | 0 => .object "CuttingRules$Rack"
  | 1 => .array .int
  | 2 => .array .int
  | 3 => .array .int
  | 4 => .array .int
  | 5 => .int
  | 6 => .int
  | 7 => .boolean
  | 8 => .boolean
  | _ => .boolean
abbrev wsX00 : List Cond := u_ws RX0 TX0 10
theorem nmX0 : ∀ a, a < 10 → ∀ b, b < 10 → a ≠ b → (TX0 a).2.1 ≠ (TX0 b).2.1 := by decide +kernel
theorem tyX0_ok : ∀ k, k < 10 → parseFieldDescriptor (TX0 k).2.2.1 = some (tyX0 k) := by decide +kernel
abbrev cX0_init : ByteArray := prog_2_method_1_code
def yX0_init : MethodName := ⟨RX0, "<init>", "(LCuttingRules$Rack;)V"⟩
abbrev cX0_forgetCosts : ByteArray := prog_2_method_2_code
def yX0_forgetCosts : MethodName := ⟨RX0, "forgetCosts", "()V"⟩
abbrev cX0_forgetBars : ByteArray := prog_2_method_3_code
def yX0_forgetBars : MethodName := ⟨RX0, "forgetBars", "()V"⟩
abbrev cX0_makeReady : ByteArray := prog_2_method_4_code
def yX0_makeReady : MethodName := ⟨RX0, "makeReady", "()V"⟩
abbrev cX0_findLeastCosts : ByteArray := prog_2_method_5_code
def yX0_findLeastCosts : MethodName := ⟨RX0, "findLeastCosts", "()V"⟩
abbrev cX0_findLeastCost : ByteArray := prog_2_method_6_code
def yX0_findLeastCost : MethodName := ⟨RX0, "findLeastCost", "(IIII)V"⟩
abbrev cX0_tryFirstBars : ByteArray := prog_2_method_7_code
def yX0_tryFirstBars : MethodName := ⟨RX0, "tryFirstBars", "(III)V"⟩
abbrev cX0_barCost : ByteArray := prog_2_method_8_code
def yX0_barCost : MethodName := ⟨RX0, "barCost", "(I)I"⟩
abbrev cX0_takeBars : ByteArray := prog_2_method_9_code
def yX0_takeBars : MethodName := ⟨RX0, "takeBars", "(I)V"⟩
abbrev cX0_fact : ByteArray := prog_2_method_10_code
def yX0_fact : MethodName := ⟨RX0, "fact", "(II)I"⟩
abbrev cX0_lengthWanted : ByteArray := prog_2_method_11_code
def yX0_lengthWanted : MethodName := ⟨RX0, "lengthWanted", "(I)I"⟩
abbrev cX0_numberOf : ByteArray := prog_2_method_12_code
def yX0_numberOf : MethodName := ⟨RX0, "numberOf", "(II)I"⟩
abbrev cX0_code : ByteArray := prog_2_method_13_code
def yX0_code : MethodName := ⟨RX0, "code", "(IIII)I"⟩
def RX1 : String := "CuttingRules$Kinds"
def TX1 : u_T := fun k => match k with
  | 0 => ("CuttingRules$Kinds", "count", "I", false)
  | 1 => ("CuttingRules$Kinds", "widths", "[I", true)
  | 2 => ("CuttingRules$Kinds", "heights", "[I", true)
  | 3 => ("CuttingRules$Kinds", "values", "[I", true)
  | _ => ("CuttingRules$Kinds", "turning", "[Z", true)
def tyX1 : Nat → FieldType := fun k => match k with
  | 0 => .int
  | 1 => .array .int
  | 2 => .array .int
  | 3 => .array .int
  | _ => .array .boolean
abbrev wsX10 : List Cond := u_ws RX1 TX1 5
theorem nmX1 : ∀ a, a < 5 → ∀ b, b < 5 → a ≠ b → (TX1 a).2.1 ≠ (TX1 b).2.1 := by decide +kernel
theorem tyX1_ok : ∀ k, k < 5 → parseFieldDescriptor (TX1 k).2.2.1 = some (tyX1 k) := by decide +kernel
abbrev cX1_init : ByteArray := prog_3_method_1_code
def yX1_init : MethodName := ⟨RX1, "<init>", "()V"⟩
abbrev cX1_add : ByteArray := prog_3_method_2_code
def yX1_add : MethodName := ⟨RX1, "add", "(IIIZ)I"⟩
abbrev cX1_lies : ByteArray := prog_3_method_3_code
def yX1_lies : MethodName := ⟨RX1, "lies", "(III)Z"⟩
abbrev cX1_liesTurned : ByteArray := prog_3_method_4_code
def yX1_liesTurned : MethodName := ⟨RX1, "liesTurned", "(III)Z"⟩
abbrev cX1_mostValue : ByteArray := prog_3_method_5_code
def yX1_mostValue : MethodName := ⟨RX1, "mostValue", "(II)I"⟩
abbrev cX1_firstOfValue : ByteArray := prog_3_method_6_code
def yX1_firstOfValue : MethodName := ⟨RX1, "firstOfValue", "(III)I"⟩
def RX2 : String := "CuttingRules$Plan"
def TX2 : u_T := fun k => match k with
  | 0 => ("CuttingRules$Plan", "sheet", "LCuttingRules$Sheet;", true)
  | 1 => ("CuttingRules$Plan", "kinds", "LCuttingRules$Kinds;", true)
  | 2 => ("CuttingRules$Plan", "worths", "LCuttingRules$Worths;", true)
  | 3 => ("CuttingRules$Plan", "pieceFacts", "[I", true)
  | 4 => ("CuttingRules$Plan", "cutFacts", "[I", true)
  | 5 => ("CuttingRules$Plan", "pieceCount", "I", false)
  | 6 => ("CuttingRules$Plan", "cutCount", "I", false)
  | 7 => ("CuttingRules$Plan", "unused", "I", false)
  | _ => ("CuttingRules$Plan", "stale", "Z", false)
def tyX2 : Nat → FieldType := fun k => match k with
  | 0 => .object "CuttingRules$Sheet"
  | 1 => .object "CuttingRules$Kinds"
  | 2 => .object "CuttingRules$Worths"
  | 3 => .array .int
  | 4 => .array .int
  | 5 => .int
  | 6 => .int
  | 7 => .int
  | _ => .boolean
abbrev wsX20 : List Cond := u_ws RX2 TX2 9
theorem nmX2 : ∀ a, a < 9 → ∀ b, b < 9 → a ≠ b → (TX2 a).2.1 ≠ (TX2 b).2.1 := by decide +kernel
theorem tyX2_ok : ∀ k, k < 9 → parseFieldDescriptor (TX2 k).2.2.1 = some (tyX2 k) := by decide +kernel
abbrev cX2_init : ByteArray := prog_4_method_1_code
def yX2_init : MethodName := ⟨RX2, "<init>", "(LCuttingRules$Sheet;LCuttingRules$Kinds;LCuttingRules$Worths;)V"⟩
abbrev cX2_forget : ByteArray := prog_4_method_2_code
def yX2_forget : MethodName := ⟨RX2, "forget", "()V"⟩
abbrev cX2_makeReady : ByteArray := prog_4_method_3_code
def yX2_makeReady : MethodName := ⟨RX2, "makeReady", "()V"⟩
abbrev cX2_lay : ByteArray := prog_4_method_4_code
def yX2_lay : MethodName := ⟨RX2, "lay", "(IIIII)V"⟩
abbrev cX2_layBoth : ByteArray := prog_4_method_5_code
def yX2_layBoth : MethodName := ⟨RX2, "layBoth", "(IIIIII)V"⟩
abbrev cX2_firstCut : ByteArray := prog_4_method_6_code
def yX2_firstCut : MethodName := ⟨RX2, "firstCut", "(IIIIII)I"⟩
abbrev cX2_addPiece : ByteArray := prog_4_method_7_code
def yX2_addPiece : MethodName := ⟨RX2, "addPiece", "(IIIII)V"⟩
abbrev cX2_addCut : ByteArray := prog_4_method_8_code
def yX2_addCut : MethodName := ⟨RX2, "addCut", "(IIIIII)V"⟩
def RX3 : String := "CuttingRules$Rack"
def TX3 : u_T := fun k => match k with
  | 0 => ("CuttingRules$Rack", "stocks", "I", false)
  | 1 => ("CuttingRules$Rack", "orders", "I", false)
  | 2 => ("CuttingRules$Rack", "blade", "I", false)
  | 3 => ("CuttingRules$Rack", "stockLengths", "[I", true)
  | 4 => ("CuttingRules$Rack", "stockPrices", "[I", true)
  | 5 => ("CuttingRules$Rack", "orderLengths", "[I", true)
  | _ => ("CuttingRules$Rack", "demands", "[I", true)
def tyX3 : Nat → FieldType := fun k => match k with
  | 0 => .int
  | 1 => .int
  | 2 => .int
  | 3 => .array .int
  | 4 => .array .int
  | 5 => .array .int
  | _ => .array .int
abbrev wsX30 : List Cond := u_ws RX3 TX3 7
theorem nmX3 : ∀ a, a < 7 → ∀ b, b < 7 → a ≠ b → (TX3 a).2.1 ≠ (TX3 b).2.1 := by decide +kernel
theorem tyX3_ok : ∀ k, k < 7 → parseFieldDescriptor (TX3 k).2.2.1 = some (tyX3 k) := by decide +kernel
abbrev cX3_init : ByteArray := prog_5_method_1_code
def yX3_init : MethodName := ⟨RX3, "<init>", "()V"⟩
abbrev cX3_addStock : ByteArray := prog_5_method_2_code
def yX3_addStock : MethodName := ⟨RX3, "addStock", "(II)I"⟩
abbrev cX3_addOrder : ByteArray := prog_5_method_3_code
def yX3_addOrder : MethodName := ⟨RX3, "addOrder", "(II)I"⟩
abbrev cX3_wantedOf : ByteArray := prog_5_method_4_code
def yX3_wantedOf : MethodName := ⟨RX3, "wantedOf", "(I)I"⟩
abbrev cX3_stockFor : ByteArray := prog_5_method_5_code
def yX3_stockFor : MethodName := ⟨RX3, "stockFor", "(I)I"⟩
def RX4 : String := "CuttingRules$Sheet"
def TX4 : u_T := fun k => match k with
  | 0 => ("CuttingRules$Sheet", "width", "I", false)
  | 1 => ("CuttingRules$Sheet", "height", "I", false)
  | 2 => ("CuttingRules$Sheet", "kerf", "I", false)
  | 3 => ("CuttingRules$Sheet", "stages", "I", false)
  | 4 => ("CuttingRules$Sheet", "first", "I", false)
  | 5 => ("CuttingRules$Sheet", "defects", "I", false)
  | _ => ("CuttingRules$Sheet", "spoiled", "[I", true)
def tyX4 : Nat → FieldType := fun k => match k with
  | 0 => .int
  | 1 => .int
  | 2 => .int
  | 3 => .int
  | 4 => .int
  | 5 => .int
  | _ => .array .int
abbrev wsX40 : List Cond := u_ws RX4 TX4 7
theorem nmX4 : ∀ a, a < 7 → ∀ b, b < 7 → a ≠ b → (TX4 a).2.1 ≠ (TX4 b).2.1 := by decide +kernel
theorem tyX4_ok : ∀ k, k < 7 → parseFieldDescriptor (TX4 k).2.2.1 = some (tyX4 k) := by decide +kernel
abbrev cX4_init : ByteArray := prog_6_method_1_code
def yX4_init : MethodName := ⟨RX4, "<init>", "()V"⟩
abbrev cX4_become : ByteArray := prog_6_method_2_code
def yX4_become : MethodName := ⟨RX4, "become", "(IIIII)V"⟩
abbrev cX4_holds : ByteArray := prog_6_method_3_code
def yX4_holds : MethodName := ⟨RX4, "holds", "(IIII)Z"⟩
abbrev cX4_spoil : ByteArray := prog_6_method_4_code
def yX4_spoil : MethodName := ⟨RX4, "spoil", "(IIII)Z"⟩
abbrev cX4_isClean : ByteArray := prog_6_method_5_code
def yX4_isClean : MethodName := ⟨RX4, "isClean", "(IIII)Z"⟩
abbrev cX4_partsWidth : ByteArray := prog_6_method_6_code
def yX4_partsWidth : MethodName := ⟨RX4, "partsWidth", "(I)Z"⟩
abbrev cX4_lastCut : ByteArray := prog_6_method_7_code
def yX4_lastCut : MethodName := ⟨RX4, "lastCut", "(III)I"⟩
def RX5 : String := "CuttingRules$Worths"
def TX5 : u_T := fun k => match k with
  | 0 => ("CuttingRules$Worths", "sheet", "LCuttingRules$Sheet;", true)
  | 1 => ("CuttingRules$Worths", "kinds", "LCuttingRules$Kinds;", true)
  | 2 => ("CuttingRules$Worths", "ofSizes", "[I", true)
  | 3 => ("CuttingRules$Worths", "ofParts", "[I", true)
  | _ => ("CuttingRules$Worths", "stale", "Z", false)
def tyX5 : Nat → FieldType := fun k => match k with
  | 0 => .object "CuttingRules$Sheet"
  | 1 => .object "CuttingRules$Kinds"
  | 2 => .array .int
  | 3 => .array .int
  | _ => .boolean
abbrev wsX50 : List Cond := u_ws RX5 TX5 5
theorem nmX5 : ∀ a, a < 5 → ∀ b, b < 5 → a ≠ b → (TX5 a).2.1 ≠ (TX5 b).2.1 := by decide +kernel
theorem tyX5_ok : ∀ k, k < 5 → parseFieldDescriptor (TX5 k).2.2.1 = some (tyX5 k) := by decide +kernel
abbrev cX5_init : ByteArray := prog_7_method_1_code
def yX5_init : MethodName := ⟨RX5, "<init>", "(LCuttingRules$Sheet;LCuttingRules$Kinds;)V"⟩
abbrev cX5_forget : ByteArray := prog_7_method_2_code
def yX5_forget : MethodName := ⟨RX5, "forget", "()V"⟩
abbrev cX5_makeReady : ByteArray := prog_7_method_3_code
def yX5_makeReady : MethodName := ⟨RX5, "makeReady", "()V"⟩
abbrev cX5_of : ByteArray := prog_7_method_4_code
def yX5_of : MethodName := ⟨RX5, "of", "(IIIII)I"⟩
abbrev cX5_ofCut : ByteArray := prog_7_method_5_code
def yX5_ofCut : MethodName := ⟨RX5, "ofCut", "(IIIIII)I"⟩
abbrev cX5_fillSizes : ByteArray := prog_7_method_6_code
def yX5_fillSizes : MethodName := ⟨RX5, "fillSizes", "()V"⟩
abbrev cX5_mostOfSize : ByteArray := prog_7_method_7_code
def yX5_mostOfSize : MethodName := ⟨RX5, "mostOfSize", "(III)I"⟩
abbrev cX5_ofSize : ByteArray := prog_7_method_8_code
def yX5_ofSize : MethodName := ⟨RX5, "ofSize", "(III)I"⟩
abbrev cX5_sizeSlot : ByteArray := prog_7_method_9_code
def yX5_sizeSlot : MethodName := ⟨RX5, "sizeSlot", "(III)I"⟩
abbrev cX5_fillParts : ByteArray := prog_7_method_10_code
def yX5_fillParts : MethodName := ⟨RX5, "fillParts", "()V"⟩
abbrev cX5_fillPart : ByteArray := prog_7_method_11_code
def yX5_fillPart : MethodName := ⟨RX5, "fillPart", "(IIII)V"⟩
abbrev cX5_mostOfCuts : ByteArray := prog_7_method_12_code
def yX5_mostOfCuts : MethodName := ⟨RX5, "mostOfCuts", "(IIIII)I"⟩
abbrev cX5_span : ByteArray := prog_7_method_13_code
def yX5_span : MethodName := ⟨RX5, "span", "(II)I"⟩
abbrev cX5_partSlot : ByteArray := prog_7_method_14_code
def yX5_partSlot : MethodName := ⟨RX5, "partSlot", "(III)I"⟩
def RX6 : String := "CuttingRules"
def TX6 : u_T := fun k => match k with
  | 0 => ("CuttingRules", "sheet", "LCuttingRules$Sheet;", true)
  | 1 => ("CuttingRules", "kinds", "LCuttingRules$Kinds;", true)
  | 2 => ("CuttingRules", "worths", "LCuttingRules$Worths;", true)
  | 3 => ("CuttingRules", "plan", "LCuttingRules$Plan;", true)
  | 4 => ("CuttingRules", "rack", "LCuttingRules$Rack;", true)
  | _ => ("CuttingRules", "list", "LCuttingRules$BarList;", true)
def tyX6 : Nat → FieldType := fun k => match k with
  | 0 => .object "CuttingRules$Sheet"
  | 1 => .object "CuttingRules$Kinds"
  | 2 => .object "CuttingRules$Worths"
  | 3 => .object "CuttingRules$Plan"
  | 4 => .object "CuttingRules$Rack"
  | _ => .object "CuttingRules$BarList"
abbrev wsX60 : List Cond := u_ws RX6 TX6 6
theorem nmX6 : ∀ a, a < 6 → ∀ b, b < 6 → a ≠ b → (TX6 a).2.1 ≠ (TX6 b).2.1 := by decide +kernel
theorem tyX6_ok : ∀ k, k < 6 → parseFieldDescriptor (TX6 k).2.2.1 = some (tyX6 k) := by decide +kernel
abbrev cX6_init : ByteArray := prog_1_method_1_code
def yX6_init : MethodName := ⟨RX6, "<init>", "()V"⟩
abbrev cX6_plate : ByteArray := prog_1_method_2_code
def yX6_plate : MethodName := ⟨RX6, "plate", "(IIIII)I"⟩
abbrev cX6_defect : ByteArray := prog_1_method_3_code
def yX6_defect : MethodName := ⟨RX6, "defect", "(IIII)I"⟩
abbrev cX6_kind : ByteArray := prog_1_method_4_code
def yX6_kind : MethodName := ⟨RX6, "kind", "(IIIZ)I"⟩
abbrev cX6_value : ByteArray := prog_1_method_5_code
def yX6_value : MethodName := ⟨RX6, "value", "(II)I"⟩
abbrev cX6_worth : ByteArray := prog_1_method_6_code
def yX6_worth : MethodName := ⟨RX6, "worth", "(IIIII)I"⟩
abbrev cX6_pieces : ByteArray := prog_1_method_7_code
def yX6_pieces : MethodName := ⟨RX6, "pieces", "()I"⟩
abbrev cX6_piece : ByteArray := prog_1_method_8_code
def yX6_piece : MethodName := ⟨RX6, "piece", "(II)I"⟩
abbrev cX6_cuts : ByteArray := prog_1_method_9_code
def yX6_cuts : MethodName := ⟨RX6, "cuts", "()I"⟩
abbrev cX6_cut : ByteArray := prog_1_method_10_code
def yX6_cut : MethodName := ⟨RX6, "cut", "(II)I"⟩
abbrev cX6_waste : ByteArray := prog_1_method_11_code
def yX6_waste : MethodName := ⟨RX6, "waste", "()I"⟩
abbrev cX6_stock : ByteArray := prog_1_method_12_code
def yX6_stock : MethodName := ⟨RX6, "stock", "(II)I"⟩
abbrev cX6_order : ByteArray := prog_1_method_13_code
def yX6_order : MethodName := ⟨RX6, "order", "(II)I"⟩
abbrev cX6_demand : ByteArray := prog_1_method_14_code
def yX6_demand : MethodName := ⟨RX6, "demand", "(II)I"⟩
abbrev cX6_blade : ByteArray := prog_1_method_15_code
def yX6_blade : MethodName := ⟨RX6, "blade", "(I)I"⟩
abbrev cX6_price : ByteArray := prog_1_method_16_code
def yX6_price : MethodName := ⟨RX6, "price", "()I"⟩
abbrev cX6_bars : ByteArray := prog_1_method_17_code
def yX6_bars : MethodName := ⟨RX6, "bars", "()I"⟩
abbrev cX6_bar : ByteArray := prog_1_method_18_code
def yX6_bar : MethodName := ⟨RX6, "bar", "(II)I"⟩
abbrev cX6_told : ByteArray := prog_1_method_19_code
def yX6_told : MethodName := ⟨RX6, "told", "(I)I"⟩
abbrev cX6_noKinds : ByteArray := prog_1_method_20_code
def yX6_noKinds : MethodName := ⟨RX6, "noKinds", "()I"⟩
abbrev cX6_noBars : ByteArray := prog_1_method_21_code
def yX6_noBars : MethodName := ⟨RX6, "noBars", "()I"⟩
abbrev cX6_within : ByteArray := prog_1_method_22_code
def yX6_within : MethodName := ⟨RX6, "within", "(III)Z"⟩
def RX7 : String := "CuttingRulesModel"
def TX7 : u_T := fun k => match k with
  | 0 => ("CuttingRulesModel", "wide", "I", false)
  | 1 => ("CuttingRulesModel", "high", "I", false)
  | 2 => ("CuttingRulesModel", "kerf", "I", false)
  | 3 => ("CuttingRulesModel", "stages", "I", false)
  | 4 => ("CuttingRulesModel", "firstWay", "I", false)
  | 5 => ("CuttingRulesModel", "defects", "I", false)
  | 6 => ("CuttingRulesModel", "defectX", "[I", true)
  | 7 => ("CuttingRulesModel", "defectY", "[I", true)
  | 8 => ("CuttingRulesModel", "defectW", "[I", true)
  | 9 => ("CuttingRulesModel", "defectH", "[I", true)
  | 10 => ("CuttingRulesModel", "kinds", "I", false)
  | 11 => ("CuttingRulesModel", "kindW", "[I", true)
  | 12 => ("CuttingRulesModel", "kindH", "[I", true)
  | 13 => ("CuttingRulesModel", "kindValue", "[I", true)
  | 14 => ("CuttingRulesModel", "kindTurns", "[Z", true)
  | 15 => ("CuttingRulesModel", "spanAt", "[I", true)
  | 16 => ("CuttingRulesModel", "worths", "[I", true)
  | 17 => ("CuttingRulesModel", "isWorked", "Z", false)
  | 18 => ("CuttingRulesModel", "pieceMany", "I", false)
  | 19 => ("CuttingRulesModel", "pieceKind", "[I", true)
  | 20 => ("CuttingRulesModel", "pieceX", "[I", true)
  | 21 => ("CuttingRulesModel", "pieceY", "[I", true)
  | 22 => ("CuttingRulesModel", "pieceTurned", "[I", true)
  | 23 => ("CuttingRulesModel", "cutMany", "I", false)
  | 24 => ("CuttingRulesModel", "cutStage", "[I", true)
  | 25 => ("CuttingRulesModel", "cutAt", "[I", true)
  | 26 => ("CuttingRulesModel", "cutX", "[I", true)
  | 27 => ("CuttingRulesModel", "cutY", "[I", true)
  | 28 => ("CuttingRulesModel", "cutW", "[I", true)
  | 29 => ("CuttingRulesModel", "cutH", "[I", true)
  | 30 => ("CuttingRulesModel", "pile", "[I", true)
  | 31 => ("CuttingRulesModel", "piled", "I", false)
  | 32 => ("CuttingRulesModel", "stocks", "I", false)
  | 33 => ("CuttingRulesModel", "stockLength", "[I", true)
  | 34 => ("CuttingRulesModel", "stockPrice", "[I", true)
  | 35 => ("CuttingRulesModel", "orders", "I", false)
  | 36 => ("CuttingRulesModel", "orderLength", "[I", true)
  | 37 => ("CuttingRulesModel", "orderDemand", "[I", true)
  | 38 => ("CuttingRulesModel", "blade", "I", false)
  | 39 => ("CuttingRulesModel", "isListed", "Z", false)
  | 40 => ("CuttingRulesModel", "isShort", "Z", false)
  | 41 => ("CuttingRulesModel", "prices", "[I", true)
  | 42 => ("CuttingRulesModel", "fewest", "[I", true)
  | 43 => ("CuttingRulesModel", "patternStock", "[I", true)
  | 44 => ("CuttingRulesModel", "patternWants", "[I", true)
  | 45 => ("CuttingRulesModel", "barMany", "I", false)
  | _ => ("CuttingRulesModel", "barPattern", "[I", true)
def tyX7 : Nat → FieldType := fun k => match k with
  | 0 => .int
  | 1 => .int
  | 2 => .int
  | 3 => .int
  | 4 => .int
  | 5 => .int
  | 6 => .array .int
  | 7 => .array .int
  | 8 => .array .int
  | 9 => .array .int
  | 10 => .int
  | 11 => .array .int
  | 12 => .array .int
  | 13 => .array .int
  | 14 => .array .boolean
  | 15 => .array .int
  | 16 => .array .int
  | 17 => .boolean
  | 18 => .int
  | 19 => .array .int
  | 20 => .array .int
  | 21 => .array .int
  | 22 => .array .int
  | 23 => .int
  | 24 => .array .int
  | 25 => .array .int
  | 26 => .array .int
  | 27 => .array .int
  | 28 => .array .int
  | 29 => .array .int
  | 30 => .array .int
  | 31 => .int
  | 32 => .int
  | 33 => .array .int
  | 34 => .array .int
  | 35 => .int
  | 36 => .array .int
  | 37 => .array .int
  | 38 => .int
  | 39 => .boolean
  | 40 => .boolean
  | 41 => .array .int
  | 42 => .array .int
  | 43 => .array .int
  | 44 => .array .int
  | 45 => .int
  | _ => .array .int
abbrev wsX70 : List Cond := u_ws RX7 TX7 47
theorem nmX7 : ∀ a, a < 47 → ∀ b, b < 47 → a ≠ b → (TX7 a).2.1 ≠ (TX7 b).2.1 := by decide +kernel
theorem tyX7_ok : ∀ k, k < 47 → parseFieldDescriptor (TX7 k).2.2.1 = some (tyX7 k) := by decide +kernel
abbrev cX7_init : ByteArray := prog_9_method_1_code
def yX7_init : MethodName := ⟨RX7, "<init>", "()V"⟩
abbrev cX7_within : ByteArray := prog_9_method_3_code
def yX7_within : MethodName := ⟨RX7, "within", "(III)Z"⟩
abbrev cX7_plate : ByteArray := prog_9_method_4_code
def yX7_plate : MethodName := ⟨RX7, "plate", "(IIIII)I"⟩
abbrev cX7_lies : ByteArray := prog_9_method_5_code
def yX7_lies : MethodName := ⟨RX7, "lies", "(IIII)Z"⟩
abbrev cX7_defect : ByteArray := prog_9_method_6_code
def yX7_defect : MethodName := ⟨RX7, "defect", "(IIII)I"⟩
abbrev cX7_kind : ByteArray := prog_9_method_7_code
def yX7_kind : MethodName := ⟨RX7, "kind", "(IIIZ)I"⟩
abbrev cX7_value : ByteArray := prog_9_method_8_code
def yX7_value : MethodName := ⟨RX7, "value", "(II)I"⟩
abbrev cX7_at : ByteArray := prog_9_method_9_code
def yX7_at : MethodName := ⟨RX7, "at", "(IIIII)I"⟩
abbrev cX7_isSpoiled : ByteArray := prog_9_method_10_code
def yX7_isSpoiled : MethodName := ⟨RX7, "isSpoiled", "(IIII)Z"⟩
abbrev cX7_isLike : ByteArray := prog_9_method_11_code
def yX7_isLike : MethodName := ⟨RX7, "isLike", "(IIII)Z"⟩
abbrev cX7_bestPiece : ByteArray := prog_9_method_12_code
def yX7_bestPiece : MethodName := ⟨RX7, "bestPiece", "(IIII)I"⟩
abbrev cX7_wayOf : ByteArray := prog_9_method_13_code
def yX7_wayOf : MethodName := ⟨RX7, "wayOf", "(I)I"⟩
abbrev cX7_both : ByteArray := prog_9_method_14_code
def yX7_both : MethodName := ⟨RX7, "both", "(IIIIII)I"⟩
abbrev cX7_work : ByteArray := prog_9_method_15_code
def yX7_work : MethodName := ⟨RX7, "work", "()V"⟩
abbrev cX7_workPart : ByteArray := prog_9_method_16_code
def yX7_workPart : MethodName := ⟨RX7, "workPart", "(IIII)V"⟩
abbrev cX7_lay : ByteArray := prog_9_method_17_code
def yX7_lay : MethodName := ⟨RX7, "lay", "(IIIII)V"⟩
abbrev cX7_layPlan : ByteArray := prog_9_method_18_code
def yX7_layPlan : MethodName := ⟨RX7, "layPlan", "()V"⟩
abbrev cX7_layPart : ByteArray := prog_9_method_19_code
def yX7_layPart : MethodName := ⟨RX7, "layPart", "(IIIII)V"⟩
abbrev cX7_isPiece : ByteArray := prog_9_method_20_code
def yX7_isPiece : MethodName := ⟨RX7, "isPiece", "(IIIII)Z"⟩
abbrev cX7_worth : ByteArray := prog_9_method_21_code
def yX7_worth : MethodName := ⟨RX7, "worth", "(IIIII)I"⟩
abbrev cX7_pieces : ByteArray := prog_9_method_22_code
def yX7_pieces : MethodName := ⟨RX7, "pieces", "()I"⟩
abbrev cX7_pieceSide : ByteArray := prog_9_method_23_code
def yX7_pieceSide : MethodName := ⟨RX7, "pieceSide", "(IZ)I"⟩
abbrev cX7_piece : ByteArray := prog_9_method_24_code
def yX7_piece : MethodName := ⟨RX7, "piece", "(II)I"⟩
abbrev cX7_cuts : ByteArray := prog_9_method_25_code
def yX7_cuts : MethodName := ⟨RX7, "cuts", "()I"⟩
abbrev cX7_cut : ByteArray := prog_9_method_26_code
def yX7_cut : MethodName := ⟨RX7, "cut", "(II)I"⟩
abbrev cX7_waste : ByteArray := prog_9_method_27_code
def yX7_waste : MethodName := ⟨RX7, "waste", "()I"⟩
abbrev cX7_stock : ByteArray := prog_9_method_28_code
def yX7_stock : MethodName := ⟨RX7, "stock", "(II)I"⟩
abbrev cX7_order : ByteArray := prog_9_method_29_code
def yX7_order : MethodName := ⟨RX7, "order", "(II)I"⟩
abbrev cX7_demand : ByteArray := prog_9_method_30_code
def yX7_demand : MethodName := ⟨RX7, "demand", "(II)I"⟩
abbrev cX7_blade : ByteArray := prog_9_method_31_code
def yX7_blade : MethodName := ⟨RX7, "blade", "(I)I"⟩
abbrev cX7_digit : ByteArray := prog_9_method_32_code
def yX7_digit : MethodName := ⟨RX7, "digit", "(II)I"⟩
abbrev cX7_all : ByteArray := prog_9_method_33_code
def yX7_all : MethodName := ⟨RX7, "all", "()I"⟩
abbrev cX7_isIn : ByteArray := prog_9_method_34_code
def yX7_isIn : MethodName := ⟨RX7, "isIn", "(II)Z"⟩
abbrev cX7_findPattern : ByteArray := prog_9_method_35_code
def yX7_findPattern : MethodName := ⟨RX7, "findPattern", "(I)V"⟩
abbrev cX7_list : ByteArray := prog_9_method_36_code
def yX7_list : MethodName := ⟨RX7, "list", "()V"⟩
abbrev cX7_reach : ByteArray := prog_9_method_37_code
def yX7_reach : MethodName := ⟨RX7, "reach", "(III)V"⟩
abbrev cX7_isBest : ByteArray := prog_9_method_38_code
def yX7_isBest : MethodName := ⟨RX7, "isBest", "(II)Z"⟩
abbrev cX7_price : ByteArray := prog_9_method_39_code
def yX7_price : MethodName := ⟨RX7, "price", "()I"⟩
abbrev cX7_bars : ByteArray := prog_9_method_40_code
def yX7_bars : MethodName := ⟨RX7, "bars", "()I"⟩
abbrev cX7_bar : ByteArray := prog_9_method_41_code
def yX7_bar : MethodName := ⟨RX7, "bar", "(II)I"⟩
abbrev cX7_told : ByteArray := prog_9_method_42_code
def yX7_told : MethodName := ⟨RX7, "told", "(I)I"⟩
abbrev cX7_noKinds : ByteArray := prog_9_method_43_code
def yX7_noKinds : MethodName := ⟨RX7, "noKinds", "()I"⟩
abbrev cX7_noBars : ByteArray := prog_9_method_44_code
def yX7_noBars : MethodName := ⟨RX7, "noBars", "()I"⟩
def RJ9 : String := "java/lang/Math"
def TJ9 : u_T := fun k => match k with
  | _ => ("", "", "", false)
def tyJ9 : Nat → FieldType := fun k => match k with
  | _ => .int
abbrev wsJ90 : List Cond := u_ws RJ9 TJ9 0
theorem nmJ9 : ∀ a, a < 0 → ∀ b, b < 0 → a ≠ b → (TJ9 a).2.1 ≠ (TJ9 b).2.1 := by decide +kernel
theorem tyJ9_ok : ∀ k, k < 0 → parseFieldDescriptor (TJ9 k).2.2.1 = some (tyJ9 k) := by decide +kernel
abbrev cJ9_max_7cf53 : ByteArray := prog_10_method_65_code
def yJ9_max_7cf53 : MethodName := ⟨RJ9, "max", "(II)I"⟩
def RJ7 : String := "java/util/Arrays"
def TJ7 : u_T := fun k => match k with
  | _ => ("", "", "", false)
def tyJ7 : Nat → FieldType := fun k => match k with
  | _ => .int
abbrev wsJ70 : List Cond := u_ws RJ7 TJ7 0
theorem nmJ7 : ∀ a, a < 0 → ∀ b, b < 0 → a ≠ b → (TJ7 a).2.1 ≠ (TJ7 b).2.1 := by decide +kernel
theorem tyJ7_ok : ∀ k, k < 0 → parseFieldDescriptor (TJ7 k).2.2.1 = some (tyJ7 k) := by decide +kernel
abbrev cJ7_fill_53178 : ByteArray := prog_11_method_103_code
def yJ7_fill_53178 : MethodName := ⟨RJ7, "fill", "([II)V"⟩
def RL : String := "CuttingRulesLaw"
abbrev cL_law : ByteArray := code
def yL_law : MethodName := ⟨RL, "law", "([I)Z"⟩
def wsX0_init : List Cond := .code yX0_init cX0_init 2 none :: ([.methodLink RX0 5 objectInit, .instanceMethod objectInit, .code objectInit ⟨#[0xb1]⟩ 1 none, .arrayClass .int, .fieldLink RX0 11 "CuttingRules$BarList" "barCosts" "[I", .fieldLink RX0 15 "CuttingRules$BarList" "leastCosts" "[I", .fieldLink RX0 18 "CuttingRules$BarList" "firstPatterns" "[I", .fieldLink RX0 21 "CuttingRules$BarList" "patterns" "[I", .fieldLink RX0 24 "CuttingRules$BarList" "count" "I", .fieldLink RX0 28 "CuttingRules$BarList" "priceTogether" "I", .fieldLink RX0 31 "CuttingRules$BarList" "isShort" "Z", .fieldLink RX0 35 "CuttingRules$BarList" "costsStale" "Z", .fieldLink RX0 38 "CuttingRules$BarList" "barsStale" "Z", .fieldLink RX0 41 "CuttingRules$BarList" "rack" "LCuttingRules$Rack;"] ++ wsX00)
def wsX0_forgetCosts : List Cond := .code yX0_forgetCosts cX0_forgetCosts 1 none :: ([.fieldLink RX0 35 "CuttingRules$BarList" "costsStale" "Z", .fieldLink RX0 38 "CuttingRules$BarList" "barsStale" "Z"] ++ wsX00)
def wsX0_forgetBars : List Cond := .code yX0_forgetBars cX0_forgetBars 1 none :: ([.fieldLink RX0 38 "CuttingRules$BarList" "barsStale" "Z"] ++ wsX00)
def wsJ7_fill_53178 : List Cond := .code yJ7_fill_53178 cJ7_fill_53178 4 none :: ([])
def wsX3_wantedOf : List Cond := .code yX3_wantedOf cX3_wantedOf 2 (some .int) :: ([.fieldLink RX3 15 "CuttingRules$Rack" "orders" "I", .fieldLink RX3 31 "CuttingRules$Rack" "demands" "[I"] ++ wsX30)
def wsX0_code : List Cond := .code yX0_code cX0_code 4 (some .int) :: ([])
def wsX6_within : List Cond := .code yX6_within cX6_within 3 (some .boolean) :: ([])
def wsX0_numberOf : List Cond := .code yX0_numberOf cX0_numberOf 2 (some .int) :: ([])
def wsX0_lengthWanted : List Cond := .code yX0_lengthWanted cX0_lengthWanted 4 (some .int) :: ([.fieldLink RX0 41 "CuttingRules$BarList" "rack" "LCuttingRules$Rack;", .fieldLink RX0 105 "CuttingRules$Rack" "blade" "I", .fieldLink RX0 108 "CuttingRules$Rack" "orders" "I", .fieldLink RX0 111 "CuttingRules$Rack" "orderLengths" "[I", .methodLink RX0 99 yX0_numberOf, .static yX0_numberOf, .initialized RX0, .code yX0_numberOf cX0_numberOf 2 (some .int)] ++ wsX00 ++ wsX30)
def wsX3_stockFor : List Cond := .code yX3_stockFor cX3_stockFor 4 (some .int) :: ([.fieldLink RX3 9 "CuttingRules$Rack" "stocks" "I", .fieldLink RX3 21 "CuttingRules$Rack" "stockLengths" "[I", .fieldLink RX3 25 "CuttingRules$Rack" "stockPrices" "[I"] ++ wsX30)
def wsX0_barCost : List Cond := .code yX0_barCost cX0_barCost 3 (some .int) :: ([.fieldLink RX0 41 "CuttingRules$BarList" "rack" "LCuttingRules$Rack;", .constant RX0 79 (1048576), .fieldLink RX0 96 "CuttingRules$Rack" "stockPrices" "[I", .methodLink RX0 90 yX0_lengthWanted, .instanceMethod yX0_lengthWanted, .selects RX0 yX0_lengthWanted yX0_lengthWanted, .initialized RX0, .code yX0_lengthWanted cX0_lengthWanted 4 (some .int), .fieldLink RX0 105 "CuttingRules$Rack" "blade" "I", .fieldLink RX0 108 "CuttingRules$Rack" "orders" "I", .fieldLink RX0 111 "CuttingRules$Rack" "orderLengths" "[I", .methodLink RX0 99 yX0_numberOf, .static yX0_numberOf, .code yX0_numberOf cX0_numberOf 2 (some .int), .methodLink RX0 93 yX3_stockFor, .instanceMethod yX3_stockFor, .selects RX3 yX3_stockFor yX3_stockFor, .initialized RX3, .code yX3_stockFor cX3_stockFor 4 (some .int), .fieldLink RX3 9 "CuttingRules$Rack" "stocks" "I", .fieldLink RX3 21 "CuttingRules$Rack" "stockLengths" "[I", .fieldLink RX3 25 "CuttingRules$Rack" "stockPrices" "[I"] ++ wsX00 ++ wsX30)
def wsX0_tryFirstBars : List Cond := .code yX0_tryFirstBars cX0_tryFirstBars 7 none :: ([.methodLink RX0 84 Lib.Math.max.name, .static Lib.Math.max.name, .initialized "java/lang/Math", .code Lib.Math.max.name Lib.Math.max.code 2 (some .int), .fieldLink RX0 11 "CuttingRules$BarList" "barCosts" "[I", .constant RX0 79 (1048576), .fieldLink RX0 15 "CuttingRules$BarList" "leastCosts" "[I", .fieldLink RX0 18 "CuttingRules$BarList" "firstPatterns" "[I"] ++ wsX00)
def wsX0_findLeastCost_r1 : List Cond := [Cond.fieldLink RX0 15 "CuttingRules$BarList" "leastCosts" "[I", Cond.fieldLink RX0 11 "CuttingRules$BarList" "barCosts" "[I", Cond.constant RX0 79 (1048576), Cond.methodLink RX0 60 yX0_code, Cond.static yX0_code, Cond.initialized RX0, Cond.code yX0_code cX0_code 4 (some .int), Cond.static yX6_within, Cond.initialized RX6, Cond.code yX6_within cX6_within 3 (some .boolean), Cond.methodLink RX0 76 yX0_barCost, Cond.instanceMethod yX0_barCost, Cond.selects RX0 yX0_barCost yX0_barCost, Cond.code yX0_barCost cX0_barCost 3 (some .int), Cond.fieldLink RX0 41 "CuttingRules$BarList" "rack" "LCuttingRules$Rack;", Cond.fieldLink RX0 96 "CuttingRules$Rack" "stockPrices" "[I", Cond.methodLink RX0 90 yX0_lengthWanted, Cond.instanceMethod yX0_lengthWanted, Cond.selects RX0 yX0_lengthWanted yX0_lengthWanted, Cond.code yX0_lengthWanted cX0_lengthWanted 4 (some .int), Cond.fieldLink RX0 105 "CuttingRules$Rack" "blade" "I", Cond.fieldLink RX0 108 "CuttingRules$Rack" "orders" "I", Cond.fieldLink RX0 111 "CuttingRules$Rack" "orderLengths" "[I", Cond.methodLink RX0 99 yX0_numberOf]
def wsX0_findLeastCost_r2 : List Cond := [Cond.static yX0_numberOf, Cond.code yX0_numberOf cX0_numberOf 2 (some .int), Cond.methodLink RX0 93 yX3_stockFor, Cond.instanceMethod yX3_stockFor, Cond.selects RX3 yX3_stockFor yX3_stockFor, Cond.initialized RX3, Cond.code yX3_stockFor cX3_stockFor 4 (some .int), Cond.fieldLink RX3 9 "CuttingRules$Rack" "stocks" "I", Cond.fieldLink RX3 21 "CuttingRules$Rack" "stockLengths" "[I", Cond.fieldLink RX3 25 "CuttingRules$Rack" "stockPrices" "[I", Cond.methodLink RX0 80 yX0_tryFirstBars, Cond.instanceMethod yX0_tryFirstBars, Cond.selects RX0 yX0_tryFirstBars yX0_tryFirstBars, Cond.code yX0_tryFirstBars cX0_tryFirstBars 7 none, Cond.methodLink RX0 84 Lib.Math.max.name, Cond.static Lib.Math.max.name, Cond.initialized "java/lang/Math", Cond.code Lib.Math.max.name Lib.Math.max.code 2 (some .int), Cond.fieldLink RX0 18 "CuttingRules$BarList" "firstPatterns" "[I"]
def wsX0_findLeastCost : List Cond := .code yX0_findLeastCost cX0_findLeastCost 9 none :: ((wsX0_findLeastCost_r1 ++ wsX0_findLeastCost_r2) ++ wsX00 ++ wsX30)
def wsX0_findLeastCosts_r1 : List Cond := [Cond.fieldLink RX0 41 "CuttingRules$BarList" "rack" "LCuttingRules$Rack;", Cond.methodLink RX0 54 yX3_wantedOf, Cond.instanceMethod yX3_wantedOf, Cond.selects RX3 yX3_wantedOf yX3_wantedOf, Cond.initialized RX3, Cond.code yX3_wantedOf cX3_wantedOf 2 (some .int), Cond.fieldLink RX3 15 "CuttingRules$Rack" "orders" "I", Cond.fieldLink RX3 31 "CuttingRules$Rack" "demands" "[I", Cond.methodLink RX0 68 yX0_findLeastCost, Cond.instanceMethod yX0_findLeastCost, Cond.selects RX0 yX0_findLeastCost yX0_findLeastCost, Cond.initialized RX0, Cond.code yX0_findLeastCost cX0_findLeastCost 9 none, Cond.fieldLink RX0 15 "CuttingRules$BarList" "leastCosts" "[I", Cond.fieldLink RX0 11 "CuttingRules$BarList" "barCosts" "[I", Cond.constant RX0 79 (1048576), Cond.methodLink RX0 60 yX0_code, Cond.static yX0_code, Cond.code yX0_code cX0_code 4 (some .int), Cond.static yX6_within, Cond.initialized RX6, Cond.code yX6_within cX6_within 3 (some .boolean), Cond.methodLink RX0 76 yX0_barCost, Cond.instanceMethod yX0_barCost]
def wsX0_findLeastCosts_r2 : List Cond := [Cond.selects RX0 yX0_barCost yX0_barCost, Cond.code yX0_barCost cX0_barCost 3 (some .int), Cond.fieldLink RX0 96 "CuttingRules$Rack" "stockPrices" "[I", Cond.methodLink RX0 90 yX0_lengthWanted, Cond.instanceMethod yX0_lengthWanted, Cond.selects RX0 yX0_lengthWanted yX0_lengthWanted, Cond.code yX0_lengthWanted cX0_lengthWanted 4 (some .int), Cond.fieldLink RX0 105 "CuttingRules$Rack" "blade" "I", Cond.fieldLink RX0 108 "CuttingRules$Rack" "orders" "I", Cond.fieldLink RX0 111 "CuttingRules$Rack" "orderLengths" "[I", Cond.methodLink RX0 99 yX0_numberOf, Cond.static yX0_numberOf, Cond.code yX0_numberOf cX0_numberOf 2 (some .int), Cond.methodLink RX0 93 yX3_stockFor, Cond.instanceMethod yX3_stockFor, Cond.selects RX3 yX3_stockFor yX3_stockFor, Cond.code yX3_stockFor cX3_stockFor 4 (some .int), Cond.fieldLink RX3 9 "CuttingRules$Rack" "stocks" "I", Cond.fieldLink RX3 21 "CuttingRules$Rack" "stockLengths" "[I", Cond.fieldLink RX3 25 "CuttingRules$Rack" "stockPrices" "[I", Cond.methodLink RX0 80 yX0_tryFirstBars, Cond.instanceMethod yX0_tryFirstBars, Cond.selects RX0 yX0_tryFirstBars yX0_tryFirstBars, Cond.code yX0_tryFirstBars cX0_tryFirstBars 7 none]
def wsX0_findLeastCosts_r3 : List Cond := [Cond.methodLink RX0 84 Lib.Math.max.name, Cond.static Lib.Math.max.name, Cond.initialized "java/lang/Math", Cond.code Lib.Math.max.name Lib.Math.max.code 2 (some .int), Cond.fieldLink RX0 18 "CuttingRules$BarList" "firstPatterns" "[I"]
def wsX0_findLeastCosts : List Cond := .code yX0_findLeastCosts cX0_findLeastCosts 5 none :: ((wsX0_findLeastCosts_r1 ++ (wsX0_findLeastCosts_r2 ++ wsX0_findLeastCosts_r3)) ++ wsX00 ++ wsX30)
def wsX0_takeBars : List Cond := .code yX0_takeBars cX0_takeBars 3 none :: ([.fieldLink RX0 24 "CuttingRules$BarList" "count" "I", .fieldLink RX0 28 "CuttingRules$BarList" "priceTogether" "I", .fieldLink RX0 15 "CuttingRules$BarList" "leastCosts" "[I", .constant RX0 79 (1048576), .fieldLink RX0 31 "CuttingRules$BarList" "isShort" "Z", .fieldLink RX0 21 "CuttingRules$BarList" "patterns" "[I", .fieldLink RX0 18 "CuttingRules$BarList" "firstPatterns" "[I", .static yX6_within, .initialized RX6, .code yX6_within cX6_within 3 (some .boolean)] ++ wsX00)
def wsX0_makeReady_r1 : List Cond := [Cond.fieldLink RX0 38 "CuttingRules$BarList" "barsStale" "Z", Cond.fieldLink RX0 35 "CuttingRules$BarList" "costsStale" "Z", Cond.fieldLink RX0 15 "CuttingRules$BarList" "leastCosts" "[I", Cond.fieldLink RX0 41 "CuttingRules$BarList" "rack" "LCuttingRules$Rack;", Cond.methodLink RX0 45 yJ7_fill_53178, Cond.static yJ7_fill_53178, Cond.initialized RJ7, Cond.code yJ7_fill_53178 cJ7_fill_53178 4 none, Cond.methodLink RX0 51 yX0_findLeastCosts, Cond.instanceMethod yX0_findLeastCosts, Cond.selects RX0 yX0_findLeastCosts yX0_findLeastCosts, Cond.initialized RX0, Cond.code yX0_findLeastCosts cX0_findLeastCosts 5 none, Cond.methodLink RX0 54 yX3_wantedOf, Cond.instanceMethod yX3_wantedOf, Cond.selects RX3 yX3_wantedOf yX3_wantedOf, Cond.initialized RX3, Cond.code yX3_wantedOf cX3_wantedOf 2 (some .int), Cond.fieldLink RX3 15 "CuttingRules$Rack" "orders" "I", Cond.fieldLink RX3 31 "CuttingRules$Rack" "demands" "[I", Cond.methodLink RX0 68 yX0_findLeastCost, Cond.instanceMethod yX0_findLeastCost, Cond.selects RX0 yX0_findLeastCost yX0_findLeastCost, Cond.code yX0_findLeastCost cX0_findLeastCost 9 none]
def wsX0_makeReady_r2 : List Cond := [Cond.fieldLink RX0 11 "CuttingRules$BarList" "barCosts" "[I", Cond.constant RX0 79 (1048576), Cond.methodLink RX0 60 yX0_code, Cond.static yX0_code, Cond.code yX0_code cX0_code 4 (some .int), Cond.static yX6_within, Cond.initialized RX6, Cond.code yX6_within cX6_within 3 (some .boolean), Cond.methodLink RX0 76 yX0_barCost, Cond.instanceMethod yX0_barCost, Cond.selects RX0 yX0_barCost yX0_barCost, Cond.code yX0_barCost cX0_barCost 3 (some .int), Cond.fieldLink RX0 96 "CuttingRules$Rack" "stockPrices" "[I", Cond.methodLink RX0 90 yX0_lengthWanted, Cond.instanceMethod yX0_lengthWanted, Cond.selects RX0 yX0_lengthWanted yX0_lengthWanted, Cond.code yX0_lengthWanted cX0_lengthWanted 4 (some .int), Cond.fieldLink RX0 105 "CuttingRules$Rack" "blade" "I", Cond.fieldLink RX0 108 "CuttingRules$Rack" "orders" "I", Cond.fieldLink RX0 111 "CuttingRules$Rack" "orderLengths" "[I", Cond.methodLink RX0 99 yX0_numberOf, Cond.static yX0_numberOf, Cond.code yX0_numberOf cX0_numberOf 2 (some .int), Cond.methodLink RX0 93 yX3_stockFor]
def wsX0_makeReady_r3 : List Cond := [Cond.instanceMethod yX3_stockFor, Cond.selects RX3 yX3_stockFor yX3_stockFor, Cond.code yX3_stockFor cX3_stockFor 4 (some .int), Cond.fieldLink RX3 9 "CuttingRules$Rack" "stocks" "I", Cond.fieldLink RX3 21 "CuttingRules$Rack" "stockLengths" "[I", Cond.fieldLink RX3 25 "CuttingRules$Rack" "stockPrices" "[I", Cond.methodLink RX0 80 yX0_tryFirstBars, Cond.instanceMethod yX0_tryFirstBars, Cond.selects RX0 yX0_tryFirstBars yX0_tryFirstBars, Cond.code yX0_tryFirstBars cX0_tryFirstBars 7 none, Cond.methodLink RX0 84 Lib.Math.max.name, Cond.static Lib.Math.max.name, Cond.initialized "java/lang/Math", Cond.code Lib.Math.max.name Lib.Math.max.code 2 (some .int), Cond.fieldLink RX0 18 "CuttingRules$BarList" "firstPatterns" "[I", Cond.methodLink RX0 64 yX0_takeBars, Cond.instanceMethod yX0_takeBars, Cond.selects RX0 yX0_takeBars yX0_takeBars, Cond.code yX0_takeBars cX0_takeBars 3 none, Cond.fieldLink RX0 24 "CuttingRules$BarList" "count" "I", Cond.fieldLink RX0 28 "CuttingRules$BarList" "priceTogether" "I", Cond.fieldLink RX0 31 "CuttingRules$BarList" "isShort" "Z", Cond.fieldLink RX0 21 "CuttingRules$BarList" "patterns" "[I"]
def wsX0_makeReady : List Cond := .code yX0_makeReady cX0_makeReady 1 none :: ((wsX0_makeReady_r1 ++ (wsX0_makeReady_r2 ++ wsX0_makeReady_r3)) ++ wsX00 ++ wsX30)
def wsX0_fact : List Cond := .code yX0_fact cX0_fact 5 (some .int) :: ([.fieldLink RX0 41 "CuttingRules$BarList" "rack" "LCuttingRules$Rack;", .fieldLink RX0 102 "CuttingRules$Rack" "stockLengths" "[I", .methodLink RX0 99 yX0_numberOf, .static yX0_numberOf, .initialized RX0, .code yX0_numberOf cX0_numberOf 2 (some .int), .methodLink RX0 90 yX0_lengthWanted, .instanceMethod yX0_lengthWanted, .selects RX0 yX0_lengthWanted yX0_lengthWanted, .code yX0_lengthWanted cX0_lengthWanted 4 (some .int), .fieldLink RX0 105 "CuttingRules$Rack" "blade" "I", .fieldLink RX0 108 "CuttingRules$Rack" "orders" "I", .fieldLink RX0 111 "CuttingRules$Rack" "orderLengths" "[I", .methodLink RX0 93 yX3_stockFor, .instanceMethod yX3_stockFor, .selects RX3 yX3_stockFor yX3_stockFor, .initialized RX3, .code yX3_stockFor cX3_stockFor 4 (some .int), .fieldLink RX3 9 "CuttingRules$Rack" "stocks" "I", .fieldLink RX3 21 "CuttingRules$Rack" "stockLengths" "[I", .fieldLink RX3 25 "CuttingRules$Rack" "stockPrices" "[I"] ++ wsX00 ++ wsX30)
def wsX1_init : List Cond := .code yX1_init cX1_init 1 none :: ([.methodLink RX1 3 objectInit, .instanceMethod objectInit, .code objectInit ⟨#[0xb1]⟩ 1 none, .fieldLink RX1 9 "CuttingRules$Kinds" "count" "I", .arrayClass .int, .fieldLink RX1 15 "CuttingRules$Kinds" "widths" "[I", .fieldLink RX1 19 "CuttingRules$Kinds" "heights" "[I", .fieldLink RX1 22 "CuttingRules$Kinds" "values" "[I", .arrayClass .boolean, .fieldLink RX1 25 "CuttingRules$Kinds" "turning" "[Z"] ++ wsX10)
def wsX1_add : List Cond := .code yX1_add cX1_add 5 (some .int) :: ([.fieldLink RX1 9 "CuttingRules$Kinds" "count" "I", .fieldLink RX1 15 "CuttingRules$Kinds" "widths" "[I", .fieldLink RX1 19 "CuttingRules$Kinds" "heights" "[I", .fieldLink RX1 22 "CuttingRules$Kinds" "values" "[I", .fieldLink RX1 25 "CuttingRules$Kinds" "turning" "[Z"] ++ wsX10)
def wsX1_lies : List Cond := .code yX1_lies cX1_lies 4 (some .boolean) :: ([.fieldLink RX1 15 "CuttingRules$Kinds" "widths" "[I", .fieldLink RX1 19 "CuttingRules$Kinds" "heights" "[I"] ++ wsX10)
def wsX1_liesTurned : List Cond := .code yX1_liesTurned cX1_liesTurned 4 (some .boolean) :: ([.fieldLink RX1 25 "CuttingRules$Kinds" "turning" "[Z", .fieldLink RX1 15 "CuttingRules$Kinds" "widths" "[I", .fieldLink RX1 19 "CuttingRules$Kinds" "heights" "[I"] ++ wsX10)
def wsX1_mostValue : List Cond := .code yX1_mostValue cX1_mostValue 5 (some .int) :: ([.fieldLink RX1 9 "CuttingRules$Kinds" "count" "I", .fieldLink RX1 22 "CuttingRules$Kinds" "values" "[I", .methodLink RX1 36 Lib.Math.max.name, .static Lib.Math.max.name, .initialized "java/lang/Math", .code Lib.Math.max.name Lib.Math.max.code 2 (some .int), .methodLink RX1 29 yX1_lies, .instanceMethod yX1_lies, .selects RX1 yX1_lies yX1_lies, .initialized RX1, .code yX1_lies cX1_lies 4 (some .boolean), .fieldLink RX1 15 "CuttingRules$Kinds" "widths" "[I", .fieldLink RX1 19 "CuttingRules$Kinds" "heights" "[I", .methodLink RX1 33 yX1_liesTurned, .instanceMethod yX1_liesTurned, .selects RX1 yX1_liesTurned yX1_liesTurned, .code yX1_liesTurned cX1_liesTurned 4 (some .boolean), .fieldLink RX1 25 "CuttingRules$Kinds" "turning" "[Z"] ++ wsX10)
def wsX1_firstOfValue : List Cond := .code yX1_firstOfValue cX1_firstOfValue 5 (some .int) :: ([.fieldLink RX1 9 "CuttingRules$Kinds" "count" "I", .fieldLink RX1 22 "CuttingRules$Kinds" "values" "[I", .methodLink RX1 29 yX1_lies, .instanceMethod yX1_lies, .selects RX1 yX1_lies yX1_lies, .initialized RX1, .code yX1_lies cX1_lies 4 (some .boolean), .fieldLink RX1 15 "CuttingRules$Kinds" "widths" "[I", .fieldLink RX1 19 "CuttingRules$Kinds" "heights" "[I", .methodLink RX1 33 yX1_liesTurned, .instanceMethod yX1_liesTurned, .selects RX1 yX1_liesTurned yX1_liesTurned, .code yX1_liesTurned cX1_liesTurned 4 (some .boolean), .fieldLink RX1 25 "CuttingRules$Kinds" "turning" "[Z"] ++ wsX10)
def wsX2_init : List Cond := .code yX2_init cX2_init 4 none :: ([.methodLink RX2 5 objectInit, .instanceMethod objectInit, .code objectInit ⟨#[0xb1]⟩ 1 none, .arrayClass .int, .fieldLink RX2 11 "CuttingRules$Plan" "pieceFacts" "[I", .fieldLink RX2 15 "CuttingRules$Plan" "cutFacts" "[I", .fieldLink RX2 18 "CuttingRules$Plan" "pieceCount" "I", .fieldLink RX2 22 "CuttingRules$Plan" "cutCount" "I", .fieldLink RX2 25 "CuttingRules$Plan" "unused" "I", .fieldLink RX2 28 "CuttingRules$Plan" "stale" "Z", .fieldLink RX2 32 "CuttingRules$Plan" "sheet" "LCuttingRules$Sheet;", .fieldLink RX2 36 "CuttingRules$Plan" "kinds" "LCuttingRules$Kinds;", .fieldLink RX2 40 "CuttingRules$Plan" "worths" "LCuttingRules$Worths;"] ++ wsX20)
def wsX5_forget : List Cond := .code yX5_forget cX5_forget 1 none :: ([.fieldLink RX5 19 "CuttingRules$Worths" "stale" "Z"] ++ wsX50)
def wsX2_forget : List Cond := .code yX2_forget cX2_forget 1 none :: ([.fieldLink RX2 28 "CuttingRules$Plan" "stale" "Z", .fieldLink RX2 40 "CuttingRules$Plan" "worths" "LCuttingRules$Worths;", .methodLink RX2 44 yX5_forget, .instanceMethod yX5_forget, .selects RX5 yX5_forget yX5_forget, .initialized RX5, .code yX5_forget cX5_forget 1 none, .fieldLink RX5 19 "CuttingRules$Worths" "stale" "Z"] ++ wsX20 ++ wsX50)
def wsX5_sizeSlot : List Cond := .code yX5_sizeSlot cX5_sizeSlot 3 (some .int) :: ([])
def wsX5_ofSize : List Cond := .code yX5_ofSize cX5_ofSize 5 (some .int) :: ([.fieldLink RX5 23 "CuttingRules$Worths" "sheet" "LCuttingRules$Sheet;", .fieldLink RX5 69 "CuttingRules$Sheet" "stages" "I", .fieldLink RX5 9 "CuttingRules$Worths" "ofSizes" "[I", .methodLink RX5 78 yX5_sizeSlot, .static yX5_sizeSlot, .initialized RX5, .code yX5_sizeSlot cX5_sizeSlot 3 (some .int), .static yX6_within, .initialized RX6, .code yX6_within cX6_within 3 (some .boolean)] ++ wsX50 ++ wsX40)
def wsX4_partsWidth : List Cond := .code yX4_partsWidth cX4_partsWidth 2 (some .boolean) :: ([.fieldLink RX4 24 "CuttingRules$Sheet" "first" "I"] ++ wsX40)
def wsX4_lastCut : List Cond := .code yX4_lastCut cX4_lastCut 4 (some .int) :: ([.fieldLink RX4 18 "CuttingRules$Sheet" "kerf" "I", .methodLink RX4 38 yX4_partsWidth, .instanceMethod yX4_partsWidth, .selects RX4 yX4_partsWidth yX4_partsWidth, .initialized RX4, .code yX4_partsWidth cX4_partsWidth 2 (some .boolean), .fieldLink RX4 24 "CuttingRules$Sheet" "first" "I"] ++ wsX40)
def wsX5_mostOfSize_r1 : List Cond := [Cond.fieldLink RX5 27 "CuttingRules$Worths" "kinds" "LCuttingRules$Kinds;", Cond.methodLink RX5 89 Lib.Math.max.name, Cond.static Lib.Math.max.name, Cond.initialized "java/lang/Math", Cond.code Lib.Math.max.name Lib.Math.max.code 2 (some .int), Cond.fieldLink RX5 23 "CuttingRules$Worths" "sheet" "LCuttingRules$Sheet;", Cond.fieldLink RX5 58 "CuttingRules$Sheet" "kerf" "I", Cond.methodLink RX5 84 yX1_mostValue, Cond.instanceMethod yX1_mostValue, Cond.selects RX1 yX1_mostValue yX1_mostValue, Cond.initialized RX1, Cond.code yX1_mostValue cX1_mostValue 5 (some .int), Cond.fieldLink RX1 9 "CuttingRules$Kinds" "count" "I", Cond.fieldLink RX1 22 "CuttingRules$Kinds" "values" "[I", Cond.methodLink RX1 36 Lib.Math.max.name, Cond.methodLink RX1 29 yX1_lies, Cond.instanceMethod yX1_lies, Cond.selects RX1 yX1_lies yX1_lies, Cond.code yX1_lies cX1_lies 4 (some .boolean), Cond.fieldLink RX1 15 "CuttingRules$Kinds" "widths" "[I", Cond.fieldLink RX1 19 "CuttingRules$Kinds" "heights" "[I", Cond.methodLink RX1 33 yX1_liesTurned, Cond.instanceMethod yX1_liesTurned, Cond.selects RX1 yX1_liesTurned yX1_liesTurned]
def wsX5_mostOfSize_r2 : List Cond := [Cond.code yX1_liesTurned cX1_liesTurned 4 (some .boolean), Cond.fieldLink RX1 25 "CuttingRules$Kinds" "turning" "[Z", Cond.methodLink RX5 43 yX5_ofSize, Cond.instanceMethod yX5_ofSize, Cond.selects RX5 yX5_ofSize yX5_ofSize, Cond.initialized RX5, Cond.code yX5_ofSize cX5_ofSize 5 (some .int), Cond.fieldLink RX5 69 "CuttingRules$Sheet" "stages" "I", Cond.fieldLink RX5 9 "CuttingRules$Worths" "ofSizes" "[I", Cond.methodLink RX5 78 yX5_sizeSlot, Cond.static yX5_sizeSlot, Cond.code yX5_sizeSlot cX5_sizeSlot 3 (some .int), Cond.static yX6_within, Cond.initialized RX6, Cond.code yX6_within cX6_within 3 (some .boolean), Cond.methodLink RX5 94 yX4_lastCut, Cond.instanceMethod yX4_lastCut, Cond.selects RX4 yX4_lastCut yX4_lastCut, Cond.initialized RX4, Cond.code yX4_lastCut cX4_lastCut 4 (some .int), Cond.fieldLink RX4 18 "CuttingRules$Sheet" "kerf" "I", Cond.methodLink RX4 38 yX4_partsWidth, Cond.instanceMethod yX4_partsWidth, Cond.selects RX4 yX4_partsWidth yX4_partsWidth]
def wsX5_mostOfSize_r3 : List Cond := [Cond.code yX4_partsWidth cX4_partsWidth 2 (some .boolean), Cond.fieldLink RX4 24 "CuttingRules$Sheet" "first" "I", Cond.methodLink RX5 61 yX4_partsWidth]
def wsX5_mostOfSize : List Cond := .code yX5_mostOfSize cX5_mostOfSize 10 (some .int) :: ((wsX5_mostOfSize_r1 ++ (wsX5_mostOfSize_r2 ++ wsX5_mostOfSize_r3)) ++ wsX50 ++ wsX40 ++ wsX10)
def wsX5_fillSizes_r1 : List Cond := [Cond.fieldLink RX5 23 "CuttingRules$Worths" "sheet" "LCuttingRules$Sheet;", Cond.fieldLink RX5 69 "CuttingRules$Sheet" "stages" "I", Cond.fieldLink RX5 72 "CuttingRules$Sheet" "width" "I", Cond.fieldLink RX5 75 "CuttingRules$Sheet" "height" "I", Cond.fieldLink RX5 9 "CuttingRules$Worths" "ofSizes" "[I", Cond.methodLink RX5 78 yX5_sizeSlot, Cond.static yX5_sizeSlot, Cond.initialized RX5, Cond.code yX5_sizeSlot cX5_sizeSlot 3 (some .int), Cond.static yX6_within, Cond.initialized RX6, Cond.code yX6_within cX6_within 3 (some .boolean), Cond.methodLink RX5 81 yX5_mostOfSize, Cond.instanceMethod yX5_mostOfSize, Cond.selects RX5 yX5_mostOfSize yX5_mostOfSize, Cond.code yX5_mostOfSize cX5_mostOfSize 10 (some .int), Cond.fieldLink RX5 27 "CuttingRules$Worths" "kinds" "LCuttingRules$Kinds;", Cond.methodLink RX5 89 Lib.Math.max.name, Cond.static Lib.Math.max.name, Cond.initialized "java/lang/Math", Cond.code Lib.Math.max.name Lib.Math.max.code 2 (some .int), Cond.fieldLink RX5 58 "CuttingRules$Sheet" "kerf" "I", Cond.methodLink RX5 84 yX1_mostValue, Cond.instanceMethod yX1_mostValue]
def wsX5_fillSizes_r2 : List Cond := [Cond.selects RX1 yX1_mostValue yX1_mostValue, Cond.initialized RX1, Cond.code yX1_mostValue cX1_mostValue 5 (some .int), Cond.fieldLink RX1 9 "CuttingRules$Kinds" "count" "I", Cond.fieldLink RX1 22 "CuttingRules$Kinds" "values" "[I", Cond.methodLink RX1 36 Lib.Math.max.name, Cond.methodLink RX1 29 yX1_lies, Cond.instanceMethod yX1_lies, Cond.selects RX1 yX1_lies yX1_lies, Cond.code yX1_lies cX1_lies 4 (some .boolean), Cond.fieldLink RX1 15 "CuttingRules$Kinds" "widths" "[I", Cond.fieldLink RX1 19 "CuttingRules$Kinds" "heights" "[I", Cond.methodLink RX1 33 yX1_liesTurned, Cond.instanceMethod yX1_liesTurned, Cond.selects RX1 yX1_liesTurned yX1_liesTurned, Cond.code yX1_liesTurned cX1_liesTurned 4 (some .boolean), Cond.fieldLink RX1 25 "CuttingRules$Kinds" "turning" "[Z", Cond.methodLink RX5 43 yX5_ofSize, Cond.instanceMethod yX5_ofSize, Cond.selects RX5 yX5_ofSize yX5_ofSize, Cond.code yX5_ofSize cX5_ofSize 5 (some .int), Cond.methodLink RX5 94 yX4_lastCut, Cond.instanceMethod yX4_lastCut, Cond.selects RX4 yX4_lastCut yX4_lastCut]
def wsX5_fillSizes_r3 : List Cond := [Cond.initialized RX4, Cond.code yX4_lastCut cX4_lastCut 4 (some .int), Cond.fieldLink RX4 18 "CuttingRules$Sheet" "kerf" "I", Cond.methodLink RX4 38 yX4_partsWidth, Cond.instanceMethod yX4_partsWidth, Cond.selects RX4 yX4_partsWidth yX4_partsWidth, Cond.code yX4_partsWidth cX4_partsWidth 2 (some .boolean), Cond.fieldLink RX4 24 "CuttingRules$Sheet" "first" "I", Cond.methodLink RX5 61 yX4_partsWidth]
def wsX5_fillSizes : List Cond := .code yX5_fillSizes cX5_fillSizes 5 none :: ((wsX5_fillSizes_r1 ++ (wsX5_fillSizes_r2 ++ wsX5_fillSizes_r3)) ++ wsX50 ++ wsX40 ++ wsX10)
def wsX4_isClean : List Cond := .code yX4_isClean cX4_isClean 7 (some .boolean) :: ([.fieldLink RX4 27 "CuttingRules$Sheet" "defects" "I", .fieldLink RX4 30 "CuttingRules$Sheet" "spoiled" "[I"] ++ wsX40)
def wsX5_span : List Cond := .code yX5_span cX5_span 2 (some .int) :: ([])
def wsX5_partSlot : List Cond := .code yX5_partSlot cX5_partSlot 3 (some .int) :: ([])
def wsX5_mostOfCuts : List Cond := .code yX5_mostOfCuts cX5_mostOfCuts 11 (some .int) :: ([.fieldLink RX5 16 "CuttingRules$Worths" "ofParts" "[I", .fieldLink RX5 23 "CuttingRules$Worths" "sheet" "LCuttingRules$Sheet;", .fieldLink RX5 58 "CuttingRules$Sheet" "kerf" "I", .methodLink RX5 47 yX5_span, .static yX5_span, .initialized RX5, .code yX5_span cX5_span 2 (some .int)] ++ wsX50 ++ wsX40)
def wsX5_fillPart_r1 : List Cond := [Cond.fieldLink RX5 23 "CuttingRules$Worths" "sheet" "LCuttingRules$Sheet;", Cond.fieldLink RX5 69 "CuttingRules$Sheet" "stages" "I", Cond.methodLink RX5 89 Lib.Math.max.name, Cond.static Lib.Math.max.name, Cond.initialized "java/lang/Math", Cond.code Lib.Math.max.name Lib.Math.max.code 2 (some .int), Cond.fieldLink RX5 16 "CuttingRules$Worths" "ofParts" "[I", Cond.methodLink RX5 101 yX4_isClean, Cond.instanceMethod yX4_isClean, Cond.selects RX4 yX4_isClean yX4_isClean, Cond.initialized RX4, Cond.code yX4_isClean cX4_isClean 7 (some .boolean), Cond.fieldLink RX4 27 "CuttingRules$Sheet" "defects" "I", Cond.fieldLink RX4 30 "CuttingRules$Sheet" "spoiled" "[I", Cond.methodLink RX5 47 yX5_span, Cond.static yX5_span, Cond.initialized RX5, Cond.code yX5_span cX5_span 2 (some .int), Cond.methodLink RX5 43 yX5_ofSize, Cond.instanceMethod yX5_ofSize, Cond.selects RX5 yX5_ofSize yX5_ofSize, Cond.code yX5_ofSize cX5_ofSize 5 (some .int), Cond.fieldLink RX5 9 "CuttingRules$Worths" "ofSizes" "[I", Cond.methodLink RX5 78 yX5_sizeSlot]
def wsX5_fillPart_r2 : List Cond := [Cond.static yX5_sizeSlot, Cond.code yX5_sizeSlot cX5_sizeSlot 3 (some .int), Cond.static yX6_within, Cond.initialized RX6, Cond.code yX6_within cX6_within 3 (some .boolean), Cond.methodLink RX5 61 yX4_partsWidth, Cond.instanceMethod yX4_partsWidth, Cond.selects RX4 yX4_partsWidth yX4_partsWidth, Cond.code yX4_partsWidth cX4_partsWidth 2 (some .boolean), Cond.fieldLink RX4 24 "CuttingRules$Sheet" "first" "I", Cond.methodLink RX5 51 yX5_partSlot, Cond.static yX5_partSlot, Cond.code yX5_partSlot cX5_partSlot 3 (some .int), Cond.methodLink RX5 105 yX5_mostOfCuts, Cond.instanceMethod yX5_mostOfCuts, Cond.selects RX5 yX5_mostOfCuts yX5_mostOfCuts, Cond.code yX5_mostOfCuts cX5_mostOfCuts 11 (some .int), Cond.fieldLink RX5 58 "CuttingRules$Sheet" "kerf" "I"]
def wsX5_fillPart : List Cond := .code yX5_fillPart cX5_fillPart 12 none :: ((wsX5_fillPart_r1 ++ wsX5_fillPart_r2) ++ wsX50 ++ wsX40)
def wsX5_fillParts_r1 : List Cond := [Cond.fieldLink RX5 23 "CuttingRules$Worths" "sheet" "LCuttingRules$Sheet;", Cond.fieldLink RX5 72 "CuttingRules$Sheet" "width" "I", Cond.fieldLink RX5 75 "CuttingRules$Sheet" "height" "I", Cond.methodLink RX5 97 yX5_fillPart, Cond.instanceMethod yX5_fillPart, Cond.selects RX5 yX5_fillPart yX5_fillPart, Cond.initialized RX5, Cond.code yX5_fillPart cX5_fillPart 12 none, Cond.fieldLink RX5 69 "CuttingRules$Sheet" "stages" "I", Cond.methodLink RX5 89 Lib.Math.max.name, Cond.static Lib.Math.max.name, Cond.initialized "java/lang/Math", Cond.code Lib.Math.max.name Lib.Math.max.code 2 (some .int), Cond.fieldLink RX5 16 "CuttingRules$Worths" "ofParts" "[I", Cond.methodLink RX5 101 yX4_isClean, Cond.instanceMethod yX4_isClean, Cond.selects RX4 yX4_isClean yX4_isClean, Cond.initialized RX4, Cond.code yX4_isClean cX4_isClean 7 (some .boolean), Cond.fieldLink RX4 27 "CuttingRules$Sheet" "defects" "I", Cond.fieldLink RX4 30 "CuttingRules$Sheet" "spoiled" "[I", Cond.methodLink RX5 47 yX5_span, Cond.static yX5_span, Cond.code yX5_span cX5_span 2 (some .int)]
def wsX5_fillParts_r2 : List Cond := [Cond.methodLink RX5 43 yX5_ofSize, Cond.instanceMethod yX5_ofSize, Cond.selects RX5 yX5_ofSize yX5_ofSize, Cond.code yX5_ofSize cX5_ofSize 5 (some .int), Cond.fieldLink RX5 9 "CuttingRules$Worths" "ofSizes" "[I", Cond.methodLink RX5 78 yX5_sizeSlot, Cond.static yX5_sizeSlot, Cond.code yX5_sizeSlot cX5_sizeSlot 3 (some .int), Cond.static yX6_within, Cond.initialized RX6, Cond.code yX6_within cX6_within 3 (some .boolean), Cond.methodLink RX5 61 yX4_partsWidth, Cond.instanceMethod yX4_partsWidth, Cond.selects RX4 yX4_partsWidth yX4_partsWidth, Cond.code yX4_partsWidth cX4_partsWidth 2 (some .boolean), Cond.fieldLink RX4 24 "CuttingRules$Sheet" "first" "I", Cond.methodLink RX5 51 yX5_partSlot, Cond.static yX5_partSlot, Cond.code yX5_partSlot cX5_partSlot 3 (some .int), Cond.methodLink RX5 105 yX5_mostOfCuts, Cond.instanceMethod yX5_mostOfCuts, Cond.selects RX5 yX5_mostOfCuts yX5_mostOfCuts, Cond.code yX5_mostOfCuts cX5_mostOfCuts 11 (some .int), Cond.fieldLink RX5 58 "CuttingRules$Sheet" "kerf" "I"]
def wsX5_fillParts : List Cond := .code yX5_fillParts cX5_fillParts 5 none :: ((wsX5_fillParts_r1 ++ wsX5_fillParts_r2) ++ wsX50 ++ wsX40)
def wsX5_makeReady_r1 : List Cond := [Cond.fieldLink RX5 19 "CuttingRules$Worths" "stale" "Z", Cond.fieldLink RX5 23 "CuttingRules$Worths" "sheet" "LCuttingRules$Sheet;", Cond.fieldLink RX5 34 "CuttingRules$Sheet" "defects" "I", Cond.methodLink RX5 31 yX5_fillSizes, Cond.instanceMethod yX5_fillSizes, Cond.selects RX5 yX5_fillSizes yX5_fillSizes, Cond.initialized RX5, Cond.code yX5_fillSizes cX5_fillSizes 5 none, Cond.fieldLink RX5 69 "CuttingRules$Sheet" "stages" "I", Cond.fieldLink RX5 72 "CuttingRules$Sheet" "width" "I", Cond.fieldLink RX5 75 "CuttingRules$Sheet" "height" "I", Cond.fieldLink RX5 9 "CuttingRules$Worths" "ofSizes" "[I", Cond.methodLink RX5 78 yX5_sizeSlot, Cond.static yX5_sizeSlot, Cond.code yX5_sizeSlot cX5_sizeSlot 3 (some .int), Cond.static yX6_within, Cond.initialized RX6, Cond.code yX6_within cX6_within 3 (some .boolean), Cond.methodLink RX5 81 yX5_mostOfSize, Cond.instanceMethod yX5_mostOfSize, Cond.selects RX5 yX5_mostOfSize yX5_mostOfSize, Cond.code yX5_mostOfSize cX5_mostOfSize 10 (some .int), Cond.fieldLink RX5 27 "CuttingRules$Worths" "kinds" "LCuttingRules$Kinds;", Cond.methodLink RX5 89 Lib.Math.max.name]
def wsX5_makeReady_r2 : List Cond := [Cond.static Lib.Math.max.name, Cond.initialized "java/lang/Math", Cond.code Lib.Math.max.name Lib.Math.max.code 2 (some .int), Cond.fieldLink RX5 58 "CuttingRules$Sheet" "kerf" "I", Cond.methodLink RX5 84 yX1_mostValue, Cond.instanceMethod yX1_mostValue, Cond.selects RX1 yX1_mostValue yX1_mostValue, Cond.initialized RX1, Cond.code yX1_mostValue cX1_mostValue 5 (some .int), Cond.fieldLink RX1 9 "CuttingRules$Kinds" "count" "I", Cond.fieldLink RX1 22 "CuttingRules$Kinds" "values" "[I", Cond.methodLink RX1 36 Lib.Math.max.name, Cond.methodLink RX1 29 yX1_lies, Cond.instanceMethod yX1_lies, Cond.selects RX1 yX1_lies yX1_lies, Cond.code yX1_lies cX1_lies 4 (some .boolean), Cond.fieldLink RX1 15 "CuttingRules$Kinds" "widths" "[I", Cond.fieldLink RX1 19 "CuttingRules$Kinds" "heights" "[I", Cond.methodLink RX1 33 yX1_liesTurned, Cond.instanceMethod yX1_liesTurned, Cond.selects RX1 yX1_liesTurned yX1_liesTurned, Cond.code yX1_liesTurned cX1_liesTurned 4 (some .boolean), Cond.fieldLink RX1 25 "CuttingRules$Kinds" "turning" "[Z", Cond.methodLink RX5 43 yX5_ofSize]
def wsX5_makeReady_r3 : List Cond := [Cond.instanceMethod yX5_ofSize, Cond.selects RX5 yX5_ofSize yX5_ofSize, Cond.code yX5_ofSize cX5_ofSize 5 (some .int), Cond.methodLink RX5 94 yX4_lastCut, Cond.instanceMethod yX4_lastCut, Cond.selects RX4 yX4_lastCut yX4_lastCut, Cond.initialized RX4, Cond.code yX4_lastCut cX4_lastCut 4 (some .int), Cond.fieldLink RX4 18 "CuttingRules$Sheet" "kerf" "I", Cond.methodLink RX4 38 yX4_partsWidth, Cond.instanceMethod yX4_partsWidth, Cond.selects RX4 yX4_partsWidth yX4_partsWidth, Cond.code yX4_partsWidth cX4_partsWidth 2 (some .boolean), Cond.fieldLink RX4 24 "CuttingRules$Sheet" "first" "I", Cond.methodLink RX5 61 yX4_partsWidth, Cond.methodLink RX5 40 yX5_fillParts, Cond.instanceMethod yX5_fillParts, Cond.selects RX5 yX5_fillParts yX5_fillParts, Cond.code yX5_fillParts cX5_fillParts 5 none, Cond.methodLink RX5 97 yX5_fillPart, Cond.instanceMethod yX5_fillPart, Cond.selects RX5 yX5_fillPart yX5_fillPart, Cond.code yX5_fillPart cX5_fillPart 12 none, Cond.fieldLink RX5 16 "CuttingRules$Worths" "ofParts" "[I"]
def wsX5_makeReady_r4 : List Cond := [Cond.methodLink RX5 101 yX4_isClean, Cond.instanceMethod yX4_isClean, Cond.selects RX4 yX4_isClean yX4_isClean, Cond.code yX4_isClean cX4_isClean 7 (some .boolean), Cond.fieldLink RX4 27 "CuttingRules$Sheet" "defects" "I", Cond.fieldLink RX4 30 "CuttingRules$Sheet" "spoiled" "[I", Cond.methodLink RX5 47 yX5_span, Cond.static yX5_span, Cond.code yX5_span cX5_span 2 (some .int), Cond.methodLink RX5 51 yX5_partSlot, Cond.static yX5_partSlot, Cond.code yX5_partSlot cX5_partSlot 3 (some .int), Cond.methodLink RX5 105 yX5_mostOfCuts, Cond.instanceMethod yX5_mostOfCuts, Cond.selects RX5 yX5_mostOfCuts yX5_mostOfCuts, Cond.code yX5_mostOfCuts cX5_mostOfCuts 11 (some .int)]
def wsX5_makeReady : List Cond := .code yX5_makeReady cX5_makeReady 1 none :: ((wsX5_makeReady_r1 ++ (wsX5_makeReady_r2 ++ (wsX5_makeReady_r3 ++ wsX5_makeReady_r4))) ++ wsX50 ++ wsX40 ++ wsX10)
def wsX5_of : List Cond := .code yX5_of cX5_of 7 (some .int) :: ([.fieldLink RX5 23 "CuttingRules$Worths" "sheet" "LCuttingRules$Sheet;", .fieldLink RX5 34 "CuttingRules$Sheet" "defects" "I", .fieldLink RX5 16 "CuttingRules$Worths" "ofParts" "[I", .methodLink RX5 43 yX5_ofSize, .instanceMethod yX5_ofSize, .selects RX5 yX5_ofSize yX5_ofSize, .initialized RX5, .code yX5_ofSize cX5_ofSize 5 (some .int), .fieldLink RX5 69 "CuttingRules$Sheet" "stages" "I", .fieldLink RX5 9 "CuttingRules$Worths" "ofSizes" "[I", .methodLink RX5 78 yX5_sizeSlot, .static yX5_sizeSlot, .code yX5_sizeSlot cX5_sizeSlot 3 (some .int), .static yX6_within, .initialized RX6, .code yX6_within cX6_within 3 (some .boolean), .methodLink RX5 47 yX5_span, .static yX5_span, .code yX5_span cX5_span 2 (some .int), .methodLink RX5 51 yX5_partSlot, .static yX5_partSlot, .code yX5_partSlot cX5_partSlot 3 (some .int)] ++ wsX50 ++ wsX40)
def wsX2_addPiece : List Cond := .code yX2_addPiece cX2_addPiece 7 none :: ([.fieldLink RX2 18 "CuttingRules$Plan" "pieceCount" "I", .fieldLink RX2 11 "CuttingRules$Plan" "pieceFacts" "[I", .fieldLink RX2 36 "CuttingRules$Plan" "kinds" "LCuttingRules$Kinds;", .fieldLink RX2 25 "CuttingRules$Plan" "unused" "I", .methodLink RX2 108 yX1_lies, .instanceMethod yX1_lies, .selects RX1 yX1_lies yX1_lies, .initialized RX1, .code yX1_lies cX1_lies 4 (some .boolean), .fieldLink RX1 15 "CuttingRules$Kinds" "widths" "[I", .fieldLink RX1 19 "CuttingRules$Kinds" "heights" "[I"] ++ wsX20 ++ wsX10)
def wsX5_ofCut_r1 : List Cond := [Cond.fieldLink RX5 23 "CuttingRules$Worths" "sheet" "LCuttingRules$Sheet;", Cond.fieldLink RX5 58 "CuttingRules$Sheet" "kerf" "I", Cond.methodLink RX5 61 yX4_partsWidth, Cond.instanceMethod yX4_partsWidth, Cond.selects RX4 yX4_partsWidth yX4_partsWidth, Cond.initialized RX4, Cond.code yX4_partsWidth cX4_partsWidth 2 (some .boolean), Cond.fieldLink RX4 24 "CuttingRules$Sheet" "first" "I", Cond.methodLink RX5 65 yX5_of, Cond.instanceMethod yX5_of, Cond.selects RX5 yX5_of yX5_of, Cond.initialized RX5, Cond.code yX5_of cX5_of 7 (some .int), Cond.fieldLink RX5 34 "CuttingRules$Sheet" "defects" "I", Cond.fieldLink RX5 16 "CuttingRules$Worths" "ofParts" "[I", Cond.methodLink RX5 43 yX5_ofSize, Cond.instanceMethod yX5_ofSize, Cond.selects RX5 yX5_ofSize yX5_ofSize, Cond.code yX5_ofSize cX5_ofSize 5 (some .int), Cond.fieldLink RX5 69 "CuttingRules$Sheet" "stages" "I", Cond.fieldLink RX5 9 "CuttingRules$Worths" "ofSizes" "[I", Cond.methodLink RX5 78 yX5_sizeSlot, Cond.static yX5_sizeSlot, Cond.code yX5_sizeSlot cX5_sizeSlot 3 (some .int)]
def wsX5_ofCut_r2 : List Cond := [Cond.static yX6_within, Cond.initialized RX6, Cond.code yX6_within cX6_within 3 (some .boolean), Cond.methodLink RX5 47 yX5_span, Cond.static yX5_span, Cond.code yX5_span cX5_span 2 (some .int), Cond.methodLink RX5 51 yX5_partSlot, Cond.static yX5_partSlot, Cond.code yX5_partSlot cX5_partSlot 3 (some .int)]
def wsX5_ofCut : List Cond := .code yX5_ofCut cX5_ofCut 8 (some .int) :: ((wsX5_ofCut_r1 ++ wsX5_ofCut_r2) ++ wsX50 ++ wsX40)
def wsX2_firstCut_r1 : List Cond := [Cond.fieldLink RX2 32 "CuttingRules$Plan" "sheet" "LCuttingRules$Sheet;", Cond.fieldLink RX2 40 "CuttingRules$Plan" "worths" "LCuttingRules$Worths;", Cond.methodLink RX2 102 yX4_lastCut, Cond.instanceMethod yX4_lastCut, Cond.selects RX4 yX4_lastCut yX4_lastCut, Cond.initialized RX4, Cond.code yX4_lastCut cX4_lastCut 4 (some .int), Cond.fieldLink RX4 18 "CuttingRules$Sheet" "kerf" "I", Cond.methodLink RX4 38 yX4_partsWidth, Cond.instanceMethod yX4_partsWidth, Cond.selects RX4 yX4_partsWidth yX4_partsWidth, Cond.code yX4_partsWidth cX4_partsWidth 2 (some .boolean), Cond.fieldLink RX4 24 "CuttingRules$Sheet" "first" "I", Cond.methodLink RX2 105 yX5_ofCut, Cond.instanceMethod yX5_ofCut, Cond.selects RX5 yX5_ofCut yX5_ofCut, Cond.initialized RX5, Cond.code yX5_ofCut cX5_ofCut 8 (some .int), Cond.fieldLink RX5 23 "CuttingRules$Worths" "sheet" "LCuttingRules$Sheet;", Cond.fieldLink RX5 58 "CuttingRules$Sheet" "kerf" "I", Cond.methodLink RX5 61 yX4_partsWidth, Cond.methodLink RX5 65 yX5_of, Cond.instanceMethod yX5_of, Cond.selects RX5 yX5_of yX5_of]
def wsX2_firstCut_r2 : List Cond := [Cond.code yX5_of cX5_of 7 (some .int), Cond.fieldLink RX5 34 "CuttingRules$Sheet" "defects" "I", Cond.fieldLink RX5 16 "CuttingRules$Worths" "ofParts" "[I", Cond.methodLink RX5 43 yX5_ofSize, Cond.instanceMethod yX5_ofSize, Cond.selects RX5 yX5_ofSize yX5_ofSize, Cond.code yX5_ofSize cX5_ofSize 5 (some .int), Cond.fieldLink RX5 69 "CuttingRules$Sheet" "stages" "I", Cond.fieldLink RX5 9 "CuttingRules$Worths" "ofSizes" "[I", Cond.methodLink RX5 78 yX5_sizeSlot, Cond.static yX5_sizeSlot, Cond.code yX5_sizeSlot cX5_sizeSlot 3 (some .int), Cond.static yX6_within, Cond.initialized RX6, Cond.code yX6_within cX6_within 3 (some .boolean), Cond.methodLink RX5 47 yX5_span, Cond.static yX5_span, Cond.code yX5_span cX5_span 2 (some .int), Cond.methodLink RX5 51 yX5_partSlot, Cond.static yX5_partSlot, Cond.code yX5_partSlot cX5_partSlot 3 (some .int)]
def wsX2_firstCut : List Cond := .code yX2_firstCut cX2_firstCut 9 (some .int) :: ((wsX2_firstCut_r1 ++ wsX2_firstCut_r2) ++ wsX20 ++ wsX40 ++ wsX50)
def wsX2_addCut : List Cond := .code yX2_addCut cX2_addCut 9 none :: ([.fieldLink RX2 22 "CuttingRules$Plan" "cutCount" "I", .fieldLink RX2 32 "CuttingRules$Plan" "sheet" "LCuttingRules$Sheet;", .fieldLink RX2 15 "CuttingRules$Plan" "cutFacts" "[I", .methodLink RX2 98 yX4_partsWidth, .instanceMethod yX4_partsWidth, .selects RX4 yX4_partsWidth yX4_partsWidth, .initialized RX4, .code yX4_partsWidth cX4_partsWidth 2 (some .boolean), .fieldLink RX4 24 "CuttingRules$Sheet" "first" "I"] ++ wsX20 ++ wsX40)
def wsX2_lay_r1 : List Cond := [Cond.fieldLink RX2 40 "CuttingRules$Plan" "worths" "LCuttingRules$Worths;", Cond.fieldLink RX2 32 "CuttingRules$Plan" "sheet" "LCuttingRules$Sheet;", Cond.fieldLink RX2 36 "CuttingRules$Plan" "kinds" "LCuttingRules$Kinds;", Cond.fieldLink RX2 92 "CuttingRules$Sheet" "stages" "I", Cond.methodLink RX2 64 yX5_of, Cond.instanceMethod yX5_of, Cond.selects RX5 yX5_of yX5_of, Cond.initialized RX5, Cond.code yX5_of cX5_of 7 (some .int), Cond.fieldLink RX5 23 "CuttingRules$Worths" "sheet" "LCuttingRules$Sheet;", Cond.fieldLink RX5 34 "CuttingRules$Sheet" "defects" "I", Cond.fieldLink RX5 16 "CuttingRules$Worths" "ofParts" "[I", Cond.methodLink RX5 43 yX5_ofSize, Cond.instanceMethod yX5_ofSize, Cond.selects RX5 yX5_ofSize yX5_ofSize, Cond.code yX5_ofSize cX5_ofSize 5 (some .int), Cond.fieldLink RX5 69 "CuttingRules$Sheet" "stages" "I", Cond.fieldLink RX5 9 "CuttingRules$Worths" "ofSizes" "[I", Cond.methodLink RX5 78 yX5_sizeSlot, Cond.static yX5_sizeSlot, Cond.code yX5_sizeSlot cX5_sizeSlot 3 (some .int), Cond.static yX6_within, Cond.initialized RX6, Cond.code yX6_within cX6_within 3 (some .boolean)]
def wsX2_lay_r2 : List Cond := [Cond.methodLink RX5 47 yX5_span, Cond.static yX5_span, Cond.code yX5_span cX5_span 2 (some .int), Cond.methodLink RX5 51 yX5_partSlot, Cond.static yX5_partSlot, Cond.code yX5_partSlot cX5_partSlot 3 (some .int), Cond.methodLink RX2 68 yX4_isClean, Cond.instanceMethod yX4_isClean, Cond.selects RX4 yX4_isClean yX4_isClean, Cond.initialized RX4, Cond.code yX4_isClean cX4_isClean 7 (some .boolean), Cond.fieldLink RX4 27 "CuttingRules$Sheet" "defects" "I", Cond.fieldLink RX4 30 "CuttingRules$Sheet" "spoiled" "[I", Cond.methodLink RX2 72 yX1_firstOfValue, Cond.instanceMethod yX1_firstOfValue, Cond.selects RX1 yX1_firstOfValue yX1_firstOfValue, Cond.initialized RX1, Cond.code yX1_firstOfValue cX1_firstOfValue 5 (some .int), Cond.fieldLink RX1 9 "CuttingRules$Kinds" "count" "I", Cond.fieldLink RX1 22 "CuttingRules$Kinds" "values" "[I", Cond.methodLink RX1 29 yX1_lies, Cond.instanceMethod yX1_lies, Cond.selects RX1 yX1_lies yX1_lies, Cond.code yX1_lies cX1_lies 4 (some .boolean)]
def wsX2_lay_r3 : List Cond := [Cond.fieldLink RX1 15 "CuttingRules$Kinds" "widths" "[I", Cond.fieldLink RX1 19 "CuttingRules$Kinds" "heights" "[I", Cond.methodLink RX1 33 yX1_liesTurned, Cond.instanceMethod yX1_liesTurned, Cond.selects RX1 yX1_liesTurned yX1_liesTurned, Cond.code yX1_liesTurned cX1_liesTurned 4 (some .boolean), Cond.fieldLink RX1 25 "CuttingRules$Kinds" "turning" "[Z", Cond.methodLink RX2 78 yX2_addPiece, Cond.instanceMethod yX2_addPiece, Cond.selects RX2 yX2_addPiece yX2_addPiece, Cond.initialized RX2, Cond.code yX2_addPiece cX2_addPiece 7 none, Cond.fieldLink RX2 18 "CuttingRules$Plan" "pieceCount" "I", Cond.fieldLink RX2 11 "CuttingRules$Plan" "pieceFacts" "[I", Cond.fieldLink RX2 25 "CuttingRules$Plan" "unused" "I", Cond.methodLink RX2 108 yX1_lies, Cond.methodLink RX2 81 yX2_firstCut, Cond.instanceMethod yX2_firstCut, Cond.selects RX2 yX2_firstCut yX2_firstCut, Cond.code yX2_firstCut cX2_firstCut 9 (some .int), Cond.methodLink RX2 102 yX4_lastCut, Cond.instanceMethod yX4_lastCut, Cond.selects RX4 yX4_lastCut yX4_lastCut, Cond.code yX4_lastCut cX4_lastCut 4 (some .int)]
def wsX2_lay_r4 : List Cond := [Cond.fieldLink RX4 18 "CuttingRules$Sheet" "kerf" "I", Cond.methodLink RX4 38 yX4_partsWidth, Cond.instanceMethod yX4_partsWidth, Cond.selects RX4 yX4_partsWidth yX4_partsWidth, Cond.code yX4_partsWidth cX4_partsWidth 2 (some .boolean), Cond.fieldLink RX4 24 "CuttingRules$Sheet" "first" "I", Cond.methodLink RX2 105 yX5_ofCut, Cond.instanceMethod yX5_ofCut, Cond.selects RX5 yX5_ofCut yX5_ofCut, Cond.code yX5_ofCut cX5_ofCut 8 (some .int), Cond.fieldLink RX5 58 "CuttingRules$Sheet" "kerf" "I", Cond.methodLink RX5 61 yX4_partsWidth, Cond.methodLink RX5 65 yX5_of, Cond.methodLink RX2 85 yX2_addCut, Cond.instanceMethod yX2_addCut, Cond.selects RX2 yX2_addCut yX2_addCut, Cond.code yX2_addCut cX2_addCut 9 none, Cond.fieldLink RX2 22 "CuttingRules$Plan" "cutCount" "I", Cond.fieldLink RX2 15 "CuttingRules$Plan" "cutFacts" "[I", Cond.methodLink RX2 98 yX4_partsWidth, Cond.methodLink RX2 89 yX2_layBoth, Cond.instanceMethod yX2_layBoth, Cond.selects RX2 yX2_layBoth yX2_layBoth, Cond.methodLink RX2 60 yX2_lay]
def wsX2_lay_r5 : List Cond := [Cond.instanceMethod yX2_lay, Cond.selects RX2 yX2_lay yX2_lay, Cond.code yX2_layBoth cX2_layBoth 8 none, Cond.fieldLink RX2 95 "CuttingRules$Sheet" "kerf" "I"]
def wsX2_lay : List Cond := .code yX2_lay cX2_lay 9 none :: ((wsX2_lay_r1 ++ (wsX2_lay_r2 ++ (wsX2_lay_r3 ++ (wsX2_lay_r4 ++ wsX2_lay_r5)))) ++ wsX20 ++ wsX40 ++ wsX50 ++ wsX10)
def wsX2_layBoth_r1 : List Cond := [Cond.fieldLink RX2 32 "CuttingRules$Plan" "sheet" "LCuttingRules$Sheet;", Cond.fieldLink RX2 95 "CuttingRules$Sheet" "kerf" "I", Cond.methodLink RX2 98 yX4_partsWidth, Cond.instanceMethod yX4_partsWidth, Cond.selects RX4 yX4_partsWidth yX4_partsWidth, Cond.initialized RX4, Cond.code yX4_partsWidth cX4_partsWidth 2 (some .boolean), Cond.fieldLink RX4 24 "CuttingRules$Sheet" "first" "I", Cond.methodLink RX2 60 yX2_lay, Cond.instanceMethod yX2_lay, Cond.selects RX2 yX2_lay yX2_lay, Cond.initialized RX2, Cond.code yX2_lay cX2_lay 9 none, Cond.fieldLink RX2 40 "CuttingRules$Plan" "worths" "LCuttingRules$Worths;", Cond.fieldLink RX2 36 "CuttingRules$Plan" "kinds" "LCuttingRules$Kinds;", Cond.fieldLink RX2 92 "CuttingRules$Sheet" "stages" "I", Cond.methodLink RX2 64 yX5_of, Cond.instanceMethod yX5_of, Cond.selects RX5 yX5_of yX5_of, Cond.initialized RX5, Cond.code yX5_of cX5_of 7 (some .int), Cond.fieldLink RX5 23 "CuttingRules$Worths" "sheet" "LCuttingRules$Sheet;", Cond.fieldLink RX5 34 "CuttingRules$Sheet" "defects" "I", Cond.fieldLink RX5 16 "CuttingRules$Worths" "ofParts" "[I"]
def wsX2_layBoth_r2 : List Cond := [Cond.methodLink RX5 43 yX5_ofSize, Cond.instanceMethod yX5_ofSize, Cond.selects RX5 yX5_ofSize yX5_ofSize, Cond.code yX5_ofSize cX5_ofSize 5 (some .int), Cond.fieldLink RX5 69 "CuttingRules$Sheet" "stages" "I", Cond.fieldLink RX5 9 "CuttingRules$Worths" "ofSizes" "[I", Cond.methodLink RX5 78 yX5_sizeSlot, Cond.static yX5_sizeSlot, Cond.code yX5_sizeSlot cX5_sizeSlot 3 (some .int), Cond.static yX6_within, Cond.initialized RX6, Cond.code yX6_within cX6_within 3 (some .boolean), Cond.methodLink RX5 47 yX5_span, Cond.static yX5_span, Cond.code yX5_span cX5_span 2 (some .int), Cond.methodLink RX5 51 yX5_partSlot, Cond.static yX5_partSlot, Cond.code yX5_partSlot cX5_partSlot 3 (some .int), Cond.methodLink RX2 68 yX4_isClean, Cond.instanceMethod yX4_isClean, Cond.selects RX4 yX4_isClean yX4_isClean, Cond.code yX4_isClean cX4_isClean 7 (some .boolean), Cond.fieldLink RX4 27 "CuttingRules$Sheet" "defects" "I", Cond.fieldLink RX4 30 "CuttingRules$Sheet" "spoiled" "[I"]
def wsX2_layBoth_r3 : List Cond := [Cond.methodLink RX2 72 yX1_firstOfValue, Cond.instanceMethod yX1_firstOfValue, Cond.selects RX1 yX1_firstOfValue yX1_firstOfValue, Cond.initialized RX1, Cond.code yX1_firstOfValue cX1_firstOfValue 5 (some .int), Cond.fieldLink RX1 9 "CuttingRules$Kinds" "count" "I", Cond.fieldLink RX1 22 "CuttingRules$Kinds" "values" "[I", Cond.methodLink RX1 29 yX1_lies, Cond.instanceMethod yX1_lies, Cond.selects RX1 yX1_lies yX1_lies, Cond.code yX1_lies cX1_lies 4 (some .boolean), Cond.fieldLink RX1 15 "CuttingRules$Kinds" "widths" "[I", Cond.fieldLink RX1 19 "CuttingRules$Kinds" "heights" "[I", Cond.methodLink RX1 33 yX1_liesTurned, Cond.instanceMethod yX1_liesTurned, Cond.selects RX1 yX1_liesTurned yX1_liesTurned, Cond.code yX1_liesTurned cX1_liesTurned 4 (some .boolean), Cond.fieldLink RX1 25 "CuttingRules$Kinds" "turning" "[Z", Cond.methodLink RX2 78 yX2_addPiece, Cond.instanceMethod yX2_addPiece, Cond.selects RX2 yX2_addPiece yX2_addPiece, Cond.code yX2_addPiece cX2_addPiece 7 none, Cond.fieldLink RX2 18 "CuttingRules$Plan" "pieceCount" "I", Cond.fieldLink RX2 11 "CuttingRules$Plan" "pieceFacts" "[I"]
def wsX2_layBoth_r4 : List Cond := [Cond.fieldLink RX2 25 "CuttingRules$Plan" "unused" "I", Cond.methodLink RX2 108 yX1_lies, Cond.methodLink RX2 81 yX2_firstCut, Cond.instanceMethod yX2_firstCut, Cond.selects RX2 yX2_firstCut yX2_firstCut, Cond.code yX2_firstCut cX2_firstCut 9 (some .int), Cond.methodLink RX2 102 yX4_lastCut, Cond.instanceMethod yX4_lastCut, Cond.selects RX4 yX4_lastCut yX4_lastCut, Cond.code yX4_lastCut cX4_lastCut 4 (some .int), Cond.fieldLink RX4 18 "CuttingRules$Sheet" "kerf" "I", Cond.methodLink RX4 38 yX4_partsWidth, Cond.methodLink RX2 105 yX5_ofCut, Cond.instanceMethod yX5_ofCut, Cond.selects RX5 yX5_ofCut yX5_ofCut, Cond.code yX5_ofCut cX5_ofCut 8 (some .int), Cond.fieldLink RX5 58 "CuttingRules$Sheet" "kerf" "I", Cond.methodLink RX5 61 yX4_partsWidth, Cond.methodLink RX5 65 yX5_of, Cond.methodLink RX2 85 yX2_addCut, Cond.instanceMethod yX2_addCut, Cond.selects RX2 yX2_addCut yX2_addCut, Cond.code yX2_addCut cX2_addCut 9 none, Cond.fieldLink RX2 22 "CuttingRules$Plan" "cutCount" "I"]
def wsX2_layBoth_r5 : List Cond := [Cond.fieldLink RX2 15 "CuttingRules$Plan" "cutFacts" "[I", Cond.methodLink RX2 89 yX2_layBoth, Cond.instanceMethod yX2_layBoth, Cond.selects RX2 yX2_layBoth yX2_layBoth]
def wsX2_layBoth : List Cond := .code yX2_layBoth cX2_layBoth 8 none :: ((wsX2_layBoth_r1 ++ (wsX2_layBoth_r2 ++ (wsX2_layBoth_r3 ++ (wsX2_layBoth_r4 ++ wsX2_layBoth_r5)))) ++ wsX20 ++ wsX40 ++ wsX50 ++ wsX10)
def wsX2_makeReady_r1 : List Cond := [Cond.fieldLink RX2 28 "CuttingRules$Plan" "stale" "Z", Cond.fieldLink RX2 40 "CuttingRules$Plan" "worths" "LCuttingRules$Worths;", Cond.fieldLink RX2 18 "CuttingRules$Plan" "pieceCount" "I", Cond.fieldLink RX2 22 "CuttingRules$Plan" "cutCount" "I", Cond.fieldLink RX2 32 "CuttingRules$Plan" "sheet" "LCuttingRules$Sheet;", Cond.fieldLink RX2 52 "CuttingRules$Sheet" "width" "I", Cond.fieldLink RX2 57 "CuttingRules$Sheet" "height" "I", Cond.fieldLink RX2 25 "CuttingRules$Plan" "unused" "I", Cond.methodLink RX2 49 yX5_makeReady, Cond.instanceMethod yX5_makeReady, Cond.selects RX5 yX5_makeReady yX5_makeReady, Cond.initialized RX5, Cond.code yX5_makeReady cX5_makeReady 1 none, Cond.fieldLink RX5 19 "CuttingRules$Worths" "stale" "Z", Cond.fieldLink RX5 23 "CuttingRules$Worths" "sheet" "LCuttingRules$Sheet;", Cond.fieldLink RX5 34 "CuttingRules$Sheet" "defects" "I", Cond.methodLink RX5 31 yX5_fillSizes, Cond.instanceMethod yX5_fillSizes, Cond.selects RX5 yX5_fillSizes yX5_fillSizes, Cond.code yX5_fillSizes cX5_fillSizes 5 none, Cond.fieldLink RX5 69 "CuttingRules$Sheet" "stages" "I", Cond.fieldLink RX5 72 "CuttingRules$Sheet" "width" "I", Cond.fieldLink RX5 75 "CuttingRules$Sheet" "height" "I", Cond.fieldLink RX5 9 "CuttingRules$Worths" "ofSizes" "[I"]
def wsX2_makeReady_r2 : List Cond := [Cond.methodLink RX5 78 yX5_sizeSlot, Cond.static yX5_sizeSlot, Cond.code yX5_sizeSlot cX5_sizeSlot 3 (some .int), Cond.static yX6_within, Cond.initialized RX6, Cond.code yX6_within cX6_within 3 (some .boolean), Cond.methodLink RX5 81 yX5_mostOfSize, Cond.instanceMethod yX5_mostOfSize, Cond.selects RX5 yX5_mostOfSize yX5_mostOfSize, Cond.code yX5_mostOfSize cX5_mostOfSize 10 (some .int), Cond.fieldLink RX5 27 "CuttingRules$Worths" "kinds" "LCuttingRules$Kinds;", Cond.methodLink RX5 89 Lib.Math.max.name, Cond.static Lib.Math.max.name, Cond.initialized "java/lang/Math", Cond.code Lib.Math.max.name Lib.Math.max.code 2 (some .int), Cond.fieldLink RX5 58 "CuttingRules$Sheet" "kerf" "I", Cond.methodLink RX5 84 yX1_mostValue, Cond.instanceMethod yX1_mostValue, Cond.selects RX1 yX1_mostValue yX1_mostValue, Cond.initialized RX1, Cond.code yX1_mostValue cX1_mostValue 5 (some .int), Cond.fieldLink RX1 9 "CuttingRules$Kinds" "count" "I", Cond.fieldLink RX1 22 "CuttingRules$Kinds" "values" "[I", Cond.methodLink RX1 36 Lib.Math.max.name]
def wsX2_makeReady_r3 : List Cond := [Cond.methodLink RX1 29 yX1_lies, Cond.instanceMethod yX1_lies, Cond.selects RX1 yX1_lies yX1_lies, Cond.code yX1_lies cX1_lies 4 (some .boolean), Cond.fieldLink RX1 15 "CuttingRules$Kinds" "widths" "[I", Cond.fieldLink RX1 19 "CuttingRules$Kinds" "heights" "[I", Cond.methodLink RX1 33 yX1_liesTurned, Cond.instanceMethod yX1_liesTurned, Cond.selects RX1 yX1_liesTurned yX1_liesTurned, Cond.code yX1_liesTurned cX1_liesTurned 4 (some .boolean), Cond.fieldLink RX1 25 "CuttingRules$Kinds" "turning" "[Z", Cond.methodLink RX5 43 yX5_ofSize, Cond.instanceMethod yX5_ofSize, Cond.selects RX5 yX5_ofSize yX5_ofSize, Cond.code yX5_ofSize cX5_ofSize 5 (some .int), Cond.methodLink RX5 94 yX4_lastCut, Cond.instanceMethod yX4_lastCut, Cond.selects RX4 yX4_lastCut yX4_lastCut, Cond.initialized RX4, Cond.code yX4_lastCut cX4_lastCut 4 (some .int), Cond.fieldLink RX4 18 "CuttingRules$Sheet" "kerf" "I", Cond.methodLink RX4 38 yX4_partsWidth, Cond.instanceMethod yX4_partsWidth, Cond.selects RX4 yX4_partsWidth yX4_partsWidth]
def wsX2_makeReady_r4 : List Cond := [Cond.code yX4_partsWidth cX4_partsWidth 2 (some .boolean), Cond.fieldLink RX4 24 "CuttingRules$Sheet" "first" "I", Cond.methodLink RX5 61 yX4_partsWidth, Cond.methodLink RX5 40 yX5_fillParts, Cond.instanceMethod yX5_fillParts, Cond.selects RX5 yX5_fillParts yX5_fillParts, Cond.code yX5_fillParts cX5_fillParts 5 none, Cond.methodLink RX5 97 yX5_fillPart, Cond.instanceMethod yX5_fillPart, Cond.selects RX5 yX5_fillPart yX5_fillPart, Cond.code yX5_fillPart cX5_fillPart 12 none, Cond.fieldLink RX5 16 "CuttingRules$Worths" "ofParts" "[I", Cond.methodLink RX5 101 yX4_isClean, Cond.instanceMethod yX4_isClean, Cond.selects RX4 yX4_isClean yX4_isClean, Cond.code yX4_isClean cX4_isClean 7 (some .boolean), Cond.fieldLink RX4 27 "CuttingRules$Sheet" "defects" "I", Cond.fieldLink RX4 30 "CuttingRules$Sheet" "spoiled" "[I", Cond.methodLink RX5 47 yX5_span, Cond.static yX5_span, Cond.code yX5_span cX5_span 2 (some .int), Cond.methodLink RX5 51 yX5_partSlot, Cond.static yX5_partSlot, Cond.code yX5_partSlot cX5_partSlot 3 (some .int)]
def wsX2_makeReady_r5 : List Cond := [Cond.methodLink RX5 105 yX5_mostOfCuts, Cond.instanceMethod yX5_mostOfCuts, Cond.selects RX5 yX5_mostOfCuts yX5_mostOfCuts, Cond.code yX5_mostOfCuts cX5_mostOfCuts 11 (some .int), Cond.methodLink RX2 60 yX2_lay, Cond.instanceMethod yX2_lay, Cond.selects RX2 yX2_lay yX2_lay, Cond.initialized RX2, Cond.code yX2_lay cX2_lay 9 none, Cond.fieldLink RX2 36 "CuttingRules$Plan" "kinds" "LCuttingRules$Kinds;", Cond.fieldLink RX2 92 "CuttingRules$Sheet" "stages" "I", Cond.methodLink RX2 64 yX5_of, Cond.instanceMethod yX5_of, Cond.selects RX5 yX5_of yX5_of, Cond.code yX5_of cX5_of 7 (some .int), Cond.methodLink RX2 68 yX4_isClean, Cond.methodLink RX2 72 yX1_firstOfValue, Cond.instanceMethod yX1_firstOfValue, Cond.selects RX1 yX1_firstOfValue yX1_firstOfValue, Cond.code yX1_firstOfValue cX1_firstOfValue 5 (some .int), Cond.methodLink RX2 78 yX2_addPiece, Cond.instanceMethod yX2_addPiece, Cond.selects RX2 yX2_addPiece yX2_addPiece, Cond.code yX2_addPiece cX2_addPiece 7 none]
def wsX2_makeReady_r6 : List Cond := [Cond.fieldLink RX2 11 "CuttingRules$Plan" "pieceFacts" "[I", Cond.methodLink RX2 108 yX1_lies, Cond.methodLink RX2 81 yX2_firstCut, Cond.instanceMethod yX2_firstCut, Cond.selects RX2 yX2_firstCut yX2_firstCut, Cond.code yX2_firstCut cX2_firstCut 9 (some .int), Cond.methodLink RX2 102 yX4_lastCut, Cond.methodLink RX2 105 yX5_ofCut, Cond.instanceMethod yX5_ofCut, Cond.selects RX5 yX5_ofCut yX5_ofCut, Cond.code yX5_ofCut cX5_ofCut 8 (some .int), Cond.methodLink RX5 65 yX5_of, Cond.methodLink RX2 85 yX2_addCut, Cond.instanceMethod yX2_addCut, Cond.selects RX2 yX2_addCut yX2_addCut, Cond.code yX2_addCut cX2_addCut 9 none, Cond.fieldLink RX2 15 "CuttingRules$Plan" "cutFacts" "[I", Cond.methodLink RX2 98 yX4_partsWidth, Cond.methodLink RX2 89 yX2_layBoth, Cond.instanceMethod yX2_layBoth, Cond.selects RX2 yX2_layBoth yX2_layBoth, Cond.code yX2_layBoth cX2_layBoth 8 none, Cond.fieldLink RX2 95 "CuttingRules$Sheet" "kerf" "I"]
def wsX2_makeReady : List Cond := .code yX2_makeReady cX2_makeReady 1 none :: ((wsX2_makeReady_r1 ++ (wsX2_makeReady_r2 ++ (wsX2_makeReady_r3 ++ (wsX2_makeReady_r4 ++ (wsX2_makeReady_r5 ++ wsX2_makeReady_r6))))) ++ wsX20 ++ wsX40 ++ wsX50 ++ wsX10)
def wsX3_init : List Cond := .code yX3_init cX3_init 1 none :: ([.methodLink RX3 3 objectInit, .instanceMethod objectInit, .code objectInit ⟨#[0xb1]⟩ 1 none, .fieldLink RX3 9 "CuttingRules$Rack" "stocks" "I", .fieldLink RX3 15 "CuttingRules$Rack" "orders" "I", .fieldLink RX3 18 "CuttingRules$Rack" "blade" "I", .arrayClass .int, .fieldLink RX3 21 "CuttingRules$Rack" "stockLengths" "[I", .fieldLink RX3 25 "CuttingRules$Rack" "stockPrices" "[I", .fieldLink RX3 28 "CuttingRules$Rack" "orderLengths" "[I", .fieldLink RX3 31 "CuttingRules$Rack" "demands" "[I"] ++ wsX30)
def wsX3_addStock : List Cond := .code yX3_addStock cX3_addStock 3 (some .int) :: ([.fieldLink RX3 9 "CuttingRules$Rack" "stocks" "I", .fieldLink RX3 21 "CuttingRules$Rack" "stockLengths" "[I", .fieldLink RX3 25 "CuttingRules$Rack" "stockPrices" "[I"] ++ wsX30)
def wsX3_addOrder : List Cond := .code yX3_addOrder cX3_addOrder 3 (some .int) :: ([.fieldLink RX3 15 "CuttingRules$Rack" "orders" "I", .fieldLink RX3 28 "CuttingRules$Rack" "orderLengths" "[I", .fieldLink RX3 31 "CuttingRules$Rack" "demands" "[I"] ++ wsX30)
def wsX4_init : List Cond := .code yX4_init cX4_init 1 none :: ([.methodLink RX4 3 objectInit, .instanceMethod objectInit, .code objectInit ⟨#[0xb1]⟩ 1 none, .fieldLink RX4 9 "CuttingRules$Sheet" "width" "I", .fieldLink RX4 15 "CuttingRules$Sheet" "height" "I", .fieldLink RX4 18 "CuttingRules$Sheet" "kerf" "I", .fieldLink RX4 21 "CuttingRules$Sheet" "stages" "I", .fieldLink RX4 24 "CuttingRules$Sheet" "first" "I", .fieldLink RX4 27 "CuttingRules$Sheet" "defects" "I", .arrayClass .int, .fieldLink RX4 30 "CuttingRules$Sheet" "spoiled" "[I"] ++ wsX40)
def wsX4_become : List Cond := .code yX4_become cX4_become 6 none :: ([.fieldLink RX4 9 "CuttingRules$Sheet" "width" "I", .fieldLink RX4 15 "CuttingRules$Sheet" "height" "I", .fieldLink RX4 18 "CuttingRules$Sheet" "kerf" "I", .fieldLink RX4 21 "CuttingRules$Sheet" "stages" "I", .fieldLink RX4 24 "CuttingRules$Sheet" "first" "I", .fieldLink RX4 27 "CuttingRules$Sheet" "defects" "I"] ++ wsX40)
def wsX4_holds : List Cond := .code yX4_holds cX4_holds 5 (some .boolean) :: ([.fieldLink RX4 9 "CuttingRules$Sheet" "width" "I", .fieldLink RX4 15 "CuttingRules$Sheet" "height" "I", .static yX6_within, .initialized RX6, .code yX6_within cX6_within 3 (some .boolean)] ++ wsX40)
def wsX4_spoil : List Cond := .code yX4_spoil cX4_spoil 6 (some .boolean) :: ([.fieldLink RX4 27 "CuttingRules$Sheet" "defects" "I", .fieldLink RX4 30 "CuttingRules$Sheet" "spoiled" "[I"] ++ wsX40)
def wsX5_init : List Cond := .code yX5_init cX5_init 3 none :: ([.methodLink RX5 3 objectInit, .instanceMethod objectInit, .code objectInit ⟨#[0xb1]⟩ 1 none, .arrayClass .int, .fieldLink RX5 9 "CuttingRules$Worths" "ofSizes" "[I", .constant RX5 15 (73984), .fieldLink RX5 16 "CuttingRules$Worths" "ofParts" "[I", .fieldLink RX5 19 "CuttingRules$Worths" "stale" "Z", .fieldLink RX5 23 "CuttingRules$Worths" "sheet" "LCuttingRules$Sheet;", .fieldLink RX5 27 "CuttingRules$Worths" "kinds" "LCuttingRules$Kinds;"] ++ wsX50)
def wsX6_init_r1 : List Cond := [Cond.methodLink RX6 3 objectInit, Cond.instanceMethod objectInit, Cond.code objectInit ⟨#[0xb1]⟩ 1 none, Cond.classLink RX6 9 RX4, Cond.instantiable RX4 7, Cond.initialized RX4, Cond.classLink RX6 12 RX1, Cond.instantiable RX1 5, Cond.initialized RX1, Cond.classLink RX6 15 RX5, Cond.instantiable RX5 5, Cond.initialized RX5, Cond.classLink RX6 20 RX3, Cond.instantiable RX3 7, Cond.initialized RX3, Cond.fieldLink RX6 23 "CuttingRules" "sheet" "LCuttingRules$Sheet;", Cond.fieldLink RX6 27 "CuttingRules" "kinds" "LCuttingRules$Kinds;", Cond.fieldLink RX6 31 "CuttingRules" "worths" "LCuttingRules$Worths;", Cond.classLink RX6 35 RX2, Cond.instantiable RX2 9, Cond.initialized RX2, Cond.fieldLink RX6 40 "CuttingRules" "plan" "LCuttingRules$Plan;", Cond.fieldLink RX6 44 "CuttingRules" "rack" "LCuttingRules$Rack;", Cond.classLink RX6 48 RX0]
def wsX6_init_r2 : List Cond := [Cond.instantiable RX0 10, Cond.initialized RX0, Cond.fieldLink RX6 53 "CuttingRules" "list" "LCuttingRules$BarList;", Cond.instanceMethod yX4_init, Cond.code yX4_init cX4_init 1 none, Cond.methodLink RX4 3 objectInit, Cond.fieldLink RX4 9 "CuttingRules$Sheet" "width" "I", Cond.fieldLink RX4 15 "CuttingRules$Sheet" "height" "I", Cond.fieldLink RX4 18 "CuttingRules$Sheet" "kerf" "I", Cond.fieldLink RX4 21 "CuttingRules$Sheet" "stages" "I", Cond.fieldLink RX4 24 "CuttingRules$Sheet" "first" "I", Cond.fieldLink RX4 27 "CuttingRules$Sheet" "defects" "I", Cond.arrayClass .int, Cond.fieldLink RX4 30 "CuttingRules$Sheet" "spoiled" "[I", Cond.instanceMethod yX1_init, Cond.code yX1_init cX1_init 1 none, Cond.methodLink RX1 3 objectInit, Cond.fieldLink RX1 9 "CuttingRules$Kinds" "count" "I", Cond.fieldLink RX1 15 "CuttingRules$Kinds" "widths" "[I", Cond.fieldLink RX1 19 "CuttingRules$Kinds" "heights" "[I", Cond.fieldLink RX1 22 "CuttingRules$Kinds" "values" "[I", Cond.arrayClass .boolean, Cond.fieldLink RX1 25 "CuttingRules$Kinds" "turning" "[Z", Cond.methodLink RX6 17 yX5_init]
def wsX6_init_r3 : List Cond := [Cond.instanceMethod yX5_init, Cond.code yX5_init cX5_init 3 none, Cond.methodLink RX5 3 objectInit, Cond.fieldLink RX5 9 "CuttingRules$Worths" "ofSizes" "[I", Cond.constant RX5 15 (73984), Cond.fieldLink RX5 16 "CuttingRules$Worths" "ofParts" "[I", Cond.fieldLink RX5 19 "CuttingRules$Worths" "stale" "Z", Cond.fieldLink RX5 23 "CuttingRules$Worths" "sheet" "LCuttingRules$Sheet;", Cond.fieldLink RX5 27 "CuttingRules$Worths" "kinds" "LCuttingRules$Kinds;", Cond.instanceMethod yX3_init, Cond.code yX3_init cX3_init 1 none, Cond.methodLink RX3 3 objectInit, Cond.fieldLink RX3 9 "CuttingRules$Rack" "stocks" "I", Cond.fieldLink RX3 15 "CuttingRules$Rack" "orders" "I", Cond.fieldLink RX3 18 "CuttingRules$Rack" "blade" "I", Cond.fieldLink RX3 21 "CuttingRules$Rack" "stockLengths" "[I", Cond.fieldLink RX3 25 "CuttingRules$Rack" "stockPrices" "[I", Cond.fieldLink RX3 28 "CuttingRules$Rack" "orderLengths" "[I", Cond.fieldLink RX3 31 "CuttingRules$Rack" "demands" "[I", Cond.methodLink RX6 37 yX2_init, Cond.instanceMethod yX2_init, Cond.code yX2_init cX2_init 4 none, Cond.methodLink RX2 5 objectInit, Cond.fieldLink RX2 11 "CuttingRules$Plan" "pieceFacts" "[I"]
def wsX6_init_r4 : List Cond := [Cond.fieldLink RX2 15 "CuttingRules$Plan" "cutFacts" "[I", Cond.fieldLink RX2 18 "CuttingRules$Plan" "pieceCount" "I", Cond.fieldLink RX2 22 "CuttingRules$Plan" "cutCount" "I", Cond.fieldLink RX2 25 "CuttingRules$Plan" "unused" "I", Cond.fieldLink RX2 28 "CuttingRules$Plan" "stale" "Z", Cond.fieldLink RX2 32 "CuttingRules$Plan" "sheet" "LCuttingRules$Sheet;", Cond.fieldLink RX2 36 "CuttingRules$Plan" "kinds" "LCuttingRules$Kinds;", Cond.fieldLink RX2 40 "CuttingRules$Plan" "worths" "LCuttingRules$Worths;", Cond.methodLink RX6 50 yX0_init, Cond.instanceMethod yX0_init, Cond.code yX0_init cX0_init 2 none, Cond.methodLink RX0 5 objectInit, Cond.fieldLink RX0 11 "CuttingRules$BarList" "barCosts" "[I", Cond.fieldLink RX0 15 "CuttingRules$BarList" "leastCosts" "[I", Cond.fieldLink RX0 18 "CuttingRules$BarList" "firstPatterns" "[I", Cond.fieldLink RX0 21 "CuttingRules$BarList" "patterns" "[I", Cond.fieldLink RX0 24 "CuttingRules$BarList" "count" "I", Cond.fieldLink RX0 28 "CuttingRules$BarList" "priceTogether" "I", Cond.fieldLink RX0 31 "CuttingRules$BarList" "isShort" "Z", Cond.fieldLink RX0 35 "CuttingRules$BarList" "costsStale" "Z", Cond.fieldLink RX0 38 "CuttingRules$BarList" "barsStale" "Z", Cond.fieldLink RX0 41 "CuttingRules$BarList" "rack" "LCuttingRules$Rack;"]
def wsX6_init : List Cond := .code yX6_init cX6_init 5 none :: ((wsX6_init_r1 ++ (wsX6_init_r2 ++ (wsX6_init_r3 ++ wsX6_init_r4))) ++ wsX40 ++ wsX10 ++ wsX50 ++ wsX30 ++ wsX60 ++ wsX20 ++ wsX00)
def wsX6_plate_r1 : List Cond := [Cond.fieldLink RX6 23 "CuttingRules" "sheet" "LCuttingRules$Sheet;", Cond.fieldLink RX6 40 "CuttingRules" "plan" "LCuttingRules$Plan;", Cond.methodLink RX6 57 yX6_within, Cond.static yX6_within, Cond.initialized RX6, Cond.code yX6_within cX6_within 3 (some .boolean), Cond.methodLink RX6 61 yX4_become, Cond.instanceMethod yX4_become, Cond.selects RX4 yX4_become yX4_become, Cond.initialized RX4, Cond.code yX4_become cX4_become 6 none, Cond.fieldLink RX4 9 "CuttingRules$Sheet" "width" "I", Cond.fieldLink RX4 15 "CuttingRules$Sheet" "height" "I", Cond.fieldLink RX4 18 "CuttingRules$Sheet" "kerf" "I", Cond.fieldLink RX4 21 "CuttingRules$Sheet" "stages" "I", Cond.fieldLink RX4 24 "CuttingRules$Sheet" "first" "I", Cond.fieldLink RX4 27 "CuttingRules$Sheet" "defects" "I", Cond.methodLink RX6 65 yX2_forget, Cond.instanceMethod yX2_forget, Cond.selects RX2 yX2_forget yX2_forget, Cond.initialized RX2, Cond.code yX2_forget cX2_forget 1 none, Cond.fieldLink RX2 28 "CuttingRules$Plan" "stale" "Z", Cond.fieldLink RX2 40 "CuttingRules$Plan" "worths" "LCuttingRules$Worths;"]
def wsX6_plate_r2 : List Cond := [Cond.methodLink RX2 44 yX5_forget, Cond.instanceMethod yX5_forget, Cond.selects RX5 yX5_forget yX5_forget, Cond.initialized RX5, Cond.code yX5_forget cX5_forget 1 none, Cond.fieldLink RX5 19 "CuttingRules$Worths" "stale" "Z"]
def wsX6_plate : List Cond := .code yX6_plate cX6_plate 6 (some .int) :: ((wsX6_plate_r1 ++ wsX6_plate_r2) ++ wsX60 ++ wsX40 ++ wsX20 ++ wsX50)
def wsX6_defect_r1 : List Cond := [Cond.fieldLink RX6 23 "CuttingRules" "sheet" "LCuttingRules$Sheet;", Cond.fieldLink RX6 40 "CuttingRules" "plan" "LCuttingRules$Plan;", Cond.fieldLink RX6 75 "CuttingRules$Sheet" "defects" "I", Cond.methodLink RX6 68 yX4_holds, Cond.instanceMethod yX4_holds, Cond.selects RX4 yX4_holds yX4_holds, Cond.initialized RX4, Cond.code yX4_holds cX4_holds 5 (some .boolean), Cond.fieldLink RX4 9 "CuttingRules$Sheet" "width" "I", Cond.fieldLink RX4 15 "CuttingRules$Sheet" "height" "I", Cond.static yX6_within, Cond.initialized RX6, Cond.code yX6_within cX6_within 3 (some .boolean), Cond.methodLink RX6 72 yX4_spoil, Cond.instanceMethod yX4_spoil, Cond.selects RX4 yX4_spoil yX4_spoil, Cond.code yX4_spoil cX4_spoil 6 (some .boolean), Cond.fieldLink RX4 27 "CuttingRules$Sheet" "defects" "I", Cond.fieldLink RX4 30 "CuttingRules$Sheet" "spoiled" "[I", Cond.methodLink RX6 65 yX2_forget, Cond.instanceMethod yX2_forget, Cond.selects RX2 yX2_forget yX2_forget, Cond.initialized RX2, Cond.code yX2_forget cX2_forget 1 none]
def wsX6_defect_r2 : List Cond := [Cond.fieldLink RX2 28 "CuttingRules$Plan" "stale" "Z", Cond.fieldLink RX2 40 "CuttingRules$Plan" "worths" "LCuttingRules$Worths;", Cond.methodLink RX2 44 yX5_forget, Cond.instanceMethod yX5_forget, Cond.selects RX5 yX5_forget yX5_forget, Cond.initialized RX5, Cond.code yX5_forget cX5_forget 1 none, Cond.fieldLink RX5 19 "CuttingRules$Worths" "stale" "Z"]
def wsX6_defect : List Cond := .code yX6_defect cX6_defect 5 (some .int) :: ((wsX6_defect_r1 ++ wsX6_defect_r2) ++ wsX60 ++ wsX40 ++ wsX20 ++ wsX50)
def wsX6_kind_r1 : List Cond := [Cond.fieldLink RX6 27 "CuttingRules" "kinds" "LCuttingRules$Kinds;", Cond.fieldLink RX6 40 "CuttingRules" "plan" "LCuttingRules$Plan;", Cond.methodLink RX6 57 yX6_within, Cond.static yX6_within, Cond.initialized RX6, Cond.code yX6_within cX6_within 3 (some .boolean), Cond.methodLink RX6 79 yX1_add, Cond.instanceMethod yX1_add, Cond.selects RX1 yX1_add yX1_add, Cond.initialized RX1, Cond.code yX1_add cX1_add 5 (some .int), Cond.fieldLink RX1 9 "CuttingRules$Kinds" "count" "I", Cond.fieldLink RX1 15 "CuttingRules$Kinds" "widths" "[I", Cond.fieldLink RX1 19 "CuttingRules$Kinds" "heights" "[I", Cond.fieldLink RX1 22 "CuttingRules$Kinds" "values" "[I", Cond.fieldLink RX1 25 "CuttingRules$Kinds" "turning" "[Z", Cond.methodLink RX6 65 yX2_forget, Cond.instanceMethod yX2_forget, Cond.selects RX2 yX2_forget yX2_forget, Cond.initialized RX2, Cond.code yX2_forget cX2_forget 1 none, Cond.fieldLink RX2 28 "CuttingRules$Plan" "stale" "Z", Cond.fieldLink RX2 40 "CuttingRules$Plan" "worths" "LCuttingRules$Worths;", Cond.methodLink RX2 44 yX5_forget]
def wsX6_kind_r2 : List Cond := [Cond.instanceMethod yX5_forget, Cond.selects RX5 yX5_forget yX5_forget, Cond.initialized RX5, Cond.code yX5_forget cX5_forget 1 none, Cond.fieldLink RX5 19 "CuttingRules$Worths" "stale" "Z"]
def wsX6_kind : List Cond := .code yX6_kind cX6_kind 6 (some .int) :: ((wsX6_kind_r1 ++ wsX6_kind_r2) ++ wsX60 ++ wsX10 ++ wsX20 ++ wsX50)
def wsX6_value : List Cond := .code yX6_value cX6_value 4 (some .int) :: ([.fieldLink RX6 27 "CuttingRules" "kinds" "LCuttingRules$Kinds;", .fieldLink RX6 83 "CuttingRules$Kinds" "count" "I", .fieldLink RX6 86 "CuttingRules$Kinds" "values" "[I", .fieldLink RX6 40 "CuttingRules" "plan" "LCuttingRules$Plan;", .methodLink RX6 57 yX6_within, .static yX6_within, .initialized RX6, .code yX6_within cX6_within 3 (some .boolean), .methodLink RX6 65 yX2_forget, .instanceMethod yX2_forget, .selects RX2 yX2_forget yX2_forget, .initialized RX2, .code yX2_forget cX2_forget 1 none, .fieldLink RX2 28 "CuttingRules$Plan" "stale" "Z", .fieldLink RX2 40 "CuttingRules$Plan" "worths" "LCuttingRules$Worths;", .methodLink RX2 44 yX5_forget, .instanceMethod yX5_forget, .selects RX5 yX5_forget yX5_forget, .initialized RX5, .code yX5_forget cX5_forget 1 none, .fieldLink RX5 19 "CuttingRules$Worths" "stale" "Z"] ++ wsX60 ++ wsX10 ++ wsX20 ++ wsX50)
def wsX6_worth_r1 : List Cond := [Cond.fieldLink RX6 23 "CuttingRules" "sheet" "LCuttingRules$Sheet;", Cond.fieldLink RX6 90 "CuttingRules$Sheet" "stages" "I", Cond.fieldLink RX6 31 "CuttingRules" "worths" "LCuttingRules$Worths;", Cond.methodLink RX6 68 yX4_holds, Cond.instanceMethod yX4_holds, Cond.selects RX4 yX4_holds yX4_holds, Cond.initialized RX4, Cond.code yX4_holds cX4_holds 5 (some .boolean), Cond.fieldLink RX4 9 "CuttingRules$Sheet" "width" "I", Cond.fieldLink RX4 15 "CuttingRules$Sheet" "height" "I", Cond.static yX6_within, Cond.initialized RX6, Cond.code yX6_within cX6_within 3 (some .boolean), Cond.methodLink RX6 57 yX6_within, Cond.methodLink RX6 93 yX5_makeReady, Cond.instanceMethod yX5_makeReady, Cond.selects RX5 yX5_makeReady yX5_makeReady, Cond.initialized RX5, Cond.code yX5_makeReady cX5_makeReady 1 none, Cond.fieldLink RX5 19 "CuttingRules$Worths" "stale" "Z", Cond.fieldLink RX5 23 "CuttingRules$Worths" "sheet" "LCuttingRules$Sheet;", Cond.fieldLink RX5 34 "CuttingRules$Sheet" "defects" "I", Cond.methodLink RX5 31 yX5_fillSizes, Cond.instanceMethod yX5_fillSizes]
def wsX6_worth_r2 : List Cond := [Cond.selects RX5 yX5_fillSizes yX5_fillSizes, Cond.code yX5_fillSizes cX5_fillSizes 5 none, Cond.fieldLink RX5 69 "CuttingRules$Sheet" "stages" "I", Cond.fieldLink RX5 72 "CuttingRules$Sheet" "width" "I", Cond.fieldLink RX5 75 "CuttingRules$Sheet" "height" "I", Cond.fieldLink RX5 9 "CuttingRules$Worths" "ofSizes" "[I", Cond.methodLink RX5 78 yX5_sizeSlot, Cond.static yX5_sizeSlot, Cond.code yX5_sizeSlot cX5_sizeSlot 3 (some .int), Cond.methodLink RX5 81 yX5_mostOfSize, Cond.instanceMethod yX5_mostOfSize, Cond.selects RX5 yX5_mostOfSize yX5_mostOfSize, Cond.code yX5_mostOfSize cX5_mostOfSize 10 (some .int), Cond.fieldLink RX5 27 "CuttingRules$Worths" "kinds" "LCuttingRules$Kinds;", Cond.methodLink RX5 89 Lib.Math.max.name, Cond.static Lib.Math.max.name, Cond.initialized "java/lang/Math", Cond.code Lib.Math.max.name Lib.Math.max.code 2 (some .int), Cond.fieldLink RX5 58 "CuttingRules$Sheet" "kerf" "I", Cond.methodLink RX5 84 yX1_mostValue, Cond.instanceMethod yX1_mostValue, Cond.selects RX1 yX1_mostValue yX1_mostValue, Cond.initialized RX1, Cond.code yX1_mostValue cX1_mostValue 5 (some .int)]
def wsX6_worth_r3 : List Cond := [Cond.fieldLink RX1 9 "CuttingRules$Kinds" "count" "I", Cond.fieldLink RX1 22 "CuttingRules$Kinds" "values" "[I", Cond.methodLink RX1 36 Lib.Math.max.name, Cond.methodLink RX1 29 yX1_lies, Cond.instanceMethod yX1_lies, Cond.selects RX1 yX1_lies yX1_lies, Cond.code yX1_lies cX1_lies 4 (some .boolean), Cond.fieldLink RX1 15 "CuttingRules$Kinds" "widths" "[I", Cond.fieldLink RX1 19 "CuttingRules$Kinds" "heights" "[I", Cond.methodLink RX1 33 yX1_liesTurned, Cond.instanceMethod yX1_liesTurned, Cond.selects RX1 yX1_liesTurned yX1_liesTurned, Cond.code yX1_liesTurned cX1_liesTurned 4 (some .boolean), Cond.fieldLink RX1 25 "CuttingRules$Kinds" "turning" "[Z", Cond.methodLink RX5 43 yX5_ofSize, Cond.instanceMethod yX5_ofSize, Cond.selects RX5 yX5_ofSize yX5_ofSize, Cond.code yX5_ofSize cX5_ofSize 5 (some .int), Cond.methodLink RX5 94 yX4_lastCut, Cond.instanceMethod yX4_lastCut, Cond.selects RX4 yX4_lastCut yX4_lastCut, Cond.code yX4_lastCut cX4_lastCut 4 (some .int), Cond.fieldLink RX4 18 "CuttingRules$Sheet" "kerf" "I", Cond.methodLink RX4 38 yX4_partsWidth]
def wsX6_worth_r4 : List Cond := [Cond.instanceMethod yX4_partsWidth, Cond.selects RX4 yX4_partsWidth yX4_partsWidth, Cond.code yX4_partsWidth cX4_partsWidth 2 (some .boolean), Cond.fieldLink RX4 24 "CuttingRules$Sheet" "first" "I", Cond.methodLink RX5 61 yX4_partsWidth, Cond.methodLink RX5 40 yX5_fillParts, Cond.instanceMethod yX5_fillParts, Cond.selects RX5 yX5_fillParts yX5_fillParts, Cond.code yX5_fillParts cX5_fillParts 5 none, Cond.methodLink RX5 97 yX5_fillPart, Cond.instanceMethod yX5_fillPart, Cond.selects RX5 yX5_fillPart yX5_fillPart, Cond.code yX5_fillPart cX5_fillPart 12 none, Cond.fieldLink RX5 16 "CuttingRules$Worths" "ofParts" "[I", Cond.methodLink RX5 101 yX4_isClean, Cond.instanceMethod yX4_isClean, Cond.selects RX4 yX4_isClean yX4_isClean, Cond.code yX4_isClean cX4_isClean 7 (some .boolean), Cond.fieldLink RX4 27 "CuttingRules$Sheet" "defects" "I", Cond.fieldLink RX4 30 "CuttingRules$Sheet" "spoiled" "[I", Cond.methodLink RX5 47 yX5_span, Cond.static yX5_span, Cond.code yX5_span cX5_span 2 (some .int), Cond.methodLink RX5 51 yX5_partSlot]
def wsX6_worth_r5 : List Cond := [Cond.static yX5_partSlot, Cond.code yX5_partSlot cX5_partSlot 3 (some .int), Cond.methodLink RX5 105 yX5_mostOfCuts, Cond.instanceMethod yX5_mostOfCuts, Cond.selects RX5 yX5_mostOfCuts yX5_mostOfCuts, Cond.code yX5_mostOfCuts cX5_mostOfCuts 11 (some .int), Cond.methodLink RX6 96 yX5_of, Cond.instanceMethod yX5_of, Cond.selects RX5 yX5_of yX5_of, Cond.code yX5_of cX5_of 7 (some .int)]
def wsX6_worth : List Cond := .code yX6_worth cX6_worth 6 (some .int) :: ((wsX6_worth_r1 ++ (wsX6_worth_r2 ++ (wsX6_worth_r3 ++ (wsX6_worth_r4 ++ wsX6_worth_r5)))) ++ wsX60 ++ wsX40 ++ wsX50 ++ wsX10)
def wsX6_pieces_r1 : List Cond := [Cond.fieldLink RX6 40 "CuttingRules" "plan" "LCuttingRules$Plan;", Cond.fieldLink RX6 101 "CuttingRules$Plan" "pieceCount" "I", Cond.methodLink RX6 100 yX2_makeReady, Cond.instanceMethod yX2_makeReady, Cond.selects RX2 yX2_makeReady yX2_makeReady, Cond.initialized RX2, Cond.code yX2_makeReady cX2_makeReady 1 none, Cond.fieldLink RX2 28 "CuttingRules$Plan" "stale" "Z", Cond.fieldLink RX2 40 "CuttingRules$Plan" "worths" "LCuttingRules$Worths;", Cond.fieldLink RX2 18 "CuttingRules$Plan" "pieceCount" "I", Cond.fieldLink RX2 22 "CuttingRules$Plan" "cutCount" "I", Cond.fieldLink RX2 32 "CuttingRules$Plan" "sheet" "LCuttingRules$Sheet;", Cond.fieldLink RX2 52 "CuttingRules$Sheet" "width" "I", Cond.fieldLink RX2 57 "CuttingRules$Sheet" "height" "I", Cond.fieldLink RX2 25 "CuttingRules$Plan" "unused" "I", Cond.methodLink RX2 49 yX5_makeReady, Cond.instanceMethod yX5_makeReady, Cond.selects RX5 yX5_makeReady yX5_makeReady, Cond.initialized RX5, Cond.code yX5_makeReady cX5_makeReady 1 none, Cond.fieldLink RX5 19 "CuttingRules$Worths" "stale" "Z", Cond.fieldLink RX5 23 "CuttingRules$Worths" "sheet" "LCuttingRules$Sheet;", Cond.fieldLink RX5 34 "CuttingRules$Sheet" "defects" "I", Cond.methodLink RX5 31 yX5_fillSizes]
def wsX6_pieces_r2 : List Cond := [Cond.instanceMethod yX5_fillSizes, Cond.selects RX5 yX5_fillSizes yX5_fillSizes, Cond.code yX5_fillSizes cX5_fillSizes 5 none, Cond.fieldLink RX5 69 "CuttingRules$Sheet" "stages" "I", Cond.fieldLink RX5 72 "CuttingRules$Sheet" "width" "I", Cond.fieldLink RX5 75 "CuttingRules$Sheet" "height" "I", Cond.fieldLink RX5 9 "CuttingRules$Worths" "ofSizes" "[I", Cond.methodLink RX5 78 yX5_sizeSlot, Cond.static yX5_sizeSlot, Cond.code yX5_sizeSlot cX5_sizeSlot 3 (some .int), Cond.static yX6_within, Cond.initialized RX6, Cond.code yX6_within cX6_within 3 (some .boolean), Cond.methodLink RX5 81 yX5_mostOfSize, Cond.instanceMethod yX5_mostOfSize, Cond.selects RX5 yX5_mostOfSize yX5_mostOfSize, Cond.code yX5_mostOfSize cX5_mostOfSize 10 (some .int), Cond.fieldLink RX5 27 "CuttingRules$Worths" "kinds" "LCuttingRules$Kinds;", Cond.methodLink RX5 89 Lib.Math.max.name, Cond.static Lib.Math.max.name, Cond.initialized "java/lang/Math", Cond.code Lib.Math.max.name Lib.Math.max.code 2 (some .int), Cond.fieldLink RX5 58 "CuttingRules$Sheet" "kerf" "I", Cond.methodLink RX5 84 yX1_mostValue]
def wsX6_pieces_r3 : List Cond := [Cond.instanceMethod yX1_mostValue, Cond.selects RX1 yX1_mostValue yX1_mostValue, Cond.initialized RX1, Cond.code yX1_mostValue cX1_mostValue 5 (some .int), Cond.fieldLink RX1 9 "CuttingRules$Kinds" "count" "I", Cond.fieldLink RX1 22 "CuttingRules$Kinds" "values" "[I", Cond.methodLink RX1 36 Lib.Math.max.name, Cond.methodLink RX1 29 yX1_lies, Cond.instanceMethod yX1_lies, Cond.selects RX1 yX1_lies yX1_lies, Cond.code yX1_lies cX1_lies 4 (some .boolean), Cond.fieldLink RX1 15 "CuttingRules$Kinds" "widths" "[I", Cond.fieldLink RX1 19 "CuttingRules$Kinds" "heights" "[I", Cond.methodLink RX1 33 yX1_liesTurned, Cond.instanceMethod yX1_liesTurned, Cond.selects RX1 yX1_liesTurned yX1_liesTurned, Cond.code yX1_liesTurned cX1_liesTurned 4 (some .boolean), Cond.fieldLink RX1 25 "CuttingRules$Kinds" "turning" "[Z", Cond.methodLink RX5 43 yX5_ofSize, Cond.instanceMethod yX5_ofSize, Cond.selects RX5 yX5_ofSize yX5_ofSize, Cond.code yX5_ofSize cX5_ofSize 5 (some .int), Cond.methodLink RX5 94 yX4_lastCut, Cond.instanceMethod yX4_lastCut]
def wsX6_pieces_r4 : List Cond := [Cond.selects RX4 yX4_lastCut yX4_lastCut, Cond.initialized RX4, Cond.code yX4_lastCut cX4_lastCut 4 (some .int), Cond.fieldLink RX4 18 "CuttingRules$Sheet" "kerf" "I", Cond.methodLink RX4 38 yX4_partsWidth, Cond.instanceMethod yX4_partsWidth, Cond.selects RX4 yX4_partsWidth yX4_partsWidth, Cond.code yX4_partsWidth cX4_partsWidth 2 (some .boolean), Cond.fieldLink RX4 24 "CuttingRules$Sheet" "first" "I", Cond.methodLink RX5 61 yX4_partsWidth, Cond.methodLink RX5 40 yX5_fillParts, Cond.instanceMethod yX5_fillParts, Cond.selects RX5 yX5_fillParts yX5_fillParts, Cond.code yX5_fillParts cX5_fillParts 5 none, Cond.methodLink RX5 97 yX5_fillPart, Cond.instanceMethod yX5_fillPart, Cond.selects RX5 yX5_fillPart yX5_fillPart, Cond.code yX5_fillPart cX5_fillPart 12 none, Cond.fieldLink RX5 16 "CuttingRules$Worths" "ofParts" "[I", Cond.methodLink RX5 101 yX4_isClean, Cond.instanceMethod yX4_isClean, Cond.selects RX4 yX4_isClean yX4_isClean, Cond.code yX4_isClean cX4_isClean 7 (some .boolean), Cond.fieldLink RX4 27 "CuttingRules$Sheet" "defects" "I"]
def wsX6_pieces_r5 : List Cond := [Cond.fieldLink RX4 30 "CuttingRules$Sheet" "spoiled" "[I", Cond.methodLink RX5 47 yX5_span, Cond.static yX5_span, Cond.code yX5_span cX5_span 2 (some .int), Cond.methodLink RX5 51 yX5_partSlot, Cond.static yX5_partSlot, Cond.code yX5_partSlot cX5_partSlot 3 (some .int), Cond.methodLink RX5 105 yX5_mostOfCuts, Cond.instanceMethod yX5_mostOfCuts, Cond.selects RX5 yX5_mostOfCuts yX5_mostOfCuts, Cond.code yX5_mostOfCuts cX5_mostOfCuts 11 (some .int), Cond.methodLink RX2 60 yX2_lay, Cond.instanceMethod yX2_lay, Cond.selects RX2 yX2_lay yX2_lay, Cond.code yX2_lay cX2_lay 9 none, Cond.fieldLink RX2 36 "CuttingRules$Plan" "kinds" "LCuttingRules$Kinds;", Cond.fieldLink RX2 92 "CuttingRules$Sheet" "stages" "I", Cond.methodLink RX2 64 yX5_of, Cond.instanceMethod yX5_of, Cond.selects RX5 yX5_of yX5_of, Cond.code yX5_of cX5_of 7 (some .int), Cond.methodLink RX2 68 yX4_isClean, Cond.methodLink RX2 72 yX1_firstOfValue, Cond.instanceMethod yX1_firstOfValue]
def wsX6_pieces_r6 : List Cond := [Cond.selects RX1 yX1_firstOfValue yX1_firstOfValue, Cond.code yX1_firstOfValue cX1_firstOfValue 5 (some .int), Cond.methodLink RX2 78 yX2_addPiece, Cond.instanceMethod yX2_addPiece, Cond.selects RX2 yX2_addPiece yX2_addPiece, Cond.code yX2_addPiece cX2_addPiece 7 none, Cond.fieldLink RX2 11 "CuttingRules$Plan" "pieceFacts" "[I", Cond.methodLink RX2 108 yX1_lies, Cond.methodLink RX2 81 yX2_firstCut, Cond.instanceMethod yX2_firstCut, Cond.selects RX2 yX2_firstCut yX2_firstCut, Cond.code yX2_firstCut cX2_firstCut 9 (some .int), Cond.methodLink RX2 102 yX4_lastCut, Cond.methodLink RX2 105 yX5_ofCut, Cond.instanceMethod yX5_ofCut, Cond.selects RX5 yX5_ofCut yX5_ofCut, Cond.code yX5_ofCut cX5_ofCut 8 (some .int), Cond.methodLink RX5 65 yX5_of, Cond.methodLink RX2 85 yX2_addCut, Cond.instanceMethod yX2_addCut, Cond.selects RX2 yX2_addCut yX2_addCut, Cond.code yX2_addCut cX2_addCut 9 none, Cond.fieldLink RX2 15 "CuttingRules$Plan" "cutFacts" "[I", Cond.methodLink RX2 98 yX4_partsWidth]
def wsX6_pieces_r7 : List Cond := [Cond.methodLink RX2 89 yX2_layBoth, Cond.instanceMethod yX2_layBoth, Cond.selects RX2 yX2_layBoth yX2_layBoth, Cond.code yX2_layBoth cX2_layBoth 8 none, Cond.fieldLink RX2 95 "CuttingRules$Sheet" "kerf" "I"]
def wsX6_pieces : List Cond := .code yX6_pieces cX6_pieces 1 (some .int) :: ((wsX6_pieces_r1 ++ (wsX6_pieces_r2 ++ (wsX6_pieces_r3 ++ (wsX6_pieces_r4 ++ (wsX6_pieces_r5 ++ (wsX6_pieces_r6 ++ wsX6_pieces_r7)))))) ++ wsX60 ++ wsX20 ++ wsX40 ++ wsX50 ++ wsX10)
def wsX6_piece_r1 : List Cond := [Cond.fieldLink RX6 40 "CuttingRules" "plan" "LCuttingRules$Plan;", Cond.fieldLink RX6 101 "CuttingRules$Plan" "pieceCount" "I", Cond.fieldLink RX6 104 "CuttingRules$Plan" "pieceFacts" "[I", Cond.methodLink RX6 57 yX6_within, Cond.static yX6_within, Cond.initialized RX6, Cond.code yX6_within cX6_within 3 (some .boolean), Cond.methodLink RX6 100 yX2_makeReady, Cond.instanceMethod yX2_makeReady, Cond.selects RX2 yX2_makeReady yX2_makeReady, Cond.initialized RX2, Cond.code yX2_makeReady cX2_makeReady 1 none, Cond.fieldLink RX2 28 "CuttingRules$Plan" "stale" "Z", Cond.fieldLink RX2 40 "CuttingRules$Plan" "worths" "LCuttingRules$Worths;", Cond.fieldLink RX2 18 "CuttingRules$Plan" "pieceCount" "I", Cond.fieldLink RX2 22 "CuttingRules$Plan" "cutCount" "I", Cond.fieldLink RX2 32 "CuttingRules$Plan" "sheet" "LCuttingRules$Sheet;", Cond.fieldLink RX2 52 "CuttingRules$Sheet" "width" "I", Cond.fieldLink RX2 57 "CuttingRules$Sheet" "height" "I", Cond.fieldLink RX2 25 "CuttingRules$Plan" "unused" "I", Cond.methodLink RX2 49 yX5_makeReady, Cond.instanceMethod yX5_makeReady, Cond.selects RX5 yX5_makeReady yX5_makeReady, Cond.initialized RX5]
def wsX6_piece_r2 : List Cond := [Cond.code yX5_makeReady cX5_makeReady 1 none, Cond.fieldLink RX5 19 "CuttingRules$Worths" "stale" "Z", Cond.fieldLink RX5 23 "CuttingRules$Worths" "sheet" "LCuttingRules$Sheet;", Cond.fieldLink RX5 34 "CuttingRules$Sheet" "defects" "I", Cond.methodLink RX5 31 yX5_fillSizes, Cond.instanceMethod yX5_fillSizes, Cond.selects RX5 yX5_fillSizes yX5_fillSizes, Cond.code yX5_fillSizes cX5_fillSizes 5 none, Cond.fieldLink RX5 69 "CuttingRules$Sheet" "stages" "I", Cond.fieldLink RX5 72 "CuttingRules$Sheet" "width" "I", Cond.fieldLink RX5 75 "CuttingRules$Sheet" "height" "I", Cond.fieldLink RX5 9 "CuttingRules$Worths" "ofSizes" "[I", Cond.methodLink RX5 78 yX5_sizeSlot, Cond.static yX5_sizeSlot, Cond.code yX5_sizeSlot cX5_sizeSlot 3 (some .int), Cond.methodLink RX5 81 yX5_mostOfSize, Cond.instanceMethod yX5_mostOfSize, Cond.selects RX5 yX5_mostOfSize yX5_mostOfSize, Cond.code yX5_mostOfSize cX5_mostOfSize 10 (some .int), Cond.fieldLink RX5 27 "CuttingRules$Worths" "kinds" "LCuttingRules$Kinds;", Cond.methodLink RX5 89 Lib.Math.max.name, Cond.static Lib.Math.max.name, Cond.initialized "java/lang/Math", Cond.code Lib.Math.max.name Lib.Math.max.code 2 (some .int)]
def wsX6_piece_r3 : List Cond := [Cond.fieldLink RX5 58 "CuttingRules$Sheet" "kerf" "I", Cond.methodLink RX5 84 yX1_mostValue, Cond.instanceMethod yX1_mostValue, Cond.selects RX1 yX1_mostValue yX1_mostValue, Cond.initialized RX1, Cond.code yX1_mostValue cX1_mostValue 5 (some .int), Cond.fieldLink RX1 9 "CuttingRules$Kinds" "count" "I", Cond.fieldLink RX1 22 "CuttingRules$Kinds" "values" "[I", Cond.methodLink RX1 36 Lib.Math.max.name, Cond.methodLink RX1 29 yX1_lies, Cond.instanceMethod yX1_lies, Cond.selects RX1 yX1_lies yX1_lies, Cond.code yX1_lies cX1_lies 4 (some .boolean), Cond.fieldLink RX1 15 "CuttingRules$Kinds" "widths" "[I", Cond.fieldLink RX1 19 "CuttingRules$Kinds" "heights" "[I", Cond.methodLink RX1 33 yX1_liesTurned, Cond.instanceMethod yX1_liesTurned, Cond.selects RX1 yX1_liesTurned yX1_liesTurned, Cond.code yX1_liesTurned cX1_liesTurned 4 (some .boolean), Cond.fieldLink RX1 25 "CuttingRules$Kinds" "turning" "[Z", Cond.methodLink RX5 43 yX5_ofSize, Cond.instanceMethod yX5_ofSize, Cond.selects RX5 yX5_ofSize yX5_ofSize, Cond.code yX5_ofSize cX5_ofSize 5 (some .int)]
def wsX6_piece_r4 : List Cond := [Cond.methodLink RX5 94 yX4_lastCut, Cond.instanceMethod yX4_lastCut, Cond.selects RX4 yX4_lastCut yX4_lastCut, Cond.initialized RX4, Cond.code yX4_lastCut cX4_lastCut 4 (some .int), Cond.fieldLink RX4 18 "CuttingRules$Sheet" "kerf" "I", Cond.methodLink RX4 38 yX4_partsWidth, Cond.instanceMethod yX4_partsWidth, Cond.selects RX4 yX4_partsWidth yX4_partsWidth, Cond.code yX4_partsWidth cX4_partsWidth 2 (some .boolean), Cond.fieldLink RX4 24 "CuttingRules$Sheet" "first" "I", Cond.methodLink RX5 61 yX4_partsWidth, Cond.methodLink RX5 40 yX5_fillParts, Cond.instanceMethod yX5_fillParts, Cond.selects RX5 yX5_fillParts yX5_fillParts, Cond.code yX5_fillParts cX5_fillParts 5 none, Cond.methodLink RX5 97 yX5_fillPart, Cond.instanceMethod yX5_fillPart, Cond.selects RX5 yX5_fillPart yX5_fillPart, Cond.code yX5_fillPart cX5_fillPart 12 none, Cond.fieldLink RX5 16 "CuttingRules$Worths" "ofParts" "[I", Cond.methodLink RX5 101 yX4_isClean, Cond.instanceMethod yX4_isClean, Cond.selects RX4 yX4_isClean yX4_isClean]
def wsX6_piece_r5 : List Cond := [Cond.code yX4_isClean cX4_isClean 7 (some .boolean), Cond.fieldLink RX4 27 "CuttingRules$Sheet" "defects" "I", Cond.fieldLink RX4 30 "CuttingRules$Sheet" "spoiled" "[I", Cond.methodLink RX5 47 yX5_span, Cond.static yX5_span, Cond.code yX5_span cX5_span 2 (some .int), Cond.methodLink RX5 51 yX5_partSlot, Cond.static yX5_partSlot, Cond.code yX5_partSlot cX5_partSlot 3 (some .int), Cond.methodLink RX5 105 yX5_mostOfCuts, Cond.instanceMethod yX5_mostOfCuts, Cond.selects RX5 yX5_mostOfCuts yX5_mostOfCuts, Cond.code yX5_mostOfCuts cX5_mostOfCuts 11 (some .int), Cond.methodLink RX2 60 yX2_lay, Cond.instanceMethod yX2_lay, Cond.selects RX2 yX2_lay yX2_lay, Cond.code yX2_lay cX2_lay 9 none, Cond.fieldLink RX2 36 "CuttingRules$Plan" "kinds" "LCuttingRules$Kinds;", Cond.fieldLink RX2 92 "CuttingRules$Sheet" "stages" "I", Cond.methodLink RX2 64 yX5_of, Cond.instanceMethod yX5_of, Cond.selects RX5 yX5_of yX5_of, Cond.code yX5_of cX5_of 7 (some .int), Cond.methodLink RX2 68 yX4_isClean]
def wsX6_piece_r6 : List Cond := [Cond.methodLink RX2 72 yX1_firstOfValue, Cond.instanceMethod yX1_firstOfValue, Cond.selects RX1 yX1_firstOfValue yX1_firstOfValue, Cond.code yX1_firstOfValue cX1_firstOfValue 5 (some .int), Cond.methodLink RX2 78 yX2_addPiece, Cond.instanceMethod yX2_addPiece, Cond.selects RX2 yX2_addPiece yX2_addPiece, Cond.code yX2_addPiece cX2_addPiece 7 none, Cond.fieldLink RX2 11 "CuttingRules$Plan" "pieceFacts" "[I", Cond.methodLink RX2 108 yX1_lies, Cond.methodLink RX2 81 yX2_firstCut, Cond.instanceMethod yX2_firstCut, Cond.selects RX2 yX2_firstCut yX2_firstCut, Cond.code yX2_firstCut cX2_firstCut 9 (some .int), Cond.methodLink RX2 102 yX4_lastCut, Cond.methodLink RX2 105 yX5_ofCut, Cond.instanceMethod yX5_ofCut, Cond.selects RX5 yX5_ofCut yX5_ofCut, Cond.code yX5_ofCut cX5_ofCut 8 (some .int), Cond.methodLink RX5 65 yX5_of, Cond.methodLink RX2 85 yX2_addCut, Cond.instanceMethod yX2_addCut, Cond.selects RX2 yX2_addCut yX2_addCut, Cond.code yX2_addCut cX2_addCut 9 none]
def wsX6_piece_r7 : List Cond := [Cond.fieldLink RX2 15 "CuttingRules$Plan" "cutFacts" "[I", Cond.methodLink RX2 98 yX4_partsWidth, Cond.methodLink RX2 89 yX2_layBoth, Cond.instanceMethod yX2_layBoth, Cond.selects RX2 yX2_layBoth yX2_layBoth, Cond.code yX2_layBoth cX2_layBoth 8 none, Cond.fieldLink RX2 95 "CuttingRules$Sheet" "kerf" "I"]
def wsX6_piece : List Cond := .code yX6_piece cX6_piece 3 (some .int) :: ((wsX6_piece_r1 ++ (wsX6_piece_r2 ++ (wsX6_piece_r3 ++ (wsX6_piece_r4 ++ (wsX6_piece_r5 ++ (wsX6_piece_r6 ++ wsX6_piece_r7)))))) ++ wsX60 ++ wsX20 ++ wsX40 ++ wsX50 ++ wsX10)
def wsX6_cuts_r1 : List Cond := [Cond.fieldLink RX6 40 "CuttingRules" "plan" "LCuttingRules$Plan;", Cond.fieldLink RX6 107 "CuttingRules$Plan" "cutCount" "I", Cond.methodLink RX6 100 yX2_makeReady, Cond.instanceMethod yX2_makeReady, Cond.selects RX2 yX2_makeReady yX2_makeReady, Cond.initialized RX2, Cond.code yX2_makeReady cX2_makeReady 1 none, Cond.fieldLink RX2 28 "CuttingRules$Plan" "stale" "Z", Cond.fieldLink RX2 40 "CuttingRules$Plan" "worths" "LCuttingRules$Worths;", Cond.fieldLink RX2 18 "CuttingRules$Plan" "pieceCount" "I", Cond.fieldLink RX2 22 "CuttingRules$Plan" "cutCount" "I", Cond.fieldLink RX2 32 "CuttingRules$Plan" "sheet" "LCuttingRules$Sheet;", Cond.fieldLink RX2 52 "CuttingRules$Sheet" "width" "I", Cond.fieldLink RX2 57 "CuttingRules$Sheet" "height" "I", Cond.fieldLink RX2 25 "CuttingRules$Plan" "unused" "I", Cond.methodLink RX2 49 yX5_makeReady, Cond.instanceMethod yX5_makeReady, Cond.selects RX5 yX5_makeReady yX5_makeReady, Cond.initialized RX5, Cond.code yX5_makeReady cX5_makeReady 1 none, Cond.fieldLink RX5 19 "CuttingRules$Worths" "stale" "Z", Cond.fieldLink RX5 23 "CuttingRules$Worths" "sheet" "LCuttingRules$Sheet;", Cond.fieldLink RX5 34 "CuttingRules$Sheet" "defects" "I", Cond.methodLink RX5 31 yX5_fillSizes]
def wsX6_cuts_r2 : List Cond := [Cond.instanceMethod yX5_fillSizes, Cond.selects RX5 yX5_fillSizes yX5_fillSizes, Cond.code yX5_fillSizes cX5_fillSizes 5 none, Cond.fieldLink RX5 69 "CuttingRules$Sheet" "stages" "I", Cond.fieldLink RX5 72 "CuttingRules$Sheet" "width" "I", Cond.fieldLink RX5 75 "CuttingRules$Sheet" "height" "I", Cond.fieldLink RX5 9 "CuttingRules$Worths" "ofSizes" "[I", Cond.methodLink RX5 78 yX5_sizeSlot, Cond.static yX5_sizeSlot, Cond.code yX5_sizeSlot cX5_sizeSlot 3 (some .int), Cond.static yX6_within, Cond.initialized RX6, Cond.code yX6_within cX6_within 3 (some .boolean), Cond.methodLink RX5 81 yX5_mostOfSize, Cond.instanceMethod yX5_mostOfSize, Cond.selects RX5 yX5_mostOfSize yX5_mostOfSize, Cond.code yX5_mostOfSize cX5_mostOfSize 10 (some .int), Cond.fieldLink RX5 27 "CuttingRules$Worths" "kinds" "LCuttingRules$Kinds;", Cond.methodLink RX5 89 Lib.Math.max.name, Cond.static Lib.Math.max.name, Cond.initialized "java/lang/Math", Cond.code Lib.Math.max.name Lib.Math.max.code 2 (some .int), Cond.fieldLink RX5 58 "CuttingRules$Sheet" "kerf" "I", Cond.methodLink RX5 84 yX1_mostValue]
def wsX6_cuts_r3 : List Cond := [Cond.instanceMethod yX1_mostValue, Cond.selects RX1 yX1_mostValue yX1_mostValue, Cond.initialized RX1, Cond.code yX1_mostValue cX1_mostValue 5 (some .int), Cond.fieldLink RX1 9 "CuttingRules$Kinds" "count" "I", Cond.fieldLink RX1 22 "CuttingRules$Kinds" "values" "[I", Cond.methodLink RX1 36 Lib.Math.max.name, Cond.methodLink RX1 29 yX1_lies, Cond.instanceMethod yX1_lies, Cond.selects RX1 yX1_lies yX1_lies, Cond.code yX1_lies cX1_lies 4 (some .boolean), Cond.fieldLink RX1 15 "CuttingRules$Kinds" "widths" "[I", Cond.fieldLink RX1 19 "CuttingRules$Kinds" "heights" "[I", Cond.methodLink RX1 33 yX1_liesTurned, Cond.instanceMethod yX1_liesTurned, Cond.selects RX1 yX1_liesTurned yX1_liesTurned, Cond.code yX1_liesTurned cX1_liesTurned 4 (some .boolean), Cond.fieldLink RX1 25 "CuttingRules$Kinds" "turning" "[Z", Cond.methodLink RX5 43 yX5_ofSize, Cond.instanceMethod yX5_ofSize, Cond.selects RX5 yX5_ofSize yX5_ofSize, Cond.code yX5_ofSize cX5_ofSize 5 (some .int), Cond.methodLink RX5 94 yX4_lastCut, Cond.instanceMethod yX4_lastCut]
def wsX6_cuts_r4 : List Cond := [Cond.selects RX4 yX4_lastCut yX4_lastCut, Cond.initialized RX4, Cond.code yX4_lastCut cX4_lastCut 4 (some .int), Cond.fieldLink RX4 18 "CuttingRules$Sheet" "kerf" "I", Cond.methodLink RX4 38 yX4_partsWidth, Cond.instanceMethod yX4_partsWidth, Cond.selects RX4 yX4_partsWidth yX4_partsWidth, Cond.code yX4_partsWidth cX4_partsWidth 2 (some .boolean), Cond.fieldLink RX4 24 "CuttingRules$Sheet" "first" "I", Cond.methodLink RX5 61 yX4_partsWidth, Cond.methodLink RX5 40 yX5_fillParts, Cond.instanceMethod yX5_fillParts, Cond.selects RX5 yX5_fillParts yX5_fillParts, Cond.code yX5_fillParts cX5_fillParts 5 none, Cond.methodLink RX5 97 yX5_fillPart, Cond.instanceMethod yX5_fillPart, Cond.selects RX5 yX5_fillPart yX5_fillPart, Cond.code yX5_fillPart cX5_fillPart 12 none, Cond.fieldLink RX5 16 "CuttingRules$Worths" "ofParts" "[I", Cond.methodLink RX5 101 yX4_isClean, Cond.instanceMethod yX4_isClean, Cond.selects RX4 yX4_isClean yX4_isClean, Cond.code yX4_isClean cX4_isClean 7 (some .boolean), Cond.fieldLink RX4 27 "CuttingRules$Sheet" "defects" "I"]
def wsX6_cuts_r5 : List Cond := [Cond.fieldLink RX4 30 "CuttingRules$Sheet" "spoiled" "[I", Cond.methodLink RX5 47 yX5_span, Cond.static yX5_span, Cond.code yX5_span cX5_span 2 (some .int), Cond.methodLink RX5 51 yX5_partSlot, Cond.static yX5_partSlot, Cond.code yX5_partSlot cX5_partSlot 3 (some .int), Cond.methodLink RX5 105 yX5_mostOfCuts, Cond.instanceMethod yX5_mostOfCuts, Cond.selects RX5 yX5_mostOfCuts yX5_mostOfCuts, Cond.code yX5_mostOfCuts cX5_mostOfCuts 11 (some .int), Cond.methodLink RX2 60 yX2_lay, Cond.instanceMethod yX2_lay, Cond.selects RX2 yX2_lay yX2_lay, Cond.code yX2_lay cX2_lay 9 none, Cond.fieldLink RX2 36 "CuttingRules$Plan" "kinds" "LCuttingRules$Kinds;", Cond.fieldLink RX2 92 "CuttingRules$Sheet" "stages" "I", Cond.methodLink RX2 64 yX5_of, Cond.instanceMethod yX5_of, Cond.selects RX5 yX5_of yX5_of, Cond.code yX5_of cX5_of 7 (some .int), Cond.methodLink RX2 68 yX4_isClean, Cond.methodLink RX2 72 yX1_firstOfValue, Cond.instanceMethod yX1_firstOfValue]
def wsX6_cuts_r6 : List Cond := [Cond.selects RX1 yX1_firstOfValue yX1_firstOfValue, Cond.code yX1_firstOfValue cX1_firstOfValue 5 (some .int), Cond.methodLink RX2 78 yX2_addPiece, Cond.instanceMethod yX2_addPiece, Cond.selects RX2 yX2_addPiece yX2_addPiece, Cond.code yX2_addPiece cX2_addPiece 7 none, Cond.fieldLink RX2 11 "CuttingRules$Plan" "pieceFacts" "[I", Cond.methodLink RX2 108 yX1_lies, Cond.methodLink RX2 81 yX2_firstCut, Cond.instanceMethod yX2_firstCut, Cond.selects RX2 yX2_firstCut yX2_firstCut, Cond.code yX2_firstCut cX2_firstCut 9 (some .int), Cond.methodLink RX2 102 yX4_lastCut, Cond.methodLink RX2 105 yX5_ofCut, Cond.instanceMethod yX5_ofCut, Cond.selects RX5 yX5_ofCut yX5_ofCut, Cond.code yX5_ofCut cX5_ofCut 8 (some .int), Cond.methodLink RX5 65 yX5_of, Cond.methodLink RX2 85 yX2_addCut, Cond.instanceMethod yX2_addCut, Cond.selects RX2 yX2_addCut yX2_addCut, Cond.code yX2_addCut cX2_addCut 9 none, Cond.fieldLink RX2 15 "CuttingRules$Plan" "cutFacts" "[I", Cond.methodLink RX2 98 yX4_partsWidth]
def wsX6_cuts_r7 : List Cond := [Cond.methodLink RX2 89 yX2_layBoth, Cond.instanceMethod yX2_layBoth, Cond.selects RX2 yX2_layBoth yX2_layBoth, Cond.code yX2_layBoth cX2_layBoth 8 none, Cond.fieldLink RX2 95 "CuttingRules$Sheet" "kerf" "I"]
def wsX6_cuts : List Cond := .code yX6_cuts cX6_cuts 1 (some .int) :: ((wsX6_cuts_r1 ++ (wsX6_cuts_r2 ++ (wsX6_cuts_r3 ++ (wsX6_cuts_r4 ++ (wsX6_cuts_r5 ++ (wsX6_cuts_r6 ++ wsX6_cuts_r7)))))) ++ wsX60 ++ wsX20 ++ wsX40 ++ wsX50 ++ wsX10)
def wsX6_cut_r1 : List Cond := [Cond.fieldLink RX6 40 "CuttingRules" "plan" "LCuttingRules$Plan;", Cond.fieldLink RX6 107 "CuttingRules$Plan" "cutCount" "I", Cond.fieldLink RX6 110 "CuttingRules$Plan" "cutFacts" "[I", Cond.methodLink RX6 57 yX6_within, Cond.static yX6_within, Cond.initialized RX6, Cond.code yX6_within cX6_within 3 (some .boolean), Cond.methodLink RX6 100 yX2_makeReady, Cond.instanceMethod yX2_makeReady, Cond.selects RX2 yX2_makeReady yX2_makeReady, Cond.initialized RX2, Cond.code yX2_makeReady cX2_makeReady 1 none, Cond.fieldLink RX2 28 "CuttingRules$Plan" "stale" "Z", Cond.fieldLink RX2 40 "CuttingRules$Plan" "worths" "LCuttingRules$Worths;", Cond.fieldLink RX2 18 "CuttingRules$Plan" "pieceCount" "I", Cond.fieldLink RX2 22 "CuttingRules$Plan" "cutCount" "I", Cond.fieldLink RX2 32 "CuttingRules$Plan" "sheet" "LCuttingRules$Sheet;", Cond.fieldLink RX2 52 "CuttingRules$Sheet" "width" "I", Cond.fieldLink RX2 57 "CuttingRules$Sheet" "height" "I", Cond.fieldLink RX2 25 "CuttingRules$Plan" "unused" "I", Cond.methodLink RX2 49 yX5_makeReady, Cond.instanceMethod yX5_makeReady, Cond.selects RX5 yX5_makeReady yX5_makeReady, Cond.initialized RX5]
def wsX6_cut_r2 : List Cond := [Cond.code yX5_makeReady cX5_makeReady 1 none, Cond.fieldLink RX5 19 "CuttingRules$Worths" "stale" "Z", Cond.fieldLink RX5 23 "CuttingRules$Worths" "sheet" "LCuttingRules$Sheet;", Cond.fieldLink RX5 34 "CuttingRules$Sheet" "defects" "I", Cond.methodLink RX5 31 yX5_fillSizes, Cond.instanceMethod yX5_fillSizes, Cond.selects RX5 yX5_fillSizes yX5_fillSizes, Cond.code yX5_fillSizes cX5_fillSizes 5 none, Cond.fieldLink RX5 69 "CuttingRules$Sheet" "stages" "I", Cond.fieldLink RX5 72 "CuttingRules$Sheet" "width" "I", Cond.fieldLink RX5 75 "CuttingRules$Sheet" "height" "I", Cond.fieldLink RX5 9 "CuttingRules$Worths" "ofSizes" "[I", Cond.methodLink RX5 78 yX5_sizeSlot, Cond.static yX5_sizeSlot, Cond.code yX5_sizeSlot cX5_sizeSlot 3 (some .int), Cond.methodLink RX5 81 yX5_mostOfSize, Cond.instanceMethod yX5_mostOfSize, Cond.selects RX5 yX5_mostOfSize yX5_mostOfSize, Cond.code yX5_mostOfSize cX5_mostOfSize 10 (some .int), Cond.fieldLink RX5 27 "CuttingRules$Worths" "kinds" "LCuttingRules$Kinds;", Cond.methodLink RX5 89 Lib.Math.max.name, Cond.static Lib.Math.max.name, Cond.initialized "java/lang/Math", Cond.code Lib.Math.max.name Lib.Math.max.code 2 (some .int)]
def wsX6_cut_r3 : List Cond := [Cond.fieldLink RX5 58 "CuttingRules$Sheet" "kerf" "I", Cond.methodLink RX5 84 yX1_mostValue, Cond.instanceMethod yX1_mostValue, Cond.selects RX1 yX1_mostValue yX1_mostValue, Cond.initialized RX1, Cond.code yX1_mostValue cX1_mostValue 5 (some .int), Cond.fieldLink RX1 9 "CuttingRules$Kinds" "count" "I", Cond.fieldLink RX1 22 "CuttingRules$Kinds" "values" "[I", Cond.methodLink RX1 36 Lib.Math.max.name, Cond.methodLink RX1 29 yX1_lies, Cond.instanceMethod yX1_lies, Cond.selects RX1 yX1_lies yX1_lies, Cond.code yX1_lies cX1_lies 4 (some .boolean), Cond.fieldLink RX1 15 "CuttingRules$Kinds" "widths" "[I", Cond.fieldLink RX1 19 "CuttingRules$Kinds" "heights" "[I", Cond.methodLink RX1 33 yX1_liesTurned, Cond.instanceMethod yX1_liesTurned, Cond.selects RX1 yX1_liesTurned yX1_liesTurned, Cond.code yX1_liesTurned cX1_liesTurned 4 (some .boolean), Cond.fieldLink RX1 25 "CuttingRules$Kinds" "turning" "[Z", Cond.methodLink RX5 43 yX5_ofSize, Cond.instanceMethod yX5_ofSize, Cond.selects RX5 yX5_ofSize yX5_ofSize, Cond.code yX5_ofSize cX5_ofSize 5 (some .int)]
def wsX6_cut_r4 : List Cond := [Cond.methodLink RX5 94 yX4_lastCut, Cond.instanceMethod yX4_lastCut, Cond.selects RX4 yX4_lastCut yX4_lastCut, Cond.initialized RX4, Cond.code yX4_lastCut cX4_lastCut 4 (some .int), Cond.fieldLink RX4 18 "CuttingRules$Sheet" "kerf" "I", Cond.methodLink RX4 38 yX4_partsWidth, Cond.instanceMethod yX4_partsWidth, Cond.selects RX4 yX4_partsWidth yX4_partsWidth, Cond.code yX4_partsWidth cX4_partsWidth 2 (some .boolean), Cond.fieldLink RX4 24 "CuttingRules$Sheet" "first" "I", Cond.methodLink RX5 61 yX4_partsWidth, Cond.methodLink RX5 40 yX5_fillParts, Cond.instanceMethod yX5_fillParts, Cond.selects RX5 yX5_fillParts yX5_fillParts, Cond.code yX5_fillParts cX5_fillParts 5 none, Cond.methodLink RX5 97 yX5_fillPart, Cond.instanceMethod yX5_fillPart, Cond.selects RX5 yX5_fillPart yX5_fillPart, Cond.code yX5_fillPart cX5_fillPart 12 none, Cond.fieldLink RX5 16 "CuttingRules$Worths" "ofParts" "[I", Cond.methodLink RX5 101 yX4_isClean, Cond.instanceMethod yX4_isClean, Cond.selects RX4 yX4_isClean yX4_isClean]
def wsX6_cut_r5 : List Cond := [Cond.code yX4_isClean cX4_isClean 7 (some .boolean), Cond.fieldLink RX4 27 "CuttingRules$Sheet" "defects" "I", Cond.fieldLink RX4 30 "CuttingRules$Sheet" "spoiled" "[I", Cond.methodLink RX5 47 yX5_span, Cond.static yX5_span, Cond.code yX5_span cX5_span 2 (some .int), Cond.methodLink RX5 51 yX5_partSlot, Cond.static yX5_partSlot, Cond.code yX5_partSlot cX5_partSlot 3 (some .int), Cond.methodLink RX5 105 yX5_mostOfCuts, Cond.instanceMethod yX5_mostOfCuts, Cond.selects RX5 yX5_mostOfCuts yX5_mostOfCuts, Cond.code yX5_mostOfCuts cX5_mostOfCuts 11 (some .int), Cond.methodLink RX2 60 yX2_lay, Cond.instanceMethod yX2_lay, Cond.selects RX2 yX2_lay yX2_lay, Cond.code yX2_lay cX2_lay 9 none, Cond.fieldLink RX2 36 "CuttingRules$Plan" "kinds" "LCuttingRules$Kinds;", Cond.fieldLink RX2 92 "CuttingRules$Sheet" "stages" "I", Cond.methodLink RX2 64 yX5_of, Cond.instanceMethod yX5_of, Cond.selects RX5 yX5_of yX5_of, Cond.code yX5_of cX5_of 7 (some .int), Cond.methodLink RX2 68 yX4_isClean]
def wsX6_cut_r6 : List Cond := [Cond.methodLink RX2 72 yX1_firstOfValue, Cond.instanceMethod yX1_firstOfValue, Cond.selects RX1 yX1_firstOfValue yX1_firstOfValue, Cond.code yX1_firstOfValue cX1_firstOfValue 5 (some .int), Cond.methodLink RX2 78 yX2_addPiece, Cond.instanceMethod yX2_addPiece, Cond.selects RX2 yX2_addPiece yX2_addPiece, Cond.code yX2_addPiece cX2_addPiece 7 none, Cond.fieldLink RX2 11 "CuttingRules$Plan" "pieceFacts" "[I", Cond.methodLink RX2 108 yX1_lies, Cond.methodLink RX2 81 yX2_firstCut, Cond.instanceMethod yX2_firstCut, Cond.selects RX2 yX2_firstCut yX2_firstCut, Cond.code yX2_firstCut cX2_firstCut 9 (some .int), Cond.methodLink RX2 102 yX4_lastCut, Cond.methodLink RX2 105 yX5_ofCut, Cond.instanceMethod yX5_ofCut, Cond.selects RX5 yX5_ofCut yX5_ofCut, Cond.code yX5_ofCut cX5_ofCut 8 (some .int), Cond.methodLink RX5 65 yX5_of, Cond.methodLink RX2 85 yX2_addCut, Cond.instanceMethod yX2_addCut, Cond.selects RX2 yX2_addCut yX2_addCut, Cond.code yX2_addCut cX2_addCut 9 none]
def wsX6_cut_r7 : List Cond := [Cond.fieldLink RX2 15 "CuttingRules$Plan" "cutFacts" "[I", Cond.methodLink RX2 98 yX4_partsWidth, Cond.methodLink RX2 89 yX2_layBoth, Cond.instanceMethod yX2_layBoth, Cond.selects RX2 yX2_layBoth yX2_layBoth, Cond.code yX2_layBoth cX2_layBoth 8 none, Cond.fieldLink RX2 95 "CuttingRules$Sheet" "kerf" "I"]
def wsX6_cut : List Cond := .code yX6_cut cX6_cut 3 (some .int) :: ((wsX6_cut_r1 ++ (wsX6_cut_r2 ++ (wsX6_cut_r3 ++ (wsX6_cut_r4 ++ (wsX6_cut_r5 ++ (wsX6_cut_r6 ++ wsX6_cut_r7)))))) ++ wsX60 ++ wsX20 ++ wsX40 ++ wsX50 ++ wsX10)
def wsX6_waste_r1 : List Cond := [Cond.fieldLink RX6 40 "CuttingRules" "plan" "LCuttingRules$Plan;", Cond.fieldLink RX6 113 "CuttingRules$Plan" "unused" "I", Cond.methodLink RX6 100 yX2_makeReady, Cond.instanceMethod yX2_makeReady, Cond.selects RX2 yX2_makeReady yX2_makeReady, Cond.initialized RX2, Cond.code yX2_makeReady cX2_makeReady 1 none, Cond.fieldLink RX2 28 "CuttingRules$Plan" "stale" "Z", Cond.fieldLink RX2 40 "CuttingRules$Plan" "worths" "LCuttingRules$Worths;", Cond.fieldLink RX2 18 "CuttingRules$Plan" "pieceCount" "I", Cond.fieldLink RX2 22 "CuttingRules$Plan" "cutCount" "I", Cond.fieldLink RX2 32 "CuttingRules$Plan" "sheet" "LCuttingRules$Sheet;", Cond.fieldLink RX2 52 "CuttingRules$Sheet" "width" "I", Cond.fieldLink RX2 57 "CuttingRules$Sheet" "height" "I", Cond.fieldLink RX2 25 "CuttingRules$Plan" "unused" "I", Cond.methodLink RX2 49 yX5_makeReady, Cond.instanceMethod yX5_makeReady, Cond.selects RX5 yX5_makeReady yX5_makeReady, Cond.initialized RX5, Cond.code yX5_makeReady cX5_makeReady 1 none, Cond.fieldLink RX5 19 "CuttingRules$Worths" "stale" "Z", Cond.fieldLink RX5 23 "CuttingRules$Worths" "sheet" "LCuttingRules$Sheet;", Cond.fieldLink RX5 34 "CuttingRules$Sheet" "defects" "I", Cond.methodLink RX5 31 yX5_fillSizes]
def wsX6_waste_r2 : List Cond := [Cond.instanceMethod yX5_fillSizes, Cond.selects RX5 yX5_fillSizes yX5_fillSizes, Cond.code yX5_fillSizes cX5_fillSizes 5 none, Cond.fieldLink RX5 69 "CuttingRules$Sheet" "stages" "I", Cond.fieldLink RX5 72 "CuttingRules$Sheet" "width" "I", Cond.fieldLink RX5 75 "CuttingRules$Sheet" "height" "I", Cond.fieldLink RX5 9 "CuttingRules$Worths" "ofSizes" "[I", Cond.methodLink RX5 78 yX5_sizeSlot, Cond.static yX5_sizeSlot, Cond.code yX5_sizeSlot cX5_sizeSlot 3 (some .int), Cond.static yX6_within, Cond.initialized RX6, Cond.code yX6_within cX6_within 3 (some .boolean), Cond.methodLink RX5 81 yX5_mostOfSize, Cond.instanceMethod yX5_mostOfSize, Cond.selects RX5 yX5_mostOfSize yX5_mostOfSize, Cond.code yX5_mostOfSize cX5_mostOfSize 10 (some .int), Cond.fieldLink RX5 27 "CuttingRules$Worths" "kinds" "LCuttingRules$Kinds;", Cond.methodLink RX5 89 Lib.Math.max.name, Cond.static Lib.Math.max.name, Cond.initialized "java/lang/Math", Cond.code Lib.Math.max.name Lib.Math.max.code 2 (some .int), Cond.fieldLink RX5 58 "CuttingRules$Sheet" "kerf" "I", Cond.methodLink RX5 84 yX1_mostValue]
def wsX6_waste_r3 : List Cond := [Cond.instanceMethod yX1_mostValue, Cond.selects RX1 yX1_mostValue yX1_mostValue, Cond.initialized RX1, Cond.code yX1_mostValue cX1_mostValue 5 (some .int), Cond.fieldLink RX1 9 "CuttingRules$Kinds" "count" "I", Cond.fieldLink RX1 22 "CuttingRules$Kinds" "values" "[I", Cond.methodLink RX1 36 Lib.Math.max.name, Cond.methodLink RX1 29 yX1_lies, Cond.instanceMethod yX1_lies, Cond.selects RX1 yX1_lies yX1_lies, Cond.code yX1_lies cX1_lies 4 (some .boolean), Cond.fieldLink RX1 15 "CuttingRules$Kinds" "widths" "[I", Cond.fieldLink RX1 19 "CuttingRules$Kinds" "heights" "[I", Cond.methodLink RX1 33 yX1_liesTurned, Cond.instanceMethod yX1_liesTurned, Cond.selects RX1 yX1_liesTurned yX1_liesTurned, Cond.code yX1_liesTurned cX1_liesTurned 4 (some .boolean), Cond.fieldLink RX1 25 "CuttingRules$Kinds" "turning" "[Z", Cond.methodLink RX5 43 yX5_ofSize, Cond.instanceMethod yX5_ofSize, Cond.selects RX5 yX5_ofSize yX5_ofSize, Cond.code yX5_ofSize cX5_ofSize 5 (some .int), Cond.methodLink RX5 94 yX4_lastCut, Cond.instanceMethod yX4_lastCut]
def wsX6_waste_r4 : List Cond := [Cond.selects RX4 yX4_lastCut yX4_lastCut, Cond.initialized RX4, Cond.code yX4_lastCut cX4_lastCut 4 (some .int), Cond.fieldLink RX4 18 "CuttingRules$Sheet" "kerf" "I", Cond.methodLink RX4 38 yX4_partsWidth, Cond.instanceMethod yX4_partsWidth, Cond.selects RX4 yX4_partsWidth yX4_partsWidth, Cond.code yX4_partsWidth cX4_partsWidth 2 (some .boolean), Cond.fieldLink RX4 24 "CuttingRules$Sheet" "first" "I", Cond.methodLink RX5 61 yX4_partsWidth, Cond.methodLink RX5 40 yX5_fillParts, Cond.instanceMethod yX5_fillParts, Cond.selects RX5 yX5_fillParts yX5_fillParts, Cond.code yX5_fillParts cX5_fillParts 5 none, Cond.methodLink RX5 97 yX5_fillPart, Cond.instanceMethod yX5_fillPart, Cond.selects RX5 yX5_fillPart yX5_fillPart, Cond.code yX5_fillPart cX5_fillPart 12 none, Cond.fieldLink RX5 16 "CuttingRules$Worths" "ofParts" "[I", Cond.methodLink RX5 101 yX4_isClean, Cond.instanceMethod yX4_isClean, Cond.selects RX4 yX4_isClean yX4_isClean, Cond.code yX4_isClean cX4_isClean 7 (some .boolean), Cond.fieldLink RX4 27 "CuttingRules$Sheet" "defects" "I"]
def wsX6_waste_r5 : List Cond := [Cond.fieldLink RX4 30 "CuttingRules$Sheet" "spoiled" "[I", Cond.methodLink RX5 47 yX5_span, Cond.static yX5_span, Cond.code yX5_span cX5_span 2 (some .int), Cond.methodLink RX5 51 yX5_partSlot, Cond.static yX5_partSlot, Cond.code yX5_partSlot cX5_partSlot 3 (some .int), Cond.methodLink RX5 105 yX5_mostOfCuts, Cond.instanceMethod yX5_mostOfCuts, Cond.selects RX5 yX5_mostOfCuts yX5_mostOfCuts, Cond.code yX5_mostOfCuts cX5_mostOfCuts 11 (some .int), Cond.methodLink RX2 60 yX2_lay, Cond.instanceMethod yX2_lay, Cond.selects RX2 yX2_lay yX2_lay, Cond.code yX2_lay cX2_lay 9 none, Cond.fieldLink RX2 36 "CuttingRules$Plan" "kinds" "LCuttingRules$Kinds;", Cond.fieldLink RX2 92 "CuttingRules$Sheet" "stages" "I", Cond.methodLink RX2 64 yX5_of, Cond.instanceMethod yX5_of, Cond.selects RX5 yX5_of yX5_of, Cond.code yX5_of cX5_of 7 (some .int), Cond.methodLink RX2 68 yX4_isClean, Cond.methodLink RX2 72 yX1_firstOfValue, Cond.instanceMethod yX1_firstOfValue]
def wsX6_waste_r6 : List Cond := [Cond.selects RX1 yX1_firstOfValue yX1_firstOfValue, Cond.code yX1_firstOfValue cX1_firstOfValue 5 (some .int), Cond.methodLink RX2 78 yX2_addPiece, Cond.instanceMethod yX2_addPiece, Cond.selects RX2 yX2_addPiece yX2_addPiece, Cond.code yX2_addPiece cX2_addPiece 7 none, Cond.fieldLink RX2 11 "CuttingRules$Plan" "pieceFacts" "[I", Cond.methodLink RX2 108 yX1_lies, Cond.methodLink RX2 81 yX2_firstCut, Cond.instanceMethod yX2_firstCut, Cond.selects RX2 yX2_firstCut yX2_firstCut, Cond.code yX2_firstCut cX2_firstCut 9 (some .int), Cond.methodLink RX2 102 yX4_lastCut, Cond.methodLink RX2 105 yX5_ofCut, Cond.instanceMethod yX5_ofCut, Cond.selects RX5 yX5_ofCut yX5_ofCut, Cond.code yX5_ofCut cX5_ofCut 8 (some .int), Cond.methodLink RX5 65 yX5_of, Cond.methodLink RX2 85 yX2_addCut, Cond.instanceMethod yX2_addCut, Cond.selects RX2 yX2_addCut yX2_addCut, Cond.code yX2_addCut cX2_addCut 9 none, Cond.fieldLink RX2 15 "CuttingRules$Plan" "cutFacts" "[I", Cond.methodLink RX2 98 yX4_partsWidth]
def wsX6_waste_r7 : List Cond := [Cond.methodLink RX2 89 yX2_layBoth, Cond.instanceMethod yX2_layBoth, Cond.selects RX2 yX2_layBoth yX2_layBoth, Cond.code yX2_layBoth cX2_layBoth 8 none, Cond.fieldLink RX2 95 "CuttingRules$Sheet" "kerf" "I"]
def wsX6_waste : List Cond := .code yX6_waste cX6_waste 1 (some .int) :: ((wsX6_waste_r1 ++ (wsX6_waste_r2 ++ (wsX6_waste_r3 ++ (wsX6_waste_r4 ++ (wsX6_waste_r5 ++ (wsX6_waste_r6 ++ wsX6_waste_r7)))))) ++ wsX60 ++ wsX20 ++ wsX40 ++ wsX50 ++ wsX10)
def wsX6_stock : List Cond := .code yX6_stock cX6_stock 4 (some .int) :: ([.fieldLink RX6 44 "CuttingRules" "rack" "LCuttingRules$Rack;", .fieldLink RX6 53 "CuttingRules" "list" "LCuttingRules$BarList;", .methodLink RX6 57 yX6_within, .static yX6_within, .initialized RX6, .code yX6_within cX6_within 3 (some .boolean), .methodLink RX6 116 yX3_addStock, .instanceMethod yX3_addStock, .selects RX3 yX3_addStock yX3_addStock, .initialized RX3, .code yX3_addStock cX3_addStock 3 (some .int), .fieldLink RX3 9 "CuttingRules$Rack" "stocks" "I", .fieldLink RX3 21 "CuttingRules$Rack" "stockLengths" "[I", .fieldLink RX3 25 "CuttingRules$Rack" "stockPrices" "[I", .methodLink RX6 120 yX0_forgetCosts, .instanceMethod yX0_forgetCosts, .selects RX0 yX0_forgetCosts yX0_forgetCosts, .initialized RX0, .code yX0_forgetCosts cX0_forgetCosts 1 none, .fieldLink RX0 35 "CuttingRules$BarList" "costsStale" "Z", .fieldLink RX0 38 "CuttingRules$BarList" "barsStale" "Z"] ++ wsX60 ++ wsX30 ++ wsX00)
def wsX6_order : List Cond := .code yX6_order cX6_order 4 (some .int) :: ([.fieldLink RX6 44 "CuttingRules" "rack" "LCuttingRules$Rack;", .fieldLink RX6 53 "CuttingRules" "list" "LCuttingRules$BarList;", .methodLink RX6 57 yX6_within, .static yX6_within, .initialized RX6, .code yX6_within cX6_within 3 (some .boolean), .methodLink RX6 123 yX3_addOrder, .instanceMethod yX3_addOrder, .selects RX3 yX3_addOrder yX3_addOrder, .initialized RX3, .code yX3_addOrder cX3_addOrder 3 (some .int), .fieldLink RX3 15 "CuttingRules$Rack" "orders" "I", .fieldLink RX3 28 "CuttingRules$Rack" "orderLengths" "[I", .fieldLink RX3 31 "CuttingRules$Rack" "demands" "[I", .methodLink RX6 120 yX0_forgetCosts, .instanceMethod yX0_forgetCosts, .selects RX0 yX0_forgetCosts yX0_forgetCosts, .initialized RX0, .code yX0_forgetCosts cX0_forgetCosts 1 none, .fieldLink RX0 35 "CuttingRules$BarList" "costsStale" "Z", .fieldLink RX0 38 "CuttingRules$BarList" "barsStale" "Z"] ++ wsX60 ++ wsX30 ++ wsX00)
def wsX6_demand : List Cond := .code yX6_demand cX6_demand 4 (some .int) :: ([.fieldLink RX6 44 "CuttingRules" "rack" "LCuttingRules$Rack;", .fieldLink RX6 126 "CuttingRules$Rack" "orders" "I", .fieldLink RX6 129 "CuttingRules$Rack" "demands" "[I", .fieldLink RX6 53 "CuttingRules" "list" "LCuttingRules$BarList;", .methodLink RX6 57 yX6_within, .static yX6_within, .initialized RX6, .code yX6_within cX6_within 3 (some .boolean), .methodLink RX6 132 yX0_forgetBars, .instanceMethod yX0_forgetBars, .selects RX0 yX0_forgetBars yX0_forgetBars, .initialized RX0, .code yX0_forgetBars cX0_forgetBars 1 none, .fieldLink RX0 38 "CuttingRules$BarList" "barsStale" "Z"] ++ wsX60 ++ wsX30 ++ wsX00)
def wsX6_blade : List Cond := .code yX6_blade cX6_blade 3 (some .int) :: ([.fieldLink RX6 44 "CuttingRules" "rack" "LCuttingRules$Rack;", .fieldLink RX6 135 "CuttingRules$Rack" "blade" "I", .fieldLink RX6 53 "CuttingRules" "list" "LCuttingRules$BarList;", .methodLink RX6 57 yX6_within, .static yX6_within, .initialized RX6, .code yX6_within cX6_within 3 (some .boolean), .methodLink RX6 120 yX0_forgetCosts, .instanceMethod yX0_forgetCosts, .selects RX0 yX0_forgetCosts yX0_forgetCosts, .initialized RX0, .code yX0_forgetCosts cX0_forgetCosts 1 none, .fieldLink RX0 35 "CuttingRules$BarList" "costsStale" "Z", .fieldLink RX0 38 "CuttingRules$BarList" "barsStale" "Z"] ++ wsX60 ++ wsX30 ++ wsX00)
def wsX6_price_r1 : List Cond := [Cond.fieldLink RX6 53 "CuttingRules" "list" "LCuttingRules$BarList;", Cond.fieldLink RX6 139 "CuttingRules$BarList" "isShort" "Z", Cond.fieldLink RX6 143 "CuttingRules$BarList" "priceTogether" "I", Cond.methodLink RX6 138 yX0_makeReady, Cond.instanceMethod yX0_makeReady, Cond.selects RX0 yX0_makeReady yX0_makeReady, Cond.initialized RX0, Cond.code yX0_makeReady cX0_makeReady 1 none, Cond.fieldLink RX0 38 "CuttingRules$BarList" "barsStale" "Z", Cond.fieldLink RX0 35 "CuttingRules$BarList" "costsStale" "Z", Cond.fieldLink RX0 15 "CuttingRules$BarList" "leastCosts" "[I", Cond.fieldLink RX0 41 "CuttingRules$BarList" "rack" "LCuttingRules$Rack;", Cond.methodLink RX0 45 yJ7_fill_53178, Cond.static yJ7_fill_53178, Cond.initialized RJ7, Cond.code yJ7_fill_53178 cJ7_fill_53178 4 none, Cond.methodLink RX0 51 yX0_findLeastCosts, Cond.instanceMethod yX0_findLeastCosts, Cond.selects RX0 yX0_findLeastCosts yX0_findLeastCosts, Cond.code yX0_findLeastCosts cX0_findLeastCosts 5 none, Cond.methodLink RX0 54 yX3_wantedOf, Cond.instanceMethod yX3_wantedOf, Cond.selects RX3 yX3_wantedOf yX3_wantedOf, Cond.initialized RX3]
def wsX6_price_r2 : List Cond := [Cond.code yX3_wantedOf cX3_wantedOf 2 (some .int), Cond.fieldLink RX3 15 "CuttingRules$Rack" "orders" "I", Cond.fieldLink RX3 31 "CuttingRules$Rack" "demands" "[I", Cond.methodLink RX0 68 yX0_findLeastCost, Cond.instanceMethod yX0_findLeastCost, Cond.selects RX0 yX0_findLeastCost yX0_findLeastCost, Cond.code yX0_findLeastCost cX0_findLeastCost 9 none, Cond.fieldLink RX0 11 "CuttingRules$BarList" "barCosts" "[I", Cond.constant RX0 79 (1048576), Cond.methodLink RX0 60 yX0_code, Cond.static yX0_code, Cond.code yX0_code cX0_code 4 (some .int), Cond.static yX6_within, Cond.initialized RX6, Cond.code yX6_within cX6_within 3 (some .boolean), Cond.methodLink RX0 76 yX0_barCost, Cond.instanceMethod yX0_barCost, Cond.selects RX0 yX0_barCost yX0_barCost, Cond.code yX0_barCost cX0_barCost 3 (some .int), Cond.fieldLink RX0 96 "CuttingRules$Rack" "stockPrices" "[I", Cond.methodLink RX0 90 yX0_lengthWanted, Cond.instanceMethod yX0_lengthWanted, Cond.selects RX0 yX0_lengthWanted yX0_lengthWanted, Cond.code yX0_lengthWanted cX0_lengthWanted 4 (some .int)]
def wsX6_price_r3 : List Cond := [Cond.fieldLink RX0 105 "CuttingRules$Rack" "blade" "I", Cond.fieldLink RX0 108 "CuttingRules$Rack" "orders" "I", Cond.fieldLink RX0 111 "CuttingRules$Rack" "orderLengths" "[I", Cond.methodLink RX0 99 yX0_numberOf, Cond.static yX0_numberOf, Cond.code yX0_numberOf cX0_numberOf 2 (some .int), Cond.methodLink RX0 93 yX3_stockFor, Cond.instanceMethod yX3_stockFor, Cond.selects RX3 yX3_stockFor yX3_stockFor, Cond.code yX3_stockFor cX3_stockFor 4 (some .int), Cond.fieldLink RX3 9 "CuttingRules$Rack" "stocks" "I", Cond.fieldLink RX3 21 "CuttingRules$Rack" "stockLengths" "[I", Cond.fieldLink RX3 25 "CuttingRules$Rack" "stockPrices" "[I", Cond.methodLink RX0 80 yX0_tryFirstBars, Cond.instanceMethod yX0_tryFirstBars, Cond.selects RX0 yX0_tryFirstBars yX0_tryFirstBars, Cond.code yX0_tryFirstBars cX0_tryFirstBars 7 none, Cond.methodLink RX0 84 Lib.Math.max.name, Cond.static Lib.Math.max.name, Cond.initialized "java/lang/Math", Cond.code Lib.Math.max.name Lib.Math.max.code 2 (some .int), Cond.fieldLink RX0 18 "CuttingRules$BarList" "firstPatterns" "[I", Cond.methodLink RX0 64 yX0_takeBars, Cond.instanceMethod yX0_takeBars]
def wsX6_price_r4 : List Cond := [Cond.selects RX0 yX0_takeBars yX0_takeBars, Cond.code yX0_takeBars cX0_takeBars 3 none, Cond.fieldLink RX0 24 "CuttingRules$BarList" "count" "I", Cond.fieldLink RX0 28 "CuttingRules$BarList" "priceTogether" "I", Cond.fieldLink RX0 31 "CuttingRules$BarList" "isShort" "Z", Cond.fieldLink RX0 21 "CuttingRules$BarList" "patterns" "[I"]
def wsX6_price : List Cond := .code yX6_price cX6_price 1 (some .int) :: ((wsX6_price_r1 ++ (wsX6_price_r2 ++ (wsX6_price_r3 ++ wsX6_price_r4))) ++ wsX60 ++ wsX00 ++ wsX30)
def wsX6_bars_r1 : List Cond := [Cond.fieldLink RX6 53 "CuttingRules" "list" "LCuttingRules$BarList;", Cond.fieldLink RX6 139 "CuttingRules$BarList" "isShort" "Z", Cond.fieldLink RX6 146 "CuttingRules$BarList" "count" "I", Cond.methodLink RX6 138 yX0_makeReady, Cond.instanceMethod yX0_makeReady, Cond.selects RX0 yX0_makeReady yX0_makeReady, Cond.initialized RX0, Cond.code yX0_makeReady cX0_makeReady 1 none, Cond.fieldLink RX0 38 "CuttingRules$BarList" "barsStale" "Z", Cond.fieldLink RX0 35 "CuttingRules$BarList" "costsStale" "Z", Cond.fieldLink RX0 15 "CuttingRules$BarList" "leastCosts" "[I", Cond.fieldLink RX0 41 "CuttingRules$BarList" "rack" "LCuttingRules$Rack;", Cond.methodLink RX0 45 yJ7_fill_53178, Cond.static yJ7_fill_53178, Cond.initialized RJ7, Cond.code yJ7_fill_53178 cJ7_fill_53178 4 none, Cond.methodLink RX0 51 yX0_findLeastCosts, Cond.instanceMethod yX0_findLeastCosts, Cond.selects RX0 yX0_findLeastCosts yX0_findLeastCosts, Cond.code yX0_findLeastCosts cX0_findLeastCosts 5 none, Cond.methodLink RX0 54 yX3_wantedOf, Cond.instanceMethod yX3_wantedOf, Cond.selects RX3 yX3_wantedOf yX3_wantedOf, Cond.initialized RX3]
def wsX6_bars_r2 : List Cond := [Cond.code yX3_wantedOf cX3_wantedOf 2 (some .int), Cond.fieldLink RX3 15 "CuttingRules$Rack" "orders" "I", Cond.fieldLink RX3 31 "CuttingRules$Rack" "demands" "[I", Cond.methodLink RX0 68 yX0_findLeastCost, Cond.instanceMethod yX0_findLeastCost, Cond.selects RX0 yX0_findLeastCost yX0_findLeastCost, Cond.code yX0_findLeastCost cX0_findLeastCost 9 none, Cond.fieldLink RX0 11 "CuttingRules$BarList" "barCosts" "[I", Cond.constant RX0 79 (1048576), Cond.methodLink RX0 60 yX0_code, Cond.static yX0_code, Cond.code yX0_code cX0_code 4 (some .int), Cond.static yX6_within, Cond.initialized RX6, Cond.code yX6_within cX6_within 3 (some .boolean), Cond.methodLink RX0 76 yX0_barCost, Cond.instanceMethod yX0_barCost, Cond.selects RX0 yX0_barCost yX0_barCost, Cond.code yX0_barCost cX0_barCost 3 (some .int), Cond.fieldLink RX0 96 "CuttingRules$Rack" "stockPrices" "[I", Cond.methodLink RX0 90 yX0_lengthWanted, Cond.instanceMethod yX0_lengthWanted, Cond.selects RX0 yX0_lengthWanted yX0_lengthWanted, Cond.code yX0_lengthWanted cX0_lengthWanted 4 (some .int)]
def wsX6_bars_r3 : List Cond := [Cond.fieldLink RX0 105 "CuttingRules$Rack" "blade" "I", Cond.fieldLink RX0 108 "CuttingRules$Rack" "orders" "I", Cond.fieldLink RX0 111 "CuttingRules$Rack" "orderLengths" "[I", Cond.methodLink RX0 99 yX0_numberOf, Cond.static yX0_numberOf, Cond.code yX0_numberOf cX0_numberOf 2 (some .int), Cond.methodLink RX0 93 yX3_stockFor, Cond.instanceMethod yX3_stockFor, Cond.selects RX3 yX3_stockFor yX3_stockFor, Cond.code yX3_stockFor cX3_stockFor 4 (some .int), Cond.fieldLink RX3 9 "CuttingRules$Rack" "stocks" "I", Cond.fieldLink RX3 21 "CuttingRules$Rack" "stockLengths" "[I", Cond.fieldLink RX3 25 "CuttingRules$Rack" "stockPrices" "[I", Cond.methodLink RX0 80 yX0_tryFirstBars, Cond.instanceMethod yX0_tryFirstBars, Cond.selects RX0 yX0_tryFirstBars yX0_tryFirstBars, Cond.code yX0_tryFirstBars cX0_tryFirstBars 7 none, Cond.methodLink RX0 84 Lib.Math.max.name, Cond.static Lib.Math.max.name, Cond.initialized "java/lang/Math", Cond.code Lib.Math.max.name Lib.Math.max.code 2 (some .int), Cond.fieldLink RX0 18 "CuttingRules$BarList" "firstPatterns" "[I", Cond.methodLink RX0 64 yX0_takeBars, Cond.instanceMethod yX0_takeBars]
def wsX6_bars_r4 : List Cond := [Cond.selects RX0 yX0_takeBars yX0_takeBars, Cond.code yX0_takeBars cX0_takeBars 3 none, Cond.fieldLink RX0 24 "CuttingRules$BarList" "count" "I", Cond.fieldLink RX0 28 "CuttingRules$BarList" "priceTogether" "I", Cond.fieldLink RX0 31 "CuttingRules$BarList" "isShort" "Z", Cond.fieldLink RX0 21 "CuttingRules$BarList" "patterns" "[I"]
def wsX6_bars : List Cond := .code yX6_bars cX6_bars 1 (some .int) :: ((wsX6_bars_r1 ++ (wsX6_bars_r2 ++ (wsX6_bars_r3 ++ wsX6_bars_r4))) ++ wsX60 ++ wsX00 ++ wsX30)
def wsX6_bar_r1 : List Cond := [Cond.fieldLink RX6 53 "CuttingRules" "list" "LCuttingRules$BarList;", Cond.fieldLink RX6 146 "CuttingRules$BarList" "count" "I", Cond.fieldLink RX6 147 "CuttingRules$BarList" "patterns" "[I", Cond.methodLink RX6 57 yX6_within, Cond.static yX6_within, Cond.initialized RX6, Cond.code yX6_within cX6_within 3 (some .boolean), Cond.methodLink RX6 138 yX0_makeReady, Cond.instanceMethod yX0_makeReady, Cond.selects RX0 yX0_makeReady yX0_makeReady, Cond.initialized RX0, Cond.code yX0_makeReady cX0_makeReady 1 none, Cond.fieldLink RX0 38 "CuttingRules$BarList" "barsStale" "Z", Cond.fieldLink RX0 35 "CuttingRules$BarList" "costsStale" "Z", Cond.fieldLink RX0 15 "CuttingRules$BarList" "leastCosts" "[I", Cond.fieldLink RX0 41 "CuttingRules$BarList" "rack" "LCuttingRules$Rack;", Cond.methodLink RX0 45 yJ7_fill_53178, Cond.static yJ7_fill_53178, Cond.initialized RJ7, Cond.code yJ7_fill_53178 cJ7_fill_53178 4 none, Cond.methodLink RX0 51 yX0_findLeastCosts, Cond.instanceMethod yX0_findLeastCosts, Cond.selects RX0 yX0_findLeastCosts yX0_findLeastCosts, Cond.code yX0_findLeastCosts cX0_findLeastCosts 5 none]
def wsX6_bar_r2 : List Cond := [Cond.methodLink RX0 54 yX3_wantedOf, Cond.instanceMethod yX3_wantedOf, Cond.selects RX3 yX3_wantedOf yX3_wantedOf, Cond.initialized RX3, Cond.code yX3_wantedOf cX3_wantedOf 2 (some .int), Cond.fieldLink RX3 15 "CuttingRules$Rack" "orders" "I", Cond.fieldLink RX3 31 "CuttingRules$Rack" "demands" "[I", Cond.methodLink RX0 68 yX0_findLeastCost, Cond.instanceMethod yX0_findLeastCost, Cond.selects RX0 yX0_findLeastCost yX0_findLeastCost, Cond.code yX0_findLeastCost cX0_findLeastCost 9 none, Cond.fieldLink RX0 11 "CuttingRules$BarList" "barCosts" "[I", Cond.constant RX0 79 (1048576), Cond.methodLink RX0 60 yX0_code, Cond.static yX0_code, Cond.code yX0_code cX0_code 4 (some .int), Cond.methodLink RX0 76 yX0_barCost, Cond.instanceMethod yX0_barCost, Cond.selects RX0 yX0_barCost yX0_barCost, Cond.code yX0_barCost cX0_barCost 3 (some .int), Cond.fieldLink RX0 96 "CuttingRules$Rack" "stockPrices" "[I", Cond.methodLink RX0 90 yX0_lengthWanted, Cond.instanceMethod yX0_lengthWanted, Cond.selects RX0 yX0_lengthWanted yX0_lengthWanted]
def wsX6_bar_r3 : List Cond := [Cond.code yX0_lengthWanted cX0_lengthWanted 4 (some .int), Cond.fieldLink RX0 105 "CuttingRules$Rack" "blade" "I", Cond.fieldLink RX0 108 "CuttingRules$Rack" "orders" "I", Cond.fieldLink RX0 111 "CuttingRules$Rack" "orderLengths" "[I", Cond.methodLink RX0 99 yX0_numberOf, Cond.static yX0_numberOf, Cond.code yX0_numberOf cX0_numberOf 2 (some .int), Cond.methodLink RX0 93 yX3_stockFor, Cond.instanceMethod yX3_stockFor, Cond.selects RX3 yX3_stockFor yX3_stockFor, Cond.code yX3_stockFor cX3_stockFor 4 (some .int), Cond.fieldLink RX3 9 "CuttingRules$Rack" "stocks" "I", Cond.fieldLink RX3 21 "CuttingRules$Rack" "stockLengths" "[I", Cond.fieldLink RX3 25 "CuttingRules$Rack" "stockPrices" "[I", Cond.methodLink RX0 80 yX0_tryFirstBars, Cond.instanceMethod yX0_tryFirstBars, Cond.selects RX0 yX0_tryFirstBars yX0_tryFirstBars, Cond.code yX0_tryFirstBars cX0_tryFirstBars 7 none, Cond.methodLink RX0 84 Lib.Math.max.name, Cond.static Lib.Math.max.name, Cond.initialized "java/lang/Math", Cond.code Lib.Math.max.name Lib.Math.max.code 2 (some .int), Cond.fieldLink RX0 18 "CuttingRules$BarList" "firstPatterns" "[I", Cond.methodLink RX0 64 yX0_takeBars]
def wsX6_bar_r4 : List Cond := [Cond.instanceMethod yX0_takeBars, Cond.selects RX0 yX0_takeBars yX0_takeBars, Cond.code yX0_takeBars cX0_takeBars 3 none, Cond.fieldLink RX0 24 "CuttingRules$BarList" "count" "I", Cond.fieldLink RX0 28 "CuttingRules$BarList" "priceTogether" "I", Cond.fieldLink RX0 31 "CuttingRules$BarList" "isShort" "Z", Cond.fieldLink RX0 21 "CuttingRules$BarList" "patterns" "[I", Cond.methodLink RX6 150 yX0_fact, Cond.instanceMethod yX0_fact, Cond.selects RX0 yX0_fact yX0_fact, Cond.code yX0_fact cX0_fact 5 (some .int), Cond.fieldLink RX0 102 "CuttingRules$Rack" "stockLengths" "[I"]
def wsX6_bar : List Cond := .code yX6_bar cX6_bar 3 (some .int) :: ((wsX6_bar_r1 ++ (wsX6_bar_r2 ++ (wsX6_bar_r3 ++ wsX6_bar_r4))) ++ wsX60 ++ wsX00 ++ wsX30)
def wsX6_told : List Cond := .code yX6_told cX6_told 2 (some .int) :: ([.fieldLink RX6 23 "CuttingRules" "sheet" "LCuttingRules$Sheet;", .fieldLink RX6 153 "CuttingRules$Sheet" "width" "I", .fieldLink RX6 156 "CuttingRules$Sheet" "height" "I", .fieldLink RX6 159 "CuttingRules$Sheet" "kerf" "I", .fieldLink RX6 90 "CuttingRules$Sheet" "stages" "I", .fieldLink RX6 162 "CuttingRules$Sheet" "first" "I", .fieldLink RX6 75 "CuttingRules$Sheet" "defects" "I", .fieldLink RX6 27 "CuttingRules" "kinds" "LCuttingRules$Kinds;", .fieldLink RX6 83 "CuttingRules$Kinds" "count" "I", .fieldLink RX6 44 "CuttingRules" "rack" "LCuttingRules$Rack;", .fieldLink RX6 165 "CuttingRules$Rack" "stocks" "I", .fieldLink RX6 126 "CuttingRules$Rack" "orders" "I", .fieldLink RX6 135 "CuttingRules$Rack" "blade" "I"] ++ wsX60 ++ wsX40 ++ wsX10 ++ wsX30)
def wsX6_noKinds : List Cond := .code yX6_noKinds cX6_noKinds 2 (some .int) :: ([.fieldLink RX6 27 "CuttingRules" "kinds" "LCuttingRules$Kinds;", .fieldLink RX6 83 "CuttingRules$Kinds" "count" "I", .fieldLink RX6 40 "CuttingRules" "plan" "LCuttingRules$Plan;", .methodLink RX6 65 yX2_forget, .instanceMethod yX2_forget, .selects RX2 yX2_forget yX2_forget, .initialized RX2, .code yX2_forget cX2_forget 1 none, .fieldLink RX2 28 "CuttingRules$Plan" "stale" "Z", .fieldLink RX2 40 "CuttingRules$Plan" "worths" "LCuttingRules$Worths;", .methodLink RX2 44 yX5_forget, .instanceMethod yX5_forget, .selects RX5 yX5_forget yX5_forget, .initialized RX5, .code yX5_forget cX5_forget 1 none, .fieldLink RX5 19 "CuttingRules$Worths" "stale" "Z"] ++ wsX60 ++ wsX10 ++ wsX20 ++ wsX50)
def wsX6_noBars : List Cond := .code yX6_noBars cX6_noBars 2 (some .int) :: ([.fieldLink RX6 44 "CuttingRules" "rack" "LCuttingRules$Rack;", .fieldLink RX6 165 "CuttingRules$Rack" "stocks" "I", .fieldLink RX6 126 "CuttingRules$Rack" "orders" "I", .fieldLink RX6 53 "CuttingRules" "list" "LCuttingRules$BarList;", .methodLink RX6 120 yX0_forgetCosts, .instanceMethod yX0_forgetCosts, .selects RX0 yX0_forgetCosts yX0_forgetCosts, .initialized RX0, .code yX0_forgetCosts cX0_forgetCosts 1 none, .fieldLink RX0 35 "CuttingRules$BarList" "costsStale" "Z", .fieldLink RX0 38 "CuttingRules$BarList" "barsStale" "Z"] ++ wsX60 ++ wsX30 ++ wsX00)
def wsX7_init_r1 : List Cond := [Cond.methodLink RX7 1 objectInit, Cond.instanceMethod objectInit, Cond.code objectInit ⟨#[0xb1]⟩ 1 none, Cond.fieldLink RX7 7 "CuttingRulesModel" "wide" "I", Cond.fieldLink RX7 13 "CuttingRulesModel" "high" "I", Cond.fieldLink RX7 16 "CuttingRulesModel" "stages" "I", Cond.arrayClass .int, Cond.fieldLink RX7 19 "CuttingRulesModel" "defectX" "[I", Cond.fieldLink RX7 23 "CuttingRulesModel" "defectY" "[I", Cond.fieldLink RX7 26 "CuttingRulesModel" "defectW" "[I", Cond.fieldLink RX7 29 "CuttingRulesModel" "defectH" "[I", Cond.fieldLink RX7 32 "CuttingRulesModel" "kindW" "[I", Cond.fieldLink RX7 35 "CuttingRulesModel" "kindH" "[I", Cond.fieldLink RX7 38 "CuttingRulesModel" "kindValue" "[I", Cond.arrayClass .boolean, Cond.fieldLink RX7 41 "CuttingRulesModel" "kindTurns" "[Z", Cond.fieldLink RX7 45 "CuttingRulesModel" "spanAt" "[I", Cond.constant RX7 48 (73984), Cond.fieldLink RX7 49 "CuttingRulesModel" "worths" "[I", Cond.fieldLink RX7 52 "CuttingRulesModel" "pieceKind" "[I", Cond.fieldLink RX7 55 "CuttingRulesModel" "pieceX" "[I", Cond.fieldLink RX7 58 "CuttingRulesModel" "pieceY" "[I", Cond.fieldLink RX7 61 "CuttingRulesModel" "pieceTurned" "[I", Cond.fieldLink RX7 64 "CuttingRulesModel" "cutStage" "[I"]
def wsX7_init_r2 : List Cond := [Cond.fieldLink RX7 67 "CuttingRulesModel" "cutAt" "[I", Cond.fieldLink RX7 70 "CuttingRulesModel" "cutX" "[I", Cond.fieldLink RX7 73 "CuttingRulesModel" "cutY" "[I", Cond.fieldLink RX7 76 "CuttingRulesModel" "cutW" "[I", Cond.fieldLink RX7 79 "CuttingRulesModel" "cutH" "[I", Cond.fieldLink RX7 82 "CuttingRulesModel" "pile" "[I", Cond.fieldLink RX7 85 "CuttingRulesModel" "stockLength" "[I", Cond.fieldLink RX7 88 "CuttingRulesModel" "stockPrice" "[I", Cond.fieldLink RX7 91 "CuttingRulesModel" "orderLength" "[I", Cond.fieldLink RX7 94 "CuttingRulesModel" "orderDemand" "[I", Cond.fieldLink RX7 97 "CuttingRulesModel" "prices" "[I", Cond.fieldLink RX7 100 "CuttingRulesModel" "fewest" "[I", Cond.fieldLink RX7 103 "CuttingRulesModel" "patternStock" "[I", Cond.fieldLink RX7 106 "CuttingRulesModel" "patternWants" "[I", Cond.fieldLink RX7 109 "CuttingRulesModel" "barPattern" "[I"]
def wsX7_init : List Cond := .code yX7_init cX7_init 4 none :: ((wsX7_init_r1 ++ wsX7_init_r2) ++ wsX70)
def wsX7_within : List Cond := .code yX7_within cX7_within 3 (some .boolean) :: ([])
def wsX7_plate : List Cond := .code yX7_plate cX7_plate 6 (some .int) :: ([.fieldLink RX7 7 "CuttingRulesModel" "wide" "I", .fieldLink RX7 13 "CuttingRulesModel" "high" "I", .fieldLink RX7 116 "CuttingRulesModel" "kerf" "I", .fieldLink RX7 16 "CuttingRulesModel" "stages" "I", .fieldLink RX7 119 "CuttingRulesModel" "firstWay" "I", .fieldLink RX7 122 "CuttingRulesModel" "defects" "I", .fieldLink RX7 125 "CuttingRulesModel" "isWorked" "Z", .methodLink RX7 112 yX7_within, .static yX7_within, .initialized RX7, .code yX7_within cX7_within 3 (some .boolean)] ++ wsX70)
def wsX7_lies : List Cond := .code yX7_lies cX7_lies 5 (some .boolean) :: ([.fieldLink RX7 7 "CuttingRulesModel" "wide" "I", .fieldLink RX7 13 "CuttingRulesModel" "high" "I", .methodLink RX7 112 yX7_within, .static yX7_within, .initialized RX7, .code yX7_within cX7_within 3 (some .boolean)] ++ wsX70)
def wsX7_defect : List Cond := .code yX7_defect cX7_defect 5 (some .int) :: ([.fieldLink RX7 122 "CuttingRulesModel" "defects" "I", .fieldLink RX7 19 "CuttingRulesModel" "defectX" "[I", .fieldLink RX7 23 "CuttingRulesModel" "defectY" "[I", .fieldLink RX7 26 "CuttingRulesModel" "defectW" "[I", .fieldLink RX7 29 "CuttingRulesModel" "defectH" "[I", .fieldLink RX7 125 "CuttingRulesModel" "isWorked" "Z", .methodLink RX7 129 yX7_lies, .instanceMethod yX7_lies, .selects RX7 yX7_lies yX7_lies, .initialized RX7, .code yX7_lies cX7_lies 5 (some .boolean), .fieldLink RX7 7 "CuttingRulesModel" "wide" "I", .fieldLink RX7 13 "CuttingRulesModel" "high" "I", .methodLink RX7 112 yX7_within, .static yX7_within, .code yX7_within cX7_within 3 (some .boolean)] ++ wsX70)
def wsX7_kind : List Cond := .code yX7_kind cX7_kind 5 (some .int) :: ([.fieldLink RX7 133 "CuttingRulesModel" "kinds" "I", .fieldLink RX7 32 "CuttingRulesModel" "kindW" "[I", .fieldLink RX7 35 "CuttingRulesModel" "kindH" "[I", .fieldLink RX7 38 "CuttingRulesModel" "kindValue" "[I", .fieldLink RX7 41 "CuttingRulesModel" "kindTurns" "[Z", .fieldLink RX7 125 "CuttingRulesModel" "isWorked" "Z", .methodLink RX7 112 yX7_within, .static yX7_within, .initialized RX7, .code yX7_within cX7_within 3 (some .boolean)] ++ wsX70)
def wsX7_value : List Cond := .code yX7_value cX7_value 4 (some .int) :: ([.fieldLink RX7 133 "CuttingRulesModel" "kinds" "I", .fieldLink RX7 38 "CuttingRulesModel" "kindValue" "[I", .fieldLink RX7 125 "CuttingRulesModel" "isWorked" "Z", .methodLink RX7 112 yX7_within, .static yX7_within, .initialized RX7, .code yX7_within cX7_within 3 (some .boolean)] ++ wsX70)
def wsX7_at : List Cond := .code yX7_at cX7_at 6 (some .int) :: ([.fieldLink RX7 45 "CuttingRulesModel" "spanAt" "[I"] ++ wsX70)
def wsX7_isSpoiled : List Cond := .code yX7_isSpoiled cX7_isSpoiled 8 (some .boolean) :: ([.fieldLink RX7 122 "CuttingRulesModel" "defects" "I", .fieldLink RX7 19 "CuttingRulesModel" "defectX" "[I", .fieldLink RX7 26 "CuttingRulesModel" "defectW" "[I", .fieldLink RX7 23 "CuttingRulesModel" "defectY" "[I", .fieldLink RX7 29 "CuttingRulesModel" "defectH" "[I"] ++ wsX70)
def wsX7_isLike : List Cond := .code yX7_isLike cX7_isLike 5 (some .boolean) :: ([.fieldLink RX7 32 "CuttingRulesModel" "kindW" "[I", .fieldLink RX7 35 "CuttingRulesModel" "kindH" "[I", .fieldLink RX7 41 "CuttingRulesModel" "kindTurns" "[Z"] ++ wsX70)
def wsX7_bestPiece : List Cond := .code yX7_bestPiece cX7_bestPiece 7 (some .int) :: ([.fieldLink RX7 133 "CuttingRulesModel" "kinds" "I", .fieldLink RX7 38 "CuttingRulesModel" "kindValue" "[I", .methodLink RX7 136 yX7_isLike, .instanceMethod yX7_isLike, .selects RX7 yX7_isLike yX7_isLike, .initialized RX7, .code yX7_isLike cX7_isLike 5 (some .boolean), .fieldLink RX7 32 "CuttingRulesModel" "kindW" "[I", .fieldLink RX7 35 "CuttingRulesModel" "kindH" "[I", .fieldLink RX7 41 "CuttingRulesModel" "kindTurns" "[Z", .methodLink RX7 139 yX7_isSpoiled, .instanceMethod yX7_isSpoiled, .selects RX7 yX7_isSpoiled yX7_isSpoiled, .code yX7_isSpoiled cX7_isSpoiled 8 (some .boolean), .fieldLink RX7 122 "CuttingRulesModel" "defects" "I", .fieldLink RX7 19 "CuttingRulesModel" "defectX" "[I", .fieldLink RX7 26 "CuttingRulesModel" "defectW" "[I", .fieldLink RX7 23 "CuttingRulesModel" "defectY" "[I", .fieldLink RX7 29 "CuttingRulesModel" "defectH" "[I"] ++ wsX70)
def wsX7_wayOf : List Cond := .code yX7_wayOf cX7_wayOf 2 (some .int) :: ([.fieldLink RX7 119 "CuttingRulesModel" "firstWay" "I"] ++ wsX70)
def wsX7_both : List Cond := .code yX7_both cX7_both 7 (some .int) :: ([.fieldLink RX7 49 "CuttingRulesModel" "worths" "[I", .fieldLink RX7 116 "CuttingRulesModel" "kerf" "I", .methodLink RX7 142 yX7_wayOf, .instanceMethod yX7_wayOf, .selects RX7 yX7_wayOf yX7_wayOf, .initialized RX7, .code yX7_wayOf cX7_wayOf 2 (some .int), .fieldLink RX7 119 "CuttingRulesModel" "firstWay" "I", .methodLink RX7 146 yX7_at, .instanceMethod yX7_at, .selects RX7 yX7_at yX7_at, .code yX7_at cX7_at 6 (some .int), .fieldLink RX7 45 "CuttingRulesModel" "spanAt" "[I"] ++ wsX70)
def wsX7_workPart_r1 : List Cond := [Cond.fieldLink RX7 16 "CuttingRulesModel" "stages" "I", Cond.fieldLink RX7 116 "CuttingRulesModel" "kerf" "I", Cond.fieldLink RX7 49 "CuttingRulesModel" "worths" "[I", Cond.methodLink RX7 157 yX7_bestPiece, Cond.instanceMethod yX7_bestPiece, Cond.selects RX7 yX7_bestPiece yX7_bestPiece, Cond.initialized RX7, Cond.code yX7_bestPiece cX7_bestPiece 7 (some .int), Cond.fieldLink RX7 133 "CuttingRulesModel" "kinds" "I", Cond.fieldLink RX7 38 "CuttingRulesModel" "kindValue" "[I", Cond.methodLink RX7 136 yX7_isLike, Cond.instanceMethod yX7_isLike, Cond.selects RX7 yX7_isLike yX7_isLike, Cond.code yX7_isLike cX7_isLike 5 (some .boolean), Cond.fieldLink RX7 32 "CuttingRulesModel" "kindW" "[I", Cond.fieldLink RX7 35 "CuttingRulesModel" "kindH" "[I", Cond.fieldLink RX7 41 "CuttingRulesModel" "kindTurns" "[Z", Cond.methodLink RX7 139 yX7_isSpoiled, Cond.instanceMethod yX7_isSpoiled, Cond.selects RX7 yX7_isSpoiled yX7_isSpoiled, Cond.code yX7_isSpoiled cX7_isSpoiled 8 (some .boolean), Cond.fieldLink RX7 122 "CuttingRulesModel" "defects" "I", Cond.fieldLink RX7 19 "CuttingRulesModel" "defectX" "[I", Cond.fieldLink RX7 26 "CuttingRulesModel" "defectW" "[I"]
def wsX7_workPart_r2 : List Cond := [Cond.fieldLink RX7 23 "CuttingRulesModel" "defectY" "[I", Cond.fieldLink RX7 29 "CuttingRulesModel" "defectH" "[I", Cond.methodLink RX7 142 yX7_wayOf, Cond.instanceMethod yX7_wayOf, Cond.selects RX7 yX7_wayOf yX7_wayOf, Cond.code yX7_wayOf cX7_wayOf 2 (some .int), Cond.fieldLink RX7 119 "CuttingRulesModel" "firstWay" "I", Cond.methodLink RX7 161 yX7_both, Cond.instanceMethod yX7_both, Cond.selects RX7 yX7_both yX7_both, Cond.code yX7_both cX7_both 7 (some .int), Cond.methodLink RX7 146 yX7_at, Cond.instanceMethod yX7_at, Cond.selects RX7 yX7_at yX7_at, Cond.code yX7_at cX7_at 6 (some .int), Cond.fieldLink RX7 45 "CuttingRulesModel" "spanAt" "[I"]
def wsX7_workPart : List Cond := .code yX7_workPart cX7_workPart 11 none :: ((wsX7_workPart_r1 ++ wsX7_workPart_r2) ++ wsX70)
def wsX7_lay : List Cond := .code yX7_lay cX7_lay 6 none :: ([.fieldLink RX7 82 "CuttingRulesModel" "pile" "[I", .fieldLink RX7 165 "CuttingRulesModel" "piled" "I"] ++ wsX70)
def wsX7_isPiece : List Cond := .code yX7_isPiece cX7_isPiece 8 (some .boolean) :: ([.fieldLink RX7 133 "CuttingRulesModel" "kinds" "I", .fieldLink RX7 38 "CuttingRulesModel" "kindValue" "[I", .fieldLink RX7 52 "CuttingRulesModel" "pieceKind" "[I", .fieldLink RX7 168 "CuttingRulesModel" "pieceMany" "I", .fieldLink RX7 55 "CuttingRulesModel" "pieceX" "[I", .fieldLink RX7 58 "CuttingRulesModel" "pieceY" "[I", .fieldLink RX7 61 "CuttingRulesModel" "pieceTurned" "[I", .methodLink RX7 139 yX7_isSpoiled, .instanceMethod yX7_isSpoiled, .selects RX7 yX7_isSpoiled yX7_isSpoiled, .initialized RX7, .code yX7_isSpoiled cX7_isSpoiled 8 (some .boolean), .fieldLink RX7 122 "CuttingRulesModel" "defects" "I", .fieldLink RX7 19 "CuttingRulesModel" "defectX" "[I", .fieldLink RX7 26 "CuttingRulesModel" "defectW" "[I", .fieldLink RX7 23 "CuttingRulesModel" "defectY" "[I", .fieldLink RX7 29 "CuttingRulesModel" "defectH" "[I", .methodLink RX7 136 yX7_isLike, .instanceMethod yX7_isLike, .selects RX7 yX7_isLike yX7_isLike, .code yX7_isLike cX7_isLike 5 (some .boolean), .fieldLink RX7 32 "CuttingRulesModel" "kindW" "[I", .fieldLink RX7 35 "CuttingRulesModel" "kindH" "[I", .fieldLink RX7 41 "CuttingRulesModel" "kindTurns" "[Z"] ++ wsX70)
def wsX7_layPart_r1 : List Cond := [Cond.fieldLink RX7 49 "CuttingRulesModel" "worths" "[I", Cond.fieldLink RX7 116 "CuttingRulesModel" "kerf" "I", Cond.fieldLink RX7 64 "CuttingRulesModel" "cutStage" "[I", Cond.fieldLink RX7 171 "CuttingRulesModel" "cutMany" "I", Cond.fieldLink RX7 67 "CuttingRulesModel" "cutAt" "[I", Cond.fieldLink RX7 70 "CuttingRulesModel" "cutX" "[I", Cond.fieldLink RX7 73 "CuttingRulesModel" "cutY" "[I", Cond.fieldLink RX7 76 "CuttingRulesModel" "cutW" "[I", Cond.fieldLink RX7 79 "CuttingRulesModel" "cutH" "[I", Cond.methodLink RX7 146 yX7_at, Cond.instanceMethod yX7_at, Cond.selects RX7 yX7_at yX7_at, Cond.initialized RX7, Cond.code yX7_at cX7_at 6 (some .int), Cond.fieldLink RX7 45 "CuttingRulesModel" "spanAt" "[I", Cond.methodLink RX7 181 yX7_isPiece, Cond.instanceMethod yX7_isPiece, Cond.selects RX7 yX7_isPiece yX7_isPiece, Cond.code yX7_isPiece cX7_isPiece 8 (some .boolean), Cond.fieldLink RX7 133 "CuttingRulesModel" "kinds" "I", Cond.fieldLink RX7 38 "CuttingRulesModel" "kindValue" "[I", Cond.fieldLink RX7 52 "CuttingRulesModel" "pieceKind" "[I", Cond.fieldLink RX7 168 "CuttingRulesModel" "pieceMany" "I", Cond.fieldLink RX7 55 "CuttingRulesModel" "pieceX" "[I"]
def wsX7_layPart_r2 : List Cond := [Cond.fieldLink RX7 58 "CuttingRulesModel" "pieceY" "[I", Cond.fieldLink RX7 61 "CuttingRulesModel" "pieceTurned" "[I", Cond.methodLink RX7 139 yX7_isSpoiled, Cond.instanceMethod yX7_isSpoiled, Cond.selects RX7 yX7_isSpoiled yX7_isSpoiled, Cond.code yX7_isSpoiled cX7_isSpoiled 8 (some .boolean), Cond.fieldLink RX7 122 "CuttingRulesModel" "defects" "I", Cond.fieldLink RX7 19 "CuttingRulesModel" "defectX" "[I", Cond.fieldLink RX7 26 "CuttingRulesModel" "defectW" "[I", Cond.fieldLink RX7 23 "CuttingRulesModel" "defectY" "[I", Cond.fieldLink RX7 29 "CuttingRulesModel" "defectH" "[I", Cond.methodLink RX7 136 yX7_isLike, Cond.instanceMethod yX7_isLike, Cond.selects RX7 yX7_isLike yX7_isLike, Cond.code yX7_isLike cX7_isLike 5 (some .boolean), Cond.fieldLink RX7 32 "CuttingRulesModel" "kindW" "[I", Cond.fieldLink RX7 35 "CuttingRulesModel" "kindH" "[I", Cond.fieldLink RX7 41 "CuttingRulesModel" "kindTurns" "[Z", Cond.methodLink RX7 142 yX7_wayOf, Cond.instanceMethod yX7_wayOf, Cond.selects RX7 yX7_wayOf yX7_wayOf, Cond.code yX7_wayOf cX7_wayOf 2 (some .int), Cond.fieldLink RX7 119 "CuttingRulesModel" "firstWay" "I", Cond.methodLink RX7 161 yX7_both]
def wsX7_layPart_r3 : List Cond := [Cond.instanceMethod yX7_both, Cond.selects RX7 yX7_both yX7_both, Cond.code yX7_both cX7_both 7 (some .int), Cond.methodLink RX7 174 yX7_lay, Cond.instanceMethod yX7_lay, Cond.selects RX7 yX7_lay yX7_lay, Cond.code yX7_lay cX7_lay 6 none, Cond.fieldLink RX7 82 "CuttingRulesModel" "pile" "[I", Cond.fieldLink RX7 165 "CuttingRulesModel" "piled" "I"]
def wsX7_layPart : List Cond := .code yX7_layPart cX7_layPart 10 none :: ((wsX7_layPart_r1 ++ (wsX7_layPart_r2 ++ wsX7_layPart_r3)) ++ wsX70)
def wsX7_layPlan_r1 : List Cond := [Cond.fieldLink RX7 168 "CuttingRulesModel" "pieceMany" "I", Cond.fieldLink RX7 171 "CuttingRulesModel" "cutMany" "I", Cond.fieldLink RX7 165 "CuttingRulesModel" "piled" "I", Cond.fieldLink RX7 7 "CuttingRulesModel" "wide" "I", Cond.fieldLink RX7 13 "CuttingRulesModel" "high" "I", Cond.fieldLink RX7 82 "CuttingRulesModel" "pile" "[I", Cond.methodLink RX7 174 yX7_lay, Cond.instanceMethod yX7_lay, Cond.selects RX7 yX7_lay yX7_lay, Cond.initialized RX7, Cond.code yX7_lay cX7_lay 6 none, Cond.methodLink RX7 178 yX7_layPart, Cond.instanceMethod yX7_layPart, Cond.selects RX7 yX7_layPart yX7_layPart, Cond.code yX7_layPart cX7_layPart 10 none, Cond.fieldLink RX7 49 "CuttingRulesModel" "worths" "[I", Cond.fieldLink RX7 116 "CuttingRulesModel" "kerf" "I", Cond.fieldLink RX7 64 "CuttingRulesModel" "cutStage" "[I", Cond.fieldLink RX7 67 "CuttingRulesModel" "cutAt" "[I", Cond.fieldLink RX7 70 "CuttingRulesModel" "cutX" "[I", Cond.fieldLink RX7 73 "CuttingRulesModel" "cutY" "[I", Cond.fieldLink RX7 76 "CuttingRulesModel" "cutW" "[I", Cond.fieldLink RX7 79 "CuttingRulesModel" "cutH" "[I", Cond.methodLink RX7 146 yX7_at]
def wsX7_layPlan_r2 : List Cond := [Cond.instanceMethod yX7_at, Cond.selects RX7 yX7_at yX7_at, Cond.code yX7_at cX7_at 6 (some .int), Cond.fieldLink RX7 45 "CuttingRulesModel" "spanAt" "[I", Cond.methodLink RX7 181 yX7_isPiece, Cond.instanceMethod yX7_isPiece, Cond.selects RX7 yX7_isPiece yX7_isPiece, Cond.code yX7_isPiece cX7_isPiece 8 (some .boolean), Cond.fieldLink RX7 133 "CuttingRulesModel" "kinds" "I", Cond.fieldLink RX7 38 "CuttingRulesModel" "kindValue" "[I", Cond.fieldLink RX7 52 "CuttingRulesModel" "pieceKind" "[I", Cond.fieldLink RX7 55 "CuttingRulesModel" "pieceX" "[I", Cond.fieldLink RX7 58 "CuttingRulesModel" "pieceY" "[I", Cond.fieldLink RX7 61 "CuttingRulesModel" "pieceTurned" "[I", Cond.methodLink RX7 139 yX7_isSpoiled, Cond.instanceMethod yX7_isSpoiled, Cond.selects RX7 yX7_isSpoiled yX7_isSpoiled, Cond.code yX7_isSpoiled cX7_isSpoiled 8 (some .boolean), Cond.fieldLink RX7 122 "CuttingRulesModel" "defects" "I", Cond.fieldLink RX7 19 "CuttingRulesModel" "defectX" "[I", Cond.fieldLink RX7 26 "CuttingRulesModel" "defectW" "[I", Cond.fieldLink RX7 23 "CuttingRulesModel" "defectY" "[I", Cond.fieldLink RX7 29 "CuttingRulesModel" "defectH" "[I", Cond.methodLink RX7 136 yX7_isLike]
def wsX7_layPlan_r3 : List Cond := [Cond.instanceMethod yX7_isLike, Cond.selects RX7 yX7_isLike yX7_isLike, Cond.code yX7_isLike cX7_isLike 5 (some .boolean), Cond.fieldLink RX7 32 "CuttingRulesModel" "kindW" "[I", Cond.fieldLink RX7 35 "CuttingRulesModel" "kindH" "[I", Cond.fieldLink RX7 41 "CuttingRulesModel" "kindTurns" "[Z", Cond.methodLink RX7 142 yX7_wayOf, Cond.instanceMethod yX7_wayOf, Cond.selects RX7 yX7_wayOf yX7_wayOf, Cond.code yX7_wayOf cX7_wayOf 2 (some .int), Cond.fieldLink RX7 119 "CuttingRulesModel" "firstWay" "I", Cond.methodLink RX7 161 yX7_both, Cond.instanceMethod yX7_both, Cond.selects RX7 yX7_both yX7_both, Cond.code yX7_both cX7_both 7 (some .int)]
def wsX7_layPlan : List Cond := .code yX7_layPlan cX7_layPlan 1 none :: ((wsX7_layPlan_r1 ++ (wsX7_layPlan_r2 ++ wsX7_layPlan_r3)) ++ wsX70)
def wsX7_work_r1 : List Cond := [Cond.fieldLink RX7 125 "CuttingRulesModel" "isWorked" "Z", Cond.fieldLink RX7 7 "CuttingRulesModel" "wide" "I", Cond.fieldLink RX7 13 "CuttingRulesModel" "high" "I", Cond.methodLink RX7 150 yX7_workPart, Cond.instanceMethod yX7_workPart, Cond.selects RX7 yX7_workPart yX7_workPart, Cond.initialized RX7, Cond.code yX7_workPart cX7_workPart 11 none, Cond.fieldLink RX7 16 "CuttingRulesModel" "stages" "I", Cond.fieldLink RX7 116 "CuttingRulesModel" "kerf" "I", Cond.fieldLink RX7 49 "CuttingRulesModel" "worths" "[I", Cond.methodLink RX7 157 yX7_bestPiece, Cond.instanceMethod yX7_bestPiece, Cond.selects RX7 yX7_bestPiece yX7_bestPiece, Cond.code yX7_bestPiece cX7_bestPiece 7 (some .int), Cond.fieldLink RX7 133 "CuttingRulesModel" "kinds" "I", Cond.fieldLink RX7 38 "CuttingRulesModel" "kindValue" "[I", Cond.methodLink RX7 136 yX7_isLike, Cond.instanceMethod yX7_isLike, Cond.selects RX7 yX7_isLike yX7_isLike, Cond.code yX7_isLike cX7_isLike 5 (some .boolean), Cond.fieldLink RX7 32 "CuttingRulesModel" "kindW" "[I", Cond.fieldLink RX7 35 "CuttingRulesModel" "kindH" "[I", Cond.fieldLink RX7 41 "CuttingRulesModel" "kindTurns" "[Z"]
def wsX7_work_r2 : List Cond := [Cond.methodLink RX7 139 yX7_isSpoiled, Cond.instanceMethod yX7_isSpoiled, Cond.selects RX7 yX7_isSpoiled yX7_isSpoiled, Cond.code yX7_isSpoiled cX7_isSpoiled 8 (some .boolean), Cond.fieldLink RX7 122 "CuttingRulesModel" "defects" "I", Cond.fieldLink RX7 19 "CuttingRulesModel" "defectX" "[I", Cond.fieldLink RX7 26 "CuttingRulesModel" "defectW" "[I", Cond.fieldLink RX7 23 "CuttingRulesModel" "defectY" "[I", Cond.fieldLink RX7 29 "CuttingRulesModel" "defectH" "[I", Cond.methodLink RX7 142 yX7_wayOf, Cond.instanceMethod yX7_wayOf, Cond.selects RX7 yX7_wayOf yX7_wayOf, Cond.code yX7_wayOf cX7_wayOf 2 (some .int), Cond.fieldLink RX7 119 "CuttingRulesModel" "firstWay" "I", Cond.methodLink RX7 161 yX7_both, Cond.instanceMethod yX7_both, Cond.selects RX7 yX7_both yX7_both, Cond.code yX7_both cX7_both 7 (some .int), Cond.methodLink RX7 146 yX7_at, Cond.instanceMethod yX7_at, Cond.selects RX7 yX7_at yX7_at, Cond.code yX7_at cX7_at 6 (some .int), Cond.fieldLink RX7 45 "CuttingRulesModel" "spanAt" "[I", Cond.methodLink RX7 154 yX7_layPlan]
def wsX7_work_r3 : List Cond := [Cond.instanceMethod yX7_layPlan, Cond.selects RX7 yX7_layPlan yX7_layPlan, Cond.code yX7_layPlan cX7_layPlan 1 none, Cond.fieldLink RX7 168 "CuttingRulesModel" "pieceMany" "I", Cond.fieldLink RX7 171 "CuttingRulesModel" "cutMany" "I", Cond.fieldLink RX7 165 "CuttingRulesModel" "piled" "I", Cond.fieldLink RX7 82 "CuttingRulesModel" "pile" "[I", Cond.methodLink RX7 174 yX7_lay, Cond.instanceMethod yX7_lay, Cond.selects RX7 yX7_lay yX7_lay, Cond.code yX7_lay cX7_lay 6 none, Cond.methodLink RX7 178 yX7_layPart, Cond.instanceMethod yX7_layPart, Cond.selects RX7 yX7_layPart yX7_layPart, Cond.code yX7_layPart cX7_layPart 10 none, Cond.fieldLink RX7 64 "CuttingRulesModel" "cutStage" "[I", Cond.fieldLink RX7 67 "CuttingRulesModel" "cutAt" "[I", Cond.fieldLink RX7 70 "CuttingRulesModel" "cutX" "[I", Cond.fieldLink RX7 73 "CuttingRulesModel" "cutY" "[I", Cond.fieldLink RX7 76 "CuttingRulesModel" "cutW" "[I", Cond.fieldLink RX7 79 "CuttingRulesModel" "cutH" "[I", Cond.methodLink RX7 181 yX7_isPiece, Cond.instanceMethod yX7_isPiece, Cond.selects RX7 yX7_isPiece yX7_isPiece]
def wsX7_work_r4 : List Cond := [Cond.code yX7_isPiece cX7_isPiece 8 (some .boolean), Cond.fieldLink RX7 52 "CuttingRulesModel" "pieceKind" "[I", Cond.fieldLink RX7 55 "CuttingRulesModel" "pieceX" "[I", Cond.fieldLink RX7 58 "CuttingRulesModel" "pieceY" "[I", Cond.fieldLink RX7 61 "CuttingRulesModel" "pieceTurned" "[I"]
def wsX7_work : List Cond := .code yX7_work cX7_work 5 none :: ((wsX7_work_r1 ++ (wsX7_work_r2 ++ (wsX7_work_r3 ++ wsX7_work_r4))) ++ wsX70)
def wsX7_worth_r1 : List Cond := [Cond.fieldLink RX7 16 "CuttingRulesModel" "stages" "I", Cond.fieldLink RX7 49 "CuttingRulesModel" "worths" "[I", Cond.methodLink RX7 129 yX7_lies, Cond.instanceMethod yX7_lies, Cond.selects RX7 yX7_lies yX7_lies, Cond.initialized RX7, Cond.code yX7_lies cX7_lies 5 (some .boolean), Cond.fieldLink RX7 7 "CuttingRulesModel" "wide" "I", Cond.fieldLink RX7 13 "CuttingRulesModel" "high" "I", Cond.methodLink RX7 112 yX7_within, Cond.static yX7_within, Cond.code yX7_within cX7_within 3 (some .boolean), Cond.methodLink RX7 185 yX7_work, Cond.instanceMethod yX7_work, Cond.selects RX7 yX7_work yX7_work, Cond.code yX7_work cX7_work 5 none, Cond.fieldLink RX7 125 "CuttingRulesModel" "isWorked" "Z", Cond.methodLink RX7 150 yX7_workPart, Cond.instanceMethod yX7_workPart, Cond.selects RX7 yX7_workPart yX7_workPart, Cond.code yX7_workPart cX7_workPart 11 none, Cond.fieldLink RX7 116 "CuttingRulesModel" "kerf" "I", Cond.methodLink RX7 157 yX7_bestPiece, Cond.instanceMethod yX7_bestPiece]
def wsX7_worth_r2 : List Cond := [Cond.selects RX7 yX7_bestPiece yX7_bestPiece, Cond.code yX7_bestPiece cX7_bestPiece 7 (some .int), Cond.fieldLink RX7 133 "CuttingRulesModel" "kinds" "I", Cond.fieldLink RX7 38 "CuttingRulesModel" "kindValue" "[I", Cond.methodLink RX7 136 yX7_isLike, Cond.instanceMethod yX7_isLike, Cond.selects RX7 yX7_isLike yX7_isLike, Cond.code yX7_isLike cX7_isLike 5 (some .boolean), Cond.fieldLink RX7 32 "CuttingRulesModel" "kindW" "[I", Cond.fieldLink RX7 35 "CuttingRulesModel" "kindH" "[I", Cond.fieldLink RX7 41 "CuttingRulesModel" "kindTurns" "[Z", Cond.methodLink RX7 139 yX7_isSpoiled, Cond.instanceMethod yX7_isSpoiled, Cond.selects RX7 yX7_isSpoiled yX7_isSpoiled, Cond.code yX7_isSpoiled cX7_isSpoiled 8 (some .boolean), Cond.fieldLink RX7 122 "CuttingRulesModel" "defects" "I", Cond.fieldLink RX7 19 "CuttingRulesModel" "defectX" "[I", Cond.fieldLink RX7 26 "CuttingRulesModel" "defectW" "[I", Cond.fieldLink RX7 23 "CuttingRulesModel" "defectY" "[I", Cond.fieldLink RX7 29 "CuttingRulesModel" "defectH" "[I", Cond.methodLink RX7 142 yX7_wayOf, Cond.instanceMethod yX7_wayOf, Cond.selects RX7 yX7_wayOf yX7_wayOf, Cond.code yX7_wayOf cX7_wayOf 2 (some .int)]
def wsX7_worth_r3 : List Cond := [Cond.fieldLink RX7 119 "CuttingRulesModel" "firstWay" "I", Cond.methodLink RX7 161 yX7_both, Cond.instanceMethod yX7_both, Cond.selects RX7 yX7_both yX7_both, Cond.code yX7_both cX7_both 7 (some .int), Cond.methodLink RX7 146 yX7_at, Cond.instanceMethod yX7_at, Cond.selects RX7 yX7_at yX7_at, Cond.code yX7_at cX7_at 6 (some .int), Cond.fieldLink RX7 45 "CuttingRulesModel" "spanAt" "[I", Cond.methodLink RX7 154 yX7_layPlan, Cond.instanceMethod yX7_layPlan, Cond.selects RX7 yX7_layPlan yX7_layPlan, Cond.code yX7_layPlan cX7_layPlan 1 none, Cond.fieldLink RX7 168 "CuttingRulesModel" "pieceMany" "I", Cond.fieldLink RX7 171 "CuttingRulesModel" "cutMany" "I", Cond.fieldLink RX7 165 "CuttingRulesModel" "piled" "I", Cond.fieldLink RX7 82 "CuttingRulesModel" "pile" "[I", Cond.methodLink RX7 174 yX7_lay, Cond.instanceMethod yX7_lay, Cond.selects RX7 yX7_lay yX7_lay, Cond.code yX7_lay cX7_lay 6 none, Cond.methodLink RX7 178 yX7_layPart, Cond.instanceMethod yX7_layPart]
def wsX7_worth_r4 : List Cond := [Cond.selects RX7 yX7_layPart yX7_layPart, Cond.code yX7_layPart cX7_layPart 10 none, Cond.fieldLink RX7 64 "CuttingRulesModel" "cutStage" "[I", Cond.fieldLink RX7 67 "CuttingRulesModel" "cutAt" "[I", Cond.fieldLink RX7 70 "CuttingRulesModel" "cutX" "[I", Cond.fieldLink RX7 73 "CuttingRulesModel" "cutY" "[I", Cond.fieldLink RX7 76 "CuttingRulesModel" "cutW" "[I", Cond.fieldLink RX7 79 "CuttingRulesModel" "cutH" "[I", Cond.methodLink RX7 181 yX7_isPiece, Cond.instanceMethod yX7_isPiece, Cond.selects RX7 yX7_isPiece yX7_isPiece, Cond.code yX7_isPiece cX7_isPiece 8 (some .boolean), Cond.fieldLink RX7 52 "CuttingRulesModel" "pieceKind" "[I", Cond.fieldLink RX7 55 "CuttingRulesModel" "pieceX" "[I", Cond.fieldLink RX7 58 "CuttingRulesModel" "pieceY" "[I", Cond.fieldLink RX7 61 "CuttingRulesModel" "pieceTurned" "[I"]
def wsX7_worth : List Cond := .code yX7_worth cX7_worth 6 (some .int) :: ((wsX7_worth_r1 ++ (wsX7_worth_r2 ++ (wsX7_worth_r3 ++ wsX7_worth_r4))) ++ wsX70)
def wsX7_pieces_r1 : List Cond := [Cond.fieldLink RX7 168 "CuttingRulesModel" "pieceMany" "I", Cond.methodLink RX7 185 yX7_work, Cond.instanceMethod yX7_work, Cond.selects RX7 yX7_work yX7_work, Cond.initialized RX7, Cond.code yX7_work cX7_work 5 none, Cond.fieldLink RX7 125 "CuttingRulesModel" "isWorked" "Z", Cond.fieldLink RX7 7 "CuttingRulesModel" "wide" "I", Cond.fieldLink RX7 13 "CuttingRulesModel" "high" "I", Cond.methodLink RX7 150 yX7_workPart, Cond.instanceMethod yX7_workPart, Cond.selects RX7 yX7_workPart yX7_workPart, Cond.code yX7_workPart cX7_workPart 11 none, Cond.fieldLink RX7 16 "CuttingRulesModel" "stages" "I", Cond.fieldLink RX7 116 "CuttingRulesModel" "kerf" "I", Cond.fieldLink RX7 49 "CuttingRulesModel" "worths" "[I", Cond.methodLink RX7 157 yX7_bestPiece, Cond.instanceMethod yX7_bestPiece, Cond.selects RX7 yX7_bestPiece yX7_bestPiece, Cond.code yX7_bestPiece cX7_bestPiece 7 (some .int), Cond.fieldLink RX7 133 "CuttingRulesModel" "kinds" "I", Cond.fieldLink RX7 38 "CuttingRulesModel" "kindValue" "[I", Cond.methodLink RX7 136 yX7_isLike, Cond.instanceMethod yX7_isLike]
def wsX7_pieces_r2 : List Cond := [Cond.selects RX7 yX7_isLike yX7_isLike, Cond.code yX7_isLike cX7_isLike 5 (some .boolean), Cond.fieldLink RX7 32 "CuttingRulesModel" "kindW" "[I", Cond.fieldLink RX7 35 "CuttingRulesModel" "kindH" "[I", Cond.fieldLink RX7 41 "CuttingRulesModel" "kindTurns" "[Z", Cond.methodLink RX7 139 yX7_isSpoiled, Cond.instanceMethod yX7_isSpoiled, Cond.selects RX7 yX7_isSpoiled yX7_isSpoiled, Cond.code yX7_isSpoiled cX7_isSpoiled 8 (some .boolean), Cond.fieldLink RX7 122 "CuttingRulesModel" "defects" "I", Cond.fieldLink RX7 19 "CuttingRulesModel" "defectX" "[I", Cond.fieldLink RX7 26 "CuttingRulesModel" "defectW" "[I", Cond.fieldLink RX7 23 "CuttingRulesModel" "defectY" "[I", Cond.fieldLink RX7 29 "CuttingRulesModel" "defectH" "[I", Cond.methodLink RX7 142 yX7_wayOf, Cond.instanceMethod yX7_wayOf, Cond.selects RX7 yX7_wayOf yX7_wayOf, Cond.code yX7_wayOf cX7_wayOf 2 (some .int), Cond.fieldLink RX7 119 "CuttingRulesModel" "firstWay" "I", Cond.methodLink RX7 161 yX7_both, Cond.instanceMethod yX7_both, Cond.selects RX7 yX7_both yX7_both, Cond.code yX7_both cX7_both 7 (some .int), Cond.methodLink RX7 146 yX7_at]
def wsX7_pieces_r3 : List Cond := [Cond.instanceMethod yX7_at, Cond.selects RX7 yX7_at yX7_at, Cond.code yX7_at cX7_at 6 (some .int), Cond.fieldLink RX7 45 "CuttingRulesModel" "spanAt" "[I", Cond.methodLink RX7 154 yX7_layPlan, Cond.instanceMethod yX7_layPlan, Cond.selects RX7 yX7_layPlan yX7_layPlan, Cond.code yX7_layPlan cX7_layPlan 1 none, Cond.fieldLink RX7 171 "CuttingRulesModel" "cutMany" "I", Cond.fieldLink RX7 165 "CuttingRulesModel" "piled" "I", Cond.fieldLink RX7 82 "CuttingRulesModel" "pile" "[I", Cond.methodLink RX7 174 yX7_lay, Cond.instanceMethod yX7_lay, Cond.selects RX7 yX7_lay yX7_lay, Cond.code yX7_lay cX7_lay 6 none, Cond.methodLink RX7 178 yX7_layPart, Cond.instanceMethod yX7_layPart, Cond.selects RX7 yX7_layPart yX7_layPart, Cond.code yX7_layPart cX7_layPart 10 none, Cond.fieldLink RX7 64 "CuttingRulesModel" "cutStage" "[I", Cond.fieldLink RX7 67 "CuttingRulesModel" "cutAt" "[I", Cond.fieldLink RX7 70 "CuttingRulesModel" "cutX" "[I", Cond.fieldLink RX7 73 "CuttingRulesModel" "cutY" "[I", Cond.fieldLink RX7 76 "CuttingRulesModel" "cutW" "[I"]
def wsX7_pieces_r4 : List Cond := [Cond.fieldLink RX7 79 "CuttingRulesModel" "cutH" "[I", Cond.methodLink RX7 181 yX7_isPiece, Cond.instanceMethod yX7_isPiece, Cond.selects RX7 yX7_isPiece yX7_isPiece, Cond.code yX7_isPiece cX7_isPiece 8 (some .boolean), Cond.fieldLink RX7 52 "CuttingRulesModel" "pieceKind" "[I", Cond.fieldLink RX7 55 "CuttingRulesModel" "pieceX" "[I", Cond.fieldLink RX7 58 "CuttingRulesModel" "pieceY" "[I", Cond.fieldLink RX7 61 "CuttingRulesModel" "pieceTurned" "[I"]
def wsX7_pieces : List Cond := .code yX7_pieces cX7_pieces 1 (some .int) :: ((wsX7_pieces_r1 ++ (wsX7_pieces_r2 ++ (wsX7_pieces_r3 ++ wsX7_pieces_r4))) ++ wsX70)
def wsX7_pieceSide : List Cond := .code yX7_pieceSide cX7_pieceSide 4 (some .int) :: ([.fieldLink RX7 52 "CuttingRulesModel" "pieceKind" "[I", .fieldLink RX7 61 "CuttingRulesModel" "pieceTurned" "[I", .fieldLink RX7 32 "CuttingRulesModel" "kindW" "[I", .fieldLink RX7 35 "CuttingRulesModel" "kindH" "[I"] ++ wsX70)
def wsX7_piece_r1 : List Cond := [Cond.fieldLink RX7 168 "CuttingRulesModel" "pieceMany" "I", Cond.fieldLink RX7 52 "CuttingRulesModel" "pieceKind" "[I", Cond.fieldLink RX7 55 "CuttingRulesModel" "pieceX" "[I", Cond.fieldLink RX7 58 "CuttingRulesModel" "pieceY" "[I", Cond.fieldLink RX7 61 "CuttingRulesModel" "pieceTurned" "[I", Cond.methodLink RX7 112 yX7_within, Cond.static yX7_within, Cond.initialized RX7, Cond.code yX7_within cX7_within 3 (some .boolean), Cond.methodLink RX7 185 yX7_work, Cond.instanceMethod yX7_work, Cond.selects RX7 yX7_work yX7_work, Cond.code yX7_work cX7_work 5 none, Cond.fieldLink RX7 125 "CuttingRulesModel" "isWorked" "Z", Cond.fieldLink RX7 7 "CuttingRulesModel" "wide" "I", Cond.fieldLink RX7 13 "CuttingRulesModel" "high" "I", Cond.methodLink RX7 150 yX7_workPart, Cond.instanceMethod yX7_workPart, Cond.selects RX7 yX7_workPart yX7_workPart, Cond.code yX7_workPart cX7_workPart 11 none, Cond.fieldLink RX7 16 "CuttingRulesModel" "stages" "I", Cond.fieldLink RX7 116 "CuttingRulesModel" "kerf" "I", Cond.fieldLink RX7 49 "CuttingRulesModel" "worths" "[I", Cond.methodLink RX7 157 yX7_bestPiece]
def wsX7_piece_r2 : List Cond := [Cond.instanceMethod yX7_bestPiece, Cond.selects RX7 yX7_bestPiece yX7_bestPiece, Cond.code yX7_bestPiece cX7_bestPiece 7 (some .int), Cond.fieldLink RX7 133 "CuttingRulesModel" "kinds" "I", Cond.fieldLink RX7 38 "CuttingRulesModel" "kindValue" "[I", Cond.methodLink RX7 136 yX7_isLike, Cond.instanceMethod yX7_isLike, Cond.selects RX7 yX7_isLike yX7_isLike, Cond.code yX7_isLike cX7_isLike 5 (some .boolean), Cond.fieldLink RX7 32 "CuttingRulesModel" "kindW" "[I", Cond.fieldLink RX7 35 "CuttingRulesModel" "kindH" "[I", Cond.fieldLink RX7 41 "CuttingRulesModel" "kindTurns" "[Z", Cond.methodLink RX7 139 yX7_isSpoiled, Cond.instanceMethod yX7_isSpoiled, Cond.selects RX7 yX7_isSpoiled yX7_isSpoiled, Cond.code yX7_isSpoiled cX7_isSpoiled 8 (some .boolean), Cond.fieldLink RX7 122 "CuttingRulesModel" "defects" "I", Cond.fieldLink RX7 19 "CuttingRulesModel" "defectX" "[I", Cond.fieldLink RX7 26 "CuttingRulesModel" "defectW" "[I", Cond.fieldLink RX7 23 "CuttingRulesModel" "defectY" "[I", Cond.fieldLink RX7 29 "CuttingRulesModel" "defectH" "[I", Cond.methodLink RX7 142 yX7_wayOf, Cond.instanceMethod yX7_wayOf, Cond.selects RX7 yX7_wayOf yX7_wayOf]
def wsX7_piece_r3 : List Cond := [Cond.code yX7_wayOf cX7_wayOf 2 (some .int), Cond.fieldLink RX7 119 "CuttingRulesModel" "firstWay" "I", Cond.methodLink RX7 161 yX7_both, Cond.instanceMethod yX7_both, Cond.selects RX7 yX7_both yX7_both, Cond.code yX7_both cX7_both 7 (some .int), Cond.methodLink RX7 146 yX7_at, Cond.instanceMethod yX7_at, Cond.selects RX7 yX7_at yX7_at, Cond.code yX7_at cX7_at 6 (some .int), Cond.fieldLink RX7 45 "CuttingRulesModel" "spanAt" "[I", Cond.methodLink RX7 154 yX7_layPlan, Cond.instanceMethod yX7_layPlan, Cond.selects RX7 yX7_layPlan yX7_layPlan, Cond.code yX7_layPlan cX7_layPlan 1 none, Cond.fieldLink RX7 171 "CuttingRulesModel" "cutMany" "I", Cond.fieldLink RX7 165 "CuttingRulesModel" "piled" "I", Cond.fieldLink RX7 82 "CuttingRulesModel" "pile" "[I", Cond.methodLink RX7 174 yX7_lay, Cond.instanceMethod yX7_lay, Cond.selects RX7 yX7_lay yX7_lay, Cond.code yX7_lay cX7_lay 6 none, Cond.methodLink RX7 178 yX7_layPart, Cond.instanceMethod yX7_layPart]
def wsX7_piece_r4 : List Cond := [Cond.selects RX7 yX7_layPart yX7_layPart, Cond.code yX7_layPart cX7_layPart 10 none, Cond.fieldLink RX7 64 "CuttingRulesModel" "cutStage" "[I", Cond.fieldLink RX7 67 "CuttingRulesModel" "cutAt" "[I", Cond.fieldLink RX7 70 "CuttingRulesModel" "cutX" "[I", Cond.fieldLink RX7 73 "CuttingRulesModel" "cutY" "[I", Cond.fieldLink RX7 76 "CuttingRulesModel" "cutW" "[I", Cond.fieldLink RX7 79 "CuttingRulesModel" "cutH" "[I", Cond.methodLink RX7 181 yX7_isPiece, Cond.instanceMethod yX7_isPiece, Cond.selects RX7 yX7_isPiece yX7_isPiece, Cond.code yX7_isPiece cX7_isPiece 8 (some .boolean), Cond.methodLink RX7 188 yX7_pieceSide, Cond.instanceMethod yX7_pieceSide, Cond.selects RX7 yX7_pieceSide yX7_pieceSide, Cond.code yX7_pieceSide cX7_pieceSide 4 (some .int)]
def wsX7_piece : List Cond := .code yX7_piece cX7_piece 3 (some .int) :: ((wsX7_piece_r1 ++ (wsX7_piece_r2 ++ (wsX7_piece_r3 ++ wsX7_piece_r4))) ++ wsX70)
def wsX7_cuts_r1 : List Cond := [Cond.fieldLink RX7 171 "CuttingRulesModel" "cutMany" "I", Cond.methodLink RX7 185 yX7_work, Cond.instanceMethod yX7_work, Cond.selects RX7 yX7_work yX7_work, Cond.initialized RX7, Cond.code yX7_work cX7_work 5 none, Cond.fieldLink RX7 125 "CuttingRulesModel" "isWorked" "Z", Cond.fieldLink RX7 7 "CuttingRulesModel" "wide" "I", Cond.fieldLink RX7 13 "CuttingRulesModel" "high" "I", Cond.methodLink RX7 150 yX7_workPart, Cond.instanceMethod yX7_workPart, Cond.selects RX7 yX7_workPart yX7_workPart, Cond.code yX7_workPart cX7_workPart 11 none, Cond.fieldLink RX7 16 "CuttingRulesModel" "stages" "I", Cond.fieldLink RX7 116 "CuttingRulesModel" "kerf" "I", Cond.fieldLink RX7 49 "CuttingRulesModel" "worths" "[I", Cond.methodLink RX7 157 yX7_bestPiece, Cond.instanceMethod yX7_bestPiece, Cond.selects RX7 yX7_bestPiece yX7_bestPiece, Cond.code yX7_bestPiece cX7_bestPiece 7 (some .int), Cond.fieldLink RX7 133 "CuttingRulesModel" "kinds" "I", Cond.fieldLink RX7 38 "CuttingRulesModel" "kindValue" "[I", Cond.methodLink RX7 136 yX7_isLike, Cond.instanceMethod yX7_isLike]
def wsX7_cuts_r2 : List Cond := [Cond.selects RX7 yX7_isLike yX7_isLike, Cond.code yX7_isLike cX7_isLike 5 (some .boolean), Cond.fieldLink RX7 32 "CuttingRulesModel" "kindW" "[I", Cond.fieldLink RX7 35 "CuttingRulesModel" "kindH" "[I", Cond.fieldLink RX7 41 "CuttingRulesModel" "kindTurns" "[Z", Cond.methodLink RX7 139 yX7_isSpoiled, Cond.instanceMethod yX7_isSpoiled, Cond.selects RX7 yX7_isSpoiled yX7_isSpoiled, Cond.code yX7_isSpoiled cX7_isSpoiled 8 (some .boolean), Cond.fieldLink RX7 122 "CuttingRulesModel" "defects" "I", Cond.fieldLink RX7 19 "CuttingRulesModel" "defectX" "[I", Cond.fieldLink RX7 26 "CuttingRulesModel" "defectW" "[I", Cond.fieldLink RX7 23 "CuttingRulesModel" "defectY" "[I", Cond.fieldLink RX7 29 "CuttingRulesModel" "defectH" "[I", Cond.methodLink RX7 142 yX7_wayOf, Cond.instanceMethod yX7_wayOf, Cond.selects RX7 yX7_wayOf yX7_wayOf, Cond.code yX7_wayOf cX7_wayOf 2 (some .int), Cond.fieldLink RX7 119 "CuttingRulesModel" "firstWay" "I", Cond.methodLink RX7 161 yX7_both, Cond.instanceMethod yX7_both, Cond.selects RX7 yX7_both yX7_both, Cond.code yX7_both cX7_both 7 (some .int), Cond.methodLink RX7 146 yX7_at]
def wsX7_cuts_r3 : List Cond := [Cond.instanceMethod yX7_at, Cond.selects RX7 yX7_at yX7_at, Cond.code yX7_at cX7_at 6 (some .int), Cond.fieldLink RX7 45 "CuttingRulesModel" "spanAt" "[I", Cond.methodLink RX7 154 yX7_layPlan, Cond.instanceMethod yX7_layPlan, Cond.selects RX7 yX7_layPlan yX7_layPlan, Cond.code yX7_layPlan cX7_layPlan 1 none, Cond.fieldLink RX7 168 "CuttingRulesModel" "pieceMany" "I", Cond.fieldLink RX7 165 "CuttingRulesModel" "piled" "I", Cond.fieldLink RX7 82 "CuttingRulesModel" "pile" "[I", Cond.methodLink RX7 174 yX7_lay, Cond.instanceMethod yX7_lay, Cond.selects RX7 yX7_lay yX7_lay, Cond.code yX7_lay cX7_lay 6 none, Cond.methodLink RX7 178 yX7_layPart, Cond.instanceMethod yX7_layPart, Cond.selects RX7 yX7_layPart yX7_layPart, Cond.code yX7_layPart cX7_layPart 10 none, Cond.fieldLink RX7 64 "CuttingRulesModel" "cutStage" "[I", Cond.fieldLink RX7 67 "CuttingRulesModel" "cutAt" "[I", Cond.fieldLink RX7 70 "CuttingRulesModel" "cutX" "[I", Cond.fieldLink RX7 73 "CuttingRulesModel" "cutY" "[I", Cond.fieldLink RX7 76 "CuttingRulesModel" "cutW" "[I"]
def wsX7_cuts_r4 : List Cond := [Cond.fieldLink RX7 79 "CuttingRulesModel" "cutH" "[I", Cond.methodLink RX7 181 yX7_isPiece, Cond.instanceMethod yX7_isPiece, Cond.selects RX7 yX7_isPiece yX7_isPiece, Cond.code yX7_isPiece cX7_isPiece 8 (some .boolean), Cond.fieldLink RX7 52 "CuttingRulesModel" "pieceKind" "[I", Cond.fieldLink RX7 55 "CuttingRulesModel" "pieceX" "[I", Cond.fieldLink RX7 58 "CuttingRulesModel" "pieceY" "[I", Cond.fieldLink RX7 61 "CuttingRulesModel" "pieceTurned" "[I"]
def wsX7_cuts : List Cond := .code yX7_cuts cX7_cuts 1 (some .int) :: ((wsX7_cuts_r1 ++ (wsX7_cuts_r2 ++ (wsX7_cuts_r3 ++ wsX7_cuts_r4))) ++ wsX70)
def wsX7_cut_r1 : List Cond := [Cond.fieldLink RX7 171 "CuttingRulesModel" "cutMany" "I", Cond.fieldLink RX7 64 "CuttingRulesModel" "cutStage" "[I", Cond.fieldLink RX7 67 "CuttingRulesModel" "cutAt" "[I", Cond.fieldLink RX7 70 "CuttingRulesModel" "cutX" "[I", Cond.fieldLink RX7 73 "CuttingRulesModel" "cutY" "[I", Cond.fieldLink RX7 76 "CuttingRulesModel" "cutW" "[I", Cond.fieldLink RX7 79 "CuttingRulesModel" "cutH" "[I", Cond.methodLink RX7 112 yX7_within, Cond.static yX7_within, Cond.initialized RX7, Cond.code yX7_within cX7_within 3 (some .boolean), Cond.methodLink RX7 185 yX7_work, Cond.instanceMethod yX7_work, Cond.selects RX7 yX7_work yX7_work, Cond.code yX7_work cX7_work 5 none, Cond.fieldLink RX7 125 "CuttingRulesModel" "isWorked" "Z", Cond.fieldLink RX7 7 "CuttingRulesModel" "wide" "I", Cond.fieldLink RX7 13 "CuttingRulesModel" "high" "I", Cond.methodLink RX7 150 yX7_workPart, Cond.instanceMethod yX7_workPart, Cond.selects RX7 yX7_workPart yX7_workPart, Cond.code yX7_workPart cX7_workPart 11 none, Cond.fieldLink RX7 16 "CuttingRulesModel" "stages" "I", Cond.fieldLink RX7 116 "CuttingRulesModel" "kerf" "I"]
def wsX7_cut_r2 : List Cond := [Cond.fieldLink RX7 49 "CuttingRulesModel" "worths" "[I", Cond.methodLink RX7 157 yX7_bestPiece, Cond.instanceMethod yX7_bestPiece, Cond.selects RX7 yX7_bestPiece yX7_bestPiece, Cond.code yX7_bestPiece cX7_bestPiece 7 (some .int), Cond.fieldLink RX7 133 "CuttingRulesModel" "kinds" "I", Cond.fieldLink RX7 38 "CuttingRulesModel" "kindValue" "[I", Cond.methodLink RX7 136 yX7_isLike, Cond.instanceMethod yX7_isLike, Cond.selects RX7 yX7_isLike yX7_isLike, Cond.code yX7_isLike cX7_isLike 5 (some .boolean), Cond.fieldLink RX7 32 "CuttingRulesModel" "kindW" "[I", Cond.fieldLink RX7 35 "CuttingRulesModel" "kindH" "[I", Cond.fieldLink RX7 41 "CuttingRulesModel" "kindTurns" "[Z", Cond.methodLink RX7 139 yX7_isSpoiled, Cond.instanceMethod yX7_isSpoiled, Cond.selects RX7 yX7_isSpoiled yX7_isSpoiled, Cond.code yX7_isSpoiled cX7_isSpoiled 8 (some .boolean), Cond.fieldLink RX7 122 "CuttingRulesModel" "defects" "I", Cond.fieldLink RX7 19 "CuttingRulesModel" "defectX" "[I", Cond.fieldLink RX7 26 "CuttingRulesModel" "defectW" "[I", Cond.fieldLink RX7 23 "CuttingRulesModel" "defectY" "[I", Cond.fieldLink RX7 29 "CuttingRulesModel" "defectH" "[I", Cond.methodLink RX7 142 yX7_wayOf]
def wsX7_cut_r3 : List Cond := [Cond.instanceMethod yX7_wayOf, Cond.selects RX7 yX7_wayOf yX7_wayOf, Cond.code yX7_wayOf cX7_wayOf 2 (some .int), Cond.fieldLink RX7 119 "CuttingRulesModel" "firstWay" "I", Cond.methodLink RX7 161 yX7_both, Cond.instanceMethod yX7_both, Cond.selects RX7 yX7_both yX7_both, Cond.code yX7_both cX7_both 7 (some .int), Cond.methodLink RX7 146 yX7_at, Cond.instanceMethod yX7_at, Cond.selects RX7 yX7_at yX7_at, Cond.code yX7_at cX7_at 6 (some .int), Cond.fieldLink RX7 45 "CuttingRulesModel" "spanAt" "[I", Cond.methodLink RX7 154 yX7_layPlan, Cond.instanceMethod yX7_layPlan, Cond.selects RX7 yX7_layPlan yX7_layPlan, Cond.code yX7_layPlan cX7_layPlan 1 none, Cond.fieldLink RX7 168 "CuttingRulesModel" "pieceMany" "I", Cond.fieldLink RX7 165 "CuttingRulesModel" "piled" "I", Cond.fieldLink RX7 82 "CuttingRulesModel" "pile" "[I", Cond.methodLink RX7 174 yX7_lay, Cond.instanceMethod yX7_lay, Cond.selects RX7 yX7_lay yX7_lay, Cond.code yX7_lay cX7_lay 6 none]
def wsX7_cut_r4 : List Cond := [Cond.methodLink RX7 178 yX7_layPart, Cond.instanceMethod yX7_layPart, Cond.selects RX7 yX7_layPart yX7_layPart, Cond.code yX7_layPart cX7_layPart 10 none, Cond.methodLink RX7 181 yX7_isPiece, Cond.instanceMethod yX7_isPiece, Cond.selects RX7 yX7_isPiece yX7_isPiece, Cond.code yX7_isPiece cX7_isPiece 8 (some .boolean), Cond.fieldLink RX7 52 "CuttingRulesModel" "pieceKind" "[I", Cond.fieldLink RX7 55 "CuttingRulesModel" "pieceX" "[I", Cond.fieldLink RX7 58 "CuttingRulesModel" "pieceY" "[I", Cond.fieldLink RX7 61 "CuttingRulesModel" "pieceTurned" "[I"]
def wsX7_cut : List Cond := .code yX7_cut cX7_cut 3 (some .int) :: ((wsX7_cut_r1 ++ (wsX7_cut_r2 ++ (wsX7_cut_r3 ++ wsX7_cut_r4))) ++ wsX70)
def wsX7_waste_r1 : List Cond := [Cond.fieldLink RX7 7 "CuttingRulesModel" "wide" "I", Cond.fieldLink RX7 13 "CuttingRulesModel" "high" "I", Cond.fieldLink RX7 168 "CuttingRulesModel" "pieceMany" "I", Cond.fieldLink RX7 32 "CuttingRulesModel" "kindW" "[I", Cond.fieldLink RX7 52 "CuttingRulesModel" "pieceKind" "[I", Cond.fieldLink RX7 35 "CuttingRulesModel" "kindH" "[I", Cond.methodLink RX7 185 yX7_work, Cond.instanceMethod yX7_work, Cond.selects RX7 yX7_work yX7_work, Cond.initialized RX7, Cond.code yX7_work cX7_work 5 none, Cond.fieldLink RX7 125 "CuttingRulesModel" "isWorked" "Z", Cond.methodLink RX7 150 yX7_workPart, Cond.instanceMethod yX7_workPart, Cond.selects RX7 yX7_workPart yX7_workPart, Cond.code yX7_workPart cX7_workPart 11 none, Cond.fieldLink RX7 16 "CuttingRulesModel" "stages" "I", Cond.fieldLink RX7 116 "CuttingRulesModel" "kerf" "I", Cond.fieldLink RX7 49 "CuttingRulesModel" "worths" "[I", Cond.methodLink RX7 157 yX7_bestPiece, Cond.instanceMethod yX7_bestPiece, Cond.selects RX7 yX7_bestPiece yX7_bestPiece, Cond.code yX7_bestPiece cX7_bestPiece 7 (some .int), Cond.fieldLink RX7 133 "CuttingRulesModel" "kinds" "I"]
def wsX7_waste_r2 : List Cond := [Cond.fieldLink RX7 38 "CuttingRulesModel" "kindValue" "[I", Cond.methodLink RX7 136 yX7_isLike, Cond.instanceMethod yX7_isLike, Cond.selects RX7 yX7_isLike yX7_isLike, Cond.code yX7_isLike cX7_isLike 5 (some .boolean), Cond.fieldLink RX7 41 "CuttingRulesModel" "kindTurns" "[Z", Cond.methodLink RX7 139 yX7_isSpoiled, Cond.instanceMethod yX7_isSpoiled, Cond.selects RX7 yX7_isSpoiled yX7_isSpoiled, Cond.code yX7_isSpoiled cX7_isSpoiled 8 (some .boolean), Cond.fieldLink RX7 122 "CuttingRulesModel" "defects" "I", Cond.fieldLink RX7 19 "CuttingRulesModel" "defectX" "[I", Cond.fieldLink RX7 26 "CuttingRulesModel" "defectW" "[I", Cond.fieldLink RX7 23 "CuttingRulesModel" "defectY" "[I", Cond.fieldLink RX7 29 "CuttingRulesModel" "defectH" "[I", Cond.methodLink RX7 142 yX7_wayOf, Cond.instanceMethod yX7_wayOf, Cond.selects RX7 yX7_wayOf yX7_wayOf, Cond.code yX7_wayOf cX7_wayOf 2 (some .int), Cond.fieldLink RX7 119 "CuttingRulesModel" "firstWay" "I", Cond.methodLink RX7 161 yX7_both, Cond.instanceMethod yX7_both, Cond.selects RX7 yX7_both yX7_both, Cond.code yX7_both cX7_both 7 (some .int)]
def wsX7_waste_r3 : List Cond := [Cond.methodLink RX7 146 yX7_at, Cond.instanceMethod yX7_at, Cond.selects RX7 yX7_at yX7_at, Cond.code yX7_at cX7_at 6 (some .int), Cond.fieldLink RX7 45 "CuttingRulesModel" "spanAt" "[I", Cond.methodLink RX7 154 yX7_layPlan, Cond.instanceMethod yX7_layPlan, Cond.selects RX7 yX7_layPlan yX7_layPlan, Cond.code yX7_layPlan cX7_layPlan 1 none, Cond.fieldLink RX7 171 "CuttingRulesModel" "cutMany" "I", Cond.fieldLink RX7 165 "CuttingRulesModel" "piled" "I", Cond.fieldLink RX7 82 "CuttingRulesModel" "pile" "[I", Cond.methodLink RX7 174 yX7_lay, Cond.instanceMethod yX7_lay, Cond.selects RX7 yX7_lay yX7_lay, Cond.code yX7_lay cX7_lay 6 none, Cond.methodLink RX7 178 yX7_layPart, Cond.instanceMethod yX7_layPart, Cond.selects RX7 yX7_layPart yX7_layPart, Cond.code yX7_layPart cX7_layPart 10 none, Cond.fieldLink RX7 64 "CuttingRulesModel" "cutStage" "[I", Cond.fieldLink RX7 67 "CuttingRulesModel" "cutAt" "[I", Cond.fieldLink RX7 70 "CuttingRulesModel" "cutX" "[I", Cond.fieldLink RX7 73 "CuttingRulesModel" "cutY" "[I"]
def wsX7_waste_r4 : List Cond := [Cond.fieldLink RX7 76 "CuttingRulesModel" "cutW" "[I", Cond.fieldLink RX7 79 "CuttingRulesModel" "cutH" "[I", Cond.methodLink RX7 181 yX7_isPiece, Cond.instanceMethod yX7_isPiece, Cond.selects RX7 yX7_isPiece yX7_isPiece, Cond.code yX7_isPiece cX7_isPiece 8 (some .boolean), Cond.fieldLink RX7 55 "CuttingRulesModel" "pieceX" "[I", Cond.fieldLink RX7 58 "CuttingRulesModel" "pieceY" "[I", Cond.fieldLink RX7 61 "CuttingRulesModel" "pieceTurned" "[I"]
def wsX7_waste : List Cond := .code yX7_waste cX7_waste 3 (some .int) :: ((wsX7_waste_r1 ++ (wsX7_waste_r2 ++ (wsX7_waste_r3 ++ wsX7_waste_r4))) ++ wsX70)
def wsX7_stock : List Cond := .code yX7_stock cX7_stock 3 (some .int) :: ([.fieldLink RX7 192 "CuttingRulesModel" "stocks" "I", .fieldLink RX7 85 "CuttingRulesModel" "stockLength" "[I", .fieldLink RX7 88 "CuttingRulesModel" "stockPrice" "[I", .fieldLink RX7 195 "CuttingRulesModel" "isListed" "Z", .methodLink RX7 112 yX7_within, .static yX7_within, .initialized RX7, .code yX7_within cX7_within 3 (some .boolean)] ++ wsX70)
def wsX7_order : List Cond := .code yX7_order cX7_order 3 (some .int) :: ([.fieldLink RX7 198 "CuttingRulesModel" "orders" "I", .fieldLink RX7 91 "CuttingRulesModel" "orderLength" "[I", .fieldLink RX7 94 "CuttingRulesModel" "orderDemand" "[I", .fieldLink RX7 195 "CuttingRulesModel" "isListed" "Z", .methodLink RX7 112 yX7_within, .static yX7_within, .initialized RX7, .code yX7_within cX7_within 3 (some .boolean)] ++ wsX70)
def wsX7_demand : List Cond := .code yX7_demand cX7_demand 4 (some .int) :: ([.fieldLink RX7 198 "CuttingRulesModel" "orders" "I", .fieldLink RX7 94 "CuttingRulesModel" "orderDemand" "[I", .fieldLink RX7 195 "CuttingRulesModel" "isListed" "Z", .methodLink RX7 112 yX7_within, .static yX7_within, .initialized RX7, .code yX7_within cX7_within 3 (some .boolean)] ++ wsX70)
def wsX7_blade : List Cond := .code yX7_blade cX7_blade 3 (some .int) :: ([.fieldLink RX7 201 "CuttingRulesModel" "blade" "I", .fieldLink RX7 195 "CuttingRulesModel" "isListed" "Z", .methodLink RX7 112 yX7_within, .static yX7_within, .initialized RX7, .code yX7_within cX7_within 3 (some .boolean)] ++ wsX70)
def wsX7_digit : List Cond := .code yX7_digit cX7_digit 4 (some .int) :: ([])
def wsX7_all : List Cond := .code yX7_all cX7_all 3 (some .int) :: ([.fieldLink RX7 198 "CuttingRulesModel" "orders" "I", .fieldLink RX7 94 "CuttingRulesModel" "orderDemand" "[I"] ++ wsX70)
def wsX7_isIn : List Cond := .code yX7_isIn cX7_isIn 4 (some .boolean) :: ([.methodLink RX7 204 yX7_digit, .static yX7_digit, .initialized RX7, .code yX7_digit cX7_digit 4 (some .int)])
def wsX7_findPattern : List Cond := .code yX7_findPattern cX7_findPattern 5 none :: ([.fieldLink RX7 201 "CuttingRulesModel" "blade" "I", .fieldLink RX7 198 "CuttingRulesModel" "orders" "I", .fieldLink RX7 91 "CuttingRulesModel" "orderLength" "[I", .fieldLink RX7 106 "CuttingRulesModel" "patternWants" "[I", .fieldLink RX7 192 "CuttingRulesModel" "stocks" "I", .fieldLink RX7 85 "CuttingRulesModel" "stockLength" "[I", .fieldLink RX7 88 "CuttingRulesModel" "stockPrice" "[I", .fieldLink RX7 103 "CuttingRulesModel" "patternStock" "[I", .methodLink RX7 204 yX7_digit, .static yX7_digit, .initialized RX7, .code yX7_digit cX7_digit 4 (some .int)] ++ wsX70)
def wsX7_reach : List Cond := .code yX7_reach cX7_reach 4 none :: ([.fieldLink RX7 97 "CuttingRulesModel" "prices" "[I", .fieldLink RX7 100 "CuttingRulesModel" "fewest" "[I"] ++ wsX70)
def wsX7_isBest : List Cond := .code yX7_isBest cX7_isBest 3 (some .boolean) :: ([.fieldLink RX7 103 "CuttingRulesModel" "patternStock" "[I", .fieldLink RX7 97 "CuttingRulesModel" "prices" "[I", .fieldLink RX7 88 "CuttingRulesModel" "stockPrice" "[I", .fieldLink RX7 100 "CuttingRulesModel" "fewest" "[I", .methodLink RX7 212 yX7_isIn, .static yX7_isIn, .initialized RX7, .code yX7_isIn cX7_isIn 4 (some .boolean), .methodLink RX7 204 yX7_digit, .static yX7_digit, .code yX7_digit cX7_digit 4 (some .int)] ++ wsX70)
def wsX7_list_r1 : List Cond := [Cond.fieldLink RX7 195 "CuttingRulesModel" "isListed" "Z", Cond.fieldLink RX7 97 "CuttingRulesModel" "prices" "[I", Cond.fieldLink RX7 100 "CuttingRulesModel" "fewest" "[I", Cond.fieldLink RX7 103 "CuttingRulesModel" "patternStock" "[I", Cond.fieldLink RX7 88 "CuttingRulesModel" "stockPrice" "[I", Cond.fieldLink RX7 224 "CuttingRulesModel" "isShort" "Z", Cond.fieldLink RX7 227 "CuttingRulesModel" "barMany" "I", Cond.fieldLink RX7 109 "CuttingRulesModel" "barPattern" "[I", Cond.methodLink RX7 208 yX7_all, Cond.instanceMethod yX7_all, Cond.selects RX7 yX7_all yX7_all, Cond.initialized RX7, Cond.code yX7_all cX7_all 3 (some .int), Cond.fieldLink RX7 198 "CuttingRulesModel" "orders" "I", Cond.fieldLink RX7 94 "CuttingRulesModel" "orderDemand" "[I", Cond.methodLink RX7 212 yX7_isIn, Cond.static yX7_isIn, Cond.code yX7_isIn cX7_isIn 4 (some .boolean), Cond.methodLink RX7 204 yX7_digit, Cond.static yX7_digit, Cond.code yX7_digit cX7_digit 4 (some .int), Cond.methodLink RX7 216 yX7_findPattern, Cond.instanceMethod yX7_findPattern, Cond.selects RX7 yX7_findPattern yX7_findPattern]
def wsX7_list_r2 : List Cond := [Cond.code yX7_findPattern cX7_findPattern 5 none, Cond.fieldLink RX7 201 "CuttingRulesModel" "blade" "I", Cond.fieldLink RX7 91 "CuttingRulesModel" "orderLength" "[I", Cond.fieldLink RX7 106 "CuttingRulesModel" "patternWants" "[I", Cond.fieldLink RX7 192 "CuttingRulesModel" "stocks" "I", Cond.fieldLink RX7 85 "CuttingRulesModel" "stockLength" "[I", Cond.methodLink RX7 220 yX7_reach, Cond.instanceMethod yX7_reach, Cond.selects RX7 yX7_reach yX7_reach, Cond.code yX7_reach cX7_reach 4 none, Cond.methodLink RX7 230 yX7_isBest, Cond.instanceMethod yX7_isBest, Cond.selects RX7 yX7_isBest yX7_isBest, Cond.code yX7_isBest cX7_isBest 3 (some .boolean)]
def wsX7_list : List Cond := .code yX7_list cX7_list 4 none :: ((wsX7_list_r1 ++ wsX7_list_r2) ++ wsX70)
def wsX7_price_r1 : List Cond := [Cond.fieldLink RX7 224 "CuttingRulesModel" "isShort" "Z", Cond.fieldLink RX7 97 "CuttingRulesModel" "prices" "[I", Cond.methodLink RX7 233 yX7_list, Cond.instanceMethod yX7_list, Cond.selects RX7 yX7_list yX7_list, Cond.initialized RX7, Cond.code yX7_list cX7_list 4 none, Cond.fieldLink RX7 195 "CuttingRulesModel" "isListed" "Z", Cond.fieldLink RX7 100 "CuttingRulesModel" "fewest" "[I", Cond.fieldLink RX7 103 "CuttingRulesModel" "patternStock" "[I", Cond.fieldLink RX7 88 "CuttingRulesModel" "stockPrice" "[I", Cond.fieldLink RX7 227 "CuttingRulesModel" "barMany" "I", Cond.fieldLink RX7 109 "CuttingRulesModel" "barPattern" "[I", Cond.methodLink RX7 208 yX7_all, Cond.instanceMethod yX7_all, Cond.selects RX7 yX7_all yX7_all, Cond.code yX7_all cX7_all 3 (some .int), Cond.fieldLink RX7 198 "CuttingRulesModel" "orders" "I", Cond.fieldLink RX7 94 "CuttingRulesModel" "orderDemand" "[I", Cond.methodLink RX7 212 yX7_isIn, Cond.static yX7_isIn, Cond.code yX7_isIn cX7_isIn 4 (some .boolean), Cond.methodLink RX7 204 yX7_digit, Cond.static yX7_digit]
def wsX7_price_r2 : List Cond := [Cond.code yX7_digit cX7_digit 4 (some .int), Cond.methodLink RX7 216 yX7_findPattern, Cond.instanceMethod yX7_findPattern, Cond.selects RX7 yX7_findPattern yX7_findPattern, Cond.code yX7_findPattern cX7_findPattern 5 none, Cond.fieldLink RX7 201 "CuttingRulesModel" "blade" "I", Cond.fieldLink RX7 91 "CuttingRulesModel" "orderLength" "[I", Cond.fieldLink RX7 106 "CuttingRulesModel" "patternWants" "[I", Cond.fieldLink RX7 192 "CuttingRulesModel" "stocks" "I", Cond.fieldLink RX7 85 "CuttingRulesModel" "stockLength" "[I", Cond.methodLink RX7 220 yX7_reach, Cond.instanceMethod yX7_reach, Cond.selects RX7 yX7_reach yX7_reach, Cond.code yX7_reach cX7_reach 4 none, Cond.methodLink RX7 230 yX7_isBest, Cond.instanceMethod yX7_isBest, Cond.selects RX7 yX7_isBest yX7_isBest, Cond.code yX7_isBest cX7_isBest 3 (some .boolean)]
def wsX7_price : List Cond := .code yX7_price cX7_price 1 (some .int) :: ((wsX7_price_r1 ++ wsX7_price_r2) ++ wsX70)
def wsX7_bars_r1 : List Cond := [Cond.fieldLink RX7 224 "CuttingRulesModel" "isShort" "Z", Cond.fieldLink RX7 227 "CuttingRulesModel" "barMany" "I", Cond.methodLink RX7 233 yX7_list, Cond.instanceMethod yX7_list, Cond.selects RX7 yX7_list yX7_list, Cond.initialized RX7, Cond.code yX7_list cX7_list 4 none, Cond.fieldLink RX7 195 "CuttingRulesModel" "isListed" "Z", Cond.fieldLink RX7 97 "CuttingRulesModel" "prices" "[I", Cond.fieldLink RX7 100 "CuttingRulesModel" "fewest" "[I", Cond.fieldLink RX7 103 "CuttingRulesModel" "patternStock" "[I", Cond.fieldLink RX7 88 "CuttingRulesModel" "stockPrice" "[I", Cond.fieldLink RX7 109 "CuttingRulesModel" "barPattern" "[I", Cond.methodLink RX7 208 yX7_all, Cond.instanceMethod yX7_all, Cond.selects RX7 yX7_all yX7_all, Cond.code yX7_all cX7_all 3 (some .int), Cond.fieldLink RX7 198 "CuttingRulesModel" "orders" "I", Cond.fieldLink RX7 94 "CuttingRulesModel" "orderDemand" "[I", Cond.methodLink RX7 212 yX7_isIn, Cond.static yX7_isIn, Cond.code yX7_isIn cX7_isIn 4 (some .boolean), Cond.methodLink RX7 204 yX7_digit, Cond.static yX7_digit]
def wsX7_bars_r2 : List Cond := [Cond.code yX7_digit cX7_digit 4 (some .int), Cond.methodLink RX7 216 yX7_findPattern, Cond.instanceMethod yX7_findPattern, Cond.selects RX7 yX7_findPattern yX7_findPattern, Cond.code yX7_findPattern cX7_findPattern 5 none, Cond.fieldLink RX7 201 "CuttingRulesModel" "blade" "I", Cond.fieldLink RX7 91 "CuttingRulesModel" "orderLength" "[I", Cond.fieldLink RX7 106 "CuttingRulesModel" "patternWants" "[I", Cond.fieldLink RX7 192 "CuttingRulesModel" "stocks" "I", Cond.fieldLink RX7 85 "CuttingRulesModel" "stockLength" "[I", Cond.methodLink RX7 220 yX7_reach, Cond.instanceMethod yX7_reach, Cond.selects RX7 yX7_reach yX7_reach, Cond.code yX7_reach cX7_reach 4 none, Cond.methodLink RX7 230 yX7_isBest, Cond.instanceMethod yX7_isBest, Cond.selects RX7 yX7_isBest yX7_isBest, Cond.code yX7_isBest cX7_isBest 3 (some .boolean)]
def wsX7_bars : List Cond := .code yX7_bars cX7_bars 1 (some .int) :: ((wsX7_bars_r1 ++ wsX7_bars_r2) ++ wsX70)
def wsX7_bar_r1 : List Cond := [Cond.fieldLink RX7 227 "CuttingRulesModel" "barMany" "I", Cond.fieldLink RX7 109 "CuttingRulesModel" "barPattern" "[I", Cond.fieldLink RX7 103 "CuttingRulesModel" "patternStock" "[I", Cond.fieldLink RX7 85 "CuttingRulesModel" "stockLength" "[I", Cond.fieldLink RX7 106 "CuttingRulesModel" "patternWants" "[I", Cond.methodLink RX7 112 yX7_within, Cond.static yX7_within, Cond.initialized RX7, Cond.code yX7_within cX7_within 3 (some .boolean), Cond.methodLink RX7 233 yX7_list, Cond.instanceMethod yX7_list, Cond.selects RX7 yX7_list yX7_list, Cond.code yX7_list cX7_list 4 none, Cond.fieldLink RX7 195 "CuttingRulesModel" "isListed" "Z", Cond.fieldLink RX7 97 "CuttingRulesModel" "prices" "[I", Cond.fieldLink RX7 100 "CuttingRulesModel" "fewest" "[I", Cond.fieldLink RX7 88 "CuttingRulesModel" "stockPrice" "[I", Cond.fieldLink RX7 224 "CuttingRulesModel" "isShort" "Z", Cond.methodLink RX7 208 yX7_all, Cond.instanceMethod yX7_all, Cond.selects RX7 yX7_all yX7_all, Cond.code yX7_all cX7_all 3 (some .int), Cond.fieldLink RX7 198 "CuttingRulesModel" "orders" "I", Cond.fieldLink RX7 94 "CuttingRulesModel" "orderDemand" "[I"]
def wsX7_bar_r2 : List Cond := [Cond.methodLink RX7 212 yX7_isIn, Cond.static yX7_isIn, Cond.code yX7_isIn cX7_isIn 4 (some .boolean), Cond.methodLink RX7 204 yX7_digit, Cond.static yX7_digit, Cond.code yX7_digit cX7_digit 4 (some .int), Cond.methodLink RX7 216 yX7_findPattern, Cond.instanceMethod yX7_findPattern, Cond.selects RX7 yX7_findPattern yX7_findPattern, Cond.code yX7_findPattern cX7_findPattern 5 none, Cond.fieldLink RX7 201 "CuttingRulesModel" "blade" "I", Cond.fieldLink RX7 91 "CuttingRulesModel" "orderLength" "[I", Cond.fieldLink RX7 192 "CuttingRulesModel" "stocks" "I", Cond.methodLink RX7 220 yX7_reach, Cond.instanceMethod yX7_reach, Cond.selects RX7 yX7_reach yX7_reach, Cond.code yX7_reach cX7_reach 4 none, Cond.methodLink RX7 230 yX7_isBest, Cond.instanceMethod yX7_isBest, Cond.selects RX7 yX7_isBest yX7_isBest, Cond.code yX7_isBest cX7_isBest 3 (some .boolean)]
def wsX7_bar : List Cond := .code yX7_bar cX7_bar 4 (some .int) :: ((wsX7_bar_r1 ++ wsX7_bar_r2) ++ wsX70)
def wsX7_told : List Cond := .code yX7_told cX7_told 2 (some .int) :: ([.fieldLink RX7 7 "CuttingRulesModel" "wide" "I", .fieldLink RX7 13 "CuttingRulesModel" "high" "I", .fieldLink RX7 116 "CuttingRulesModel" "kerf" "I", .fieldLink RX7 16 "CuttingRulesModel" "stages" "I", .fieldLink RX7 119 "CuttingRulesModel" "firstWay" "I", .fieldLink RX7 122 "CuttingRulesModel" "defects" "I", .fieldLink RX7 133 "CuttingRulesModel" "kinds" "I", .fieldLink RX7 192 "CuttingRulesModel" "stocks" "I", .fieldLink RX7 198 "CuttingRulesModel" "orders" "I", .fieldLink RX7 201 "CuttingRulesModel" "blade" "I"] ++ wsX70)
def wsX7_noKinds : List Cond := .code yX7_noKinds cX7_noKinds 2 (some .int) :: ([.fieldLink RX7 133 "CuttingRulesModel" "kinds" "I", .fieldLink RX7 125 "CuttingRulesModel" "isWorked" "Z"] ++ wsX70)
def wsX7_noBars : List Cond := .code yX7_noBars cX7_noBars 2 (some .int) :: ([.fieldLink RX7 192 "CuttingRulesModel" "stocks" "I", .fieldLink RX7 198 "CuttingRulesModel" "orders" "I", .fieldLink RX7 195 "CuttingRulesModel" "isListed" "Z"] ++ wsX70)
def wsJ9_max_7cf53 : List Cond := .code yJ9_max_7cf53 cJ9_max_7cf53 2 (some .int) :: ([])
def wsL_law_r1 : List Cond := [Cond.classLink RL 7 RX6, Cond.instantiable RX6 6, Cond.initialized RX6, Cond.classLink RL 10 RX7, Cond.instantiable RX7 47, Cond.initialized RX7, Cond.methodLink RL 9 yX6_init, Cond.instanceMethod yX6_init, Cond.code yX6_init cX6_init 5 none, Cond.methodLink RX6 3 objectInit, Cond.instanceMethod objectInit, Cond.code objectInit ⟨#[0xb1]⟩ 1 none, Cond.classLink RX6 9 RX4, Cond.instantiable RX4 7, Cond.initialized RX4, Cond.classLink RX6 12 RX1, Cond.instantiable RX1 5, Cond.initialized RX1, Cond.classLink RX6 15 RX5, Cond.instantiable RX5 5, Cond.initialized RX5, Cond.classLink RX6 20 RX3, Cond.instantiable RX3 7, Cond.initialized RX3]
def wsL_law_r2 : List Cond := [Cond.fieldLink RX6 23 "CuttingRules" "sheet" "LCuttingRules$Sheet;", Cond.fieldLink RX6 27 "CuttingRules" "kinds" "LCuttingRules$Kinds;", Cond.fieldLink RX6 31 "CuttingRules" "worths" "LCuttingRules$Worths;", Cond.classLink RX6 35 RX2, Cond.instantiable RX2 9, Cond.initialized RX2, Cond.fieldLink RX6 40 "CuttingRules" "plan" "LCuttingRules$Plan;", Cond.fieldLink RX6 44 "CuttingRules" "rack" "LCuttingRules$Rack;", Cond.classLink RX6 48 RX0, Cond.instantiable RX0 10, Cond.initialized RX0, Cond.fieldLink RX6 53 "CuttingRules" "list" "LCuttingRules$BarList;", Cond.instanceMethod yX4_init, Cond.code yX4_init cX4_init 1 none, Cond.methodLink RX4 3 objectInit, Cond.fieldLink RX4 9 "CuttingRules$Sheet" "width" "I", Cond.fieldLink RX4 15 "CuttingRules$Sheet" "height" "I", Cond.fieldLink RX4 18 "CuttingRules$Sheet" "kerf" "I", Cond.fieldLink RX4 21 "CuttingRules$Sheet" "stages" "I", Cond.fieldLink RX4 24 "CuttingRules$Sheet" "first" "I", Cond.fieldLink RX4 27 "CuttingRules$Sheet" "defects" "I", Cond.arrayClass .int, Cond.fieldLink RX4 30 "CuttingRules$Sheet" "spoiled" "[I", Cond.instanceMethod yX1_init]
def wsL_law_r3 : List Cond := [Cond.code yX1_init cX1_init 1 none, Cond.methodLink RX1 3 objectInit, Cond.fieldLink RX1 9 "CuttingRules$Kinds" "count" "I", Cond.fieldLink RX1 15 "CuttingRules$Kinds" "widths" "[I", Cond.fieldLink RX1 19 "CuttingRules$Kinds" "heights" "[I", Cond.fieldLink RX1 22 "CuttingRules$Kinds" "values" "[I", Cond.arrayClass .boolean, Cond.fieldLink RX1 25 "CuttingRules$Kinds" "turning" "[Z", Cond.methodLink RX6 17 yX5_init, Cond.instanceMethod yX5_init, Cond.code yX5_init cX5_init 3 none, Cond.methodLink RX5 3 objectInit, Cond.fieldLink RX5 9 "CuttingRules$Worths" "ofSizes" "[I", Cond.constant RX5 15 (73984), Cond.fieldLink RX5 16 "CuttingRules$Worths" "ofParts" "[I", Cond.fieldLink RX5 19 "CuttingRules$Worths" "stale" "Z", Cond.fieldLink RX5 23 "CuttingRules$Worths" "sheet" "LCuttingRules$Sheet;", Cond.fieldLink RX5 27 "CuttingRules$Worths" "kinds" "LCuttingRules$Kinds;", Cond.instanceMethod yX3_init, Cond.code yX3_init cX3_init 1 none, Cond.methodLink RX3 3 objectInit, Cond.fieldLink RX3 9 "CuttingRules$Rack" "stocks" "I", Cond.fieldLink RX3 15 "CuttingRules$Rack" "orders" "I", Cond.fieldLink RX3 18 "CuttingRules$Rack" "blade" "I"]
def wsL_law_r4 : List Cond := [Cond.fieldLink RX3 21 "CuttingRules$Rack" "stockLengths" "[I", Cond.fieldLink RX3 25 "CuttingRules$Rack" "stockPrices" "[I", Cond.fieldLink RX3 28 "CuttingRules$Rack" "orderLengths" "[I", Cond.fieldLink RX3 31 "CuttingRules$Rack" "demands" "[I", Cond.methodLink RX6 37 yX2_init, Cond.instanceMethod yX2_init, Cond.code yX2_init cX2_init 4 none, Cond.methodLink RX2 5 objectInit, Cond.fieldLink RX2 11 "CuttingRules$Plan" "pieceFacts" "[I", Cond.fieldLink RX2 15 "CuttingRules$Plan" "cutFacts" "[I", Cond.fieldLink RX2 18 "CuttingRules$Plan" "pieceCount" "I", Cond.fieldLink RX2 22 "CuttingRules$Plan" "cutCount" "I", Cond.fieldLink RX2 25 "CuttingRules$Plan" "unused" "I", Cond.fieldLink RX2 28 "CuttingRules$Plan" "stale" "Z", Cond.fieldLink RX2 32 "CuttingRules$Plan" "sheet" "LCuttingRules$Sheet;", Cond.fieldLink RX2 36 "CuttingRules$Plan" "kinds" "LCuttingRules$Kinds;", Cond.fieldLink RX2 40 "CuttingRules$Plan" "worths" "LCuttingRules$Worths;", Cond.methodLink RX6 50 yX0_init, Cond.instanceMethod yX0_init, Cond.code yX0_init cX0_init 2 none, Cond.methodLink RX0 5 objectInit, Cond.fieldLink RX0 11 "CuttingRules$BarList" "barCosts" "[I", Cond.fieldLink RX0 15 "CuttingRules$BarList" "leastCosts" "[I", Cond.fieldLink RX0 18 "CuttingRules$BarList" "firstPatterns" "[I"]
def wsL_law_r5 : List Cond := [Cond.fieldLink RX0 21 "CuttingRules$BarList" "patterns" "[I", Cond.fieldLink RX0 24 "CuttingRules$BarList" "count" "I", Cond.fieldLink RX0 28 "CuttingRules$BarList" "priceTogether" "I", Cond.fieldLink RX0 31 "CuttingRules$BarList" "isShort" "Z", Cond.fieldLink RX0 35 "CuttingRules$BarList" "costsStale" "Z", Cond.fieldLink RX0 38 "CuttingRules$BarList" "barsStale" "Z", Cond.fieldLink RX0 41 "CuttingRules$BarList" "rack" "LCuttingRules$Rack;", Cond.methodLink RL 12 yX7_init, Cond.instanceMethod yX7_init, Cond.code yX7_init cX7_init 4 none, Cond.methodLink RX7 1 objectInit, Cond.fieldLink RX7 7 "CuttingRulesModel" "wide" "I", Cond.fieldLink RX7 13 "CuttingRulesModel" "high" "I", Cond.fieldLink RX7 16 "CuttingRulesModel" "stages" "I", Cond.fieldLink RX7 19 "CuttingRulesModel" "defectX" "[I", Cond.fieldLink RX7 23 "CuttingRulesModel" "defectY" "[I", Cond.fieldLink RX7 26 "CuttingRulesModel" "defectW" "[I", Cond.fieldLink RX7 29 "CuttingRulesModel" "defectH" "[I", Cond.fieldLink RX7 32 "CuttingRulesModel" "kindW" "[I", Cond.fieldLink RX7 35 "CuttingRulesModel" "kindH" "[I", Cond.fieldLink RX7 38 "CuttingRulesModel" "kindValue" "[I", Cond.fieldLink RX7 41 "CuttingRulesModel" "kindTurns" "[Z", Cond.fieldLink RX7 45 "CuttingRulesModel" "spanAt" "[I", Cond.constant RX7 48 (73984)]
def wsL_law_r6 : List Cond := [Cond.fieldLink RX7 49 "CuttingRulesModel" "worths" "[I", Cond.fieldLink RX7 52 "CuttingRulesModel" "pieceKind" "[I", Cond.fieldLink RX7 55 "CuttingRulesModel" "pieceX" "[I", Cond.fieldLink RX7 58 "CuttingRulesModel" "pieceY" "[I", Cond.fieldLink RX7 61 "CuttingRulesModel" "pieceTurned" "[I", Cond.fieldLink RX7 64 "CuttingRulesModel" "cutStage" "[I", Cond.fieldLink RX7 67 "CuttingRulesModel" "cutAt" "[I", Cond.fieldLink RX7 70 "CuttingRulesModel" "cutX" "[I", Cond.fieldLink RX7 73 "CuttingRulesModel" "cutY" "[I", Cond.fieldLink RX7 76 "CuttingRulesModel" "cutW" "[I", Cond.fieldLink RX7 79 "CuttingRulesModel" "cutH" "[I", Cond.fieldLink RX7 82 "CuttingRulesModel" "pile" "[I", Cond.fieldLink RX7 85 "CuttingRulesModel" "stockLength" "[I", Cond.fieldLink RX7 88 "CuttingRulesModel" "stockPrice" "[I", Cond.fieldLink RX7 91 "CuttingRulesModel" "orderLength" "[I", Cond.fieldLink RX7 94 "CuttingRulesModel" "orderDemand" "[I", Cond.fieldLink RX7 97 "CuttingRulesModel" "prices" "[I", Cond.fieldLink RX7 100 "CuttingRulesModel" "fewest" "[I", Cond.fieldLink RX7 103 "CuttingRulesModel" "patternStock" "[I", Cond.fieldLink RX7 106 "CuttingRulesModel" "patternWants" "[I", Cond.fieldLink RX7 109 "CuttingRulesModel" "barPattern" "[I", Cond.methodLink RL 13 yX6_plate, Cond.instanceMethod yX6_plate, Cond.selects RX6 yX6_plate yX6_plate]
def wsL_law_r7 : List Cond := [Cond.code yX6_plate cX6_plate 6 (some .int), Cond.methodLink RX6 57 yX6_within, Cond.static yX6_within, Cond.code yX6_within cX6_within 3 (some .boolean), Cond.methodLink RX6 61 yX4_become, Cond.instanceMethod yX4_become, Cond.selects RX4 yX4_become yX4_become, Cond.code yX4_become cX4_become 6 none, Cond.methodLink RX6 65 yX2_forget, Cond.instanceMethod yX2_forget, Cond.selects RX2 yX2_forget yX2_forget, Cond.code yX2_forget cX2_forget 1 none, Cond.methodLink RX2 44 yX5_forget, Cond.instanceMethod yX5_forget, Cond.selects RX5 yX5_forget yX5_forget, Cond.code yX5_forget cX5_forget 1 none, Cond.methodLink RL 17 yX7_plate, Cond.instanceMethod yX7_plate, Cond.selects RX7 yX7_plate yX7_plate, Cond.code yX7_plate cX7_plate 6 (some .int), Cond.fieldLink RX7 116 "CuttingRulesModel" "kerf" "I", Cond.fieldLink RX7 119 "CuttingRulesModel" "firstWay" "I", Cond.fieldLink RX7 122 "CuttingRulesModel" "defects" "I", Cond.fieldLink RX7 125 "CuttingRulesModel" "isWorked" "Z"]
def wsL_law_r8 : List Cond := [Cond.methodLink RX7 112 yX7_within, Cond.static yX7_within, Cond.code yX7_within cX7_within 3 (some .boolean), Cond.methodLink RL 18 yX6_defect, Cond.instanceMethod yX6_defect, Cond.selects RX6 yX6_defect yX6_defect, Cond.code yX6_defect cX6_defect 5 (some .int), Cond.fieldLink RX6 75 "CuttingRules$Sheet" "defects" "I", Cond.methodLink RX6 68 yX4_holds, Cond.instanceMethod yX4_holds, Cond.selects RX4 yX4_holds yX4_holds, Cond.code yX4_holds cX4_holds 5 (some .boolean), Cond.methodLink RX6 72 yX4_spoil, Cond.instanceMethod yX4_spoil, Cond.selects RX4 yX4_spoil yX4_spoil, Cond.code yX4_spoil cX4_spoil 6 (some .boolean), Cond.methodLink RL 22 yX7_defect, Cond.instanceMethod yX7_defect, Cond.selects RX7 yX7_defect yX7_defect, Cond.code yX7_defect cX7_defect 5 (some .int), Cond.methodLink RX7 129 yX7_lies, Cond.instanceMethod yX7_lies, Cond.selects RX7 yX7_lies yX7_lies, Cond.code yX7_lies cX7_lies 5 (some .boolean)]
def wsL_law_r9 : List Cond := [Cond.methodLink RL 23 yX6_kind, Cond.instanceMethod yX6_kind, Cond.selects RX6 yX6_kind yX6_kind, Cond.code yX6_kind cX6_kind 6 (some .int), Cond.methodLink RX6 79 yX1_add, Cond.instanceMethod yX1_add, Cond.selects RX1 yX1_add yX1_add, Cond.code yX1_add cX1_add 5 (some .int), Cond.methodLink RL 27 yX7_kind, Cond.instanceMethod yX7_kind, Cond.selects RX7 yX7_kind yX7_kind, Cond.code yX7_kind cX7_kind 5 (some .int), Cond.fieldLink RX7 133 "CuttingRulesModel" "kinds" "I", Cond.methodLink RL 28 yX6_value, Cond.instanceMethod yX6_value, Cond.selects RX6 yX6_value yX6_value, Cond.code yX6_value cX6_value 4 (some .int), Cond.fieldLink RX6 83 "CuttingRules$Kinds" "count" "I", Cond.fieldLink RX6 86 "CuttingRules$Kinds" "values" "[I", Cond.methodLink RL 32 yX7_value, Cond.instanceMethod yX7_value, Cond.selects RX7 yX7_value yX7_value, Cond.code yX7_value cX7_value 4 (some .int), Cond.methodLink RL 33 yX6_worth]
def wsL_law_r10 : List Cond := [Cond.instanceMethod yX6_worth, Cond.selects RX6 yX6_worth yX6_worth, Cond.code yX6_worth cX6_worth 6 (some .int), Cond.fieldLink RX6 90 "CuttingRules$Sheet" "stages" "I", Cond.methodLink RX6 93 yX5_makeReady, Cond.instanceMethod yX5_makeReady, Cond.selects RX5 yX5_makeReady yX5_makeReady, Cond.code yX5_makeReady cX5_makeReady 1 none, Cond.fieldLink RX5 34 "CuttingRules$Sheet" "defects" "I", Cond.methodLink RX5 31 yX5_fillSizes, Cond.instanceMethod yX5_fillSizes, Cond.selects RX5 yX5_fillSizes yX5_fillSizes, Cond.code yX5_fillSizes cX5_fillSizes 5 none, Cond.fieldLink RX5 69 "CuttingRules$Sheet" "stages" "I", Cond.fieldLink RX5 72 "CuttingRules$Sheet" "width" "I", Cond.fieldLink RX5 75 "CuttingRules$Sheet" "height" "I", Cond.methodLink RX5 78 yX5_sizeSlot, Cond.static yX5_sizeSlot, Cond.code yX5_sizeSlot cX5_sizeSlot 3 (some .int), Cond.methodLink RX5 81 yX5_mostOfSize, Cond.instanceMethod yX5_mostOfSize, Cond.selects RX5 yX5_mostOfSize yX5_mostOfSize, Cond.code yX5_mostOfSize cX5_mostOfSize 10 (some .int), Cond.methodLink RX5 89 Lib.Math.max.name]
def wsL_law_r11 : List Cond := [Cond.static Lib.Math.max.name, Cond.initialized "java/lang/Math", Cond.code Lib.Math.max.name Lib.Math.max.code 2 (some .int), Cond.fieldLink RX5 58 "CuttingRules$Sheet" "kerf" "I", Cond.methodLink RX5 84 yX1_mostValue, Cond.instanceMethod yX1_mostValue, Cond.selects RX1 yX1_mostValue yX1_mostValue, Cond.code yX1_mostValue cX1_mostValue 5 (some .int), Cond.methodLink RX1 36 Lib.Math.max.name, Cond.methodLink RX1 29 yX1_lies, Cond.instanceMethod yX1_lies, Cond.selects RX1 yX1_lies yX1_lies, Cond.code yX1_lies cX1_lies 4 (some .boolean), Cond.methodLink RX1 33 yX1_liesTurned, Cond.instanceMethod yX1_liesTurned, Cond.selects RX1 yX1_liesTurned yX1_liesTurned, Cond.code yX1_liesTurned cX1_liesTurned 4 (some .boolean), Cond.methodLink RX5 43 yX5_ofSize, Cond.instanceMethod yX5_ofSize, Cond.selects RX5 yX5_ofSize yX5_ofSize, Cond.code yX5_ofSize cX5_ofSize 5 (some .int), Cond.methodLink RX5 94 yX4_lastCut, Cond.instanceMethod yX4_lastCut, Cond.selects RX4 yX4_lastCut yX4_lastCut]
def wsL_law_r12 : List Cond := [Cond.code yX4_lastCut cX4_lastCut 4 (some .int), Cond.methodLink RX4 38 yX4_partsWidth, Cond.instanceMethod yX4_partsWidth, Cond.selects RX4 yX4_partsWidth yX4_partsWidth, Cond.code yX4_partsWidth cX4_partsWidth 2 (some .boolean), Cond.methodLink RX5 61 yX4_partsWidth, Cond.methodLink RX5 40 yX5_fillParts, Cond.instanceMethod yX5_fillParts, Cond.selects RX5 yX5_fillParts yX5_fillParts, Cond.code yX5_fillParts cX5_fillParts 5 none, Cond.methodLink RX5 97 yX5_fillPart, Cond.instanceMethod yX5_fillPart, Cond.selects RX5 yX5_fillPart yX5_fillPart, Cond.code yX5_fillPart cX5_fillPart 12 none, Cond.methodLink RX5 101 yX4_isClean, Cond.instanceMethod yX4_isClean, Cond.selects RX4 yX4_isClean yX4_isClean, Cond.code yX4_isClean cX4_isClean 7 (some .boolean), Cond.methodLink RX5 47 yX5_span, Cond.static yX5_span, Cond.code yX5_span cX5_span 2 (some .int), Cond.methodLink RX5 51 yX5_partSlot, Cond.static yX5_partSlot, Cond.code yX5_partSlot cX5_partSlot 3 (some .int)]
def wsL_law_r13 : List Cond := [Cond.methodLink RX5 105 yX5_mostOfCuts, Cond.instanceMethod yX5_mostOfCuts, Cond.selects RX5 yX5_mostOfCuts yX5_mostOfCuts, Cond.code yX5_mostOfCuts cX5_mostOfCuts 11 (some .int), Cond.methodLink RX6 96 yX5_of, Cond.instanceMethod yX5_of, Cond.selects RX5 yX5_of yX5_of, Cond.code yX5_of cX5_of 7 (some .int), Cond.methodLink RL 36 yX7_worth, Cond.instanceMethod yX7_worth, Cond.selects RX7 yX7_worth yX7_worth, Cond.code yX7_worth cX7_worth 6 (some .int), Cond.methodLink RX7 185 yX7_work, Cond.instanceMethod yX7_work, Cond.selects RX7 yX7_work yX7_work, Cond.code yX7_work cX7_work 5 none, Cond.methodLink RX7 150 yX7_workPart, Cond.instanceMethod yX7_workPart, Cond.selects RX7 yX7_workPart yX7_workPart, Cond.code yX7_workPart cX7_workPart 11 none, Cond.methodLink RX7 157 yX7_bestPiece, Cond.instanceMethod yX7_bestPiece, Cond.selects RX7 yX7_bestPiece yX7_bestPiece, Cond.code yX7_bestPiece cX7_bestPiece 7 (some .int)]
def wsL_law_r14 : List Cond := [Cond.methodLink RX7 136 yX7_isLike, Cond.instanceMethod yX7_isLike, Cond.selects RX7 yX7_isLike yX7_isLike, Cond.code yX7_isLike cX7_isLike 5 (some .boolean), Cond.methodLink RX7 139 yX7_isSpoiled, Cond.instanceMethod yX7_isSpoiled, Cond.selects RX7 yX7_isSpoiled yX7_isSpoiled, Cond.code yX7_isSpoiled cX7_isSpoiled 8 (some .boolean), Cond.methodLink RX7 142 yX7_wayOf, Cond.instanceMethod yX7_wayOf, Cond.selects RX7 yX7_wayOf yX7_wayOf, Cond.code yX7_wayOf cX7_wayOf 2 (some .int), Cond.methodLink RX7 161 yX7_both, Cond.instanceMethod yX7_both, Cond.selects RX7 yX7_both yX7_both, Cond.code yX7_both cX7_both 7 (some .int), Cond.methodLink RX7 146 yX7_at, Cond.instanceMethod yX7_at, Cond.selects RX7 yX7_at yX7_at, Cond.code yX7_at cX7_at 6 (some .int), Cond.methodLink RX7 154 yX7_layPlan, Cond.instanceMethod yX7_layPlan, Cond.selects RX7 yX7_layPlan yX7_layPlan, Cond.code yX7_layPlan cX7_layPlan 1 none]
def wsL_law_r15 : List Cond := [Cond.fieldLink RX7 168 "CuttingRulesModel" "pieceMany" "I", Cond.fieldLink RX7 171 "CuttingRulesModel" "cutMany" "I", Cond.fieldLink RX7 165 "CuttingRulesModel" "piled" "I", Cond.methodLink RX7 174 yX7_lay, Cond.instanceMethod yX7_lay, Cond.selects RX7 yX7_lay yX7_lay, Cond.code yX7_lay cX7_lay 6 none, Cond.methodLink RX7 178 yX7_layPart, Cond.instanceMethod yX7_layPart, Cond.selects RX7 yX7_layPart yX7_layPart, Cond.code yX7_layPart cX7_layPart 10 none, Cond.methodLink RX7 181 yX7_isPiece, Cond.instanceMethod yX7_isPiece, Cond.selects RX7 yX7_isPiece yX7_isPiece, Cond.code yX7_isPiece cX7_isPiece 8 (some .boolean), Cond.methodLink RL 37 yX6_pieces, Cond.instanceMethod yX6_pieces, Cond.selects RX6 yX6_pieces yX6_pieces, Cond.code yX6_pieces cX6_pieces 1 (some .int), Cond.fieldLink RX6 101 "CuttingRules$Plan" "pieceCount" "I", Cond.methodLink RX6 100 yX2_makeReady, Cond.instanceMethod yX2_makeReady, Cond.selects RX2 yX2_makeReady yX2_makeReady, Cond.code yX2_makeReady cX2_makeReady 1 none]
def wsL_law_r16 : List Cond := [Cond.fieldLink RX2 52 "CuttingRules$Sheet" "width" "I", Cond.fieldLink RX2 57 "CuttingRules$Sheet" "height" "I", Cond.methodLink RX2 49 yX5_makeReady, Cond.methodLink RX2 60 yX2_lay, Cond.instanceMethod yX2_lay, Cond.selects RX2 yX2_lay yX2_lay, Cond.code yX2_lay cX2_lay 9 none, Cond.fieldLink RX2 92 "CuttingRules$Sheet" "stages" "I", Cond.methodLink RX2 64 yX5_of, Cond.methodLink RX2 68 yX4_isClean, Cond.methodLink RX2 72 yX1_firstOfValue, Cond.instanceMethod yX1_firstOfValue, Cond.selects RX1 yX1_firstOfValue yX1_firstOfValue, Cond.code yX1_firstOfValue cX1_firstOfValue 5 (some .int), Cond.methodLink RX2 78 yX2_addPiece, Cond.instanceMethod yX2_addPiece, Cond.selects RX2 yX2_addPiece yX2_addPiece, Cond.code yX2_addPiece cX2_addPiece 7 none, Cond.methodLink RX2 108 yX1_lies, Cond.methodLink RX2 81 yX2_firstCut, Cond.instanceMethod yX2_firstCut, Cond.selects RX2 yX2_firstCut yX2_firstCut, Cond.code yX2_firstCut cX2_firstCut 9 (some .int), Cond.methodLink RX2 102 yX4_lastCut]
def wsL_law_r17 : List Cond := [Cond.methodLink RX2 105 yX5_ofCut, Cond.instanceMethod yX5_ofCut, Cond.selects RX5 yX5_ofCut yX5_ofCut, Cond.code yX5_ofCut cX5_ofCut 8 (some .int), Cond.methodLink RX5 65 yX5_of, Cond.methodLink RX2 85 yX2_addCut, Cond.instanceMethod yX2_addCut, Cond.selects RX2 yX2_addCut yX2_addCut, Cond.code yX2_addCut cX2_addCut 9 none, Cond.methodLink RX2 98 yX4_partsWidth, Cond.methodLink RX2 89 yX2_layBoth, Cond.instanceMethod yX2_layBoth, Cond.selects RX2 yX2_layBoth yX2_layBoth, Cond.code yX2_layBoth cX2_layBoth 8 none, Cond.fieldLink RX2 95 "CuttingRules$Sheet" "kerf" "I", Cond.methodLink RL 41 yX7_pieces, Cond.instanceMethod yX7_pieces, Cond.selects RX7 yX7_pieces yX7_pieces, Cond.code yX7_pieces cX7_pieces 1 (some .int), Cond.methodLink RL 42 yX6_piece, Cond.instanceMethod yX6_piece, Cond.selects RX6 yX6_piece yX6_piece, Cond.code yX6_piece cX6_piece 3 (some .int), Cond.fieldLink RX6 104 "CuttingRules$Plan" "pieceFacts" "[I"]
def wsL_law_r18 : List Cond := [Cond.methodLink RL 45 yX7_piece, Cond.instanceMethod yX7_piece, Cond.selects RX7 yX7_piece yX7_piece, Cond.code yX7_piece cX7_piece 3 (some .int), Cond.methodLink RX7 188 yX7_pieceSide, Cond.instanceMethod yX7_pieceSide, Cond.selects RX7 yX7_pieceSide yX7_pieceSide, Cond.code yX7_pieceSide cX7_pieceSide 4 (some .int), Cond.methodLink RL 46 yX6_cuts, Cond.instanceMethod yX6_cuts, Cond.selects RX6 yX6_cuts yX6_cuts, Cond.code yX6_cuts cX6_cuts 1 (some .int), Cond.fieldLink RX6 107 "CuttingRules$Plan" "cutCount" "I", Cond.methodLink RL 49 yX7_cuts, Cond.instanceMethod yX7_cuts, Cond.selects RX7 yX7_cuts yX7_cuts, Cond.code yX7_cuts cX7_cuts 1 (some .int), Cond.methodLink RL 50 yX6_cut, Cond.instanceMethod yX6_cut, Cond.selects RX6 yX6_cut yX6_cut, Cond.code yX6_cut cX6_cut 3 (some .int), Cond.fieldLink RX6 110 "CuttingRules$Plan" "cutFacts" "[I", Cond.methodLink RL 53 yX7_cut, Cond.instanceMethod yX7_cut]
def wsL_law_r19 : List Cond := [Cond.selects RX7 yX7_cut yX7_cut, Cond.code yX7_cut cX7_cut 3 (some .int), Cond.methodLink RL 54 yX6_waste, Cond.instanceMethod yX6_waste, Cond.selects RX6 yX6_waste yX6_waste, Cond.code yX6_waste cX6_waste 1 (some .int), Cond.fieldLink RX6 113 "CuttingRules$Plan" "unused" "I", Cond.methodLink RL 57 yX7_waste, Cond.instanceMethod yX7_waste, Cond.selects RX7 yX7_waste yX7_waste, Cond.code yX7_waste cX7_waste 3 (some .int), Cond.methodLink RL 58 yX6_stock, Cond.instanceMethod yX6_stock, Cond.selects RX6 yX6_stock yX6_stock, Cond.code yX6_stock cX6_stock 4 (some .int), Cond.methodLink RX6 116 yX3_addStock, Cond.instanceMethod yX3_addStock, Cond.selects RX3 yX3_addStock yX3_addStock, Cond.code yX3_addStock cX3_addStock 3 (some .int), Cond.methodLink RX6 120 yX0_forgetCosts, Cond.instanceMethod yX0_forgetCosts, Cond.selects RX0 yX0_forgetCosts yX0_forgetCosts, Cond.code yX0_forgetCosts cX0_forgetCosts 1 none, Cond.methodLink RL 61 yX7_stock]
def wsL_law_r20 : List Cond := [Cond.instanceMethod yX7_stock, Cond.selects RX7 yX7_stock yX7_stock, Cond.code yX7_stock cX7_stock 3 (some .int), Cond.fieldLink RX7 192 "CuttingRulesModel" "stocks" "I", Cond.fieldLink RX7 195 "CuttingRulesModel" "isListed" "Z", Cond.methodLink RL 62 yX6_order, Cond.instanceMethod yX6_order, Cond.selects RX6 yX6_order yX6_order, Cond.code yX6_order cX6_order 4 (some .int), Cond.methodLink RX6 123 yX3_addOrder, Cond.instanceMethod yX3_addOrder, Cond.selects RX3 yX3_addOrder yX3_addOrder, Cond.code yX3_addOrder cX3_addOrder 3 (some .int), Cond.methodLink RL 65 yX7_order, Cond.instanceMethod yX7_order, Cond.selects RX7 yX7_order yX7_order, Cond.code yX7_order cX7_order 3 (some .int), Cond.fieldLink RX7 198 "CuttingRulesModel" "orders" "I", Cond.methodLink RL 66 yX6_demand, Cond.instanceMethod yX6_demand, Cond.selects RX6 yX6_demand yX6_demand, Cond.code yX6_demand cX6_demand 4 (some .int), Cond.fieldLink RX6 126 "CuttingRules$Rack" "orders" "I", Cond.fieldLink RX6 129 "CuttingRules$Rack" "demands" "[I"]
def wsL_law_r21 : List Cond := [Cond.methodLink RX6 132 yX0_forgetBars, Cond.instanceMethod yX0_forgetBars, Cond.selects RX0 yX0_forgetBars yX0_forgetBars, Cond.code yX0_forgetBars cX0_forgetBars 1 none, Cond.methodLink RL 69 yX7_demand, Cond.instanceMethod yX7_demand, Cond.selects RX7 yX7_demand yX7_demand, Cond.code yX7_demand cX7_demand 4 (some .int), Cond.methodLink RL 70 yX6_blade, Cond.instanceMethod yX6_blade, Cond.selects RX6 yX6_blade yX6_blade, Cond.code yX6_blade cX6_blade 3 (some .int), Cond.fieldLink RX6 135 "CuttingRules$Rack" "blade" "I", Cond.methodLink RL 74 yX7_blade, Cond.instanceMethod yX7_blade, Cond.selects RX7 yX7_blade yX7_blade, Cond.code yX7_blade cX7_blade 3 (some .int), Cond.fieldLink RX7 201 "CuttingRulesModel" "blade" "I", Cond.methodLink RL 75 yX6_price, Cond.instanceMethod yX6_price, Cond.selects RX6 yX6_price yX6_price, Cond.code yX6_price cX6_price 1 (some .int), Cond.fieldLink RX6 139 "CuttingRules$BarList" "isShort" "Z", Cond.fieldLink RX6 143 "CuttingRules$BarList" "priceTogether" "I"]
def wsL_law_r22 : List Cond := [Cond.methodLink RX6 138 yX0_makeReady, Cond.instanceMethod yX0_makeReady, Cond.selects RX0 yX0_makeReady yX0_makeReady, Cond.code yX0_makeReady cX0_makeReady 1 none, Cond.methodLink RX0 45 yJ7_fill_53178, Cond.static yJ7_fill_53178, Cond.initialized RJ7, Cond.code yJ7_fill_53178 cJ7_fill_53178 4 none, Cond.methodLink RX0 51 yX0_findLeastCosts, Cond.instanceMethod yX0_findLeastCosts, Cond.selects RX0 yX0_findLeastCosts yX0_findLeastCosts, Cond.code yX0_findLeastCosts cX0_findLeastCosts 5 none, Cond.methodLink RX0 54 yX3_wantedOf, Cond.instanceMethod yX3_wantedOf, Cond.selects RX3 yX3_wantedOf yX3_wantedOf, Cond.code yX3_wantedOf cX3_wantedOf 2 (some .int), Cond.methodLink RX0 68 yX0_findLeastCost, Cond.instanceMethod yX0_findLeastCost, Cond.selects RX0 yX0_findLeastCost yX0_findLeastCost, Cond.code yX0_findLeastCost cX0_findLeastCost 9 none, Cond.constant RX0 79 (1048576), Cond.methodLink RX0 60 yX0_code, Cond.static yX0_code, Cond.code yX0_code cX0_code 4 (some .int)]
def wsL_law_r23 : List Cond := [Cond.methodLink RX0 76 yX0_barCost, Cond.instanceMethod yX0_barCost, Cond.selects RX0 yX0_barCost yX0_barCost, Cond.code yX0_barCost cX0_barCost 3 (some .int), Cond.fieldLink RX0 96 "CuttingRules$Rack" "stockPrices" "[I", Cond.methodLink RX0 90 yX0_lengthWanted, Cond.instanceMethod yX0_lengthWanted, Cond.selects RX0 yX0_lengthWanted yX0_lengthWanted, Cond.code yX0_lengthWanted cX0_lengthWanted 4 (some .int), Cond.fieldLink RX0 105 "CuttingRules$Rack" "blade" "I", Cond.fieldLink RX0 108 "CuttingRules$Rack" "orders" "I", Cond.fieldLink RX0 111 "CuttingRules$Rack" "orderLengths" "[I", Cond.methodLink RX0 99 yX0_numberOf, Cond.static yX0_numberOf, Cond.code yX0_numberOf cX0_numberOf 2 (some .int), Cond.methodLink RX0 93 yX3_stockFor, Cond.instanceMethod yX3_stockFor, Cond.selects RX3 yX3_stockFor yX3_stockFor, Cond.code yX3_stockFor cX3_stockFor 4 (some .int), Cond.methodLink RX0 80 yX0_tryFirstBars, Cond.instanceMethod yX0_tryFirstBars, Cond.selects RX0 yX0_tryFirstBars yX0_tryFirstBars, Cond.code yX0_tryFirstBars cX0_tryFirstBars 7 none, Cond.methodLink RX0 84 Lib.Math.max.name]
def wsL_law_r24 : List Cond := [Cond.methodLink RX0 64 yX0_takeBars, Cond.instanceMethod yX0_takeBars, Cond.selects RX0 yX0_takeBars yX0_takeBars, Cond.code yX0_takeBars cX0_takeBars 3 none, Cond.methodLink RL 78 yX7_price, Cond.instanceMethod yX7_price, Cond.selects RX7 yX7_price yX7_price, Cond.code yX7_price cX7_price 1 (some .int), Cond.fieldLink RX7 224 "CuttingRulesModel" "isShort" "Z", Cond.methodLink RX7 233 yX7_list, Cond.instanceMethod yX7_list, Cond.selects RX7 yX7_list yX7_list, Cond.code yX7_list cX7_list 4 none, Cond.fieldLink RX7 227 "CuttingRulesModel" "barMany" "I", Cond.methodLink RX7 208 yX7_all, Cond.instanceMethod yX7_all, Cond.selects RX7 yX7_all yX7_all, Cond.code yX7_all cX7_all 3 (some .int), Cond.methodLink RX7 212 yX7_isIn, Cond.static yX7_isIn, Cond.code yX7_isIn cX7_isIn 4 (some .boolean), Cond.methodLink RX7 204 yX7_digit, Cond.static yX7_digit, Cond.code yX7_digit cX7_digit 4 (some .int)]
def wsL_law_r25 : List Cond := [Cond.methodLink RX7 216 yX7_findPattern, Cond.instanceMethod yX7_findPattern, Cond.selects RX7 yX7_findPattern yX7_findPattern, Cond.code yX7_findPattern cX7_findPattern 5 none, Cond.methodLink RX7 220 yX7_reach, Cond.instanceMethod yX7_reach, Cond.selects RX7 yX7_reach yX7_reach, Cond.code yX7_reach cX7_reach 4 none, Cond.methodLink RX7 230 yX7_isBest, Cond.instanceMethod yX7_isBest, Cond.selects RX7 yX7_isBest yX7_isBest, Cond.code yX7_isBest cX7_isBest 3 (some .boolean), Cond.methodLink RL 79 yX6_bars, Cond.instanceMethod yX6_bars, Cond.selects RX6 yX6_bars yX6_bars, Cond.code yX6_bars cX6_bars 1 (some .int), Cond.fieldLink RX6 146 "CuttingRules$BarList" "count" "I", Cond.methodLink RL 82 yX7_bars, Cond.instanceMethod yX7_bars, Cond.selects RX7 yX7_bars yX7_bars, Cond.code yX7_bars cX7_bars 1 (some .int), Cond.methodLink RL 83 yX6_bar, Cond.instanceMethod yX6_bar, Cond.selects RX6 yX6_bar yX6_bar]
def wsL_law_r26 : List Cond := [Cond.code yX6_bar cX6_bar 3 (some .int), Cond.fieldLink RX6 147 "CuttingRules$BarList" "patterns" "[I", Cond.methodLink RX6 150 yX0_fact, Cond.instanceMethod yX0_fact, Cond.selects RX0 yX0_fact yX0_fact, Cond.code yX0_fact cX0_fact 5 (some .int), Cond.fieldLink RX0 102 "CuttingRules$Rack" "stockLengths" "[I", Cond.methodLink RL 86 yX7_bar, Cond.instanceMethod yX7_bar, Cond.selects RX7 yX7_bar yX7_bar, Cond.code yX7_bar cX7_bar 4 (some .int), Cond.methodLink RL 87 yX6_told, Cond.instanceMethod yX6_told, Cond.selects RX6 yX6_told yX6_told, Cond.code yX6_told cX6_told 2 (some .int), Cond.fieldLink RX6 153 "CuttingRules$Sheet" "width" "I", Cond.fieldLink RX6 156 "CuttingRules$Sheet" "height" "I", Cond.fieldLink RX6 159 "CuttingRules$Sheet" "kerf" "I", Cond.fieldLink RX6 162 "CuttingRules$Sheet" "first" "I", Cond.fieldLink RX6 165 "CuttingRules$Rack" "stocks" "I", Cond.methodLink RL 90 yX7_told, Cond.instanceMethod yX7_told, Cond.selects RX7 yX7_told yX7_told, Cond.code yX7_told cX7_told 2 (some .int)]
def wsL_law_r27 : List Cond := [Cond.methodLink RL 91 yX6_noKinds, Cond.instanceMethod yX6_noKinds, Cond.selects RX6 yX6_noKinds yX6_noKinds, Cond.code yX6_noKinds cX6_noKinds 2 (some .int), Cond.methodLink RL 94 yX7_noKinds, Cond.instanceMethod yX7_noKinds, Cond.selects RX7 yX7_noKinds yX7_noKinds, Cond.code yX7_noKinds cX7_noKinds 2 (some .int), Cond.methodLink RL 95 yX6_noBars, Cond.instanceMethod yX6_noBars, Cond.selects RX6 yX6_noBars yX6_noBars, Cond.code yX6_noBars cX6_noBars 2 (some .int), Cond.methodLink RL 98 yX7_noBars, Cond.instanceMethod yX7_noBars, Cond.selects RX7 yX7_noBars yX7_noBars, Cond.code yX7_noBars cX7_noBars 2 (some .int)]
def wsL_law : List Cond := (wsL_law_r1 ++ (wsL_law_r2 ++ (wsL_law_r3 ++ (wsL_law_r4 ++ (wsL_law_r5 ++ (wsL_law_r6 ++ (wsL_law_r7 ++ (wsL_law_r8 ++ (wsL_law_r9 ++ (wsL_law_r10 ++ (wsL_law_r11 ++ (wsL_law_r12 ++ (wsL_law_r13 ++ (wsL_law_r14 ++ (wsL_law_r15 ++ (wsL_law_r16 ++ (wsL_law_r17 ++ (wsL_law_r18 ++ (wsL_law_r19 ++ (wsL_law_r20 ++ (wsL_law_r21 ++ (wsL_law_r22 ++ (wsL_law_r23 ++ (wsL_law_r24 ++ (wsL_law_r25 ++ (wsL_law_r26 ++ wsL_law_r27)))))))))))))))))))))))))) ++ wsX60 ++ wsX70 ++ wsX40 ++ wsX10 ++ wsX50 ++ wsX30 ++ wsX20 ++ wsX00 ++ ([] : List Cond)
abbrev vwCl : List vw_C := [(RX0, TX0, 10), (RX1, TX1, 5), (RX2, TX2, 9), (RX3, TX3, 7), (RX4, TX4, 7), (RX5, TX5, 5), (RX6, TX6, 6), (RX7, TX7, 47)]
end
section
theorem dX0_init_0 : decode cX0_init 0 = .ok (.aload_n 0, 1) := by decide +kernel
theorem dX0_init_1 : decode cX0_init 1 = .ok (.invokespecial 5, 3) := by decide +kernel
theorem dX0_init_4 : decode cX0_init 4 = .ok (.aload_n 0, 1) := by decide +kernel
theorem dX0_init_5 : decode cX0_init 5 = .ok (.sipush 4096, 3) := by decide +kernel
theorem dX0_init_8 : decode cX0_init 8 = .ok (.newarray .int, 2) := by decide +kernel
theorem dX0_init_10 : decode cX0_init 10 = .ok (.putfield 11, 3) := by decide +kernel
theorem dX0_init_13 : decode cX0_init 13 = .ok (.aload_n 0, 1) := by decide +kernel
theorem dX0_init_14 : decode cX0_init 14 = .ok (.sipush 4096, 3) := by decide +kernel
theorem dX0_init_17 : decode cX0_init 17 = .ok (.newarray .int, 2) := by decide +kernel
theorem dX0_init_19 : decode cX0_init 19 = .ok (.putfield 15, 3) := by decide +kernel
theorem dX0_init_22 : decode cX0_init 22 = .ok (.aload_n 0, 1) := by decide +kernel
theorem dX0_init_23 : decode cX0_init 23 = .ok (.sipush 4096, 3) := by decide +kernel
theorem dX0_init_26 : decode cX0_init 26 = .ok (.newarray .int, 2) := by decide +kernel
theorem dX0_init_28 : decode cX0_init 28 = .ok (.putfield 18, 3) := by decide +kernel
theorem dX0_init_31 : decode cX0_init 31 = .ok (.aload_n 0, 1) := by decide +kernel
theorem dX0_init_32 : decode cX0_init 32 = .ok (.bipush 20, 2) := by decide +kernel
theorem dX0_init_34 : decode cX0_init 34 = .ok (.newarray .int, 2) := by decide +kernel
theorem dX0_init_36 : decode cX0_init 36 = .ok (.putfield 21, 3) := by decide +kernel
theorem dX0_init_39 : decode cX0_init 39 = .ok (.aload_n 0, 1) := by decide +kernel
theorem dX0_init_40 : decode cX0_init 40 = .ok (.iconst 0, 1) := by decide +kernel
theorem dX0_init_41 : decode cX0_init 41 = .ok (.putfield 24, 3) := by decide +kernel
theorem dX0_init_44 : decode cX0_init 44 = .ok (.aload_n 0, 1) := by decide +kernel
theorem dX0_init_45 : decode cX0_init 45 = .ok (.iconst 0, 1) := by decide +kernel
theorem dX0_init_46 : decode cX0_init 46 = .ok (.putfield 28, 3) := by decide +kernel
theorem dX0_init_49 : decode cX0_init 49 = .ok (.aload_n 0, 1) := by decide +kernel
theorem dX0_init_50 : decode cX0_init 50 = .ok (.iconst 0, 1) := by decide +kernel
theorem dX0_init_51 : decode cX0_init 51 = .ok (.putfield 31, 3) := by decide +kernel
theorem dX0_init_54 : decode cX0_init 54 = .ok (.aload_n 0, 1) := by decide +kernel
theorem dX0_init_55 : decode cX0_init 55 = .ok (.iconst 1, 1) := by decide +kernel
theorem dX0_init_56 : decode cX0_init 56 = .ok (.putfield 35, 3) := by decide +kernel
theorem dX0_init_59 : decode cX0_init 59 = .ok (.aload_n 0, 1) := by decide +kernel
theorem dX0_init_60 : decode cX0_init 60 = .ok (.iconst 1, 1) := by decide +kernel
theorem dX0_init_61 : decode cX0_init 61 = .ok (.putfield 38, 3) := by decide +kernel
theorem dX0_init_64 : decode cX0_init 64 = .ok (.aload_n 0, 1) := by decide +kernel
theorem dX0_init_65 : decode cX0_init 65 = .ok (.aload_n 1, 1) := by decide +kernel
theorem dX0_init_66 : decode cX0_init 66 = .ok (.putfield 41, 3) := by decide +kernel
theorem dX0_init_69 : decode cX0_init 69 = .ok (.return_, 1) := by decide +kernel
theorem dX0_forgetCosts_0 : decode cX0_forgetCosts 0 = .ok (.aload_n 0, 1) := by decide +kernel
theorem dX0_forgetCosts_1 : decode cX0_forgetCosts 1 = .ok (.iconst 1, 1) := by decide +kernel
theorem dX0_forgetCosts_2 : decode cX0_forgetCosts 2 = .ok (.putfield 35, 3) := by decide +kernel
theorem dX0_forgetCosts_5 : decode cX0_forgetCosts 5 = .ok (.aload_n 0, 1) := by decide +kernel
theorem dX0_forgetCosts_6 : decode cX0_forgetCosts 6 = .ok (.iconst 1, 1) := by decide +kernel
theorem dX0_forgetCosts_7 : decode cX0_forgetCosts 7 = .ok (.putfield 38, 3) := by decide +kernel
theorem dX0_forgetCosts_10 : decode cX0_forgetCosts 10 = .ok (.return_, 1) := by decide +kernel
theorem dX0_forgetBars_0 : decode cX0_forgetBars 0 = .ok (.aload_n 0, 1) := by decide +kernel
theorem dX0_forgetBars_1 : decode cX0_forgetBars 1 = .ok (.iconst 1, 1) := by decide +kernel
theorem dX0_forgetBars_2 : decode cX0_forgetBars 2 = .ok (.putfield 38, 3) := by decide +kernel
theorem dX0_forgetBars_5 : decode cX0_forgetBars 5 = .ok (.return_, 1) := by decide +kernel
set_option maxRecDepth 20000 in
theorem ggX0_makeReady_J7_fill_53178 : GoodIn wsX0_makeReady wsJ7_fill_53178 := goodIn_r _ [8] (by decide +kernel) (by decide +kernel)
set_option maxRecDepth 20000 in
theorem gX0_makeReady_J7_fill_53178 : GoodIn wsX0_makeReady (va_wsS RX0 45 yJ7_fill_53178 wsJ7_fill_53178) := goodIn_app (goodIn_of _ (by decide +kernel)) ggX0_makeReady_J7_fill_53178
set_option maxRecDepth 20000 in
theorem ggX0_makeReady_X0_findLeastCosts : GoodIn wsX0_makeReady wsX0_findLeastCosts := goodIn_r _ [13, 4, 14, 15, 16, 17, 18, 19, 20, 21, 22, 23, 12, 24, 3, 25, 26, 27, 28, 29, 30, 31, 32, 33, 34, 35, 36, 37, 38, 39, 40, 41, 42, 43, 44, 45, 46, 47, 48, 49, 50, 51, 52, 53, 54, 55, 56, 57, 58, 59, 60, 61, 62, 63, 72, 73, 74, 75, 76, 77, 78, 79, 80, 81, 82, 83, 84, 85, 86, 87, 88] (by decide +kernel) (by decide +kernel)
set_option maxRecDepth 20000 in
theorem gX0_makeReady_X0_findLeastCosts : GoodIn wsX0_makeReady (wsV RX0 51 RX0 yX0_findLeastCosts wsX0_findLeastCosts) := goodIn_app (goodIn_of _ (by decide +kernel)) ggX0_makeReady_X0_findLeastCosts
set_option maxRecDepth 20000 in
theorem ggX0_makeReady_X3_wantedOf : GoodIn wsX0_makeReady wsX3_wantedOf := goodIn_r _ [18, 19, 20, 82, 83, 84, 85, 86, 87, 88] (by decide +kernel) (by decide +kernel)
set_option maxRecDepth 20000 in
theorem gX0_makeReady_X3_wantedOf : GoodIn wsX0_makeReady (wsV RX0 54 RX3 yX3_wantedOf wsX3_wantedOf) := goodIn_app (goodIn_of _ (by decide +kernel)) ggX0_makeReady_X3_wantedOf
set_option maxRecDepth 20000 in
theorem ggX0_makeReady_X0_code : GoodIn wsX0_makeReady wsX0_code := goodIn_r _ [29] (by decide +kernel) (by decide +kernel)
set_option maxRecDepth 20000 in
theorem gX0_makeReady_X0_code : GoodIn wsX0_makeReady (va_wsS RX0 60 yX0_code wsX0_code) := goodIn_app (goodIn_of _ (by decide +kernel)) ggX0_makeReady_X0_code
set_option maxRecDepth 20000 in
theorem ggX0_makeReady_X0_takeBars : GoodIn wsX0_makeReady wsX0_takeBars := goodIn_r _ [67, 68, 69, 3, 26, 70, 71, 63, 30, 31, 32, 72, 73, 74, 75, 76, 77, 78, 79, 80, 81] (by decide +kernel) (by decide +kernel)
set_option maxRecDepth 20000 in
theorem gX0_makeReady_X0_takeBars : GoodIn wsX0_makeReady (wsV RX0 64 RX0 yX0_takeBars wsX0_takeBars) := goodIn_app (goodIn_of _ (by decide +kernel)) ggX0_makeReady_X0_takeBars
theorem dX0_makeReady_0 : decode cX0_makeReady 0 = .ok (.aload_n 0, 1) := by decide +kernel
theorem dX0_makeReady_1 : decode cX0_makeReady 1 = .ok (.getfield 38, 3) := by decide +kernel
theorem dX0_makeReady_4 : decode cX0_makeReady 4 = .ok (.ifCond .ne 4, 3) := by decide +kernel
theorem dX0_makeReady_7 : decode cX0_makeReady 7 = .ok (.return_, 1) := by decide +kernel
theorem dX0_makeReady_8 : decode cX0_makeReady 8 = .ok (.aload_n 0, 1) := by decide +kernel
theorem dX0_makeReady_9 : decode cX0_makeReady 9 = .ok (.getfield 35, 3) := by decide +kernel
theorem dX0_makeReady_12 : decode cX0_makeReady 12 = .ok (.ifCond .eq 16, 3) := by decide +kernel
theorem dX0_makeReady_15 : decode cX0_makeReady 15 = .ok (.aload_n 0, 1) := by decide +kernel
theorem dX0_makeReady_16 : decode cX0_makeReady 16 = .ok (.getfield 15, 3) := by decide +kernel
theorem dX0_makeReady_19 : decode cX0_makeReady 19 = .ok (.iconst 0, 1) := by decide +kernel
theorem dX0_makeReady_20 : decode cX0_makeReady 20 = .ok (.invokestatic 45, 3) := by decide +kernel
theorem dX0_makeReady_23 : decode cX0_makeReady 23 = .ok (.aload_n 0, 1) := by decide +kernel
theorem dX0_makeReady_24 : decode cX0_makeReady 24 = .ok (.iconst 0, 1) := by decide +kernel
theorem dX0_makeReady_25 : decode cX0_makeReady 25 = .ok (.putfield 35, 3) := by decide +kernel
theorem dX0_makeReady_28 : decode cX0_makeReady 28 = .ok (.aload_n 0, 1) := by decide +kernel
theorem dX0_makeReady_29 : decode cX0_makeReady 29 = .ok (.invokevirtual 51, 3) := by decide +kernel
theorem dX0_makeReady_32 : decode cX0_makeReady 32 = .ok (.aload_n 0, 1) := by decide +kernel
theorem dX0_makeReady_33 : decode cX0_makeReady 33 = .ok (.aload_n 0, 1) := by decide +kernel
theorem dX0_makeReady_34 : decode cX0_makeReady 34 = .ok (.getfield 41, 3) := by decide +kernel
theorem dX0_makeReady_37 : decode cX0_makeReady 37 = .ok (.iconst 0, 1) := by decide +kernel
theorem dX0_makeReady_38 : decode cX0_makeReady 38 = .ok (.invokevirtual 54, 3) := by decide +kernel
theorem dX0_makeReady_41 : decode cX0_makeReady 41 = .ok (.aload_n 0, 1) := by decide +kernel
theorem dX0_makeReady_42 : decode cX0_makeReady 42 = .ok (.getfield 41, 3) := by decide +kernel
theorem dX0_makeReady_45 : decode cX0_makeReady 45 = .ok (.iconst 1, 1) := by decide +kernel
theorem dX0_makeReady_46 : decode cX0_makeReady 46 = .ok (.invokevirtual 54, 3) := by decide +kernel
theorem dX0_makeReady_49 : decode cX0_makeReady 49 = .ok (.aload_n 0, 1) := by decide +kernel
theorem dX0_makeReady_50 : decode cX0_makeReady 50 = .ok (.getfield 41, 3) := by decide +kernel
theorem dX0_makeReady_53 : decode cX0_makeReady 53 = .ok (.iconst 2, 1) := by decide +kernel
theorem dX0_makeReady_54 : decode cX0_makeReady 54 = .ok (.invokevirtual 54, 3) := by decide +kernel
theorem dX0_makeReady_57 : decode cX0_makeReady 57 = .ok (.aload_n 0, 1) := by decide +kernel
theorem dX0_makeReady_58 : decode cX0_makeReady 58 = .ok (.getfield 41, 3) := by decide +kernel
theorem dX0_makeReady_61 : decode cX0_makeReady 61 = .ok (.iconst 3, 1) := by decide +kernel
theorem dX0_makeReady_62 : decode cX0_makeReady 62 = .ok (.invokevirtual 54, 3) := by decide +kernel
theorem dX0_makeReady_65 : decode cX0_makeReady 65 = .ok (.invokestatic 60, 3) := by decide +kernel
theorem dX0_makeReady_68 : decode cX0_makeReady 68 = .ok (.invokevirtual 64, 3) := by decide +kernel
theorem dX0_makeReady_71 : decode cX0_makeReady 71 = .ok (.aload_n 0, 1) := by decide +kernel
theorem dX0_makeReady_72 : decode cX0_makeReady 72 = .ok (.iconst 0, 1) := by decide +kernel
theorem dX0_makeReady_73 : decode cX0_makeReady 73 = .ok (.putfield 38, 3) := by decide +kernel
theorem dX0_makeReady_76 : decode cX0_makeReady 76 = .ok (.return_, 1) := by decide +kernel
set_option maxRecDepth 20000 in
theorem ggX0_findLeastCosts_X3_wantedOf : GoodIn wsX0_findLeastCosts wsX3_wantedOf := goodIn_r _ [6, 7, 8, 64, 65, 66, 67, 68, 69, 70] (by decide +kernel) (by decide +kernel)
set_option maxRecDepth 20000 in
theorem gX0_findLeastCosts_X3_wantedOf : GoodIn wsX0_findLeastCosts (wsV RX0 54 RX3 yX3_wantedOf wsX3_wantedOf) := goodIn_app (goodIn_of _ (by decide +kernel)) ggX0_findLeastCosts_X3_wantedOf
set_option maxRecDepth 20000 in
theorem ggX0_findLeastCosts_X0_findLeastCost : GoodIn wsX0_findLeastCosts wsX0_findLeastCost := goodIn_r _ [13, 14, 15, 16, 17, 18, 12, 19, 20, 21, 22, 23, 24, 25, 26, 1, 27, 28, 29, 30, 31, 32, 33, 34, 35, 36, 37, 38, 39, 40, 5, 41, 42, 43, 44, 45, 46, 47, 48, 49, 50, 51, 52, 53, 54, 55, 56, 57, 58, 59, 60, 61, 62, 63, 64, 65, 66, 67, 68, 69, 70] (by decide +kernel) (by decide +kernel)
set_option maxRecDepth 20000 in
theorem gX0_findLeastCosts_X0_findLeastCost : GoodIn wsX0_findLeastCosts (wsV RX0 68 RX0 yX0_findLeastCost wsX0_findLeastCost) := goodIn_app (goodIn_of _ (by decide +kernel)) ggX0_findLeastCosts_X0_findLeastCost
theorem dX0_findLeastCosts_0 : decode cX0_findLeastCosts 0 = .ok (.iconst 0, 1) := by decide +kernel
theorem dX0_findLeastCosts_1 : decode cX0_findLeastCosts 1 = .ok (.istore_n 1, 1) := by decide +kernel
theorem dX0_findLeastCosts_2 : decode cX0_findLeastCosts 2 = .ok (.iload_n 1, 1) := by decide +kernel
theorem dX0_findLeastCosts_3 : decode cX0_findLeastCosts 3 = .ok (.aload_n 0, 1) := by decide +kernel
theorem dX0_findLeastCosts_4 : decode cX0_findLeastCosts 4 = .ok (.getfield 41, 3) := by decide +kernel
theorem dX0_findLeastCosts_7 : decode cX0_findLeastCosts 7 = .ok (.iconst 0, 1) := by decide +kernel
theorem dX0_findLeastCosts_8 : decode cX0_findLeastCosts 8 = .ok (.invokevirtual 54, 3) := by decide +kernel
theorem dX0_findLeastCosts_11 : decode cX0_findLeastCosts 11 = .ok (.if_icmp .gt 80, 3) := by decide +kernel
theorem dX0_findLeastCosts_14 : decode cX0_findLeastCosts 14 = .ok (.iconst 0, 1) := by decide +kernel
theorem dX0_findLeastCosts_15 : decode cX0_findLeastCosts 15 = .ok (.istore_n 2, 1) := by decide +kernel
theorem dX0_findLeastCosts_16 : decode cX0_findLeastCosts 16 = .ok (.iload_n 2, 1) := by decide +kernel
theorem dX0_findLeastCosts_17 : decode cX0_findLeastCosts 17 = .ok (.aload_n 0, 1) := by decide +kernel
theorem dX0_findLeastCosts_18 : decode cX0_findLeastCosts 18 = .ok (.getfield 41, 3) := by decide +kernel
theorem dX0_findLeastCosts_21 : decode cX0_findLeastCosts 21 = .ok (.iconst 1, 1) := by decide +kernel
theorem dX0_findLeastCosts_22 : decode cX0_findLeastCosts 22 = .ok (.invokevirtual 54, 3) := by decide +kernel
theorem dX0_findLeastCosts_25 : decode cX0_findLeastCosts 25 = .ok (.if_icmp .gt 60, 3) := by decide +kernel
theorem dX0_findLeastCosts_28 : decode cX0_findLeastCosts 28 = .ok (.iconst 0, 1) := by decide +kernel
theorem dX0_findLeastCosts_29 : decode cX0_findLeastCosts 29 = .ok (.istore_n 3, 1) := by decide +kernel
theorem dX0_findLeastCosts_30 : decode cX0_findLeastCosts 30 = .ok (.iload_n 3, 1) := by decide +kernel
theorem dX0_findLeastCosts_31 : decode cX0_findLeastCosts 31 = .ok (.aload_n 0, 1) := by decide +kernel
theorem dX0_findLeastCosts_32 : decode cX0_findLeastCosts 32 = .ok (.getfield 41, 3) := by decide +kernel
theorem dX0_findLeastCosts_35 : decode cX0_findLeastCosts 35 = .ok (.iconst 2, 1) := by decide +kernel
theorem dX0_findLeastCosts_36 : decode cX0_findLeastCosts 36 = .ok (.invokevirtual 54, 3) := by decide +kernel
theorem dX0_findLeastCosts_39 : decode cX0_findLeastCosts 39 = .ok (.if_icmp .gt 40, 3) := by decide +kernel
theorem dX0_findLeastCosts_42 : decode cX0_findLeastCosts 42 = .ok (.iconst 0, 1) := by decide +kernel
theorem dX0_findLeastCosts_43 : decode cX0_findLeastCosts 43 = .ok (.istore 4, 2) := by decide +kernel
theorem dX0_findLeastCosts_45 : decode cX0_findLeastCosts 45 = .ok (.iload 4, 2) := by decide +kernel
theorem dX0_findLeastCosts_47 : decode cX0_findLeastCosts 47 = .ok (.aload_n 0, 1) := by decide +kernel
theorem dX0_findLeastCosts_48 : decode cX0_findLeastCosts 48 = .ok (.getfield 41, 3) := by decide +kernel
theorem dX0_findLeastCosts_51 : decode cX0_findLeastCosts 51 = .ok (.iconst 3, 1) := by decide +kernel
theorem dX0_findLeastCosts_52 : decode cX0_findLeastCosts 52 = .ok (.invokevirtual 54, 3) := by decide +kernel
theorem dX0_findLeastCosts_55 : decode cX0_findLeastCosts 55 = .ok (.if_icmp .gt 18, 3) := by decide +kernel
theorem dX0_findLeastCosts_58 : decode cX0_findLeastCosts 58 = .ok (.aload_n 0, 1) := by decide +kernel
theorem dX0_findLeastCosts_59 : decode cX0_findLeastCosts 59 = .ok (.iload_n 1, 1) := by decide +kernel
theorem dX0_findLeastCosts_60 : decode cX0_findLeastCosts 60 = .ok (.iload_n 2, 1) := by decide +kernel
theorem dX0_findLeastCosts_61 : decode cX0_findLeastCosts 61 = .ok (.iload_n 3, 1) := by decide +kernel
theorem dX0_findLeastCosts_62 : decode cX0_findLeastCosts 62 = .ok (.iload 4, 2) := by decide +kernel
theorem dX0_findLeastCosts_64 : decode cX0_findLeastCosts 64 = .ok (.invokevirtual 68, 3) := by decide +kernel
theorem dX0_findLeastCosts_67 : decode cX0_findLeastCosts 67 = .ok (.iinc 4 1, 3) := by decide +kernel
theorem dX0_findLeastCosts_70 : decode cX0_findLeastCosts 70 = .ok (.goto (-25), 3) := by decide +kernel
theorem dX0_findLeastCosts_73 : decode cX0_findLeastCosts 73 = .ok (.iinc 3 1, 3) := by decide +kernel
theorem dX0_findLeastCosts_76 : decode cX0_findLeastCosts 76 = .ok (.goto (-46), 3) := by decide +kernel
theorem dX0_findLeastCosts_79 : decode cX0_findLeastCosts 79 = .ok (.iinc 2 1, 3) := by decide +kernel
theorem dX0_findLeastCosts_82 : decode cX0_findLeastCosts 82 = .ok (.goto (-66), 3) := by decide +kernel
theorem dX0_findLeastCosts_85 : decode cX0_findLeastCosts 85 = .ok (.iinc 1 1, 3) := by decide +kernel
theorem dX0_findLeastCosts_88 : decode cX0_findLeastCosts 88 = .ok (.goto (-86), 3) := by decide +kernel
theorem dX0_findLeastCosts_91 : decode cX0_findLeastCosts 91 = .ok (.return_, 1) := by decide +kernel
set_option maxRecDepth 20000 in
theorem ggX0_findLeastCost_X0_code : GoodIn wsX0_findLeastCost wsX0_code := goodIn_r _ [7] (by decide +kernel) (by decide +kernel)
set_option maxRecDepth 20000 in
theorem gX0_findLeastCost_X0_code : GoodIn wsX0_findLeastCost (va_wsS RX0 60 yX0_code wsX0_code) := goodIn_app (goodIn_of _ (by decide +kernel)) ggX0_findLeastCost_X0_code
set_option maxRecDepth 20000 in
theorem ggX0_findLeastCost_X6_within : GoodIn wsX0_findLeastCost wsX6_within := goodIn_r _ [10] (by decide +kernel) (by decide +kernel)
set_option maxRecDepth 20000 in
theorem gX0_findLeastCost_X6_within_n72 : GoodIn wsX0_findLeastCost (wsX6_within) := ggX0_findLeastCost_X6_within
set_option maxRecDepth 20000 in
theorem ggX0_findLeastCost_X0_barCost : GoodIn wsX0_findLeastCost wsX0_barCost := goodIn_r _ [14, 15, 3, 16, 17, 18, 19, 6, 20, 21, 22, 23, 24, 25, 26, 27, 28, 29, 30, 31, 32, 33, 34, 44, 45, 46, 47, 48, 49, 50, 51, 52, 53, 54, 55, 56, 57, 58, 59, 60] (by decide +kernel) (by decide +kernel)
set_option maxRecDepth 20000 in
theorem gX0_findLeastCost_X0_barCost : GoodIn wsX0_findLeastCost (wsV RX0 76 RX0 yX0_barCost wsX0_barCost) := goodIn_app (goodIn_of _ (by decide +kernel)) ggX0_findLeastCost_X0_barCost
set_option maxRecDepth 20000 in
theorem ggX0_findLeastCost_X0_tryFirstBars : GoodIn wsX0_findLeastCost wsX0_tryFirstBars := goodIn_r _ [38, 39, 40, 41, 42, 2, 3, 1, 43, 44, 45, 46, 47, 48, 49, 50, 51, 52, 53] (by decide +kernel) (by decide +kernel)
set_option maxRecDepth 20000 in
theorem gX0_findLeastCost_X0_tryFirstBars : GoodIn wsX0_findLeastCost (wsV RX0 80 RX0 yX0_tryFirstBars wsX0_tryFirstBars) := goodIn_app (goodIn_of _ (by decide +kernel)) ggX0_findLeastCost_X0_tryFirstBars
theorem dX0_findLeastCost_0 : decode cX0_findLeastCost 0 = .ok (.iload_n 1, 1) := by decide +kernel
theorem dX0_findLeastCost_1 : decode cX0_findLeastCost 1 = .ok (.iload_n 2, 1) := by decide +kernel
theorem dX0_findLeastCost_2 : decode cX0_findLeastCost 2 = .ok (.iload_n 3, 1) := by decide +kernel
theorem dX0_findLeastCost_3 : decode cX0_findLeastCost 3 = .ok (.iload 4, 2) := by decide +kernel
theorem dX0_findLeastCost_5 : decode cX0_findLeastCost 5 = .ok (.invokestatic 60, 3) := by decide +kernel
theorem dX0_findLeastCost_8 : decode cX0_findLeastCost 8 = .ok (.istore 5, 2) := by decide +kernel
theorem dX0_findLeastCost_10 : decode cX0_findLeastCost 10 = .ok (.iload 5, 2) := by decide +kernel
theorem dX0_findLeastCost_12 : decode cX0_findLeastCost 12 = .ok (.iconst 1, 1) := by decide +kernel
theorem dX0_findLeastCost_13 : decode cX0_findLeastCost 13 = .ok (.sipush 4095, 3) := by decide +kernel
theorem dX0_findLeastCost_16 : decode cX0_findLeastCost 16 = .ok (.invokestatic 72, 3) := by decide +kernel
theorem dX0_findLeastCost_19 : decode cX0_findLeastCost 19 = .ok (.ifCond .eq 13, 3) := by decide +kernel
theorem dX0_findLeastCost_22 : decode cX0_findLeastCost 22 = .ok (.aload_n 0, 1) := by decide +kernel
theorem dX0_findLeastCost_23 : decode cX0_findLeastCost 23 = .ok (.getfield 15, 3) := by decide +kernel
theorem dX0_findLeastCost_26 : decode cX0_findLeastCost 26 = .ok (.iload 5, 2) := by decide +kernel
theorem dX0_findLeastCost_28 : decode cX0_findLeastCost 28 = .ok (.iaload, 1) := by decide +kernel
theorem dX0_findLeastCost_29 : decode cX0_findLeastCost 29 = .ok (.ifCond .eq 4, 3) := by decide +kernel
theorem dX0_findLeastCost_32 : decode cX0_findLeastCost 32 = .ok (.return_, 1) := by decide +kernel
theorem dX0_findLeastCost_33 : decode cX0_findLeastCost 33 = .ok (.aload_n 0, 1) := by decide +kernel
theorem dX0_findLeastCost_34 : decode cX0_findLeastCost 34 = .ok (.getfield 11, 3) := by decide +kernel
theorem dX0_findLeastCost_37 : decode cX0_findLeastCost 37 = .ok (.iload 5, 2) := by decide +kernel
theorem dX0_findLeastCost_39 : decode cX0_findLeastCost 39 = .ok (.aload_n 0, 1) := by decide +kernel
theorem dX0_findLeastCost_40 : decode cX0_findLeastCost 40 = .ok (.iload 5, 2) := by decide +kernel
theorem dX0_findLeastCost_42 : decode cX0_findLeastCost 42 = .ok (.invokevirtual 76, 3) := by decide +kernel
theorem dX0_findLeastCost_45 : decode cX0_findLeastCost 45 = .ok (.iastore, 1) := by decide +kernel
theorem dX0_findLeastCost_46 : decode cX0_findLeastCost 46 = .ok (.aload_n 0, 1) := by decide +kernel
theorem dX0_findLeastCost_47 : decode cX0_findLeastCost 47 = .ok (.getfield 15, 3) := by decide +kernel
theorem dX0_findLeastCost_50 : decode cX0_findLeastCost 50 = .ok (.iload 5, 2) := by decide +kernel
theorem dX0_findLeastCost_52 : decode cX0_findLeastCost 52 = .ok (.ldc 79, 2) := by decide +kernel
theorem dX0_findLeastCost_54 : decode cX0_findLeastCost 54 = .ok (.iastore, 1) := by decide +kernel
theorem dX0_findLeastCost_55 : decode cX0_findLeastCost 55 = .ok (.iconst 0, 1) := by decide +kernel
theorem dX0_findLeastCost_56 : decode cX0_findLeastCost 56 = .ok (.istore 6, 2) := by decide +kernel
theorem dX0_findLeastCost_58 : decode cX0_findLeastCost 58 = .ok (.iload 6, 2) := by decide +kernel
theorem dX0_findLeastCost_60 : decode cX0_findLeastCost 60 = .ok (.iload_n 1, 1) := by decide +kernel
theorem dX0_findLeastCost_61 : decode cX0_findLeastCost 61 = .ok (.if_icmp .gt 57, 3) := by decide +kernel
theorem dX0_findLeastCost_64 : decode cX0_findLeastCost 64 = .ok (.iconst 0, 1) := by decide +kernel
theorem dX0_findLeastCost_65 : decode cX0_findLeastCost 65 = .ok (.istore 7, 2) := by decide +kernel
theorem dX0_findLeastCost_67 : decode cX0_findLeastCost 67 = .ok (.iload 7, 2) := by decide +kernel
theorem dX0_findLeastCost_69 : decode cX0_findLeastCost 69 = .ok (.iload_n 2, 1) := by decide +kernel
theorem dX0_findLeastCost_70 : decode cX0_findLeastCost 70 = .ok (.if_icmp .gt 42, 3) := by decide +kernel
theorem dX0_findLeastCost_73 : decode cX0_findLeastCost 73 = .ok (.iconst 0, 1) := by decide +kernel
theorem dX0_findLeastCost_74 : decode cX0_findLeastCost 74 = .ok (.istore 8, 2) := by decide +kernel
theorem dX0_findLeastCost_76 : decode cX0_findLeastCost 76 = .ok (.iload 8, 2) := by decide +kernel
theorem dX0_findLeastCost_78 : decode cX0_findLeastCost 78 = .ok (.iload_n 3, 1) := by decide +kernel
theorem dX0_findLeastCost_79 : decode cX0_findLeastCost 79 = .ok (.if_icmp .gt 27, 3) := by decide +kernel
theorem dX0_findLeastCost_82 : decode cX0_findLeastCost 82 = .ok (.aload_n 0, 1) := by decide +kernel
theorem dX0_findLeastCost_83 : decode cX0_findLeastCost 83 = .ok (.iload 5, 2) := by decide +kernel
theorem dX0_findLeastCost_85 : decode cX0_findLeastCost 85 = .ok (.iload 6, 2) := by decide +kernel
theorem dX0_findLeastCost_87 : decode cX0_findLeastCost 87 = .ok (.iload 7, 2) := by decide +kernel
theorem dX0_findLeastCost_89 : decode cX0_findLeastCost 89 = .ok (.iload 8, 2) := by decide +kernel
theorem dX0_findLeastCost_91 : decode cX0_findLeastCost 91 = .ok (.iconst 0, 1) := by decide +kernel
theorem dX0_findLeastCost_92 : decode cX0_findLeastCost 92 = .ok (.invokestatic 60, 3) := by decide +kernel
theorem dX0_findLeastCost_95 : decode cX0_findLeastCost 95 = .ok (.iload 4, 2) := by decide +kernel
theorem dX0_findLeastCost_97 : decode cX0_findLeastCost 97 = .ok (.invokevirtual 80, 3) := by decide +kernel
theorem dX0_findLeastCost_100 : decode cX0_findLeastCost 100 = .ok (.iinc 8 1, 3) := by decide +kernel
theorem dX0_findLeastCost_103 : decode cX0_findLeastCost 103 = .ok (.goto (-27), 3) := by decide +kernel
theorem dX0_findLeastCost_106 : decode cX0_findLeastCost 106 = .ok (.iinc 7 1, 3) := by decide +kernel
theorem dX0_findLeastCost_109 : decode cX0_findLeastCost 109 = .ok (.goto (-42), 3) := by decide +kernel
theorem dX0_findLeastCost_112 : decode cX0_findLeastCost 112 = .ok (.iinc 6 1, 3) := by decide +kernel
theorem dX0_findLeastCost_115 : decode cX0_findLeastCost 115 = .ok (.goto (-57), 3) := by decide +kernel
theorem dX0_findLeastCost_118 : decode cX0_findLeastCost 118 = .ok (.return_, 1) := by decide +kernel
theorem dX0_tryFirstBars_0 : decode cX0_tryFirstBars 0 = .ok (.iload_n 2, 1) := by decide +kernel
theorem dX0_tryFirstBars_1 : decode cX0_tryFirstBars 1 = .ok (.iload_n 3, 1) := by decide +kernel
theorem dX0_tryFirstBars_2 : decode cX0_tryFirstBars 2 = .ok (.iadd, 1) := by decide +kernel
theorem dX0_tryFirstBars_3 : decode cX0_tryFirstBars 3 = .ok (.istore 4, 2) := by decide +kernel
theorem dX0_tryFirstBars_5 : decode cX0_tryFirstBars 5 = .ok (.iload_n 2, 1) := by decide +kernel
theorem dX0_tryFirstBars_6 : decode cX0_tryFirstBars 6 = .ok (.ifCond .lt 16, 3) := by decide +kernel
theorem dX0_tryFirstBars_9 : decode cX0_tryFirstBars 9 = .ok (.iload 4, 2) := by decide +kernel
theorem dX0_tryFirstBars_11 : decode cX0_tryFirstBars 11 = .ok (.iload_n 1, 1) := by decide +kernel
theorem dX0_tryFirstBars_12 : decode cX0_tryFirstBars 12 = .ok (.if_icmp .gt 10, 3) := by decide +kernel
theorem dX0_tryFirstBars_15 : decode cX0_tryFirstBars 15 = .ok (.iload_n 1, 1) := by decide +kernel
theorem dX0_tryFirstBars_16 : decode cX0_tryFirstBars 16 = .ok (.sipush 4096, 3) := by decide +kernel
theorem dX0_tryFirstBars_19 : decode cX0_tryFirstBars 19 = .ok (.if_icmp .lt 4, 3) := by decide +kernel
theorem dX0_tryFirstBars_22 : decode cX0_tryFirstBars 22 = .ok (.return_, 1) := by decide +kernel
theorem dX0_tryFirstBars_23 : decode cX0_tryFirstBars 23 = .ok (.iload_n 2, 1) := by decide +kernel
theorem dX0_tryFirstBars_24 : decode cX0_tryFirstBars 24 = .ok (.iconst 1, 1) := by decide +kernel
theorem dX0_tryFirstBars_25 : decode cX0_tryFirstBars 25 = .ok (.invokestatic 84, 3) := by decide +kernel
theorem dX0_tryFirstBars_28 : decode cX0_tryFirstBars 28 = .ok (.istore 5, 2) := by decide +kernel
theorem dX0_tryFirstBars_30 : decode cX0_tryFirstBars 30 = .ok (.iload 5, 2) := by decide +kernel
theorem dX0_tryFirstBars_32 : decode cX0_tryFirstBars 32 = .ok (.iload 4, 2) := by decide +kernel
theorem dX0_tryFirstBars_34 : decode cX0_tryFirstBars 34 = .ok (.if_icmp .gt 67, 3) := by decide +kernel
theorem dX0_tryFirstBars_37 : decode cX0_tryFirstBars 37 = .ok (.aload_n 0, 1) := by decide +kernel
theorem dX0_tryFirstBars_38 : decode cX0_tryFirstBars 38 = .ok (.getfield 11, 3) := by decide +kernel
theorem dX0_tryFirstBars_41 : decode cX0_tryFirstBars 41 = .ok (.iload 5, 2) := by decide +kernel
theorem dX0_tryFirstBars_43 : decode cX0_tryFirstBars 43 = .ok (.iaload, 1) := by decide +kernel
theorem dX0_tryFirstBars_44 : decode cX0_tryFirstBars 44 = .ok (.ldc 79, 2) := by decide +kernel
theorem dX0_tryFirstBars_46 : decode cX0_tryFirstBars 46 = .ok (.if_icmp .ge 55, 3) := by decide +kernel
theorem dX0_tryFirstBars_49 : decode cX0_tryFirstBars 49 = .ok (.aload_n 0, 1) := by decide +kernel
theorem dX0_tryFirstBars_50 : decode cX0_tryFirstBars 50 = .ok (.getfield 11, 3) := by decide +kernel
theorem dX0_tryFirstBars_53 : decode cX0_tryFirstBars 53 = .ok (.iload 5, 2) := by decide +kernel
theorem dX0_tryFirstBars_55 : decode cX0_tryFirstBars 55 = .ok (.iaload, 1) := by decide +kernel
theorem dX0_tryFirstBars_56 : decode cX0_tryFirstBars 56 = .ok (.aload_n 0, 1) := by decide +kernel
theorem dX0_tryFirstBars_57 : decode cX0_tryFirstBars 57 = .ok (.getfield 15, 3) := by decide +kernel
theorem dX0_tryFirstBars_60 : decode cX0_tryFirstBars 60 = .ok (.iload_n 1, 1) := by decide +kernel
theorem dX0_tryFirstBars_61 : decode cX0_tryFirstBars 61 = .ok (.iload 5, 2) := by decide +kernel
theorem dX0_tryFirstBars_63 : decode cX0_tryFirstBars 63 = .ok (.isub, 1) := by decide +kernel
theorem dX0_tryFirstBars_64 : decode cX0_tryFirstBars 64 = .ok (.iaload, 1) := by decide +kernel
theorem dX0_tryFirstBars_65 : decode cX0_tryFirstBars 65 = .ok (.iadd, 1) := by decide +kernel
theorem dX0_tryFirstBars_66 : decode cX0_tryFirstBars 66 = .ok (.istore 6, 2) := by decide +kernel
theorem dX0_tryFirstBars_68 : decode cX0_tryFirstBars 68 = .ok (.iload 6, 2) := by decide +kernel
theorem dX0_tryFirstBars_70 : decode cX0_tryFirstBars 70 = .ok (.aload_n 0, 1) := by decide +kernel
theorem dX0_tryFirstBars_71 : decode cX0_tryFirstBars 71 = .ok (.getfield 15, 3) := by decide +kernel
theorem dX0_tryFirstBars_74 : decode cX0_tryFirstBars 74 = .ok (.iload_n 1, 1) := by decide +kernel
theorem dX0_tryFirstBars_75 : decode cX0_tryFirstBars 75 = .ok (.iaload, 1) := by decide +kernel
theorem dX0_tryFirstBars_76 : decode cX0_tryFirstBars 76 = .ok (.if_icmp .gt 19, 3) := by decide +kernel
theorem dX0_tryFirstBars_79 : decode cX0_tryFirstBars 79 = .ok (.aload_n 0, 1) := by decide +kernel
theorem dX0_tryFirstBars_80 : decode cX0_tryFirstBars 80 = .ok (.getfield 15, 3) := by decide +kernel
theorem dX0_tryFirstBars_83 : decode cX0_tryFirstBars 83 = .ok (.iload_n 1, 1) := by decide +kernel
theorem dX0_tryFirstBars_84 : decode cX0_tryFirstBars 84 = .ok (.iload 6, 2) := by decide +kernel
theorem dX0_tryFirstBars_86 : decode cX0_tryFirstBars 86 = .ok (.iastore, 1) := by decide +kernel
theorem dX0_tryFirstBars_87 : decode cX0_tryFirstBars 87 = .ok (.aload_n 0, 1) := by decide +kernel
theorem dX0_tryFirstBars_88 : decode cX0_tryFirstBars 88 = .ok (.getfield 18, 3) := by decide +kernel
theorem dX0_tryFirstBars_91 : decode cX0_tryFirstBars 91 = .ok (.iload_n 1, 1) := by decide +kernel
theorem dX0_tryFirstBars_92 : decode cX0_tryFirstBars 92 = .ok (.iload 5, 2) := by decide +kernel
theorem dX0_tryFirstBars_94 : decode cX0_tryFirstBars 94 = .ok (.iastore, 1) := by decide +kernel
theorem dX0_tryFirstBars_95 : decode cX0_tryFirstBars 95 = .ok (.iinc 5 1, 3) := by decide +kernel
theorem dX0_tryFirstBars_98 : decode cX0_tryFirstBars 98 = .ok (.goto (-68), 3) := by decide +kernel
theorem dX0_tryFirstBars_101 : decode cX0_tryFirstBars 101 = .ok (.return_, 1) := by decide +kernel
set_option maxRecDepth 20000 in
theorem ggX0_barCost_X0_lengthWanted : GoodIn wsX0_barCost wsX0_lengthWanted := goodIn_r _ [8, 1, 9, 10, 11, 12, 13, 7, 14, 23, 24, 25, 26, 27, 28, 29, 30, 31, 32, 33, 34, 35, 36, 37, 38, 39] (by decide +kernel) (by decide +kernel)
set_option maxRecDepth 20000 in
theorem gX0_barCost_X0_lengthWanted : GoodIn wsX0_barCost (wsV RX0 90 RX0 yX0_lengthWanted wsX0_lengthWanted) := goodIn_app (goodIn_of _ (by decide +kernel)) ggX0_barCost_X0_lengthWanted
set_option maxRecDepth 20000 in
theorem ggX0_barCost_X3_stockFor : GoodIn wsX0_barCost wsX3_stockFor := goodIn_r _ [19, 20, 21, 22, 33, 34, 35, 36, 37, 38, 39] (by decide +kernel) (by decide +kernel)
set_option maxRecDepth 20000 in
theorem gX0_barCost_X3_stockFor : GoodIn wsX0_barCost (wsV RX0 93 RX3 yX3_stockFor wsX3_stockFor) := goodIn_app (goodIn_of _ (by decide +kernel)) ggX0_barCost_X3_stockFor
theorem dX0_barCost_0 : decode cX0_barCost 0 = .ok (.aload_n 0, 1) := by decide +kernel
theorem dX0_barCost_1 : decode cX0_barCost 1 = .ok (.getfield 41, 3) := by decide +kernel
theorem dX0_barCost_4 : decode cX0_barCost 4 = .ok (.aload_n 0, 1) := by decide +kernel
theorem dX0_barCost_5 : decode cX0_barCost 5 = .ok (.iload_n 1, 1) := by decide +kernel
theorem dX0_barCost_6 : decode cX0_barCost 6 = .ok (.invokevirtual 90, 3) := by decide +kernel
theorem dX0_barCost_9 : decode cX0_barCost 9 = .ok (.invokevirtual 93, 3) := by decide +kernel
theorem dX0_barCost_12 : decode cX0_barCost 12 = .ok (.istore_n 2, 1) := by decide +kernel
theorem dX0_barCost_13 : decode cX0_barCost 13 = .ok (.iload_n 2, 1) := by decide +kernel
theorem dX0_barCost_14 : decode cX0_barCost 14 = .ok (.iconst (-1), 1) := by decide +kernel
theorem dX0_barCost_15 : decode cX0_barCost 15 = .ok (.if_icmp .ne 8, 3) := by decide +kernel
theorem dX0_barCost_18 : decode cX0_barCost 18 = .ok (.ldc 79, 2) := by decide +kernel
theorem dX0_barCost_20 : decode cX0_barCost 20 = .ok (.goto 17, 3) := by decide +kernel
theorem dX0_barCost_23 : decode cX0_barCost 23 = .ok (.aload_n 0, 1) := by decide +kernel
theorem dX0_barCost_24 : decode cX0_barCost 24 = .ok (.getfield 41, 3) := by decide +kernel
theorem dX0_barCost_27 : decode cX0_barCost 27 = .ok (.getfield 96, 3) := by decide +kernel
theorem dX0_barCost_30 : decode cX0_barCost 30 = .ok (.iload_n 2, 1) := by decide +kernel
theorem dX0_barCost_31 : decode cX0_barCost 31 = .ok (.iaload, 1) := by decide +kernel
theorem dX0_barCost_32 : decode cX0_barCost 32 = .ok (.bipush 21, 2) := by decide +kernel
theorem dX0_barCost_34 : decode cX0_barCost 34 = .ok (.imul, 1) := by decide +kernel
theorem dX0_barCost_35 : decode cX0_barCost 35 = .ok (.iconst 1, 1) := by decide +kernel
theorem dX0_barCost_36 : decode cX0_barCost 36 = .ok (.iadd, 1) := by decide +kernel
theorem dX0_barCost_37 : decode cX0_barCost 37 = .ok (.ireturn, 1) := by decide +kernel
set_option maxRecDepth 20000 in
theorem ggX0_takeBars_X6_within : GoodIn wsX0_takeBars wsX6_within := goodIn_r _ [10] (by decide +kernel) (by decide +kernel)
set_option maxRecDepth 20000 in
theorem gX0_takeBars_X6_within_n72 : GoodIn wsX0_takeBars (wsX6_within) := ggX0_takeBars_X6_within
theorem dX0_takeBars_0 : decode cX0_takeBars 0 = .ok (.aload_n 0, 1) := by decide +kernel
theorem dX0_takeBars_1 : decode cX0_takeBars 1 = .ok (.iconst 0, 1) := by decide +kernel
theorem dX0_takeBars_2 : decode cX0_takeBars 2 = .ok (.putfield 24, 3) := by decide +kernel
theorem dX0_takeBars_5 : decode cX0_takeBars 5 = .ok (.aload_n 0, 1) := by decide +kernel
theorem dX0_takeBars_6 : decode cX0_takeBars 6 = .ok (.iconst 0, 1) := by decide +kernel
theorem dX0_takeBars_7 : decode cX0_takeBars 7 = .ok (.putfield 28, 3) := by decide +kernel
theorem dX0_takeBars_10 : decode cX0_takeBars 10 = .ok (.aload_n 0, 1) := by decide +kernel
theorem dX0_takeBars_11 : decode cX0_takeBars 11 = .ok (.iload_n 1, 1) := by decide +kernel
theorem dX0_takeBars_12 : decode cX0_takeBars 12 = .ok (.iconst 0, 1) := by decide +kernel
theorem dX0_takeBars_13 : decode cX0_takeBars 13 = .ok (.sipush 4095, 3) := by decide +kernel
theorem dX0_takeBars_16 : decode cX0_takeBars 16 = .ok (.invokestatic 72, 3) := by decide +kernel
theorem dX0_takeBars_19 : decode cX0_takeBars 19 = .ok (.ifCond .eq 14, 3) := by decide +kernel
theorem dX0_takeBars_22 : decode cX0_takeBars 22 = .ok (.aload_n 0, 1) := by decide +kernel
theorem dX0_takeBars_23 : decode cX0_takeBars 23 = .ok (.getfield 15, 3) := by decide +kernel
theorem dX0_takeBars_26 : decode cX0_takeBars 26 = .ok (.iload_n 1, 1) := by decide +kernel
theorem dX0_takeBars_27 : decode cX0_takeBars 27 = .ok (.iaload, 1) := by decide +kernel
theorem dX0_takeBars_28 : decode cX0_takeBars 28 = .ok (.ldc 79, 2) := by decide +kernel
theorem dX0_takeBars_30 : decode cX0_takeBars 30 = .ok (.if_icmp .lt 7, 3) := by decide +kernel
theorem dX0_takeBars_33 : decode cX0_takeBars 33 = .ok (.iconst 1, 1) := by decide +kernel
theorem dX0_takeBars_34 : decode cX0_takeBars 34 = .ok (.goto 4, 3) := by decide +kernel
theorem dX0_takeBars_37 : decode cX0_takeBars 37 = .ok (.iconst 0, 1) := by decide +kernel
theorem dX0_takeBars_38 : decode cX0_takeBars 38 = .ok (.putfield 31, 3) := by decide +kernel
theorem dX0_takeBars_41 : decode cX0_takeBars 41 = .ok (.aload_n 0, 1) := by decide +kernel
theorem dX0_takeBars_42 : decode cX0_takeBars 42 = .ok (.getfield 31, 3) := by decide +kernel
theorem dX0_takeBars_45 : decode cX0_takeBars 45 = .ok (.ifCond .eq 4, 3) := by decide +kernel
theorem dX0_takeBars_48 : decode cX0_takeBars 48 = .ok (.return_, 1) := by decide +kernel
theorem dX0_takeBars_49 : decode cX0_takeBars 49 = .ok (.aload_n 0, 1) := by decide +kernel
theorem dX0_takeBars_50 : decode cX0_takeBars 50 = .ok (.aload_n 0, 1) := by decide +kernel
theorem dX0_takeBars_51 : decode cX0_takeBars 51 = .ok (.getfield 15, 3) := by decide +kernel
theorem dX0_takeBars_54 : decode cX0_takeBars 54 = .ok (.iload_n 1, 1) := by decide +kernel
theorem dX0_takeBars_55 : decode cX0_takeBars 55 = .ok (.iaload, 1) := by decide +kernel
theorem dX0_takeBars_56 : decode cX0_takeBars 56 = .ok (.bipush 21, 2) := by decide +kernel
theorem dX0_takeBars_58 : decode cX0_takeBars 58 = .ok (.idiv, 1) := by decide +kernel
theorem dX0_takeBars_59 : decode cX0_takeBars 59 = .ok (.putfield 28, 3) := by decide +kernel
theorem dX0_takeBars_62 : decode cX0_takeBars 62 = .ok (.iload_n 1, 1) := by decide +kernel
theorem dX0_takeBars_63 : decode cX0_takeBars 63 = .ok (.istore_n 2, 1) := by decide +kernel
theorem dX0_takeBars_64 : decode cX0_takeBars 64 = .ok (.aload_n 0, 1) := by decide +kernel
theorem dX0_takeBars_65 : decode cX0_takeBars 65 = .ok (.getfield 24, 3) := by decide +kernel
theorem dX0_takeBars_68 : decode cX0_takeBars 68 = .ok (.bipush 20, 2) := by decide +kernel
theorem dX0_takeBars_70 : decode cX0_takeBars 70 = .ok (.if_icmp .ge 51, 3) := by decide +kernel
theorem dX0_takeBars_73 : decode cX0_takeBars 73 = .ok (.iload_n 2, 1) := by decide +kernel
theorem dX0_takeBars_74 : decode cX0_takeBars 74 = .ok (.iconst 1, 1) := by decide +kernel
theorem dX0_takeBars_75 : decode cX0_takeBars 75 = .ok (.sipush 4095, 3) := by decide +kernel
theorem dX0_takeBars_78 : decode cX0_takeBars 78 = .ok (.invokestatic 72, 3) := by decide +kernel
theorem dX0_takeBars_81 : decode cX0_takeBars 81 = .ok (.ifCond .eq 40, 3) := by decide +kernel
theorem dX0_takeBars_84 : decode cX0_takeBars 84 = .ok (.aload_n 0, 1) := by decide +kernel
theorem dX0_takeBars_85 : decode cX0_takeBars 85 = .ok (.getfield 21, 3) := by decide +kernel
theorem dX0_takeBars_88 : decode cX0_takeBars 88 = .ok (.aload_n 0, 1) := by decide +kernel
theorem dX0_takeBars_89 : decode cX0_takeBars 89 = .ok (.getfield 24, 3) := by decide +kernel
theorem dX0_takeBars_92 : decode cX0_takeBars 92 = .ok (.aload_n 0, 1) := by decide +kernel
theorem dX0_takeBars_93 : decode cX0_takeBars 93 = .ok (.getfield 18, 3) := by decide +kernel
theorem dX0_takeBars_96 : decode cX0_takeBars 96 = .ok (.iload_n 2, 1) := by decide +kernel
theorem dX0_takeBars_97 : decode cX0_takeBars 97 = .ok (.iaload, 1) := by decide +kernel
theorem dX0_takeBars_98 : decode cX0_takeBars 98 = .ok (.iastore, 1) := by decide +kernel
theorem dX0_takeBars_99 : decode cX0_takeBars 99 = .ok (.iload_n 2, 1) := by decide +kernel
theorem dX0_takeBars_100 : decode cX0_takeBars 100 = .ok (.aload_n 0, 1) := by decide +kernel
theorem dX0_takeBars_101 : decode cX0_takeBars 101 = .ok (.getfield 18, 3) := by decide +kernel
theorem dX0_takeBars_104 : decode cX0_takeBars 104 = .ok (.iload_n 2, 1) := by decide +kernel
theorem dX0_takeBars_105 : decode cX0_takeBars 105 = .ok (.iaload, 1) := by decide +kernel
theorem dX0_takeBars_106 : decode cX0_takeBars 106 = .ok (.isub, 1) := by decide +kernel
theorem dX0_takeBars_107 : decode cX0_takeBars 107 = .ok (.istore_n 2, 1) := by decide +kernel
theorem dX0_takeBars_108 : decode cX0_takeBars 108 = .ok (.aload_n 0, 1) := by decide +kernel
theorem dX0_takeBars_109 : decode cX0_takeBars 109 = .ok (.dup, 1) := by decide +kernel
theorem dX0_takeBars_110 : decode cX0_takeBars 110 = .ok (.getfield 24, 3) := by decide +kernel
theorem dX0_takeBars_113 : decode cX0_takeBars 113 = .ok (.iconst 1, 1) := by decide +kernel
theorem dX0_takeBars_114 : decode cX0_takeBars 114 = .ok (.iadd, 1) := by decide +kernel
theorem dX0_takeBars_115 : decode cX0_takeBars 115 = .ok (.putfield 24, 3) := by decide +kernel
theorem dX0_takeBars_118 : decode cX0_takeBars 118 = .ok (.goto (-54), 3) := by decide +kernel
theorem dX0_takeBars_121 : decode cX0_takeBars 121 = .ok (.return_, 1) := by decide +kernel
set_option maxRecDepth 20000 in
theorem ggX0_fact_X0_numberOf : GoodIn wsX0_fact wsX0_numberOf := goodIn_r _ [6] (by decide +kernel) (by decide +kernel)
set_option maxRecDepth 20000 in
theorem gX0_fact_X0_numberOf : GoodIn wsX0_fact (va_wsS RX0 99 yX0_numberOf wsX0_numberOf) := goodIn_app (goodIn_of _ (by decide +kernel)) ggX0_fact_X0_numberOf
set_option maxRecDepth 20000 in
theorem ggX0_fact_X0_lengthWanted : GoodIn wsX0_fact wsX0_lengthWanted := goodIn_r _ [10, 1, 11, 12, 13, 3, 4, 5, 6, 22, 23, 24, 25, 26, 27, 28, 29, 30, 31, 32, 33, 34, 35, 36, 37, 38] (by decide +kernel) (by decide +kernel)
set_option maxRecDepth 20000 in
theorem gX0_fact_X0_lengthWanted : GoodIn wsX0_fact (wsV RX0 90 RX0 yX0_lengthWanted wsX0_lengthWanted) := goodIn_app (goodIn_of _ (by decide +kernel)) ggX0_fact_X0_lengthWanted
set_option maxRecDepth 20000 in
theorem ggX0_fact_X3_stockFor : GoodIn wsX0_fact wsX3_stockFor := goodIn_r _ [18, 19, 20, 21, 32, 33, 34, 35, 36, 37, 38] (by decide +kernel) (by decide +kernel)
set_option maxRecDepth 20000 in
theorem gX0_fact_X3_stockFor : GoodIn wsX0_fact (wsV RX0 93 RX3 yX3_stockFor wsX3_stockFor) := goodIn_app (goodIn_of _ (by decide +kernel)) ggX0_fact_X3_stockFor
theorem dX0_fact_0 : decode cX0_fact 0 = .ok (.iload_n 2, 1) := by decide +kernel
theorem dX0_fact_1 : decode cX0_fact 1 = .ok (.iconst 2, 1) := by decide +kernel
theorem dX0_fact_2 : decode cX0_fact 2 = .ok (.if_icmp .lt 11, 3) := by decide +kernel
theorem dX0_fact_5 : decode cX0_fact 5 = .ok (.iload_n 1, 1) := by decide +kernel
theorem dX0_fact_6 : decode cX0_fact 6 = .ok (.iload_n 2, 1) := by decide +kernel
theorem dX0_fact_7 : decode cX0_fact 7 = .ok (.iconst 2, 1) := by decide +kernel
theorem dX0_fact_8 : decode cX0_fact 8 = .ok (.isub, 1) := by decide +kernel
theorem dX0_fact_9 : decode cX0_fact 9 = .ok (.invokestatic 99, 3) := by decide +kernel
theorem dX0_fact_12 : decode cX0_fact 12 = .ok (.ireturn, 1) := by decide +kernel
theorem dX0_fact_13 : decode cX0_fact 13 = .ok (.aload_n 0, 1) := by decide +kernel
theorem dX0_fact_14 : decode cX0_fact 14 = .ok (.iload_n 1, 1) := by decide +kernel
theorem dX0_fact_15 : decode cX0_fact 15 = .ok (.invokevirtual 90, 3) := by decide +kernel
theorem dX0_fact_18 : decode cX0_fact 18 = .ok (.istore_n 3, 1) := by decide +kernel
theorem dX0_fact_19 : decode cX0_fact 19 = .ok (.aload_n 0, 1) := by decide +kernel
theorem dX0_fact_20 : decode cX0_fact 20 = .ok (.getfield 41, 3) := by decide +kernel
theorem dX0_fact_23 : decode cX0_fact 23 = .ok (.iload_n 3, 1) := by decide +kernel
theorem dX0_fact_24 : decode cX0_fact 24 = .ok (.invokevirtual 93, 3) := by decide +kernel
theorem dX0_fact_27 : decode cX0_fact 27 = .ok (.istore 4, 2) := by decide +kernel
theorem dX0_fact_29 : decode cX0_fact 29 = .ok (.iload 4, 2) := by decide +kernel
theorem dX0_fact_31 : decode cX0_fact 31 = .ok (.iconst (-1), 1) := by decide +kernel
theorem dX0_fact_32 : decode cX0_fact 32 = .ok (.if_icmp .eq 7, 3) := by decide +kernel
theorem dX0_fact_35 : decode cX0_fact 35 = .ok (.iload_n 2, 1) := by decide +kernel
theorem dX0_fact_36 : decode cX0_fact 36 = .ok (.ifCond .ne 6, 3) := by decide +kernel
theorem dX0_fact_39 : decode cX0_fact 39 = .ok (.iload 4, 2) := by decide +kernel
theorem dX0_fact_41 : decode cX0_fact 41 = .ok (.ireturn, 1) := by decide +kernel
theorem dX0_fact_42 : decode cX0_fact 42 = .ok (.aload_n 0, 1) := by decide +kernel
theorem dX0_fact_43 : decode cX0_fact 43 = .ok (.getfield 41, 3) := by decide +kernel
theorem dX0_fact_46 : decode cX0_fact 46 = .ok (.getfield 102, 3) := by decide +kernel
theorem dX0_fact_49 : decode cX0_fact 49 = .ok (.iload 4, 2) := by decide +kernel
theorem dX0_fact_51 : decode cX0_fact 51 = .ok (.iaload, 1) := by decide +kernel
theorem dX0_fact_52 : decode cX0_fact 52 = .ok (.iload_n 3, 1) := by decide +kernel
theorem dX0_fact_53 : decode cX0_fact 53 = .ok (.isub, 1) := by decide +kernel
theorem dX0_fact_54 : decode cX0_fact 54 = .ok (.ireturn, 1) := by decide +kernel
set_option maxRecDepth 20000 in
theorem ggX0_lengthWanted_X0_numberOf : GoodIn wsX0_lengthWanted wsX0_numberOf := goodIn_r _ [8] (by decide +kernel) (by decide +kernel)
set_option maxRecDepth 20000 in
theorem gX0_lengthWanted_X0_numberOf : GoodIn wsX0_lengthWanted (va_wsS RX0 99 yX0_numberOf wsX0_numberOf) := goodIn_app (goodIn_of _ (by decide +kernel)) ggX0_lengthWanted_X0_numberOf
theorem dX0_lengthWanted_0 : decode cX0_lengthWanted 0 = .ok (.aload_n 0, 1) := by decide +kernel
theorem dX0_lengthWanted_1 : decode cX0_lengthWanted 1 = .ok (.getfield 41, 3) := by decide +kernel
theorem dX0_lengthWanted_4 : decode cX0_lengthWanted 4 = .ok (.getfield 105, 3) := by decide +kernel
theorem dX0_lengthWanted_7 : decode cX0_lengthWanted 7 = .ok (.ineg, 1) := by decide +kernel
theorem dX0_lengthWanted_8 : decode cX0_lengthWanted 8 = .ok (.istore_n 2, 1) := by decide +kernel
theorem dX0_lengthWanted_9 : decode cX0_lengthWanted 9 = .ok (.iconst 0, 1) := by decide +kernel
theorem dX0_lengthWanted_10 : decode cX0_lengthWanted 10 = .ok (.istore_n 3, 1) := by decide +kernel
theorem dX0_lengthWanted_11 : decode cX0_lengthWanted 11 = .ok (.iload_n 3, 1) := by decide +kernel
theorem dX0_lengthWanted_12 : decode cX0_lengthWanted 12 = .ok (.aload_n 0, 1) := by decide +kernel
theorem dX0_lengthWanted_13 : decode cX0_lengthWanted 13 = .ok (.getfield 41, 3) := by decide +kernel
theorem dX0_lengthWanted_16 : decode cX0_lengthWanted 16 = .ok (.getfield 108, 3) := by decide +kernel
theorem dX0_lengthWanted_19 : decode cX0_lengthWanted 19 = .ok (.if_icmp .ge 40, 3) := by decide +kernel
theorem dX0_lengthWanted_22 : decode cX0_lengthWanted 22 = .ok (.iload_n 3, 1) := by decide +kernel
theorem dX0_lengthWanted_23 : decode cX0_lengthWanted 23 = .ok (.iconst 4, 1) := by decide +kernel
theorem dX0_lengthWanted_24 : decode cX0_lengthWanted 24 = .ok (.if_icmp .ge 35, 3) := by decide +kernel
theorem dX0_lengthWanted_27 : decode cX0_lengthWanted 27 = .ok (.iload_n 2, 1) := by decide +kernel
theorem dX0_lengthWanted_28 : decode cX0_lengthWanted 28 = .ok (.iload_n 1, 1) := by decide +kernel
theorem dX0_lengthWanted_29 : decode cX0_lengthWanted 29 = .ok (.iload_n 3, 1) := by decide +kernel
theorem dX0_lengthWanted_30 : decode cX0_lengthWanted 30 = .ok (.invokestatic 99, 3) := by decide +kernel
theorem dX0_lengthWanted_33 : decode cX0_lengthWanted 33 = .ok (.aload_n 0, 1) := by decide +kernel
theorem dX0_lengthWanted_34 : decode cX0_lengthWanted 34 = .ok (.getfield 41, 3) := by decide +kernel
theorem dX0_lengthWanted_37 : decode cX0_lengthWanted 37 = .ok (.getfield 111, 3) := by decide +kernel
theorem dX0_lengthWanted_40 : decode cX0_lengthWanted 40 = .ok (.iload_n 3, 1) := by decide +kernel
theorem dX0_lengthWanted_41 : decode cX0_lengthWanted 41 = .ok (.iaload, 1) := by decide +kernel
theorem dX0_lengthWanted_42 : decode cX0_lengthWanted 42 = .ok (.aload_n 0, 1) := by decide +kernel
theorem dX0_lengthWanted_43 : decode cX0_lengthWanted 43 = .ok (.getfield 41, 3) := by decide +kernel
theorem dX0_lengthWanted_46 : decode cX0_lengthWanted 46 = .ok (.getfield 105, 3) := by decide +kernel
theorem dX0_lengthWanted_49 : decode cX0_lengthWanted 49 = .ok (.iadd, 1) := by decide +kernel
theorem dX0_lengthWanted_50 : decode cX0_lengthWanted 50 = .ok (.imul, 1) := by decide +kernel
theorem dX0_lengthWanted_51 : decode cX0_lengthWanted 51 = .ok (.iadd, 1) := by decide +kernel
theorem dX0_lengthWanted_52 : decode cX0_lengthWanted 52 = .ok (.istore_n 2, 1) := by decide +kernel
theorem dX0_lengthWanted_53 : decode cX0_lengthWanted 53 = .ok (.iinc 3 1, 3) := by decide +kernel
theorem dX0_lengthWanted_56 : decode cX0_lengthWanted 56 = .ok (.goto (-45), 3) := by decide +kernel
theorem dX0_lengthWanted_59 : decode cX0_lengthWanted 59 = .ok (.iload_n 2, 1) := by decide +kernel
theorem dX0_lengthWanted_60 : decode cX0_lengthWanted 60 = .ok (.ireturn, 1) := by decide +kernel
theorem dX0_numberOf_0 : decode cX0_numberOf 0 = .ok (.iload_n 0, 1) := by decide +kernel
theorem dX0_numberOf_1 : decode cX0_numberOf 1 = .ok (.iconst 3, 1) := by decide +kernel
theorem dX0_numberOf_2 : decode cX0_numberOf 2 = .ok (.iload_n 1, 1) := by decide +kernel
theorem dX0_numberOf_3 : decode cX0_numberOf 3 = .ok (.isub, 1) := by decide +kernel
theorem dX0_numberOf_4 : decode cX0_numberOf 4 = .ok (.iconst 3, 1) := by decide +kernel
theorem dX0_numberOf_5 : decode cX0_numberOf 5 = .ok (.imul, 1) := by decide +kernel
theorem dX0_numberOf_6 : decode cX0_numberOf 6 = .ok (.ishr, 1) := by decide +kernel
theorem dX0_numberOf_7 : decode cX0_numberOf 7 = .ok (.bipush 7, 2) := by decide +kernel
theorem dX0_numberOf_9 : decode cX0_numberOf 9 = .ok (.iand, 1) := by decide +kernel
theorem dX0_numberOf_10 : decode cX0_numberOf 10 = .ok (.ireturn, 1) := by decide +kernel
theorem dX0_code_0 : decode cX0_code 0 = .ok (.iload_n 0, 1) := by decide +kernel
theorem dX0_code_1 : decode cX0_code 1 = .ok (.iconst 3, 1) := by decide +kernel
theorem dX0_code_2 : decode cX0_code 2 = .ok (.ishl, 1) := by decide +kernel
theorem dX0_code_3 : decode cX0_code 3 = .ok (.iload_n 1, 1) := by decide +kernel
theorem dX0_code_4 : decode cX0_code 4 = .ok (.ior, 1) := by decide +kernel
theorem dX0_code_5 : decode cX0_code 5 = .ok (.iconst 3, 1) := by decide +kernel
theorem dX0_code_6 : decode cX0_code 6 = .ok (.ishl, 1) := by decide +kernel
theorem dX0_code_7 : decode cX0_code 7 = .ok (.iload_n 2, 1) := by decide +kernel
theorem dX0_code_8 : decode cX0_code 8 = .ok (.ior, 1) := by decide +kernel
theorem dX0_code_9 : decode cX0_code 9 = .ok (.iconst 3, 1) := by decide +kernel
theorem dX0_code_10 : decode cX0_code 10 = .ok (.ishl, 1) := by decide +kernel
theorem dX0_code_11 : decode cX0_code 11 = .ok (.iload_n 3, 1) := by decide +kernel
theorem dX0_code_12 : decode cX0_code 12 = .ok (.ior, 1) := by decide +kernel
theorem dX0_code_13 : decode cX0_code 13 = .ok (.ireturn, 1) := by decide +kernel
theorem dX1_init_0 : decode cX1_init 0 = .ok (.aload_n 0, 1) := by decide +kernel
theorem dX1_init_1 : decode cX1_init 1 = .ok (.invokespecial 3, 3) := by decide +kernel
theorem dX1_init_4 : decode cX1_init 4 = .ok (.aload_n 0, 1) := by decide +kernel
theorem dX1_init_5 : decode cX1_init 5 = .ok (.iconst 0, 1) := by decide +kernel
theorem dX1_init_6 : decode cX1_init 6 = .ok (.putfield 9, 3) := by decide +kernel
theorem dX1_init_9 : decode cX1_init 9 = .ok (.aload_n 0, 1) := by decide +kernel
theorem dX1_init_10 : decode cX1_init 10 = .ok (.bipush 8, 2) := by decide +kernel
theorem dX1_init_12 : decode cX1_init 12 = .ok (.newarray .int, 2) := by decide +kernel
theorem dX1_init_14 : decode cX1_init 14 = .ok (.putfield 15, 3) := by decide +kernel
theorem dX1_init_17 : decode cX1_init 17 = .ok (.aload_n 0, 1) := by decide +kernel
theorem dX1_init_18 : decode cX1_init 18 = .ok (.bipush 8, 2) := by decide +kernel
theorem dX1_init_20 : decode cX1_init 20 = .ok (.newarray .int, 2) := by decide +kernel
theorem dX1_init_22 : decode cX1_init 22 = .ok (.putfield 19, 3) := by decide +kernel
theorem dX1_init_25 : decode cX1_init 25 = .ok (.aload_n 0, 1) := by decide +kernel
theorem dX1_init_26 : decode cX1_init 26 = .ok (.bipush 8, 2) := by decide +kernel
theorem dX1_init_28 : decode cX1_init 28 = .ok (.newarray .int, 2) := by decide +kernel
theorem dX1_init_30 : decode cX1_init 30 = .ok (.putfield 22, 3) := by decide +kernel
theorem dX1_init_33 : decode cX1_init 33 = .ok (.aload_n 0, 1) := by decide +kernel
theorem dX1_init_34 : decode cX1_init 34 = .ok (.bipush 8, 2) := by decide +kernel
theorem dX1_init_36 : decode cX1_init 36 = .ok (.newarray .boolean, 2) := by decide +kernel
theorem dX1_init_38 : decode cX1_init 38 = .ok (.putfield 25, 3) := by decide +kernel
theorem dX1_init_41 : decode cX1_init 41 = .ok (.return_, 1) := by decide +kernel
theorem dX1_add_0 : decode cX1_add 0 = .ok (.aload_n 0, 1) := by decide +kernel
theorem dX1_add_1 : decode cX1_add 1 = .ok (.getfield 9, 3) := by decide +kernel
theorem dX1_add_4 : decode cX1_add 4 = .ok (.bipush 8, 2) := by decide +kernel
theorem dX1_add_6 : decode cX1_add 6 = .ok (.if_icmp .lt 6, 3) := by decide +kernel
theorem dX1_add_9 : decode cX1_add 9 = .ok (.bipush (-4), 2) := by decide +kernel
theorem dX1_add_11 : decode cX1_add 11 = .ok (.ireturn, 1) := by decide +kernel
theorem dX1_add_12 : decode cX1_add 12 = .ok (.aload_n 0, 1) := by decide +kernel
theorem dX1_add_13 : decode cX1_add 13 = .ok (.getfield 15, 3) := by decide +kernel
theorem dX1_add_16 : decode cX1_add 16 = .ok (.aload_n 0, 1) := by decide +kernel
theorem dX1_add_17 : decode cX1_add 17 = .ok (.getfield 9, 3) := by decide +kernel
theorem dX1_add_20 : decode cX1_add 20 = .ok (.iload_n 1, 1) := by decide +kernel
theorem dX1_add_21 : decode cX1_add 21 = .ok (.iastore, 1) := by decide +kernel
theorem dX1_add_22 : decode cX1_add 22 = .ok (.aload_n 0, 1) := by decide +kernel
theorem dX1_add_23 : decode cX1_add 23 = .ok (.getfield 19, 3) := by decide +kernel
theorem dX1_add_26 : decode cX1_add 26 = .ok (.aload_n 0, 1) := by decide +kernel
theorem dX1_add_27 : decode cX1_add 27 = .ok (.getfield 9, 3) := by decide +kernel
theorem dX1_add_30 : decode cX1_add 30 = .ok (.iload_n 2, 1) := by decide +kernel
theorem dX1_add_31 : decode cX1_add 31 = .ok (.iastore, 1) := by decide +kernel
theorem dX1_add_32 : decode cX1_add 32 = .ok (.aload_n 0, 1) := by decide +kernel
theorem dX1_add_33 : decode cX1_add 33 = .ok (.getfield 22, 3) := by decide +kernel
theorem dX1_add_36 : decode cX1_add 36 = .ok (.aload_n 0, 1) := by decide +kernel
theorem dX1_add_37 : decode cX1_add 37 = .ok (.getfield 9, 3) := by decide +kernel
theorem dX1_add_40 : decode cX1_add 40 = .ok (.iload_n 3, 1) := by decide +kernel
theorem dX1_add_41 : decode cX1_add 41 = .ok (.iastore, 1) := by decide +kernel
theorem dX1_add_42 : decode cX1_add 42 = .ok (.aload_n 0, 1) := by decide +kernel
theorem dX1_add_43 : decode cX1_add 43 = .ok (.getfield 25, 3) := by decide +kernel
theorem dX1_add_46 : decode cX1_add 46 = .ok (.aload_n 0, 1) := by decide +kernel
theorem dX1_add_47 : decode cX1_add 47 = .ok (.getfield 9, 3) := by decide +kernel
theorem dX1_add_50 : decode cX1_add 50 = .ok (.iload 4, 2) := by decide +kernel
theorem dX1_add_52 : decode cX1_add 52 = .ok (.bastore, 1) := by decide +kernel
theorem dX1_add_53 : decode cX1_add 53 = .ok (.aload_n 0, 1) := by decide +kernel
theorem dX1_add_54 : decode cX1_add 54 = .ok (.dup, 1) := by decide +kernel
theorem dX1_add_55 : decode cX1_add 55 = .ok (.getfield 9, 3) := by decide +kernel
theorem dX1_add_58 : decode cX1_add 58 = .ok (.iconst 1, 1) := by decide +kernel
theorem dX1_add_59 : decode cX1_add 59 = .ok (.iadd, 1) := by decide +kernel
theorem dX1_add_60 : decode cX1_add 60 = .ok (.putfield 9, 3) := by decide +kernel
theorem dX1_add_63 : decode cX1_add 63 = .ok (.aload_n 0, 1) := by decide +kernel
theorem dX1_add_64 : decode cX1_add 64 = .ok (.getfield 9, 3) := by decide +kernel
theorem dX1_add_67 : decode cX1_add 67 = .ok (.iconst 1, 1) := by decide +kernel
theorem dX1_add_68 : decode cX1_add 68 = .ok (.isub, 1) := by decide +kernel
theorem dX1_add_69 : decode cX1_add 69 = .ok (.ireturn, 1) := by decide +kernel
theorem dX1_lies_0 : decode cX1_lies 0 = .ok (.aload_n 0, 1) := by decide +kernel
theorem dX1_lies_1 : decode cX1_lies 1 = .ok (.getfield 15, 3) := by decide +kernel
theorem dX1_lies_4 : decode cX1_lies 4 = .ok (.iload_n 1, 1) := by decide +kernel
theorem dX1_lies_5 : decode cX1_lies 5 = .ok (.iaload, 1) := by decide +kernel
theorem dX1_lies_6 : decode cX1_lies 6 = .ok (.iload_n 2, 1) := by decide +kernel
theorem dX1_lies_7 : decode cX1_lies 7 = .ok (.if_icmp .ne 17, 3) := by decide +kernel
theorem dX1_lies_10 : decode cX1_lies 10 = .ok (.aload_n 0, 1) := by decide +kernel
theorem dX1_lies_11 : decode cX1_lies 11 = .ok (.getfield 19, 3) := by decide +kernel
theorem dX1_lies_14 : decode cX1_lies 14 = .ok (.iload_n 1, 1) := by decide +kernel
theorem dX1_lies_15 : decode cX1_lies 15 = .ok (.iaload, 1) := by decide +kernel
theorem dX1_lies_16 : decode cX1_lies 16 = .ok (.iload_n 3, 1) := by decide +kernel
theorem dX1_lies_17 : decode cX1_lies 17 = .ok (.if_icmp .ne 7, 3) := by decide +kernel
theorem dX1_lies_20 : decode cX1_lies 20 = .ok (.iconst 1, 1) := by decide +kernel
theorem dX1_lies_21 : decode cX1_lies 21 = .ok (.goto 4, 3) := by decide +kernel
theorem dX1_lies_24 : decode cX1_lies 24 = .ok (.iconst 0, 1) := by decide +kernel
theorem dX1_lies_25 : decode cX1_lies 25 = .ok (.ireturn, 1) := by decide +kernel
theorem dX1_liesTurned_0 : decode cX1_liesTurned 0 = .ok (.aload_n 0, 1) := by decide +kernel
theorem dX1_liesTurned_1 : decode cX1_liesTurned 1 = .ok (.getfield 25, 3) := by decide +kernel
theorem dX1_liesTurned_4 : decode cX1_liesTurned 4 = .ok (.iload_n 1, 1) := by decide +kernel
theorem dX1_liesTurned_5 : decode cX1_liesTurned 5 = .ok (.baload, 1) := by decide +kernel
theorem dX1_liesTurned_6 : decode cX1_liesTurned 6 = .ok (.ifCond .eq 27, 3) := by decide +kernel
theorem dX1_liesTurned_9 : decode cX1_liesTurned 9 = .ok (.aload_n 0, 1) := by decide +kernel
theorem dX1_liesTurned_10 : decode cX1_liesTurned 10 = .ok (.getfield 15, 3) := by decide +kernel
theorem dX1_liesTurned_13 : decode cX1_liesTurned 13 = .ok (.iload_n 1, 1) := by decide +kernel
theorem dX1_liesTurned_14 : decode cX1_liesTurned 14 = .ok (.iaload, 1) := by decide +kernel
theorem dX1_liesTurned_15 : decode cX1_liesTurned 15 = .ok (.iload_n 3, 1) := by decide +kernel
theorem dX1_liesTurned_16 : decode cX1_liesTurned 16 = .ok (.if_icmp .ne 17, 3) := by decide +kernel
theorem dX1_liesTurned_19 : decode cX1_liesTurned 19 = .ok (.aload_n 0, 1) := by decide +kernel
theorem dX1_liesTurned_20 : decode cX1_liesTurned 20 = .ok (.getfield 19, 3) := by decide +kernel
theorem dX1_liesTurned_23 : decode cX1_liesTurned 23 = .ok (.iload_n 1, 1) := by decide +kernel
theorem dX1_liesTurned_24 : decode cX1_liesTurned 24 = .ok (.iaload, 1) := by decide +kernel
theorem dX1_liesTurned_25 : decode cX1_liesTurned 25 = .ok (.iload_n 2, 1) := by decide +kernel
theorem dX1_liesTurned_26 : decode cX1_liesTurned 26 = .ok (.if_icmp .ne 7, 3) := by decide +kernel
theorem dX1_liesTurned_29 : decode cX1_liesTurned 29 = .ok (.iconst 1, 1) := by decide +kernel
theorem dX1_liesTurned_30 : decode cX1_liesTurned 30 = .ok (.goto 4, 3) := by decide +kernel
theorem dX1_liesTurned_33 : decode cX1_liesTurned 33 = .ok (.iconst 0, 1) := by decide +kernel
theorem dX1_liesTurned_34 : decode cX1_liesTurned 34 = .ok (.ireturn, 1) := by decide +kernel
set_option maxRecDepth 20000 in
theorem ggX1_mostValue_X1_lies : GoodIn wsX1_mostValue wsX1_lies := goodIn_r _ [11, 12, 13, 19, 20, 21, 22, 23] (by decide +kernel) (by decide +kernel)
set_option maxRecDepth 20000 in
theorem gX1_mostValue_X1_lies : GoodIn wsX1_mostValue (wsV RX1 29 RX1 yX1_lies wsX1_lies) := goodIn_app (goodIn_of _ (by decide +kernel)) ggX1_mostValue_X1_lies
set_option maxRecDepth 20000 in
theorem ggX1_mostValue_X1_liesTurned : GoodIn wsX1_mostValue wsX1_liesTurned := goodIn_r _ [17, 18, 12, 13, 19, 20, 21, 22, 23] (by decide +kernel) (by decide +kernel)
set_option maxRecDepth 20000 in
theorem gX1_mostValue_X1_liesTurned : GoodIn wsX1_mostValue (wsV RX1 33 RX1 yX1_liesTurned wsX1_liesTurned) := goodIn_app (goodIn_of _ (by decide +kernel)) ggX1_mostValue_X1_liesTurned
theorem dX1_mostValue_0 : decode cX1_mostValue 0 = .ok (.iconst 0, 1) := by decide +kernel
theorem dX1_mostValue_1 : decode cX1_mostValue 1 = .ok (.istore_n 3, 1) := by decide +kernel
theorem dX1_mostValue_2 : decode cX1_mostValue 2 = .ok (.iconst 0, 1) := by decide +kernel
theorem dX1_mostValue_3 : decode cX1_mostValue 3 = .ok (.istore 4, 2) := by decide +kernel
theorem dX1_mostValue_5 : decode cX1_mostValue 5 = .ok (.iload 4, 2) := by decide +kernel
theorem dX1_mostValue_7 : decode cX1_mostValue 7 = .ok (.aload_n 0, 1) := by decide +kernel
theorem dX1_mostValue_8 : decode cX1_mostValue 8 = .ok (.getfield 9, 3) := by decide +kernel
theorem dX1_mostValue_11 : decode cX1_mostValue 11 = .ok (.if_icmp .ge 50, 3) := by decide +kernel
theorem dX1_mostValue_14 : decode cX1_mostValue 14 = .ok (.iload 4, 2) := by decide +kernel
theorem dX1_mostValue_16 : decode cX1_mostValue 16 = .ok (.bipush 8, 2) := by decide +kernel
theorem dX1_mostValue_18 : decode cX1_mostValue 18 = .ok (.if_icmp .ge 43, 3) := by decide +kernel
theorem dX1_mostValue_21 : decode cX1_mostValue 21 = .ok (.aload_n 0, 1) := by decide +kernel
theorem dX1_mostValue_22 : decode cX1_mostValue 22 = .ok (.iload 4, 2) := by decide +kernel
theorem dX1_mostValue_24 : decode cX1_mostValue 24 = .ok (.iload_n 1, 1) := by decide +kernel
theorem dX1_mostValue_25 : decode cX1_mostValue 25 = .ok (.iload_n 2, 1) := by decide +kernel
theorem dX1_mostValue_26 : decode cX1_mostValue 26 = .ok (.invokevirtual 29, 3) := by decide +kernel
theorem dX1_mostValue_29 : decode cX1_mostValue 29 = .ok (.ifCond .ne 14, 3) := by decide +kernel
theorem dX1_mostValue_32 : decode cX1_mostValue 32 = .ok (.aload_n 0, 1) := by decide +kernel
theorem dX1_mostValue_33 : decode cX1_mostValue 33 = .ok (.iload 4, 2) := by decide +kernel
theorem dX1_mostValue_35 : decode cX1_mostValue 35 = .ok (.iload_n 1, 1) := by decide +kernel
theorem dX1_mostValue_36 : decode cX1_mostValue 36 = .ok (.iload_n 2, 1) := by decide +kernel
theorem dX1_mostValue_37 : decode cX1_mostValue 37 = .ok (.invokevirtual 33, 3) := by decide +kernel
theorem dX1_mostValue_40 : decode cX1_mostValue 40 = .ok (.ifCond .eq 15, 3) := by decide +kernel
theorem dX1_mostValue_43 : decode cX1_mostValue 43 = .ok (.iload_n 3, 1) := by decide +kernel
theorem dX1_mostValue_44 : decode cX1_mostValue 44 = .ok (.aload_n 0, 1) := by decide +kernel
theorem dX1_mostValue_45 : decode cX1_mostValue 45 = .ok (.getfield 22, 3) := by decide +kernel
end
section
theorem dX1_mostValue_48 : decode cX1_mostValue 48 = .ok (.iload 4, 2) := by decide +kernel
theorem dX1_mostValue_50 : decode cX1_mostValue 50 = .ok (.iaload, 1) := by decide +kernel
theorem dX1_mostValue_51 : decode cX1_mostValue 51 = .ok (.invokestatic 36, 3) := by decide +kernel
theorem dX1_mostValue_54 : decode cX1_mostValue 54 = .ok (.istore_n 3, 1) := by decide +kernel
theorem dX1_mostValue_55 : decode cX1_mostValue 55 = .ok (.iinc 4 1, 3) := by decide +kernel
theorem dX1_mostValue_58 : decode cX1_mostValue 58 = .ok (.goto (-53), 3) := by decide +kernel
theorem dX1_mostValue_61 : decode cX1_mostValue 61 = .ok (.iload_n 3, 1) := by decide +kernel
theorem dX1_mostValue_62 : decode cX1_mostValue 62 = .ok (.ireturn, 1) := by decide +kernel
set_option maxRecDepth 20000 in
theorem ggX1_firstOfValue_X1_lies : GoodIn wsX1_firstOfValue wsX1_lies := goodIn_r _ [7, 8, 9, 15, 16, 17, 18, 19] (by decide +kernel) (by decide +kernel)
set_option maxRecDepth 20000 in
theorem gX1_firstOfValue_X1_lies : GoodIn wsX1_firstOfValue (wsV RX1 29 RX1 yX1_lies wsX1_lies) := goodIn_app (goodIn_of _ (by decide +kernel)) ggX1_firstOfValue_X1_lies
set_option maxRecDepth 20000 in
theorem ggX1_firstOfValue_X1_liesTurned : GoodIn wsX1_firstOfValue wsX1_liesTurned := goodIn_r _ [13, 14, 8, 9, 15, 16, 17, 18, 19] (by decide +kernel) (by decide +kernel)
set_option maxRecDepth 20000 in
theorem gX1_firstOfValue_X1_liesTurned : GoodIn wsX1_firstOfValue (wsV RX1 33 RX1 yX1_liesTurned wsX1_liesTurned) := goodIn_app (goodIn_of _ (by decide +kernel)) ggX1_firstOfValue_X1_liesTurned
theorem dX1_firstOfValue_0 : decode cX1_firstOfValue 0 = .ok (.iconst 0, 1) := by decide +kernel
theorem dX1_firstOfValue_1 : decode cX1_firstOfValue 1 = .ok (.istore 4, 2) := by decide +kernel
theorem dX1_firstOfValue_3 : decode cX1_firstOfValue 3 = .ok (.iload 4, 2) := by decide +kernel
theorem dX1_firstOfValue_5 : decode cX1_firstOfValue 5 = .ok (.aload_n 0, 1) := by decide +kernel
theorem dX1_firstOfValue_6 : decode cX1_firstOfValue 6 = .ok (.getfield 9, 3) := by decide +kernel
theorem dX1_firstOfValue_9 : decode cX1_firstOfValue 9 = .ok (.if_icmp .ge 52, 3) := by decide +kernel
theorem dX1_firstOfValue_12 : decode cX1_firstOfValue 12 = .ok (.iload 4, 2) := by decide +kernel
theorem dX1_firstOfValue_14 : decode cX1_firstOfValue 14 = .ok (.bipush 8, 2) := by decide +kernel
theorem dX1_firstOfValue_16 : decode cX1_firstOfValue 16 = .ok (.if_icmp .ge 45, 3) := by decide +kernel
theorem dX1_firstOfValue_19 : decode cX1_firstOfValue 19 = .ok (.aload_n 0, 1) := by decide +kernel
theorem dX1_firstOfValue_20 : decode cX1_firstOfValue 20 = .ok (.getfield 22, 3) := by decide +kernel
theorem dX1_firstOfValue_23 : decode cX1_firstOfValue 23 = .ok (.iload 4, 2) := by decide +kernel
theorem dX1_firstOfValue_25 : decode cX1_firstOfValue 25 = .ok (.iaload, 1) := by decide +kernel
theorem dX1_firstOfValue_26 : decode cX1_firstOfValue 26 = .ok (.iload_n 3, 1) := by decide +kernel
theorem dX1_firstOfValue_27 : decode cX1_firstOfValue 27 = .ok (.if_icmp .ne 28, 3) := by decide +kernel
theorem dX1_firstOfValue_30 : decode cX1_firstOfValue 30 = .ok (.aload_n 0, 1) := by decide +kernel
theorem dX1_firstOfValue_31 : decode cX1_firstOfValue 31 = .ok (.iload 4, 2) := by decide +kernel
theorem dX1_firstOfValue_33 : decode cX1_firstOfValue 33 = .ok (.iload_n 1, 1) := by decide +kernel
theorem dX1_firstOfValue_34 : decode cX1_firstOfValue 34 = .ok (.iload_n 2, 1) := by decide +kernel
theorem dX1_firstOfValue_35 : decode cX1_firstOfValue 35 = .ok (.invokevirtual 29, 3) := by decide +kernel
theorem dX1_firstOfValue_38 : decode cX1_firstOfValue 38 = .ok (.ifCond .ne 14, 3) := by decide +kernel
theorem dX1_firstOfValue_41 : decode cX1_firstOfValue 41 = .ok (.aload_n 0, 1) := by decide +kernel
theorem dX1_firstOfValue_42 : decode cX1_firstOfValue 42 = .ok (.iload 4, 2) := by decide +kernel
theorem dX1_firstOfValue_44 : decode cX1_firstOfValue 44 = .ok (.iload_n 1, 1) := by decide +kernel
theorem dX1_firstOfValue_45 : decode cX1_firstOfValue 45 = .ok (.iload_n 2, 1) := by decide +kernel
theorem dX1_firstOfValue_46 : decode cX1_firstOfValue 46 = .ok (.invokevirtual 33, 3) := by decide +kernel
theorem dX1_firstOfValue_49 : decode cX1_firstOfValue 49 = .ok (.ifCond .eq 6, 3) := by decide +kernel
theorem dX1_firstOfValue_52 : decode cX1_firstOfValue 52 = .ok (.iload 4, 2) := by decide +kernel
theorem dX1_firstOfValue_54 : decode cX1_firstOfValue 54 = .ok (.ireturn, 1) := by decide +kernel
theorem dX1_firstOfValue_55 : decode cX1_firstOfValue 55 = .ok (.iinc 4 1, 3) := by decide +kernel
theorem dX1_firstOfValue_58 : decode cX1_firstOfValue 58 = .ok (.goto (-55), 3) := by decide +kernel
theorem dX1_firstOfValue_61 : decode cX1_firstOfValue 61 = .ok (.iconst (-1), 1) := by decide +kernel
theorem dX1_firstOfValue_62 : decode cX1_firstOfValue 62 = .ok (.ireturn, 1) := by decide +kernel
theorem dX2_init_0 : decode cX2_init 0 = .ok (.aload_n 0, 1) := by decide +kernel
theorem dX2_init_1 : decode cX2_init 1 = .ok (.invokespecial 5, 3) := by decide +kernel
theorem dX2_init_4 : decode cX2_init 4 = .ok (.aload_n 0, 1) := by decide +kernel
theorem dX2_init_5 : decode cX2_init 5 = .ok (.sipush 1536, 3) := by decide +kernel
theorem dX2_init_8 : decode cX2_init 8 = .ok (.newarray .int, 2) := by decide +kernel
theorem dX2_init_10 : decode cX2_init 10 = .ok (.putfield 11, 3) := by decide +kernel
theorem dX2_init_13 : decode cX2_init 13 = .ok (.aload_n 0, 1) := by decide +kernel
theorem dX2_init_14 : decode cX2_init 14 = .ok (.sipush 1785, 3) := by decide +kernel
theorem dX2_init_17 : decode cX2_init 17 = .ok (.newarray .int, 2) := by decide +kernel
theorem dX2_init_19 : decode cX2_init 19 = .ok (.putfield 15, 3) := by decide +kernel
theorem dX2_init_22 : decode cX2_init 22 = .ok (.aload_n 0, 1) := by decide +kernel
theorem dX2_init_23 : decode cX2_init 23 = .ok (.iconst 0, 1) := by decide +kernel
theorem dX2_init_24 : decode cX2_init 24 = .ok (.putfield 18, 3) := by decide +kernel
theorem dX2_init_27 : decode cX2_init 27 = .ok (.aload_n 0, 1) := by decide +kernel
theorem dX2_init_28 : decode cX2_init 28 = .ok (.iconst 0, 1) := by decide +kernel
theorem dX2_init_29 : decode cX2_init 29 = .ok (.putfield 22, 3) := by decide +kernel
theorem dX2_init_32 : decode cX2_init 32 = .ok (.aload_n 0, 1) := by decide +kernel
theorem dX2_init_33 : decode cX2_init 33 = .ok (.iconst 0, 1) := by decide +kernel
theorem dX2_init_34 : decode cX2_init 34 = .ok (.putfield 25, 3) := by decide +kernel
theorem dX2_init_37 : decode cX2_init 37 = .ok (.aload_n 0, 1) := by decide +kernel
theorem dX2_init_38 : decode cX2_init 38 = .ok (.iconst 1, 1) := by decide +kernel
theorem dX2_init_39 : decode cX2_init 39 = .ok (.putfield 28, 3) := by decide +kernel
theorem dX2_init_42 : decode cX2_init 42 = .ok (.aload_n 0, 1) := by decide +kernel
theorem dX2_init_43 : decode cX2_init 43 = .ok (.aload_n 1, 1) := by decide +kernel
theorem dX2_init_44 : decode cX2_init 44 = .ok (.putfield 32, 3) := by decide +kernel
theorem dX2_init_47 : decode cX2_init 47 = .ok (.aload_n 0, 1) := by decide +kernel
theorem dX2_init_48 : decode cX2_init 48 = .ok (.aload_n 2, 1) := by decide +kernel
theorem dX2_init_49 : decode cX2_init 49 = .ok (.putfield 36, 3) := by decide +kernel
theorem dX2_init_52 : decode cX2_init 52 = .ok (.aload_n 0, 1) := by decide +kernel
theorem dX2_init_53 : decode cX2_init 53 = .ok (.aload_n 3, 1) := by decide +kernel
theorem dX2_init_54 : decode cX2_init 54 = .ok (.putfield 40, 3) := by decide +kernel
theorem dX2_init_57 : decode cX2_init 57 = .ok (.return_, 1) := by decide +kernel
set_option maxRecDepth 20000 in
theorem ggX2_forget_X5_forget : GoodIn wsX2_forget wsX5_forget := goodIn_r _ [7, 8, 18, 19, 20, 21, 22] (by decide +kernel) (by decide +kernel)
set_option maxRecDepth 20000 in
theorem gX2_forget_X5_forget : GoodIn wsX2_forget (wsV RX2 44 RX5 yX5_forget wsX5_forget) := goodIn_app (goodIn_of _ (by decide +kernel)) ggX2_forget_X5_forget
theorem dX2_forget_0 : decode cX2_forget 0 = .ok (.aload_n 0, 1) := by decide +kernel
theorem dX2_forget_1 : decode cX2_forget 1 = .ok (.iconst 1, 1) := by decide +kernel
theorem dX2_forget_2 : decode cX2_forget 2 = .ok (.putfield 28, 3) := by decide +kernel
theorem dX2_forget_5 : decode cX2_forget 5 = .ok (.aload_n 0, 1) := by decide +kernel
theorem dX2_forget_6 : decode cX2_forget 6 = .ok (.getfield 40, 3) := by decide +kernel
theorem dX2_forget_9 : decode cX2_forget 9 = .ok (.invokevirtual 44, 3) := by decide +kernel
theorem dX2_forget_12 : decode cX2_forget 12 = .ok (.return_, 1) := by decide +kernel
set_option maxRecDepth 20000 in
theorem ggX2_makeReady_X5_makeReady : GoodIn wsX2_makeReady wsX5_makeReady := goodIn_r _ [13, 14, 15, 16, 17, 18, 19, 12, 20, 21, 22, 23, 24, 25, 26, 27, 28, 29, 30, 31, 32, 33, 34, 35, 36, 37, 38, 39, 40, 41, 42, 43, 44, 45, 46, 47, 48, 49, 50, 51, 52, 53, 54, 55, 56, 57, 58, 59, 60, 61, 62, 63, 64, 65, 66, 67, 68, 69, 70, 71, 72, 73, 74, 75, 76, 77, 78, 79, 80, 81, 82, 83, 84, 85, 86, 87, 88, 89, 90, 91, 92, 93, 94, 95, 96, 97, 98, 99, 100, 160, 161, 162, 163, 164, 153, 154, 155, 156, 157, 158, 159, 165, 166, 167, 168, 169] (by decide +kernel) (by decide +kernel)
set_option maxRecDepth 20000 in
theorem gX2_makeReady_X5_makeReady : GoodIn wsX2_makeReady (wsV RX2 49 RX5 yX5_makeReady wsX5_makeReady) := goodIn_app (goodIn_of _ (by decide +kernel)) ggX2_makeReady_X5_makeReady
set_option maxRecDepth 20000 in
theorem ggX2_makeReady_X2_lay : GoodIn wsX2_makeReady wsX2_lay := goodIn_r _ [105, 2, 5, 106, 107, 108, 109, 110, 12, 111, 15, 16, 84, 60, 61, 62, 63, 21, 24, 25, 26, 27, 28, 29, 30, 91, 92, 93, 94, 95, 96, 112, 86, 87, 67, 88, 89, 90, 113, 114, 115, 44, 116, 46, 47, 49, 50, 51, 52, 53, 54, 55, 56, 57, 58, 59, 117, 118, 119, 104, 120, 3, 121, 8, 122, 123, 124, 125, 126, 127, 65, 66, 68, 69, 70, 71, 72, 73, 74, 128, 129, 130, 131, 40, 75, 132, 133, 134, 135, 136, 4, 137, 138, 139, 140, 141, 101, 102, 103, 142, 143, 144, 145, 146, 147, 148, 149, 150, 151, 152, 153, 154, 155, 156, 157, 158, 159, 160, 161, 162, 163, 164, 165, 166, 167, 168, 169] (by decide +kernel) (by decide +kernel)
set_option maxRecDepth 20000 in
theorem gX2_makeReady_X2_lay : GoodIn wsX2_makeReady (wsV RX2 60 RX2 yX2_lay wsX2_lay) := goodIn_app (goodIn_of _ (by decide +kernel)) ggX2_makeReady_X2_lay
theorem dX2_makeReady_0 : decode cX2_makeReady 0 = .ok (.aload_n 0, 1) := by decide +kernel
theorem dX2_makeReady_1 : decode cX2_makeReady 1 = .ok (.getfield 28, 3) := by decide +kernel
theorem dX2_makeReady_4 : decode cX2_makeReady 4 = .ok (.ifCond .ne 4, 3) := by decide +kernel
theorem dX2_makeReady_7 : decode cX2_makeReady 7 = .ok (.return_, 1) := by decide +kernel
theorem dX2_makeReady_8 : decode cX2_makeReady 8 = .ok (.aload_n 0, 1) := by decide +kernel
theorem dX2_makeReady_9 : decode cX2_makeReady 9 = .ok (.getfield 40, 3) := by decide +kernel
theorem dX2_makeReady_12 : decode cX2_makeReady 12 = .ok (.invokevirtual 49, 3) := by decide +kernel
theorem dX2_makeReady_15 : decode cX2_makeReady 15 = .ok (.aload_n 0, 1) := by decide +kernel
theorem dX2_makeReady_16 : decode cX2_makeReady 16 = .ok (.iconst 0, 1) := by decide +kernel
theorem dX2_makeReady_17 : decode cX2_makeReady 17 = .ok (.putfield 18, 3) := by decide +kernel
theorem dX2_makeReady_20 : decode cX2_makeReady 20 = .ok (.aload_n 0, 1) := by decide +kernel
theorem dX2_makeReady_21 : decode cX2_makeReady 21 = .ok (.iconst 0, 1) := by decide +kernel
theorem dX2_makeReady_22 : decode cX2_makeReady 22 = .ok (.putfield 22, 3) := by decide +kernel
theorem dX2_makeReady_25 : decode cX2_makeReady 25 = .ok (.aload_n 0, 1) := by decide +kernel
theorem dX2_makeReady_26 : decode cX2_makeReady 26 = .ok (.aload_n 0, 1) := by decide +kernel
theorem dX2_makeReady_27 : decode cX2_makeReady 27 = .ok (.getfield 32, 3) := by decide +kernel
theorem dX2_makeReady_30 : decode cX2_makeReady 30 = .ok (.getfield 52, 3) := by decide +kernel
theorem dX2_makeReady_33 : decode cX2_makeReady 33 = .ok (.aload_n 0, 1) := by decide +kernel
theorem dX2_makeReady_34 : decode cX2_makeReady 34 = .ok (.getfield 32, 3) := by decide +kernel
theorem dX2_makeReady_37 : decode cX2_makeReady 37 = .ok (.getfield 57, 3) := by decide +kernel
theorem dX2_makeReady_40 : decode cX2_makeReady 40 = .ok (.imul, 1) := by decide +kernel
theorem dX2_makeReady_41 : decode cX2_makeReady 41 = .ok (.putfield 25, 3) := by decide +kernel
theorem dX2_makeReady_44 : decode cX2_makeReady 44 = .ok (.aload_n 0, 1) := by decide +kernel
theorem dX2_makeReady_45 : decode cX2_makeReady 45 = .ok (.iconst 0, 1) := by decide +kernel
theorem dX2_makeReady_46 : decode cX2_makeReady 46 = .ok (.iconst 0, 1) := by decide +kernel
theorem dX2_makeReady_47 : decode cX2_makeReady 47 = .ok (.aload_n 0, 1) := by decide +kernel
theorem dX2_makeReady_48 : decode cX2_makeReady 48 = .ok (.getfield 32, 3) := by decide +kernel
theorem dX2_makeReady_51 : decode cX2_makeReady 51 = .ok (.getfield 52, 3) := by decide +kernel
theorem dX2_makeReady_54 : decode cX2_makeReady 54 = .ok (.aload_n 0, 1) := by decide +kernel
theorem dX2_makeReady_55 : decode cX2_makeReady 55 = .ok (.getfield 32, 3) := by decide +kernel
theorem dX2_makeReady_58 : decode cX2_makeReady 58 = .ok (.getfield 57, 3) := by decide +kernel
theorem dX2_makeReady_61 : decode cX2_makeReady 61 = .ok (.iconst 1, 1) := by decide +kernel
theorem dX2_makeReady_62 : decode cX2_makeReady 62 = .ok (.invokevirtual 60, 3) := by decide +kernel
theorem dX2_makeReady_65 : decode cX2_makeReady 65 = .ok (.aload_n 0, 1) := by decide +kernel
theorem dX2_makeReady_66 : decode cX2_makeReady 66 = .ok (.iconst 0, 1) := by decide +kernel
theorem dX2_makeReady_67 : decode cX2_makeReady 67 = .ok (.putfield 28, 3) := by decide +kernel
theorem dX2_makeReady_70 : decode cX2_makeReady 70 = .ok (.return_, 1) := by decide +kernel
set_option maxRecDepth 20000 in
theorem ggX2_lay_X5_of : GoodIn wsX2_lay wsX5_of := goodIn_r _ [9, 10, 11, 12, 13, 14, 15, 8, 16, 17, 18, 19, 20, 21, 22, 23, 24, 25, 26, 27, 28, 29, 30, 117, 118, 119, 120, 121, 110, 111, 112, 113, 114, 115, 116] (by decide +kernel) (by decide +kernel)
set_option maxRecDepth 20000 in
theorem gX2_lay_X5_of : GoodIn wsX2_lay (wsV RX2 64 RX5 yX5_of wsX5_of) := goodIn_app (goodIn_of _ (by decide +kernel)) ggX2_lay_X5_of
set_option maxRecDepth 20000 in
theorem ggX2_lay_X4_isClean : GoodIn wsX2_lay wsX4_isClean := goodIn_r _ [35, 36, 37, 110, 111, 112, 113, 114, 115, 116] (by decide +kernel) (by decide +kernel)
set_option maxRecDepth 20000 in
theorem gX2_lay_X4_isClean : GoodIn wsX2_lay (wsV RX2 68 RX4 yX4_isClean wsX4_isClean) := goodIn_app (goodIn_of _ (by decide +kernel)) ggX2_lay_X4_isClean
set_option maxRecDepth 20000 in
theorem ggX2_lay_X1_firstOfValue : GoodIn wsX2_lay wsX1_firstOfValue := goodIn_r _ [42, 43, 44, 45, 46, 47, 41, 48, 49, 50, 51, 52, 53, 54, 55, 122, 123, 124, 125, 126] (by decide +kernel) (by decide +kernel)
set_option maxRecDepth 20000 in
theorem gX2_lay_X1_firstOfValue : GoodIn wsX2_lay (wsV RX2 72 RX1 yX1_firstOfValue wsX1_firstOfValue) := goodIn_app (goodIn_of _ (by decide +kernel)) ggX2_lay_X1_firstOfValue
set_option maxRecDepth 20000 in
theorem ggX2_lay_X2_addPiece : GoodIn wsX2_lay wsX2_addPiece := goodIn_r _ [60, 61, 62, 3, 63, 64, 46, 47, 41, 48, 49, 50, 101, 102, 103, 104, 105, 106, 107, 108, 109, 122, 123, 124, 125, 126] (by decide +kernel) (by decide +kernel)
set_option maxRecDepth 20000 in
theorem gX2_lay_X2_addPiece : GoodIn wsX2_lay (wsV RX2 78 RX2 yX2_addPiece wsX2_addPiece) := goodIn_app (goodIn_of _ (by decide +kernel)) ggX2_lay_X2_addPiece
set_option maxRecDepth 20000 in
theorem ggX2_lay_X2_firstCut : GoodIn wsX2_lay wsX2_firstCut := goodIn_r _ [68, 2, 1, 69, 70, 71, 34, 72, 73, 74, 75, 76, 77, 78, 79, 80, 81, 8, 82, 10, 83, 84, 85, 6, 7, 9, 11, 12, 13, 14, 15, 16, 17, 18, 19, 20, 21, 22, 23, 24, 25, 26, 27, 28, 29, 30, 101, 102, 103, 104, 105, 106, 107, 108, 109, 110, 111, 112, 113, 114, 115, 116, 117, 118, 119, 120, 121] (by decide +kernel) (by decide +kernel)
set_option maxRecDepth 20000 in
theorem gX2_lay_X2_firstCut : GoodIn wsX2_lay (wsV RX2 81 RX2 yX2_firstCut wsX2_firstCut) := goodIn_app (goodIn_of _ (by decide +kernel)) ggX2_lay_X2_firstCut
set_option maxRecDepth 20000 in
theorem ggX2_lay_X2_addCut : GoodIn wsX2_lay wsX2_addCut := goodIn_r _ [89, 90, 2, 91, 92, 75, 76, 34, 77, 78, 101, 102, 103, 104, 105, 106, 107, 108, 109, 110, 111, 112, 113, 114, 115, 116] (by decide +kernel) (by decide +kernel)
set_option maxRecDepth 20000 in
theorem gX2_lay_X2_addCut : GoodIn wsX2_lay (wsV RX2 85 RX2 yX2_addCut wsX2_addCut) := goodIn_app (goodIn_of _ (by decide +kernel)) ggX2_lay_X2_addCut
set_option maxRecDepth 20000 in
theorem ggX2_lay_X2_layBoth : GoodIn wsX2_lay wsX2_layBoth := goodIn_r _ [99, 2, 100, 92, 75, 76, 34, 77, 78, 96, 97, 98, 59, 0, 1, 3, 4, 5, 6, 7, 8, 9, 10, 11, 12, 13, 14, 15, 16, 17, 18, 19, 20, 21, 22, 23, 24, 25, 26, 27, 28, 29, 30, 31, 32, 33, 35, 36, 37, 38, 39, 40, 41, 42, 43, 44, 45, 46, 47, 48, 49, 50, 51, 52, 53, 54, 55, 56, 57, 58, 60, 61, 62, 63, 64, 65, 66, 67, 68, 69, 70, 71, 72, 73, 74, 79, 80, 81, 82, 83, 84, 85, 86, 87, 88, 89, 90, 91, 93, 94, 95, 101, 102, 103, 104, 105, 106, 107, 108, 109, 110, 111, 112, 113, 114, 115, 116, 117, 118, 119, 120, 121, 122, 123, 124, 125, 126] (by decide +kernel) (by decide +kernel)
set_option maxRecDepth 20000 in
theorem gX2_lay_X2_layBoth : GoodIn wsX2_lay (wsV RX2 89 RX2 yX2_layBoth wsX2_layBoth) := goodIn_app (goodIn_of _ (by decide +kernel)) ggX2_lay_X2_layBoth
set_option maxRecDepth 20000 in
theorem ggX2_lay_X2_lay : GoodIn wsX2_lay wsX2_lay := goodIn_r _ [0, 1, 2, 3, 4, 5, 6, 7, 8, 9, 10, 11, 12, 13, 14, 15, 16, 17, 18, 19, 20, 21, 22, 23, 24, 25, 26, 27, 28, 29, 30, 31, 32, 33, 34, 35, 36, 37, 38, 39, 40, 41, 42, 43, 44, 45, 46, 47, 48, 49, 50, 51, 52, 53, 54, 55, 56, 57, 58, 59, 60, 61, 62, 63, 64, 65, 66, 67, 68, 69, 70, 71, 72, 73, 74, 75, 76, 77, 78, 79, 80, 81, 82, 83, 84, 85, 86, 87, 88, 89, 90, 91, 92, 93, 94, 95, 96, 97, 98, 99, 100, 101, 102, 103, 104, 105, 106, 107, 108, 109, 110, 111, 112, 113, 114, 115, 116, 117, 118, 119, 120, 121, 122, 123, 124, 125, 126] (by decide +kernel) (by decide +kernel)
set_option maxRecDepth 20000 in
theorem gX2_lay_X2_lay : GoodIn wsX2_lay (wsV RX2 60 RX2 yX2_lay wsX2_lay) := goodIn_app (goodIn_of _ (by decide +kernel)) ggX2_lay_X2_lay
theorem dX2_lay_0 : decode cX2_lay 0 = .ok (.aload_n 0, 1) := by decide +kernel
theorem dX2_lay_1 : decode cX2_lay 1 = .ok (.getfield 40, 3) := by decide +kernel
theorem dX2_lay_4 : decode cX2_lay 4 = .ok (.iload_n 1, 1) := by decide +kernel
theorem dX2_lay_5 : decode cX2_lay 5 = .ok (.iload_n 2, 1) := by decide +kernel
theorem dX2_lay_6 : decode cX2_lay 6 = .ok (.iload_n 3, 1) := by decide +kernel
theorem dX2_lay_7 : decode cX2_lay 7 = .ok (.iload 4, 2) := by decide +kernel
theorem dX2_lay_9 : decode cX2_lay 9 = .ok (.iload 5, 2) := by decide +kernel
theorem dX2_lay_11 : decode cX2_lay 11 = .ok (.invokevirtual 64, 3) := by decide +kernel
theorem dX2_lay_14 : decode cX2_lay 14 = .ok (.istore 6, 2) := by decide +kernel
theorem dX2_lay_16 : decode cX2_lay 16 = .ok (.iload 6, 2) := by decide +kernel
theorem dX2_lay_18 : decode cX2_lay 18 = .ok (.ifCond .ne 4, 3) := by decide +kernel
theorem dX2_lay_21 : decode cX2_lay 21 = .ok (.return_, 1) := by decide +kernel
theorem dX2_lay_22 : decode cX2_lay 22 = .ok (.aload_n 0, 1) := by decide +kernel
theorem dX2_lay_23 : decode cX2_lay 23 = .ok (.getfield 32, 3) := by decide +kernel
theorem dX2_lay_26 : decode cX2_lay 26 = .ok (.iload_n 1, 1) := by decide +kernel
theorem dX2_lay_27 : decode cX2_lay 27 = .ok (.iload_n 2, 1) := by decide +kernel
theorem dX2_lay_28 : decode cX2_lay 28 = .ok (.iload_n 3, 1) := by decide +kernel
theorem dX2_lay_29 : decode cX2_lay 29 = .ok (.iload 4, 2) := by decide +kernel
theorem dX2_lay_31 : decode cX2_lay 31 = .ok (.invokevirtual 68, 3) := by decide +kernel
theorem dX2_lay_34 : decode cX2_lay 34 = .ok (.ifCond .eq 18, 3) := by decide +kernel
theorem dX2_lay_37 : decode cX2_lay 37 = .ok (.aload_n 0, 1) := by decide +kernel
theorem dX2_lay_38 : decode cX2_lay 38 = .ok (.getfield 36, 3) := by decide +kernel
theorem dX2_lay_41 : decode cX2_lay 41 = .ok (.iload_n 3, 1) := by decide +kernel
theorem dX2_lay_42 : decode cX2_lay 42 = .ok (.iload 4, 2) := by decide +kernel
theorem dX2_lay_44 : decode cX2_lay 44 = .ok (.iload 6, 2) := by decide +kernel
theorem dX2_lay_46 : decode cX2_lay 46 = .ok (.invokevirtual 72, 3) := by decide +kernel
theorem dX2_lay_49 : decode cX2_lay 49 = .ok (.goto 4, 3) := by decide +kernel
theorem dX2_lay_52 : decode cX2_lay 52 = .ok (.iconst (-1), 1) := by decide +kernel
theorem dX2_lay_53 : decode cX2_lay 53 = .ok (.istore 7, 2) := by decide +kernel
theorem dX2_lay_55 : decode cX2_lay 55 = .ok (.iload 7, 2) := by decide +kernel
theorem dX2_lay_57 : decode cX2_lay 57 = .ok (.iconst (-1), 1) := by decide +kernel
theorem dX2_lay_58 : decode cX2_lay 58 = .ok (.if_icmp .eq 15, 3) := by decide +kernel
theorem dX2_lay_61 : decode cX2_lay 61 = .ok (.aload_n 0, 1) := by decide +kernel
theorem dX2_lay_62 : decode cX2_lay 62 = .ok (.iload 7, 2) := by decide +kernel
theorem dX2_lay_64 : decode cX2_lay 64 = .ok (.iload_n 1, 1) := by decide +kernel
theorem dX2_lay_65 : decode cX2_lay 65 = .ok (.iload_n 2, 1) := by decide +kernel
theorem dX2_lay_66 : decode cX2_lay 66 = .ok (.iload_n 3, 1) := by decide +kernel
theorem dX2_lay_67 : decode cX2_lay 67 = .ok (.iload 4, 2) := by decide +kernel
theorem dX2_lay_69 : decode cX2_lay 69 = .ok (.invokevirtual 78, 3) := by decide +kernel
theorem dX2_lay_72 : decode cX2_lay 72 = .ok (.return_, 1) := by decide +kernel
theorem dX2_lay_73 : decode cX2_lay 73 = .ok (.aload_n 0, 1) := by decide +kernel
theorem dX2_lay_74 : decode cX2_lay 74 = .ok (.iload_n 1, 1) := by decide +kernel
theorem dX2_lay_75 : decode cX2_lay 75 = .ok (.iload_n 2, 1) := by decide +kernel
theorem dX2_lay_76 : decode cX2_lay 76 = .ok (.iload_n 3, 1) := by decide +kernel
theorem dX2_lay_77 : decode cX2_lay 77 = .ok (.iload 4, 2) := by decide +kernel
theorem dX2_lay_79 : decode cX2_lay 79 = .ok (.iload 5, 2) := by decide +kernel
theorem dX2_lay_81 : decode cX2_lay 81 = .ok (.iload 6, 2) := by decide +kernel
theorem dX2_lay_83 : decode cX2_lay 83 = .ok (.invokevirtual 81, 3) := by decide +kernel
theorem dX2_lay_86 : decode cX2_lay 86 = .ok (.istore 8, 2) := by decide +kernel
theorem dX2_lay_88 : decode cX2_lay 88 = .ok (.iload 8, 2) := by decide +kernel
theorem dX2_lay_90 : decode cX2_lay 90 = .ok (.iconst (-1), 1) := by decide +kernel
theorem dX2_lay_91 : decode cX2_lay 91 = .ok (.if_icmp .eq 32, 3) := by decide +kernel
theorem dX2_lay_94 : decode cX2_lay 94 = .ok (.aload_n 0, 1) := by decide +kernel
theorem dX2_lay_95 : decode cX2_lay 95 = .ok (.iload_n 1, 1) := by decide +kernel
theorem dX2_lay_96 : decode cX2_lay 96 = .ok (.iload_n 2, 1) := by decide +kernel
theorem dX2_lay_97 : decode cX2_lay 97 = .ok (.iload_n 3, 1) := by decide +kernel
theorem dX2_lay_98 : decode cX2_lay 98 = .ok (.iload 4, 2) := by decide +kernel
theorem dX2_lay_100 : decode cX2_lay 100 = .ok (.iload 5, 2) := by decide +kernel
theorem dX2_lay_102 : decode cX2_lay 102 = .ok (.iload 8, 2) := by decide +kernel
theorem dX2_lay_104 : decode cX2_lay 104 = .ok (.invokevirtual 85, 3) := by decide +kernel
theorem dX2_lay_107 : decode cX2_lay 107 = .ok (.aload_n 0, 1) := by decide +kernel
theorem dX2_lay_108 : decode cX2_lay 108 = .ok (.iload_n 1, 1) := by decide +kernel
theorem dX2_lay_109 : decode cX2_lay 109 = .ok (.iload_n 2, 1) := by decide +kernel
theorem dX2_lay_110 : decode cX2_lay 110 = .ok (.iload_n 3, 1) := by decide +kernel
theorem dX2_lay_111 : decode cX2_lay 111 = .ok (.iload 4, 2) := by decide +kernel
theorem dX2_lay_113 : decode cX2_lay 113 = .ok (.iload 5, 2) := by decide +kernel
theorem dX2_lay_115 : decode cX2_lay 115 = .ok (.iload 8, 2) := by decide +kernel
theorem dX2_lay_117 : decode cX2_lay 117 = .ok (.invokevirtual 89, 3) := by decide +kernel
theorem dX2_lay_120 : decode cX2_lay 120 = .ok (.goto 28, 3) := by decide +kernel
theorem dX2_lay_123 : decode cX2_lay 123 = .ok (.iload 5, 2) := by decide +kernel
theorem dX2_lay_125 : decode cX2_lay 125 = .ok (.aload_n 0, 1) := by decide +kernel
theorem dX2_lay_126 : decode cX2_lay 126 = .ok (.getfield 32, 3) := by decide +kernel
theorem dX2_lay_129 : decode cX2_lay 129 = .ok (.getfield 92, 3) := by decide +kernel
theorem dX2_lay_132 : decode cX2_lay 132 = .ok (.if_icmp .ge 16, 3) := by decide +kernel
theorem dX2_lay_135 : decode cX2_lay 135 = .ok (.aload_n 0, 1) := by decide +kernel
theorem dX2_lay_136 : decode cX2_lay 136 = .ok (.iload_n 1, 1) := by decide +kernel
theorem dX2_lay_137 : decode cX2_lay 137 = .ok (.iload_n 2, 1) := by decide +kernel
theorem dX2_lay_138 : decode cX2_lay 138 = .ok (.iload_n 3, 1) := by decide +kernel
theorem dX2_lay_139 : decode cX2_lay 139 = .ok (.iload 4, 2) := by decide +kernel
theorem dX2_lay_141 : decode cX2_lay 141 = .ok (.iload 5, 2) := by decide +kernel
theorem dX2_lay_143 : decode cX2_lay 143 = .ok (.iconst 1, 1) := by decide +kernel
theorem dX2_lay_144 : decode cX2_lay 144 = .ok (.iadd, 1) := by decide +kernel
theorem dX2_lay_145 : decode cX2_lay 145 = .ok (.invokevirtual 60, 3) := by decide +kernel
theorem dX2_lay_148 : decode cX2_lay 148 = .ok (.return_, 1) := by decide +kernel
set_option maxRecDepth 20000 in
theorem ggX2_layBoth_X4_partsWidth : GoodIn wsX2_layBoth wsX4_partsWidth := goodIn_r _ [7, 8, 110, 111, 112, 113, 114, 115, 116] (by decide +kernel) (by decide +kernel)
set_option maxRecDepth 20000 in
theorem gX2_layBoth_X4_partsWidth : GoodIn wsX2_layBoth (wsV RX2 98 RX4 yX4_partsWidth wsX4_partsWidth) := goodIn_app (goodIn_of _ (by decide +kernel)) ggX2_layBoth_X4_partsWidth
set_option maxRecDepth 20000 in
theorem ggX2_layBoth_X2_lay : GoodIn wsX2_layBoth wsX2_lay := goodIn_r _ [13, 14, 1, 15, 16, 17, 18, 19, 20, 21, 22, 23, 24, 25, 26, 27, 28, 29, 30, 31, 32, 33, 34, 35, 36, 37, 38, 39, 40, 41, 42, 43, 44, 45, 6, 46, 47, 48, 49, 50, 51, 52, 53, 54, 55, 56, 57, 58, 59, 60, 61, 62, 63, 64, 65, 66, 67, 68, 69, 12, 70, 71, 72, 73, 74, 75, 76, 77, 78, 79, 80, 81, 82, 83, 84, 4, 5, 7, 8, 85, 86, 87, 88, 89, 90, 91, 92, 93, 94, 95, 96, 97, 3, 98, 99, 100, 9, 10, 11, 0, 2, 101, 102, 103, 104, 105, 106, 107, 108, 109, 110, 111, 112, 113, 114, 115, 116, 117, 118, 119, 120, 121, 122, 123, 124, 125, 126] (by decide +kernel) (by decide +kernel)
set_option maxRecDepth 20000 in
theorem gX2_layBoth_X2_lay : GoodIn wsX2_layBoth (wsV RX2 60 RX2 yX2_lay wsX2_lay) := goodIn_app (goodIn_of _ (by decide +kernel)) ggX2_layBoth_X2_lay
theorem dX2_layBoth_0 : decode cX2_layBoth 0 = .ok (.iload 6, 2) := by decide +kernel
theorem dX2_layBoth_2 : decode cX2_layBoth 2 = .ok (.aload_n 0, 1) := by decide +kernel
theorem dX2_layBoth_3 : decode cX2_layBoth 3 = .ok (.getfield 32, 3) := by decide +kernel
theorem dX2_layBoth_6 : decode cX2_layBoth 6 = .ok (.getfield 95, 3) := by decide +kernel
theorem dX2_layBoth_9 : decode cX2_layBoth 9 = .ok (.iadd, 1) := by decide +kernel
theorem dX2_layBoth_10 : decode cX2_layBoth 10 = .ok (.istore 7, 2) := by decide +kernel
theorem dX2_layBoth_12 : decode cX2_layBoth 12 = .ok (.aload_n 0, 1) := by decide +kernel
theorem dX2_layBoth_13 : decode cX2_layBoth 13 = .ok (.getfield 32, 3) := by decide +kernel
theorem dX2_layBoth_16 : decode cX2_layBoth 16 = .ok (.iload 5, 2) := by decide +kernel
theorem dX2_layBoth_18 : decode cX2_layBoth 18 = .ok (.invokevirtual 98, 3) := by decide +kernel
theorem dX2_layBoth_21 : decode cX2_layBoth 21 = .ok (.ifCond .eq 35, 3) := by decide +kernel
theorem dX2_layBoth_24 : decode cX2_layBoth 24 = .ok (.aload_n 0, 1) := by decide +kernel
theorem dX2_layBoth_25 : decode cX2_layBoth 25 = .ok (.iload_n 1, 1) := by decide +kernel
theorem dX2_layBoth_26 : decode cX2_layBoth 26 = .ok (.iload_n 2, 1) := by decide +kernel
theorem dX2_layBoth_27 : decode cX2_layBoth 27 = .ok (.iload 6, 2) := by decide +kernel
theorem dX2_layBoth_29 : decode cX2_layBoth 29 = .ok (.iload 4, 2) := by decide +kernel
theorem dX2_layBoth_31 : decode cX2_layBoth 31 = .ok (.iload 5, 2) := by decide +kernel
theorem dX2_layBoth_33 : decode cX2_layBoth 33 = .ok (.invokevirtual 60, 3) := by decide +kernel
theorem dX2_layBoth_36 : decode cX2_layBoth 36 = .ok (.aload_n 0, 1) := by decide +kernel
theorem dX2_layBoth_37 : decode cX2_layBoth 37 = .ok (.iload_n 1, 1) := by decide +kernel
theorem dX2_layBoth_38 : decode cX2_layBoth 38 = .ok (.iload 7, 2) := by decide +kernel
theorem dX2_layBoth_40 : decode cX2_layBoth 40 = .ok (.iadd, 1) := by decide +kernel
theorem dX2_layBoth_41 : decode cX2_layBoth 41 = .ok (.iload_n 2, 1) := by decide +kernel
theorem dX2_layBoth_42 : decode cX2_layBoth 42 = .ok (.iload_n 3, 1) := by decide +kernel
theorem dX2_layBoth_43 : decode cX2_layBoth 43 = .ok (.iload 7, 2) := by decide +kernel
theorem dX2_layBoth_45 : decode cX2_layBoth 45 = .ok (.isub, 1) := by decide +kernel
theorem dX2_layBoth_46 : decode cX2_layBoth 46 = .ok (.iload 4, 2) := by decide +kernel
theorem dX2_layBoth_48 : decode cX2_layBoth 48 = .ok (.iload 5, 2) := by decide +kernel
theorem dX2_layBoth_50 : decode cX2_layBoth 50 = .ok (.invokevirtual 60, 3) := by decide +kernel
theorem dX2_layBoth_53 : decode cX2_layBoth 53 = .ok (.goto 31, 3) := by decide +kernel
theorem dX2_layBoth_56 : decode cX2_layBoth 56 = .ok (.aload_n 0, 1) := by decide +kernel
theorem dX2_layBoth_57 : decode cX2_layBoth 57 = .ok (.iload_n 1, 1) := by decide +kernel
theorem dX2_layBoth_58 : decode cX2_layBoth 58 = .ok (.iload_n 2, 1) := by decide +kernel
theorem dX2_layBoth_59 : decode cX2_layBoth 59 = .ok (.iload_n 3, 1) := by decide +kernel
theorem dX2_layBoth_60 : decode cX2_layBoth 60 = .ok (.iload 6, 2) := by decide +kernel
theorem dX2_layBoth_62 : decode cX2_layBoth 62 = .ok (.iload 5, 2) := by decide +kernel
theorem dX2_layBoth_64 : decode cX2_layBoth 64 = .ok (.invokevirtual 60, 3) := by decide +kernel
theorem dX2_layBoth_67 : decode cX2_layBoth 67 = .ok (.aload_n 0, 1) := by decide +kernel
theorem dX2_layBoth_68 : decode cX2_layBoth 68 = .ok (.iload_n 1, 1) := by decide +kernel
theorem dX2_layBoth_69 : decode cX2_layBoth 69 = .ok (.iload_n 2, 1) := by decide +kernel
theorem dX2_layBoth_70 : decode cX2_layBoth 70 = .ok (.iload 7, 2) := by decide +kernel
theorem dX2_layBoth_72 : decode cX2_layBoth 72 = .ok (.iadd, 1) := by decide +kernel
theorem dX2_layBoth_73 : decode cX2_layBoth 73 = .ok (.iload_n 3, 1) := by decide +kernel
theorem dX2_layBoth_74 : decode cX2_layBoth 74 = .ok (.iload 4, 2) := by decide +kernel
theorem dX2_layBoth_76 : decode cX2_layBoth 76 = .ok (.iload 7, 2) := by decide +kernel
theorem dX2_layBoth_78 : decode cX2_layBoth 78 = .ok (.isub, 1) := by decide +kernel
theorem dX2_layBoth_79 : decode cX2_layBoth 79 = .ok (.iload 5, 2) := by decide +kernel
theorem dX2_layBoth_81 : decode cX2_layBoth 81 = .ok (.invokevirtual 60, 3) := by decide +kernel
theorem dX2_layBoth_84 : decode cX2_layBoth 84 = .ok (.return_, 1) := by decide +kernel
set_option maxRecDepth 20000 in
theorem ggX2_firstCut_X4_lastCut : GoodIn wsX2_firstCut wsX4_lastCut := goodIn_r _ [7, 8, 9, 10, 11, 6, 12, 13, 55, 56, 57, 58, 59, 60, 61] (by decide +kernel) (by decide +kernel)
set_option maxRecDepth 20000 in
theorem gX2_firstCut_X4_lastCut : GoodIn wsX2_firstCut (wsV RX2 102 RX4 yX4_lastCut wsX4_lastCut) := goodIn_app (goodIn_of _ (by decide +kernel)) ggX2_firstCut_X4_lastCut
set_option maxRecDepth 20000 in
theorem ggX2_firstCut_X5_ofCut : GoodIn wsX2_firstCut wsX5_ofCut := goodIn_r _ [18, 19, 20, 21, 10, 11, 6, 12, 13, 22, 23, 24, 17, 25, 26, 27, 28, 29, 30, 31, 32, 33, 34, 35, 36, 37, 38, 39, 40, 41, 42, 43, 44, 45, 62, 63, 64, 65, 66, 55, 56, 57, 58, 59, 60, 61] (by decide +kernel) (by decide +kernel)
set_option maxRecDepth 20000 in
theorem gX2_firstCut_X5_ofCut : GoodIn wsX2_firstCut (wsV RX2 105 RX5 yX5_ofCut wsX5_ofCut) := goodIn_app (goodIn_of _ (by decide +kernel)) ggX2_firstCut_X5_ofCut
theorem dX2_firstCut_0 : decode cX2_firstCut 0 = .ok (.aload_n 0, 1) := by decide +kernel
theorem dX2_firstCut_1 : decode cX2_firstCut 1 = .ok (.getfield 32, 3) := by decide +kernel
theorem dX2_firstCut_4 : decode cX2_firstCut 4 = .ok (.iload_n 3, 1) := by decide +kernel
theorem dX2_firstCut_5 : decode cX2_firstCut 5 = .ok (.iload 4, 2) := by decide +kernel
theorem dX2_firstCut_7 : decode cX2_firstCut 7 = .ok (.iload 5, 2) := by decide +kernel
theorem dX2_firstCut_9 : decode cX2_firstCut 9 = .ok (.invokevirtual 102, 3) := by decide +kernel
theorem dX2_firstCut_12 : decode cX2_firstCut 12 = .ok (.istore 7, 2) := by decide +kernel
theorem dX2_firstCut_14 : decode cX2_firstCut 14 = .ok (.iconst 1, 1) := by decide +kernel
theorem dX2_firstCut_15 : decode cX2_firstCut 15 = .ok (.istore 8, 2) := by decide +kernel
theorem dX2_firstCut_17 : decode cX2_firstCut 17 = .ok (.iload 8, 2) := by decide +kernel
theorem dX2_firstCut_19 : decode cX2_firstCut 19 = .ok (.iload 7, 2) := by decide +kernel
theorem dX2_firstCut_21 : decode cX2_firstCut 21 = .ok (.if_icmp .gt 33, 3) := by decide +kernel
theorem dX2_firstCut_24 : decode cX2_firstCut 24 = .ok (.aload_n 0, 1) := by decide +kernel
theorem dX2_firstCut_25 : decode cX2_firstCut 25 = .ok (.getfield 40, 3) := by decide +kernel
theorem dX2_firstCut_28 : decode cX2_firstCut 28 = .ok (.iload_n 1, 1) := by decide +kernel
theorem dX2_firstCut_29 : decode cX2_firstCut 29 = .ok (.iload_n 2, 1) := by decide +kernel
theorem dX2_firstCut_30 : decode cX2_firstCut 30 = .ok (.iload_n 3, 1) := by decide +kernel
theorem dX2_firstCut_31 : decode cX2_firstCut 31 = .ok (.iload 4, 2) := by decide +kernel
theorem dX2_firstCut_33 : decode cX2_firstCut 33 = .ok (.iload 5, 2) := by decide +kernel
theorem dX2_firstCut_35 : decode cX2_firstCut 35 = .ok (.iload 8, 2) := by decide +kernel
theorem dX2_firstCut_37 : decode cX2_firstCut 37 = .ok (.invokevirtual 105, 3) := by decide +kernel
theorem dX2_firstCut_40 : decode cX2_firstCut 40 = .ok (.iload 6, 2) := by decide +kernel
theorem dX2_firstCut_42 : decode cX2_firstCut 42 = .ok (.if_icmp .ne 6, 3) := by decide +kernel
theorem dX2_firstCut_45 : decode cX2_firstCut 45 = .ok (.iload 8, 2) := by decide +kernel
theorem dX2_firstCut_47 : decode cX2_firstCut 47 = .ok (.ireturn, 1) := by decide +kernel
theorem dX2_firstCut_48 : decode cX2_firstCut 48 = .ok (.iinc 8 1, 3) := by decide +kernel
theorem dX2_firstCut_51 : decode cX2_firstCut 51 = .ok (.goto (-34), 3) := by decide +kernel
theorem dX2_firstCut_54 : decode cX2_firstCut 54 = .ok (.iconst (-1), 1) := by decide +kernel
theorem dX2_firstCut_55 : decode cX2_firstCut 55 = .ok (.ireturn, 1) := by decide +kernel
set_option maxRecDepth 20000 in
theorem ggX2_addPiece_X1_lies : GoodIn wsX2_addPiece wsX1_lies := goodIn_r _ [9, 10, 11, 21, 22, 23, 24, 25] (by decide +kernel) (by decide +kernel)
set_option maxRecDepth 20000 in
theorem gX2_addPiece_X1_lies : GoodIn wsX2_addPiece (wsV RX2 108 RX1 yX1_lies wsX1_lies) := goodIn_app (goodIn_of _ (by decide +kernel)) ggX2_addPiece_X1_lies
theorem dX2_addPiece_0 : decode cX2_addPiece 0 = .ok (.aload_n 0, 1) := by decide +kernel
theorem dX2_addPiece_1 : decode cX2_addPiece 1 = .ok (.getfield 18, 3) := by decide +kernel
theorem dX2_addPiece_4 : decode cX2_addPiece 4 = .ok (.sipush 256, 3) := by decide +kernel
theorem dX2_addPiece_7 : decode cX2_addPiece 7 = .ok (.if_icmp .lt 4, 3) := by decide +kernel
theorem dX2_addPiece_10 : decode cX2_addPiece 10 = .ok (.return_, 1) := by decide +kernel
theorem dX2_addPiece_11 : decode cX2_addPiece 11 = .ok (.aload_n 0, 1) := by decide +kernel
theorem dX2_addPiece_12 : decode cX2_addPiece 12 = .ok (.getfield 18, 3) := by decide +kernel
theorem dX2_addPiece_15 : decode cX2_addPiece 15 = .ok (.bipush 6, 2) := by decide +kernel
theorem dX2_addPiece_17 : decode cX2_addPiece 17 = .ok (.imul, 1) := by decide +kernel
theorem dX2_addPiece_18 : decode cX2_addPiece 18 = .ok (.istore 6, 2) := by decide +kernel
theorem dX2_addPiece_20 : decode cX2_addPiece 20 = .ok (.aload_n 0, 1) := by decide +kernel
theorem dX2_addPiece_21 : decode cX2_addPiece 21 = .ok (.getfield 11, 3) := by decide +kernel
theorem dX2_addPiece_24 : decode cX2_addPiece 24 = .ok (.iload 6, 2) := by decide +kernel
theorem dX2_addPiece_26 : decode cX2_addPiece 26 = .ok (.iload_n 1, 1) := by decide +kernel
theorem dX2_addPiece_27 : decode cX2_addPiece 27 = .ok (.iastore, 1) := by decide +kernel
theorem dX2_addPiece_28 : decode cX2_addPiece 28 = .ok (.aload_n 0, 1) := by decide +kernel
theorem dX2_addPiece_29 : decode cX2_addPiece 29 = .ok (.getfield 11, 3) := by decide +kernel
theorem dX2_addPiece_32 : decode cX2_addPiece 32 = .ok (.iload 6, 2) := by decide +kernel
theorem dX2_addPiece_34 : decode cX2_addPiece 34 = .ok (.iconst 1, 1) := by decide +kernel
theorem dX2_addPiece_35 : decode cX2_addPiece 35 = .ok (.iadd, 1) := by decide +kernel
theorem dX2_addPiece_36 : decode cX2_addPiece 36 = .ok (.iload_n 2, 1) := by decide +kernel
theorem dX2_addPiece_37 : decode cX2_addPiece 37 = .ok (.iastore, 1) := by decide +kernel
theorem dX2_addPiece_38 : decode cX2_addPiece 38 = .ok (.aload_n 0, 1) := by decide +kernel
theorem dX2_addPiece_39 : decode cX2_addPiece 39 = .ok (.getfield 11, 3) := by decide +kernel
theorem dX2_addPiece_42 : decode cX2_addPiece 42 = .ok (.iload 6, 2) := by decide +kernel
theorem dX2_addPiece_44 : decode cX2_addPiece 44 = .ok (.iconst 2, 1) := by decide +kernel
theorem dX2_addPiece_45 : decode cX2_addPiece 45 = .ok (.iadd, 1) := by decide +kernel
theorem dX2_addPiece_46 : decode cX2_addPiece 46 = .ok (.iload_n 3, 1) := by decide +kernel
theorem dX2_addPiece_47 : decode cX2_addPiece 47 = .ok (.iastore, 1) := by decide +kernel
theorem dX2_addPiece_48 : decode cX2_addPiece 48 = .ok (.aload_n 0, 1) := by decide +kernel
theorem dX2_addPiece_49 : decode cX2_addPiece 49 = .ok (.getfield 11, 3) := by decide +kernel
theorem dX2_addPiece_52 : decode cX2_addPiece 52 = .ok (.iload 6, 2) := by decide +kernel
theorem dX2_addPiece_54 : decode cX2_addPiece 54 = .ok (.iconst 3, 1) := by decide +kernel
theorem dX2_addPiece_55 : decode cX2_addPiece 55 = .ok (.iadd, 1) := by decide +kernel
theorem dX2_addPiece_56 : decode cX2_addPiece 56 = .ok (.iload 4, 2) := by decide +kernel
theorem dX2_addPiece_58 : decode cX2_addPiece 58 = .ok (.iastore, 1) := by decide +kernel
theorem dX2_addPiece_59 : decode cX2_addPiece 59 = .ok (.aload_n 0, 1) := by decide +kernel
theorem dX2_addPiece_60 : decode cX2_addPiece 60 = .ok (.getfield 11, 3) := by decide +kernel
theorem dX2_addPiece_63 : decode cX2_addPiece 63 = .ok (.iload 6, 2) := by decide +kernel
theorem dX2_addPiece_65 : decode cX2_addPiece 65 = .ok (.iconst 4, 1) := by decide +kernel
theorem dX2_addPiece_66 : decode cX2_addPiece 66 = .ok (.iadd, 1) := by decide +kernel
theorem dX2_addPiece_67 : decode cX2_addPiece 67 = .ok (.iload 5, 2) := by decide +kernel
theorem dX2_addPiece_69 : decode cX2_addPiece 69 = .ok (.iastore, 1) := by decide +kernel
theorem dX2_addPiece_70 : decode cX2_addPiece 70 = .ok (.aload_n 0, 1) := by decide +kernel
theorem dX2_addPiece_71 : decode cX2_addPiece 71 = .ok (.getfield 11, 3) := by decide +kernel
theorem dX2_addPiece_74 : decode cX2_addPiece 74 = .ok (.iload 6, 2) := by decide +kernel
theorem dX2_addPiece_76 : decode cX2_addPiece 76 = .ok (.iconst 5, 1) := by decide +kernel
theorem dX2_addPiece_77 : decode cX2_addPiece 77 = .ok (.iadd, 1) := by decide +kernel
theorem dX2_addPiece_78 : decode cX2_addPiece 78 = .ok (.aload_n 0, 1) := by decide +kernel
theorem dX2_addPiece_79 : decode cX2_addPiece 79 = .ok (.getfield 36, 3) := by decide +kernel
theorem dX2_addPiece_82 : decode cX2_addPiece 82 = .ok (.iload_n 1, 1) := by decide +kernel
theorem dX2_addPiece_83 : decode cX2_addPiece 83 = .ok (.iload 4, 2) := by decide +kernel
theorem dX2_addPiece_85 : decode cX2_addPiece 85 = .ok (.iload 5, 2) := by decide +kernel
theorem dX2_addPiece_87 : decode cX2_addPiece 87 = .ok (.invokevirtual 108, 3) := by decide +kernel
theorem dX2_addPiece_90 : decode cX2_addPiece 90 = .ok (.ifCond .eq 7, 3) := by decide +kernel
theorem dX2_addPiece_93 : decode cX2_addPiece 93 = .ok (.iconst 0, 1) := by decide +kernel
theorem dX2_addPiece_94 : decode cX2_addPiece 94 = .ok (.goto 4, 3) := by decide +kernel
theorem dX2_addPiece_97 : decode cX2_addPiece 97 = .ok (.iconst 1, 1) := by decide +kernel
theorem dX2_addPiece_98 : decode cX2_addPiece 98 = .ok (.iastore, 1) := by decide +kernel
theorem dX2_addPiece_99 : decode cX2_addPiece 99 = .ok (.aload_n 0, 1) := by decide +kernel
theorem dX2_addPiece_100 : decode cX2_addPiece 100 = .ok (.dup, 1) := by decide +kernel
theorem dX2_addPiece_101 : decode cX2_addPiece 101 = .ok (.getfield 18, 3) := by decide +kernel
theorem dX2_addPiece_104 : decode cX2_addPiece 104 = .ok (.iconst 1, 1) := by decide +kernel
theorem dX2_addPiece_105 : decode cX2_addPiece 105 = .ok (.iadd, 1) := by decide +kernel
theorem dX2_addPiece_106 : decode cX2_addPiece 106 = .ok (.putfield 18, 3) := by decide +kernel
theorem dX2_addPiece_109 : decode cX2_addPiece 109 = .ok (.aload_n 0, 1) := by decide +kernel
theorem dX2_addPiece_110 : decode cX2_addPiece 110 = .ok (.dup, 1) := by decide +kernel
theorem dX2_addPiece_111 : decode cX2_addPiece 111 = .ok (.getfield 25, 3) := by decide +kernel
theorem dX2_addPiece_114 : decode cX2_addPiece 114 = .ok (.iload 4, 2) := by decide +kernel
theorem dX2_addPiece_116 : decode cX2_addPiece 116 = .ok (.iload 5, 2) := by decide +kernel
theorem dX2_addPiece_118 : decode cX2_addPiece 118 = .ok (.imul, 1) := by decide +kernel
theorem dX2_addPiece_119 : decode cX2_addPiece 119 = .ok (.isub, 1) := by decide +kernel
theorem dX2_addPiece_120 : decode cX2_addPiece 120 = .ok (.putfield 25, 3) := by decide +kernel
theorem dX2_addPiece_123 : decode cX2_addPiece 123 = .ok (.return_, 1) := by decide +kernel
set_option maxRecDepth 20000 in
theorem ggX2_addCut_X4_partsWidth : GoodIn wsX2_addCut wsX4_partsWidth := goodIn_r _ [8, 9, 19, 20, 21, 22, 23, 24, 25] (by decide +kernel) (by decide +kernel)
set_option maxRecDepth 20000 in
theorem gX2_addCut_X4_partsWidth : GoodIn wsX2_addCut (wsV RX2 98 RX4 yX4_partsWidth wsX4_partsWidth) := goodIn_app (goodIn_of _ (by decide +kernel)) ggX2_addCut_X4_partsWidth
theorem dX2_addCut_0 : decode cX2_addCut 0 = .ok (.aload_n 0, 1) := by decide +kernel
theorem dX2_addCut_1 : decode cX2_addCut 1 = .ok (.getfield 22, 3) := by decide +kernel
theorem dX2_addCut_4 : decode cX2_addCut 4 = .ok (.sipush 255, 3) := by decide +kernel
theorem dX2_addCut_7 : decode cX2_addCut 7 = .ok (.if_icmp .lt 4, 3) := by decide +kernel
theorem dX2_addCut_10 : decode cX2_addCut 10 = .ok (.return_, 1) := by decide +kernel
theorem dX2_addCut_11 : decode cX2_addCut 11 = .ok (.aload_n 0, 1) := by decide +kernel
theorem dX2_addCut_12 : decode cX2_addCut 12 = .ok (.getfield 32, 3) := by decide +kernel
theorem dX2_addCut_15 : decode cX2_addCut 15 = .ok (.iload 5, 2) := by decide +kernel
theorem dX2_addCut_17 : decode cX2_addCut 17 = .ok (.invokevirtual 98, 3) := by decide +kernel
theorem dX2_addCut_20 : decode cX2_addCut 20 = .ok (.istore 7, 2) := by decide +kernel
theorem dX2_addCut_22 : decode cX2_addCut 22 = .ok (.aload_n 0, 1) := by decide +kernel
theorem dX2_addCut_23 : decode cX2_addCut 23 = .ok (.getfield 22, 3) := by decide +kernel
theorem dX2_addCut_26 : decode cX2_addCut 26 = .ok (.bipush 7, 2) := by decide +kernel
theorem dX2_addCut_28 : decode cX2_addCut 28 = .ok (.imul, 1) := by decide +kernel
theorem dX2_addCut_29 : decode cX2_addCut 29 = .ok (.istore 8, 2) := by decide +kernel
theorem dX2_addCut_31 : decode cX2_addCut 31 = .ok (.aload_n 0, 1) := by decide +kernel
theorem dX2_addCut_32 : decode cX2_addCut 32 = .ok (.getfield 15, 3) := by decide +kernel
theorem dX2_addCut_35 : decode cX2_addCut 35 = .ok (.iload 8, 2) := by decide +kernel
theorem dX2_addCut_37 : decode cX2_addCut 37 = .ok (.iload 5, 2) := by decide +kernel
theorem dX2_addCut_39 : decode cX2_addCut 39 = .ok (.iastore, 1) := by decide +kernel
theorem dX2_addCut_40 : decode cX2_addCut 40 = .ok (.aload_n 0, 1) := by decide +kernel
theorem dX2_addCut_41 : decode cX2_addCut 41 = .ok (.getfield 15, 3) := by decide +kernel
theorem dX2_addCut_44 : decode cX2_addCut 44 = .ok (.iload 8, 2) := by decide +kernel
theorem dX2_addCut_46 : decode cX2_addCut 46 = .ok (.iconst 1, 1) := by decide +kernel
theorem dX2_addCut_47 : decode cX2_addCut 47 = .ok (.iadd, 1) := by decide +kernel
theorem dX2_addCut_48 : decode cX2_addCut 48 = .ok (.iload 7, 2) := by decide +kernel
theorem dX2_addCut_50 : decode cX2_addCut 50 = .ok (.ifCond .eq 7, 3) := by decide +kernel
theorem dX2_addCut_53 : decode cX2_addCut 53 = .ok (.iconst 0, 1) := by decide +kernel
theorem dX2_addCut_54 : decode cX2_addCut 54 = .ok (.goto 4, 3) := by decide +kernel
theorem dX2_addCut_57 : decode cX2_addCut 57 = .ok (.iconst 1, 1) := by decide +kernel
theorem dX2_addCut_58 : decode cX2_addCut 58 = .ok (.iastore, 1) := by decide +kernel
theorem dX2_addCut_59 : decode cX2_addCut 59 = .ok (.aload_n 0, 1) := by decide +kernel
theorem dX2_addCut_60 : decode cX2_addCut 60 = .ok (.getfield 15, 3) := by decide +kernel
theorem dX2_addCut_63 : decode cX2_addCut 63 = .ok (.iload 8, 2) := by decide +kernel
theorem dX2_addCut_65 : decode cX2_addCut 65 = .ok (.iconst 2, 1) := by decide +kernel
theorem dX2_addCut_66 : decode cX2_addCut 66 = .ok (.iadd, 1) := by decide +kernel
theorem dX2_addCut_67 : decode cX2_addCut 67 = .ok (.iload 7, 2) := by decide +kernel
theorem dX2_addCut_69 : decode cX2_addCut 69 = .ok (.ifCond .eq 7, 3) := by decide +kernel
theorem dX2_addCut_72 : decode cX2_addCut 72 = .ok (.iload_n 1, 1) := by decide +kernel
theorem dX2_addCut_73 : decode cX2_addCut 73 = .ok (.goto 4, 3) := by decide +kernel
theorem dX2_addCut_76 : decode cX2_addCut 76 = .ok (.iload_n 2, 1) := by decide +kernel
theorem dX2_addCut_77 : decode cX2_addCut 77 = .ok (.iload 6, 2) := by decide +kernel
theorem dX2_addCut_79 : decode cX2_addCut 79 = .ok (.iadd, 1) := by decide +kernel
theorem dX2_addCut_80 : decode cX2_addCut 80 = .ok (.iastore, 1) := by decide +kernel
theorem dX2_addCut_81 : decode cX2_addCut 81 = .ok (.aload_n 0, 1) := by decide +kernel
theorem dX2_addCut_82 : decode cX2_addCut 82 = .ok (.getfield 15, 3) := by decide +kernel
theorem dX2_addCut_85 : decode cX2_addCut 85 = .ok (.iload 8, 2) := by decide +kernel
theorem dX2_addCut_87 : decode cX2_addCut 87 = .ok (.iconst 3, 1) := by decide +kernel
theorem dX2_addCut_88 : decode cX2_addCut 88 = .ok (.iadd, 1) := by decide +kernel
theorem dX2_addCut_89 : decode cX2_addCut 89 = .ok (.iload_n 1, 1) := by decide +kernel
theorem dX2_addCut_90 : decode cX2_addCut 90 = .ok (.iastore, 1) := by decide +kernel
theorem dX2_addCut_91 : decode cX2_addCut 91 = .ok (.aload_n 0, 1) := by decide +kernel
theorem dX2_addCut_92 : decode cX2_addCut 92 = .ok (.getfield 15, 3) := by decide +kernel
theorem dX2_addCut_95 : decode cX2_addCut 95 = .ok (.iload 8, 2) := by decide +kernel
theorem dX2_addCut_97 : decode cX2_addCut 97 = .ok (.iconst 4, 1) := by decide +kernel
theorem dX2_addCut_98 : decode cX2_addCut 98 = .ok (.iadd, 1) := by decide +kernel
theorem dX2_addCut_99 : decode cX2_addCut 99 = .ok (.iload_n 2, 1) := by decide +kernel
theorem dX2_addCut_100 : decode cX2_addCut 100 = .ok (.iastore, 1) := by decide +kernel
theorem dX2_addCut_101 : decode cX2_addCut 101 = .ok (.aload_n 0, 1) := by decide +kernel
theorem dX2_addCut_102 : decode cX2_addCut 102 = .ok (.getfield 15, 3) := by decide +kernel
theorem dX2_addCut_105 : decode cX2_addCut 105 = .ok (.iload 8, 2) := by decide +kernel
theorem dX2_addCut_107 : decode cX2_addCut 107 = .ok (.iconst 5, 1) := by decide +kernel
theorem dX2_addCut_108 : decode cX2_addCut 108 = .ok (.iadd, 1) := by decide +kernel
theorem dX2_addCut_109 : decode cX2_addCut 109 = .ok (.iload_n 3, 1) := by decide +kernel
theorem dX2_addCut_110 : decode cX2_addCut 110 = .ok (.iastore, 1) := by decide +kernel
theorem dX2_addCut_111 : decode cX2_addCut 111 = .ok (.aload_n 0, 1) := by decide +kernel
theorem dX2_addCut_112 : decode cX2_addCut 112 = .ok (.getfield 15, 3) := by decide +kernel
theorem dX2_addCut_115 : decode cX2_addCut 115 = .ok (.iload 8, 2) := by decide +kernel
theorem dX2_addCut_117 : decode cX2_addCut 117 = .ok (.bipush 6, 2) := by decide +kernel
theorem dX2_addCut_119 : decode cX2_addCut 119 = .ok (.iadd, 1) := by decide +kernel
theorem dX2_addCut_120 : decode cX2_addCut 120 = .ok (.iload 4, 2) := by decide +kernel
theorem dX2_addCut_122 : decode cX2_addCut 122 = .ok (.iastore, 1) := by decide +kernel
theorem dX2_addCut_123 : decode cX2_addCut 123 = .ok (.aload_n 0, 1) := by decide +kernel
theorem dX2_addCut_124 : decode cX2_addCut 124 = .ok (.dup, 1) := by decide +kernel
theorem dX2_addCut_125 : decode cX2_addCut 125 = .ok (.getfield 22, 3) := by decide +kernel
theorem dX2_addCut_128 : decode cX2_addCut 128 = .ok (.iconst 1, 1) := by decide +kernel
theorem dX2_addCut_129 : decode cX2_addCut 129 = .ok (.iadd, 1) := by decide +kernel
theorem dX2_addCut_130 : decode cX2_addCut 130 = .ok (.putfield 22, 3) := by decide +kernel
theorem dX2_addCut_133 : decode cX2_addCut 133 = .ok (.return_, 1) := by decide +kernel
theorem dX3_init_0 : decode cX3_init 0 = .ok (.aload_n 0, 1) := by decide +kernel
theorem dX3_init_1 : decode cX3_init 1 = .ok (.invokespecial 3, 3) := by decide +kernel
theorem dX3_init_4 : decode cX3_init 4 = .ok (.aload_n 0, 1) := by decide +kernel
theorem dX3_init_5 : decode cX3_init 5 = .ok (.iconst 0, 1) := by decide +kernel
theorem dX3_init_6 : decode cX3_init 6 = .ok (.putfield 9, 3) := by decide +kernel
theorem dX3_init_9 : decode cX3_init 9 = .ok (.aload_n 0, 1) := by decide +kernel
theorem dX3_init_10 : decode cX3_init 10 = .ok (.iconst 0, 1) := by decide +kernel
theorem dX3_init_11 : decode cX3_init 11 = .ok (.putfield 15, 3) := by decide +kernel
theorem dX3_init_14 : decode cX3_init 14 = .ok (.aload_n 0, 1) := by decide +kernel
theorem dX3_init_15 : decode cX3_init 15 = .ok (.iconst 0, 1) := by decide +kernel
theorem dX3_init_16 : decode cX3_init 16 = .ok (.putfield 18, 3) := by decide +kernel
theorem dX3_init_19 : decode cX3_init 19 = .ok (.aload_n 0, 1) := by decide +kernel
theorem dX3_init_20 : decode cX3_init 20 = .ok (.iconst 3, 1) := by decide +kernel
theorem dX3_init_21 : decode cX3_init 21 = .ok (.newarray .int, 2) := by decide +kernel
theorem dX3_init_23 : decode cX3_init 23 = .ok (.putfield 21, 3) := by decide +kernel
theorem dX3_init_26 : decode cX3_init 26 = .ok (.aload_n 0, 1) := by decide +kernel
theorem dX3_init_27 : decode cX3_init 27 = .ok (.iconst 3, 1) := by decide +kernel
theorem dX3_init_28 : decode cX3_init 28 = .ok (.newarray .int, 2) := by decide +kernel
theorem dX3_init_30 : decode cX3_init 30 = .ok (.putfield 25, 3) := by decide +kernel
theorem dX3_init_33 : decode cX3_init 33 = .ok (.aload_n 0, 1) := by decide +kernel
theorem dX3_init_34 : decode cX3_init 34 = .ok (.iconst 4, 1) := by decide +kernel
theorem dX3_init_35 : decode cX3_init 35 = .ok (.newarray .int, 2) := by decide +kernel
theorem dX3_init_37 : decode cX3_init 37 = .ok (.putfield 28, 3) := by decide +kernel
theorem dX3_init_40 : decode cX3_init 40 = .ok (.aload_n 0, 1) := by decide +kernel
theorem dX3_init_41 : decode cX3_init 41 = .ok (.iconst 4, 1) := by decide +kernel
theorem dX3_init_42 : decode cX3_init 42 = .ok (.newarray .int, 2) := by decide +kernel
theorem dX3_init_44 : decode cX3_init 44 = .ok (.putfield 31, 3) := by decide +kernel
theorem dX3_init_47 : decode cX3_init 47 = .ok (.return_, 1) := by decide +kernel
theorem dX3_addStock_0 : decode cX3_addStock 0 = .ok (.aload_n 0, 1) := by decide +kernel
theorem dX3_addStock_1 : decode cX3_addStock 1 = .ok (.getfield 9, 3) := by decide +kernel
theorem dX3_addStock_4 : decode cX3_addStock 4 = .ok (.iconst 3, 1) := by decide +kernel
theorem dX3_addStock_5 : decode cX3_addStock 5 = .ok (.if_icmp .lt 6, 3) := by decide +kernel
theorem dX3_addStock_8 : decode cX3_addStock 8 = .ok (.bipush (-4), 2) := by decide +kernel
theorem dX3_addStock_10 : decode cX3_addStock 10 = .ok (.ireturn, 1) := by decide +kernel
theorem dX3_addStock_11 : decode cX3_addStock 11 = .ok (.aload_n 0, 1) := by decide +kernel
theorem dX3_addStock_12 : decode cX3_addStock 12 = .ok (.getfield 21, 3) := by decide +kernel
theorem dX3_addStock_15 : decode cX3_addStock 15 = .ok (.aload_n 0, 1) := by decide +kernel
theorem dX3_addStock_16 : decode cX3_addStock 16 = .ok (.getfield 9, 3) := by decide +kernel
theorem dX3_addStock_19 : decode cX3_addStock 19 = .ok (.iload_n 1, 1) := by decide +kernel
theorem dX3_addStock_20 : decode cX3_addStock 20 = .ok (.iastore, 1) := by decide +kernel
theorem dX3_addStock_21 : decode cX3_addStock 21 = .ok (.aload_n 0, 1) := by decide +kernel
theorem dX3_addStock_22 : decode cX3_addStock 22 = .ok (.getfield 25, 3) := by decide +kernel
theorem dX3_addStock_25 : decode cX3_addStock 25 = .ok (.aload_n 0, 1) := by decide +kernel
theorem dX3_addStock_26 : decode cX3_addStock 26 = .ok (.getfield 9, 3) := by decide +kernel
theorem dX3_addStock_29 : decode cX3_addStock 29 = .ok (.iload_n 2, 1) := by decide +kernel
theorem dX3_addStock_30 : decode cX3_addStock 30 = .ok (.iastore, 1) := by decide +kernel
theorem dX3_addStock_31 : decode cX3_addStock 31 = .ok (.aload_n 0, 1) := by decide +kernel
theorem dX3_addStock_32 : decode cX3_addStock 32 = .ok (.dup, 1) := by decide +kernel
theorem dX3_addStock_33 : decode cX3_addStock 33 = .ok (.getfield 9, 3) := by decide +kernel
theorem dX3_addStock_36 : decode cX3_addStock 36 = .ok (.iconst 1, 1) := by decide +kernel
theorem dX3_addStock_37 : decode cX3_addStock 37 = .ok (.iadd, 1) := by decide +kernel
theorem dX3_addStock_38 : decode cX3_addStock 38 = .ok (.putfield 9, 3) := by decide +kernel
theorem dX3_addStock_41 : decode cX3_addStock 41 = .ok (.aload_n 0, 1) := by decide +kernel
theorem dX3_addStock_42 : decode cX3_addStock 42 = .ok (.getfield 9, 3) := by decide +kernel
theorem dX3_addStock_45 : decode cX3_addStock 45 = .ok (.iconst 1, 1) := by decide +kernel
theorem dX3_addStock_46 : decode cX3_addStock 46 = .ok (.isub, 1) := by decide +kernel
theorem dX3_addStock_47 : decode cX3_addStock 47 = .ok (.ireturn, 1) := by decide +kernel
theorem dX3_addOrder_0 : decode cX3_addOrder 0 = .ok (.aload_n 0, 1) := by decide +kernel
theorem dX3_addOrder_1 : decode cX3_addOrder 1 = .ok (.getfield 15, 3) := by decide +kernel
theorem dX3_addOrder_4 : decode cX3_addOrder 4 = .ok (.iconst 4, 1) := by decide +kernel
theorem dX3_addOrder_5 : decode cX3_addOrder 5 = .ok (.if_icmp .lt 6, 3) := by decide +kernel
theorem dX3_addOrder_8 : decode cX3_addOrder 8 = .ok (.bipush (-4), 2) := by decide +kernel
theorem dX3_addOrder_10 : decode cX3_addOrder 10 = .ok (.ireturn, 1) := by decide +kernel
theorem dX3_addOrder_11 : decode cX3_addOrder 11 = .ok (.aload_n 0, 1) := by decide +kernel
theorem dX3_addOrder_12 : decode cX3_addOrder 12 = .ok (.getfield 28, 3) := by decide +kernel
theorem dX3_addOrder_15 : decode cX3_addOrder 15 = .ok (.aload_n 0, 1) := by decide +kernel
theorem dX3_addOrder_16 : decode cX3_addOrder 16 = .ok (.getfield 15, 3) := by decide +kernel
theorem dX3_addOrder_19 : decode cX3_addOrder 19 = .ok (.iload_n 1, 1) := by decide +kernel
theorem dX3_addOrder_20 : decode cX3_addOrder 20 = .ok (.iastore, 1) := by decide +kernel
theorem dX3_addOrder_21 : decode cX3_addOrder 21 = .ok (.aload_n 0, 1) := by decide +kernel
theorem dX3_addOrder_22 : decode cX3_addOrder 22 = .ok (.getfield 31, 3) := by decide +kernel
theorem dX3_addOrder_25 : decode cX3_addOrder 25 = .ok (.aload_n 0, 1) := by decide +kernel
theorem dX3_addOrder_26 : decode cX3_addOrder 26 = .ok (.getfield 15, 3) := by decide +kernel
theorem dX3_addOrder_29 : decode cX3_addOrder 29 = .ok (.iload_n 2, 1) := by decide +kernel
theorem dX3_addOrder_30 : decode cX3_addOrder 30 = .ok (.iastore, 1) := by decide +kernel
theorem dX3_addOrder_31 : decode cX3_addOrder 31 = .ok (.aload_n 0, 1) := by decide +kernel
theorem dX3_addOrder_32 : decode cX3_addOrder 32 = .ok (.dup, 1) := by decide +kernel
theorem dX3_addOrder_33 : decode cX3_addOrder 33 = .ok (.getfield 15, 3) := by decide +kernel
theorem dX3_addOrder_36 : decode cX3_addOrder 36 = .ok (.iconst 1, 1) := by decide +kernel
theorem dX3_addOrder_37 : decode cX3_addOrder 37 = .ok (.iadd, 1) := by decide +kernel
theorem dX3_addOrder_38 : decode cX3_addOrder 38 = .ok (.putfield 15, 3) := by decide +kernel
theorem dX3_addOrder_41 : decode cX3_addOrder 41 = .ok (.aload_n 0, 1) := by decide +kernel
theorem dX3_addOrder_42 : decode cX3_addOrder 42 = .ok (.getfield 15, 3) := by decide +kernel
theorem dX3_addOrder_45 : decode cX3_addOrder 45 = .ok (.iconst 1, 1) := by decide +kernel
theorem dX3_addOrder_46 : decode cX3_addOrder 46 = .ok (.isub, 1) := by decide +kernel
theorem dX3_addOrder_47 : decode cX3_addOrder 47 = .ok (.ireturn, 1) := by decide +kernel
theorem dX3_wantedOf_0 : decode cX3_wantedOf 0 = .ok (.iload_n 1, 1) := by decide +kernel
theorem dX3_wantedOf_1 : decode cX3_wantedOf 1 = .ok (.aload_n 0, 1) := by decide +kernel
theorem dX3_wantedOf_2 : decode cX3_wantedOf 2 = .ok (.getfield 15, 3) := by decide +kernel
theorem dX3_wantedOf_5 : decode cX3_wantedOf 5 = .ok (.if_icmp .ge 17, 3) := by decide +kernel
theorem dX3_wantedOf_8 : decode cX3_wantedOf 8 = .ok (.iload_n 1, 1) := by decide +kernel
theorem dX3_wantedOf_9 : decode cX3_wantedOf 9 = .ok (.iconst 4, 1) := by decide +kernel
theorem dX3_wantedOf_10 : decode cX3_wantedOf 10 = .ok (.if_icmp .ge 12, 3) := by decide +kernel
theorem dX3_wantedOf_13 : decode cX3_wantedOf 13 = .ok (.aload_n 0, 1) := by decide +kernel
theorem dX3_wantedOf_14 : decode cX3_wantedOf 14 = .ok (.getfield 31, 3) := by decide +kernel
theorem dX3_wantedOf_17 : decode cX3_wantedOf 17 = .ok (.iload_n 1, 1) := by decide +kernel
theorem dX3_wantedOf_18 : decode cX3_wantedOf 18 = .ok (.iaload, 1) := by decide +kernel
theorem dX3_wantedOf_19 : decode cX3_wantedOf 19 = .ok (.goto 4, 3) := by decide +kernel
theorem dX3_wantedOf_22 : decode cX3_wantedOf 22 = .ok (.iconst 0, 1) := by decide +kernel
theorem dX3_wantedOf_23 : decode cX3_wantedOf 23 = .ok (.ireturn, 1) := by decide +kernel
theorem dX3_stockFor_0 : decode cX3_stockFor 0 = .ok (.iconst (-1), 1) := by decide +kernel
theorem dX3_stockFor_1 : decode cX3_stockFor 1 = .ok (.istore_n 2, 1) := by decide +kernel
theorem dX3_stockFor_2 : decode cX3_stockFor 2 = .ok (.iconst 0, 1) := by decide +kernel
theorem dX3_stockFor_3 : decode cX3_stockFor 3 = .ok (.istore_n 3, 1) := by decide +kernel
theorem dX3_stockFor_4 : decode cX3_stockFor 4 = .ok (.iload_n 3, 1) := by decide +kernel
theorem dX3_stockFor_5 : decode cX3_stockFor 5 = .ok (.aload_n 0, 1) := by decide +kernel
theorem dX3_stockFor_6 : decode cX3_stockFor 6 = .ok (.getfield 9, 3) := by decide +kernel
theorem dX3_stockFor_9 : decode cX3_stockFor 9 = .ok (.if_icmp .ge 46, 3) := by decide +kernel
theorem dX3_stockFor_12 : decode cX3_stockFor 12 = .ok (.iload_n 3, 1) := by decide +kernel
theorem dX3_stockFor_13 : decode cX3_stockFor 13 = .ok (.iconst 3, 1) := by decide +kernel
theorem dX3_stockFor_14 : decode cX3_stockFor 14 = .ok (.if_icmp .ge 41, 3) := by decide +kernel
theorem dX3_stockFor_17 : decode cX3_stockFor 17 = .ok (.aload_n 0, 1) := by decide +kernel
theorem dX3_stockFor_18 : decode cX3_stockFor 18 = .ok (.getfield 21, 3) := by decide +kernel
theorem dX3_stockFor_21 : decode cX3_stockFor 21 = .ok (.iload_n 3, 1) := by decide +kernel
theorem dX3_stockFor_22 : decode cX3_stockFor 22 = .ok (.iaload, 1) := by decide +kernel
theorem dX3_stockFor_23 : decode cX3_stockFor 23 = .ok (.iload_n 1, 1) := by decide +kernel
theorem dX3_stockFor_24 : decode cX3_stockFor 24 = .ok (.if_icmp .lt 25, 3) := by decide +kernel
theorem dX3_stockFor_27 : decode cX3_stockFor 27 = .ok (.iload_n 2, 1) := by decide +kernel
theorem dX3_stockFor_28 : decode cX3_stockFor 28 = .ok (.iconst (-1), 1) := by decide +kernel
theorem dX3_stockFor_29 : decode cX3_stockFor 29 = .ok (.if_icmp .eq 18, 3) := by decide +kernel
theorem dX3_stockFor_32 : decode cX3_stockFor 32 = .ok (.aload_n 0, 1) := by decide +kernel
theorem dX3_stockFor_33 : decode cX3_stockFor 33 = .ok (.getfield 25, 3) := by decide +kernel
theorem dX3_stockFor_36 : decode cX3_stockFor 36 = .ok (.iload_n 3, 1) := by decide +kernel
theorem dX3_stockFor_37 : decode cX3_stockFor 37 = .ok (.iaload, 1) := by decide +kernel
theorem dX3_stockFor_38 : decode cX3_stockFor 38 = .ok (.aload_n 0, 1) := by decide +kernel
theorem dX3_stockFor_39 : decode cX3_stockFor 39 = .ok (.getfield 25, 3) := by decide +kernel
theorem dX3_stockFor_42 : decode cX3_stockFor 42 = .ok (.iload_n 2, 1) := by decide +kernel
theorem dX3_stockFor_43 : decode cX3_stockFor 43 = .ok (.iaload, 1) := by decide +kernel
theorem dX3_stockFor_44 : decode cX3_stockFor 44 = .ok (.if_icmp .ge 5, 3) := by decide +kernel
theorem dX3_stockFor_47 : decode cX3_stockFor 47 = .ok (.iload_n 3, 1) := by decide +kernel
end
section
theorem dX3_stockFor_48 : decode cX3_stockFor 48 = .ok (.istore_n 2, 1) := by decide +kernel
theorem dX3_stockFor_49 : decode cX3_stockFor 49 = .ok (.iinc 3 1, 3) := by decide +kernel
theorem dX3_stockFor_52 : decode cX3_stockFor 52 = .ok (.goto (-48), 3) := by decide +kernel
theorem dX3_stockFor_55 : decode cX3_stockFor 55 = .ok (.iload_n 2, 1) := by decide +kernel
theorem dX3_stockFor_56 : decode cX3_stockFor 56 = .ok (.ireturn, 1) := by decide +kernel
theorem dX4_init_0 : decode cX4_init 0 = .ok (.aload_n 0, 1) := by decide +kernel
theorem dX4_init_1 : decode cX4_init 1 = .ok (.invokespecial 3, 3) := by decide +kernel
theorem dX4_init_4 : decode cX4_init 4 = .ok (.aload_n 0, 1) := by decide +kernel
theorem dX4_init_5 : decode cX4_init 5 = .ok (.iconst 1, 1) := by decide +kernel
theorem dX4_init_6 : decode cX4_init 6 = .ok (.putfield 9, 3) := by decide +kernel
theorem dX4_init_9 : decode cX4_init 9 = .ok (.aload_n 0, 1) := by decide +kernel
theorem dX4_init_10 : decode cX4_init 10 = .ok (.iconst 1, 1) := by decide +kernel
theorem dX4_init_11 : decode cX4_init 11 = .ok (.putfield 15, 3) := by decide +kernel
theorem dX4_init_14 : decode cX4_init 14 = .ok (.aload_n 0, 1) := by decide +kernel
theorem dX4_init_15 : decode cX4_init 15 = .ok (.iconst 0, 1) := by decide +kernel
theorem dX4_init_16 : decode cX4_init 16 = .ok (.putfield 18, 3) := by decide +kernel
theorem dX4_init_19 : decode cX4_init 19 = .ok (.aload_n 0, 1) := by decide +kernel
theorem dX4_init_20 : decode cX4_init 20 = .ok (.iconst 1, 1) := by decide +kernel
theorem dX4_init_21 : decode cX4_init 21 = .ok (.putfield 21, 3) := by decide +kernel
theorem dX4_init_24 : decode cX4_init 24 = .ok (.aload_n 0, 1) := by decide +kernel
theorem dX4_init_25 : decode cX4_init 25 = .ok (.iconst 0, 1) := by decide +kernel
theorem dX4_init_26 : decode cX4_init 26 = .ok (.putfield 24, 3) := by decide +kernel
theorem dX4_init_29 : decode cX4_init 29 = .ok (.aload_n 0, 1) := by decide +kernel
theorem dX4_init_30 : decode cX4_init 30 = .ok (.iconst 0, 1) := by decide +kernel
theorem dX4_init_31 : decode cX4_init 31 = .ok (.putfield 27, 3) := by decide +kernel
theorem dX4_init_34 : decode cX4_init 34 = .ok (.aload_n 0, 1) := by decide +kernel
theorem dX4_init_35 : decode cX4_init 35 = .ok (.bipush 24, 2) := by decide +kernel
theorem dX4_init_37 : decode cX4_init 37 = .ok (.newarray .int, 2) := by decide +kernel
theorem dX4_init_39 : decode cX4_init 39 = .ok (.putfield 30, 3) := by decide +kernel
theorem dX4_init_42 : decode cX4_init 42 = .ok (.return_, 1) := by decide +kernel
theorem dX4_become_0 : decode cX4_become 0 = .ok (.aload_n 0, 1) := by decide +kernel
theorem dX4_become_1 : decode cX4_become 1 = .ok (.iload_n 1, 1) := by decide +kernel
theorem dX4_become_2 : decode cX4_become 2 = .ok (.putfield 9, 3) := by decide +kernel
theorem dX4_become_5 : decode cX4_become 5 = .ok (.aload_n 0, 1) := by decide +kernel
theorem dX4_become_6 : decode cX4_become 6 = .ok (.iload_n 2, 1) := by decide +kernel
theorem dX4_become_7 : decode cX4_become 7 = .ok (.putfield 15, 3) := by decide +kernel
theorem dX4_become_10 : decode cX4_become 10 = .ok (.aload_n 0, 1) := by decide +kernel
theorem dX4_become_11 : decode cX4_become 11 = .ok (.iload_n 3, 1) := by decide +kernel
theorem dX4_become_12 : decode cX4_become 12 = .ok (.putfield 18, 3) := by decide +kernel
theorem dX4_become_15 : decode cX4_become 15 = .ok (.aload_n 0, 1) := by decide +kernel
theorem dX4_become_16 : decode cX4_become 16 = .ok (.iload 4, 2) := by decide +kernel
theorem dX4_become_18 : decode cX4_become 18 = .ok (.putfield 21, 3) := by decide +kernel
theorem dX4_become_21 : decode cX4_become 21 = .ok (.aload_n 0, 1) := by decide +kernel
theorem dX4_become_22 : decode cX4_become 22 = .ok (.iload 5, 2) := by decide +kernel
theorem dX4_become_24 : decode cX4_become 24 = .ok (.putfield 24, 3) := by decide +kernel
theorem dX4_become_27 : decode cX4_become 27 = .ok (.aload_n 0, 1) := by decide +kernel
theorem dX4_become_28 : decode cX4_become 28 = .ok (.iconst 0, 1) := by decide +kernel
theorem dX4_become_29 : decode cX4_become 29 = .ok (.putfield 27, 3) := by decide +kernel
theorem dX4_become_32 : decode cX4_become 32 = .ok (.return_, 1) := by decide +kernel
set_option maxRecDepth 20000 in
theorem ggX4_holds_X6_within : GoodIn wsX4_holds wsX6_within := goodIn_r _ [5] (by decide +kernel) (by decide +kernel)
set_option maxRecDepth 20000 in
theorem gX4_holds_X6_within_n34 : GoodIn wsX4_holds (wsX6_within) := ggX4_holds_X6_within
theorem dX4_holds_0 : decode cX4_holds 0 = .ok (.iload_n 1, 1) := by decide +kernel
theorem dX4_holds_1 : decode cX4_holds 1 = .ok (.iconst 0, 1) := by decide +kernel
theorem dX4_holds_2 : decode cX4_holds 2 = .ok (.aload_n 0, 1) := by decide +kernel
theorem dX4_holds_3 : decode cX4_holds 3 = .ok (.getfield 9, 3) := by decide +kernel
theorem dX4_holds_6 : decode cX4_holds 6 = .ok (.iconst 1, 1) := by decide +kernel
theorem dX4_holds_7 : decode cX4_holds 7 = .ok (.isub, 1) := by decide +kernel
theorem dX4_holds_8 : decode cX4_holds 8 = .ok (.invokestatic 34, 3) := by decide +kernel
theorem dX4_holds_11 : decode cX4_holds 11 = .ok (.ifCond .eq 50, 3) := by decide +kernel
theorem dX4_holds_14 : decode cX4_holds 14 = .ok (.iload_n 2, 1) := by decide +kernel
theorem dX4_holds_15 : decode cX4_holds 15 = .ok (.iconst 0, 1) := by decide +kernel
theorem dX4_holds_16 : decode cX4_holds 16 = .ok (.aload_n 0, 1) := by decide +kernel
theorem dX4_holds_17 : decode cX4_holds 17 = .ok (.getfield 15, 3) := by decide +kernel
theorem dX4_holds_20 : decode cX4_holds 20 = .ok (.iconst 1, 1) := by decide +kernel
theorem dX4_holds_21 : decode cX4_holds 21 = .ok (.isub, 1) := by decide +kernel
theorem dX4_holds_22 : decode cX4_holds 22 = .ok (.invokestatic 34, 3) := by decide +kernel
theorem dX4_holds_25 : decode cX4_holds 25 = .ok (.ifCond .eq 36, 3) := by decide +kernel
theorem dX4_holds_28 : decode cX4_holds 28 = .ok (.iload_n 3, 1) := by decide +kernel
theorem dX4_holds_29 : decode cX4_holds 29 = .ok (.iconst 1, 1) := by decide +kernel
theorem dX4_holds_30 : decode cX4_holds 30 = .ok (.aload_n 0, 1) := by decide +kernel
theorem dX4_holds_31 : decode cX4_holds 31 = .ok (.getfield 9, 3) := by decide +kernel
theorem dX4_holds_34 : decode cX4_holds 34 = .ok (.iload_n 1, 1) := by decide +kernel
theorem dX4_holds_35 : decode cX4_holds 35 = .ok (.isub, 1) := by decide +kernel
theorem dX4_holds_36 : decode cX4_holds 36 = .ok (.invokestatic 34, 3) := by decide +kernel
theorem dX4_holds_39 : decode cX4_holds 39 = .ok (.ifCond .eq 22, 3) := by decide +kernel
theorem dX4_holds_42 : decode cX4_holds 42 = .ok (.iload 4, 2) := by decide +kernel
theorem dX4_holds_44 : decode cX4_holds 44 = .ok (.iconst 1, 1) := by decide +kernel
theorem dX4_holds_45 : decode cX4_holds 45 = .ok (.aload_n 0, 1) := by decide +kernel
theorem dX4_holds_46 : decode cX4_holds 46 = .ok (.getfield 15, 3) := by decide +kernel
theorem dX4_holds_49 : decode cX4_holds 49 = .ok (.iload_n 2, 1) := by decide +kernel
theorem dX4_holds_50 : decode cX4_holds 50 = .ok (.isub, 1) := by decide +kernel
theorem dX4_holds_51 : decode cX4_holds 51 = .ok (.invokestatic 34, 3) := by decide +kernel
theorem dX4_holds_54 : decode cX4_holds 54 = .ok (.ifCond .eq 7, 3) := by decide +kernel
theorem dX4_holds_57 : decode cX4_holds 57 = .ok (.iconst 1, 1) := by decide +kernel
theorem dX4_holds_58 : decode cX4_holds 58 = .ok (.goto 4, 3) := by decide +kernel
theorem dX4_holds_61 : decode cX4_holds 61 = .ok (.iconst 0, 1) := by decide +kernel
theorem dX4_holds_62 : decode cX4_holds 62 = .ok (.ireturn, 1) := by decide +kernel
theorem dX4_spoil_0 : decode cX4_spoil 0 = .ok (.aload_n 0, 1) := by decide +kernel
theorem dX4_spoil_1 : decode cX4_spoil 1 = .ok (.getfield 27, 3) := by decide +kernel
theorem dX4_spoil_4 : decode cX4_spoil 4 = .ok (.bipush 6, 2) := by decide +kernel
theorem dX4_spoil_6 : decode cX4_spoil 6 = .ok (.if_icmp .lt 5, 3) := by decide +kernel
theorem dX4_spoil_9 : decode cX4_spoil 9 = .ok (.iconst 0, 1) := by decide +kernel
theorem dX4_spoil_10 : decode cX4_spoil 10 = .ok (.ireturn, 1) := by decide +kernel
theorem dX4_spoil_11 : decode cX4_spoil 11 = .ok (.aload_n 0, 1) := by decide +kernel
theorem dX4_spoil_12 : decode cX4_spoil 12 = .ok (.getfield 27, 3) := by decide +kernel
theorem dX4_spoil_15 : decode cX4_spoil 15 = .ok (.iconst 4, 1) := by decide +kernel
theorem dX4_spoil_16 : decode cX4_spoil 16 = .ok (.imul, 1) := by decide +kernel
theorem dX4_spoil_17 : decode cX4_spoil 17 = .ok (.istore 5, 2) := by decide +kernel
theorem dX4_spoil_19 : decode cX4_spoil 19 = .ok (.aload_n 0, 1) := by decide +kernel
theorem dX4_spoil_20 : decode cX4_spoil 20 = .ok (.getfield 30, 3) := by decide +kernel
theorem dX4_spoil_23 : decode cX4_spoil 23 = .ok (.iload 5, 2) := by decide +kernel
theorem dX4_spoil_25 : decode cX4_spoil 25 = .ok (.iload_n 1, 1) := by decide +kernel
theorem dX4_spoil_26 : decode cX4_spoil 26 = .ok (.iastore, 1) := by decide +kernel
theorem dX4_spoil_27 : decode cX4_spoil 27 = .ok (.aload_n 0, 1) := by decide +kernel
theorem dX4_spoil_28 : decode cX4_spoil 28 = .ok (.getfield 30, 3) := by decide +kernel
theorem dX4_spoil_31 : decode cX4_spoil 31 = .ok (.iload 5, 2) := by decide +kernel
theorem dX4_spoil_33 : decode cX4_spoil 33 = .ok (.iconst 1, 1) := by decide +kernel
theorem dX4_spoil_34 : decode cX4_spoil 34 = .ok (.iadd, 1) := by decide +kernel
theorem dX4_spoil_35 : decode cX4_spoil 35 = .ok (.iload_n 2, 1) := by decide +kernel
theorem dX4_spoil_36 : decode cX4_spoil 36 = .ok (.iastore, 1) := by decide +kernel
theorem dX4_spoil_37 : decode cX4_spoil 37 = .ok (.aload_n 0, 1) := by decide +kernel
theorem dX4_spoil_38 : decode cX4_spoil 38 = .ok (.getfield 30, 3) := by decide +kernel
theorem dX4_spoil_41 : decode cX4_spoil 41 = .ok (.iload 5, 2) := by decide +kernel
theorem dX4_spoil_43 : decode cX4_spoil 43 = .ok (.iconst 2, 1) := by decide +kernel
theorem dX4_spoil_44 : decode cX4_spoil 44 = .ok (.iadd, 1) := by decide +kernel
theorem dX4_spoil_45 : decode cX4_spoil 45 = .ok (.iload_n 1, 1) := by decide +kernel
theorem dX4_spoil_46 : decode cX4_spoil 46 = .ok (.iload_n 3, 1) := by decide +kernel
theorem dX4_spoil_47 : decode cX4_spoil 47 = .ok (.iadd, 1) := by decide +kernel
theorem dX4_spoil_48 : decode cX4_spoil 48 = .ok (.iastore, 1) := by decide +kernel
theorem dX4_spoil_49 : decode cX4_spoil 49 = .ok (.aload_n 0, 1) := by decide +kernel
theorem dX4_spoil_50 : decode cX4_spoil 50 = .ok (.getfield 30, 3) := by decide +kernel
theorem dX4_spoil_53 : decode cX4_spoil 53 = .ok (.iload 5, 2) := by decide +kernel
theorem dX4_spoil_55 : decode cX4_spoil 55 = .ok (.iconst 3, 1) := by decide +kernel
theorem dX4_spoil_56 : decode cX4_spoil 56 = .ok (.iadd, 1) := by decide +kernel
theorem dX4_spoil_57 : decode cX4_spoil 57 = .ok (.iload_n 2, 1) := by decide +kernel
theorem dX4_spoil_58 : decode cX4_spoil 58 = .ok (.iload 4, 2) := by decide +kernel
theorem dX4_spoil_60 : decode cX4_spoil 60 = .ok (.iadd, 1) := by decide +kernel
theorem dX4_spoil_61 : decode cX4_spoil 61 = .ok (.iastore, 1) := by decide +kernel
theorem dX4_spoil_62 : decode cX4_spoil 62 = .ok (.aload_n 0, 1) := by decide +kernel
theorem dX4_spoil_63 : decode cX4_spoil 63 = .ok (.dup, 1) := by decide +kernel
theorem dX4_spoil_64 : decode cX4_spoil 64 = .ok (.getfield 27, 3) := by decide +kernel
theorem dX4_spoil_67 : decode cX4_spoil 67 = .ok (.iconst 1, 1) := by decide +kernel
theorem dX4_spoil_68 : decode cX4_spoil 68 = .ok (.iadd, 1) := by decide +kernel
theorem dX4_spoil_69 : decode cX4_spoil 69 = .ok (.putfield 27, 3) := by decide +kernel
theorem dX4_spoil_72 : decode cX4_spoil 72 = .ok (.iconst 1, 1) := by decide +kernel
theorem dX4_spoil_73 : decode cX4_spoil 73 = .ok (.ireturn, 1) := by decide +kernel
theorem dX4_isClean_0 : decode cX4_isClean 0 = .ok (.iconst 0, 1) := by decide +kernel
theorem dX4_isClean_1 : decode cX4_isClean 1 = .ok (.istore 5, 2) := by decide +kernel
theorem dX4_isClean_3 : decode cX4_isClean 3 = .ok (.iload 5, 2) := by decide +kernel
theorem dX4_isClean_5 : decode cX4_isClean 5 = .ok (.aload_n 0, 1) := by decide +kernel
theorem dX4_isClean_6 : decode cX4_isClean 6 = .ok (.getfield 27, 3) := by decide +kernel
theorem dX4_isClean_9 : decode cX4_isClean 9 = .ok (.if_icmp .ge 79, 3) := by decide +kernel
theorem dX4_isClean_12 : decode cX4_isClean 12 = .ok (.iload 5, 2) := by decide +kernel
theorem dX4_isClean_14 : decode cX4_isClean 14 = .ok (.bipush 6, 2) := by decide +kernel
theorem dX4_isClean_16 : decode cX4_isClean 16 = .ok (.if_icmp .ge 72, 3) := by decide +kernel
theorem dX4_isClean_19 : decode cX4_isClean 19 = .ok (.iload 5, 2) := by decide +kernel
theorem dX4_isClean_21 : decode cX4_isClean 21 = .ok (.iconst 4, 1) := by decide +kernel
theorem dX4_isClean_22 : decode cX4_isClean 22 = .ok (.imul, 1) := by decide +kernel
theorem dX4_isClean_23 : decode cX4_isClean 23 = .ok (.istore 6, 2) := by decide +kernel
theorem dX4_isClean_25 : decode cX4_isClean 25 = .ok (.iload_n 1, 1) := by decide +kernel
theorem dX4_isClean_26 : decode cX4_isClean 26 = .ok (.aload_n 0, 1) := by decide +kernel
theorem dX4_isClean_27 : decode cX4_isClean 27 = .ok (.getfield 30, 3) := by decide +kernel
theorem dX4_isClean_30 : decode cX4_isClean 30 = .ok (.iload 6, 2) := by decide +kernel
theorem dX4_isClean_32 : decode cX4_isClean 32 = .ok (.iconst 2, 1) := by decide +kernel
theorem dX4_isClean_33 : decode cX4_isClean 33 = .ok (.iadd, 1) := by decide +kernel
theorem dX4_isClean_34 : decode cX4_isClean 34 = .ok (.iaload, 1) := by decide +kernel
theorem dX4_isClean_35 : decode cX4_isClean 35 = .ok (.if_icmp .ge 47, 3) := by decide +kernel
theorem dX4_isClean_38 : decode cX4_isClean 38 = .ok (.aload_n 0, 1) := by decide +kernel
theorem dX4_isClean_39 : decode cX4_isClean 39 = .ok (.getfield 30, 3) := by decide +kernel
theorem dX4_isClean_42 : decode cX4_isClean 42 = .ok (.iload 6, 2) := by decide +kernel
theorem dX4_isClean_44 : decode cX4_isClean 44 = .ok (.iaload, 1) := by decide +kernel
theorem dX4_isClean_45 : decode cX4_isClean 45 = .ok (.iload_n 1, 1) := by decide +kernel
theorem dX4_isClean_46 : decode cX4_isClean 46 = .ok (.iload_n 3, 1) := by decide +kernel
theorem dX4_isClean_47 : decode cX4_isClean 47 = .ok (.iadd, 1) := by decide +kernel
theorem dX4_isClean_48 : decode cX4_isClean 48 = .ok (.if_icmp .ge 34, 3) := by decide +kernel
theorem dX4_isClean_51 : decode cX4_isClean 51 = .ok (.iload_n 2, 1) := by decide +kernel
theorem dX4_isClean_52 : decode cX4_isClean 52 = .ok (.aload_n 0, 1) := by decide +kernel
theorem dX4_isClean_53 : decode cX4_isClean 53 = .ok (.getfield 30, 3) := by decide +kernel
theorem dX4_isClean_56 : decode cX4_isClean 56 = .ok (.iload 6, 2) := by decide +kernel
theorem dX4_isClean_58 : decode cX4_isClean 58 = .ok (.iconst 3, 1) := by decide +kernel
theorem dX4_isClean_59 : decode cX4_isClean 59 = .ok (.iadd, 1) := by decide +kernel
theorem dX4_isClean_60 : decode cX4_isClean 60 = .ok (.iaload, 1) := by decide +kernel
theorem dX4_isClean_61 : decode cX4_isClean 61 = .ok (.if_icmp .ge 21, 3) := by decide +kernel
theorem dX4_isClean_64 : decode cX4_isClean 64 = .ok (.aload_n 0, 1) := by decide +kernel
theorem dX4_isClean_65 : decode cX4_isClean 65 = .ok (.getfield 30, 3) := by decide +kernel
theorem dX4_isClean_68 : decode cX4_isClean 68 = .ok (.iload 6, 2) := by decide +kernel
theorem dX4_isClean_70 : decode cX4_isClean 70 = .ok (.iconst 1, 1) := by decide +kernel
theorem dX4_isClean_71 : decode cX4_isClean 71 = .ok (.iadd, 1) := by decide +kernel
theorem dX4_isClean_72 : decode cX4_isClean 72 = .ok (.iaload, 1) := by decide +kernel
theorem dX4_isClean_73 : decode cX4_isClean 73 = .ok (.iload_n 2, 1) := by decide +kernel
theorem dX4_isClean_74 : decode cX4_isClean 74 = .ok (.iload 4, 2) := by decide +kernel
theorem dX4_isClean_76 : decode cX4_isClean 76 = .ok (.iadd, 1) := by decide +kernel
theorem dX4_isClean_77 : decode cX4_isClean 77 = .ok (.if_icmp .ge 5, 3) := by decide +kernel
theorem dX4_isClean_80 : decode cX4_isClean 80 = .ok (.iconst 0, 1) := by decide +kernel
theorem dX4_isClean_81 : decode cX4_isClean 81 = .ok (.ireturn, 1) := by decide +kernel
theorem dX4_isClean_82 : decode cX4_isClean 82 = .ok (.iinc 5 1, 3) := by decide +kernel
theorem dX4_isClean_85 : decode cX4_isClean 85 = .ok (.goto (-82), 3) := by decide +kernel
theorem dX4_isClean_88 : decode cX4_isClean 88 = .ok (.iconst 1, 1) := by decide +kernel
theorem dX4_isClean_89 : decode cX4_isClean 89 = .ok (.ireturn, 1) := by decide +kernel
theorem dX4_partsWidth_0 : decode cX4_partsWidth 0 = .ok (.aload_n 0, 1) := by decide +kernel
theorem dX4_partsWidth_1 : decode cX4_partsWidth 1 = .ok (.getfield 24, 3) := by decide +kernel
theorem dX4_partsWidth_4 : decode cX4_partsWidth 4 = .ok (.iload_n 1, 1) := by decide +kernel
theorem dX4_partsWidth_5 : decode cX4_partsWidth 5 = .ok (.iadd, 1) := by decide +kernel
theorem dX4_partsWidth_6 : decode cX4_partsWidth 6 = .ok (.iconst 1, 1) := by decide +kernel
theorem dX4_partsWidth_7 : decode cX4_partsWidth 7 = .ok (.isub, 1) := by decide +kernel
theorem dX4_partsWidth_8 : decode cX4_partsWidth 8 = .ok (.iconst 1, 1) := by decide +kernel
theorem dX4_partsWidth_9 : decode cX4_partsWidth 9 = .ok (.iand, 1) := by decide +kernel
theorem dX4_partsWidth_10 : decode cX4_partsWidth 10 = .ok (.ifCond .ne 7, 3) := by decide +kernel
theorem dX4_partsWidth_13 : decode cX4_partsWidth 13 = .ok (.iconst 1, 1) := by decide +kernel
theorem dX4_partsWidth_14 : decode cX4_partsWidth 14 = .ok (.goto 4, 3) := by decide +kernel
theorem dX4_partsWidth_17 : decode cX4_partsWidth 17 = .ok (.iconst 0, 1) := by decide +kernel
theorem dX4_partsWidth_18 : decode cX4_partsWidth 18 = .ok (.ireturn, 1) := by decide +kernel
set_option maxRecDepth 20000 in
theorem ggX4_lastCut_X4_partsWidth : GoodIn wsX4_lastCut wsX4_partsWidth := goodIn_r _ [6, 7, 8, 9, 10, 11, 12, 13, 14] (by decide +kernel) (by decide +kernel)
set_option maxRecDepth 20000 in
theorem gX4_lastCut_X4_partsWidth : GoodIn wsX4_lastCut (wsV RX4 38 RX4 yX4_partsWidth wsX4_partsWidth) := goodIn_app (goodIn_of _ (by decide +kernel)) ggX4_lastCut_X4_partsWidth
theorem dX4_lastCut_0 : decode cX4_lastCut 0 = .ok (.aload_n 0, 1) := by decide +kernel
theorem dX4_lastCut_1 : decode cX4_lastCut 1 = .ok (.iload_n 3, 1) := by decide +kernel
theorem dX4_lastCut_2 : decode cX4_lastCut 2 = .ok (.invokevirtual 38, 3) := by decide +kernel
theorem dX4_lastCut_5 : decode cX4_lastCut 5 = .ok (.ifCond .eq 7, 3) := by decide +kernel
theorem dX4_lastCut_8 : decode cX4_lastCut 8 = .ok (.iload_n 1, 1) := by decide +kernel
theorem dX4_lastCut_9 : decode cX4_lastCut 9 = .ok (.goto 4, 3) := by decide +kernel
theorem dX4_lastCut_12 : decode cX4_lastCut 12 = .ok (.iload_n 2, 1) := by decide +kernel
theorem dX4_lastCut_13 : decode cX4_lastCut 13 = .ok (.aload_n 0, 1) := by decide +kernel
theorem dX4_lastCut_14 : decode cX4_lastCut 14 = .ok (.getfield 18, 3) := by decide +kernel
theorem dX4_lastCut_17 : decode cX4_lastCut 17 = .ok (.isub, 1) := by decide +kernel
theorem dX4_lastCut_18 : decode cX4_lastCut 18 = .ok (.iconst 1, 1) := by decide +kernel
theorem dX4_lastCut_19 : decode cX4_lastCut 19 = .ok (.isub, 1) := by decide +kernel
theorem dX4_lastCut_20 : decode cX4_lastCut 20 = .ok (.ireturn, 1) := by decide +kernel
theorem dX5_init_0 : decode cX5_init 0 = .ok (.aload_n 0, 1) := by decide +kernel
theorem dX5_init_1 : decode cX5_init 1 = .ok (.invokespecial 3, 3) := by decide +kernel
theorem dX5_init_4 : decode cX5_init 4 = .ok (.aload_n 0, 1) := by decide +kernel
theorem dX5_init_5 : decode cX5_init 5 = .ok (.sipush 1024, 3) := by decide +kernel
theorem dX5_init_8 : decode cX5_init 8 = .ok (.newarray .int, 2) := by decide +kernel
theorem dX5_init_10 : decode cX5_init 10 = .ok (.putfield 9, 3) := by decide +kernel
theorem dX5_init_13 : decode cX5_init 13 = .ok (.aload_n 0, 1) := by decide +kernel
theorem dX5_init_14 : decode cX5_init 14 = .ok (.ldc 15, 2) := by decide +kernel
theorem dX5_init_16 : decode cX5_init 16 = .ok (.newarray .int, 2) := by decide +kernel
theorem dX5_init_18 : decode cX5_init 18 = .ok (.putfield 16, 3) := by decide +kernel
theorem dX5_init_21 : decode cX5_init 21 = .ok (.aload_n 0, 1) := by decide +kernel
theorem dX5_init_22 : decode cX5_init 22 = .ok (.iconst 1, 1) := by decide +kernel
theorem dX5_init_23 : decode cX5_init 23 = .ok (.putfield 19, 3) := by decide +kernel
theorem dX5_init_26 : decode cX5_init 26 = .ok (.aload_n 0, 1) := by decide +kernel
theorem dX5_init_27 : decode cX5_init 27 = .ok (.aload_n 1, 1) := by decide +kernel
theorem dX5_init_28 : decode cX5_init 28 = .ok (.putfield 23, 3) := by decide +kernel
theorem dX5_init_31 : decode cX5_init 31 = .ok (.aload_n 0, 1) := by decide +kernel
theorem dX5_init_32 : decode cX5_init 32 = .ok (.aload_n 2, 1) := by decide +kernel
theorem dX5_init_33 : decode cX5_init 33 = .ok (.putfield 27, 3) := by decide +kernel
theorem dX5_init_36 : decode cX5_init 36 = .ok (.return_, 1) := by decide +kernel
theorem dX5_forget_0 : decode cX5_forget 0 = .ok (.aload_n 0, 1) := by decide +kernel
theorem dX5_forget_1 : decode cX5_forget 1 = .ok (.iconst 1, 1) := by decide +kernel
theorem dX5_forget_2 : decode cX5_forget 2 = .ok (.putfield 19, 3) := by decide +kernel
theorem dX5_forget_5 : decode cX5_forget 5 = .ok (.return_, 1) := by decide +kernel
set_option maxRecDepth 20000 in
theorem ggX5_makeReady_X5_fillSizes : GoodIn wsX5_makeReady wsX5_fillSizes := goodIn_r _ [8, 2, 9, 10, 11, 12, 13, 14, 7, 15, 16, 17, 18, 19, 20, 21, 22, 23, 24, 25, 26, 27, 28, 29, 30, 31, 32, 33, 34, 35, 36, 37, 38, 39, 40, 41, 42, 43, 44, 45, 46, 47, 48, 49, 50, 51, 52, 53, 54, 55, 56, 57, 58, 59, 60, 61, 62, 63, 89, 90, 91, 92, 93, 94, 95, 96, 97, 98, 99, 100, 101, 102, 103, 104, 105] (by decide +kernel) (by decide +kernel)
set_option maxRecDepth 20000 in
theorem gX5_makeReady_X5_fillSizes : GoodIn wsX5_makeReady (wsV RX5 31 RX5 yX5_fillSizes wsX5_fillSizes) := goodIn_app (goodIn_of _ (by decide +kernel)) ggX5_makeReady_X5_fillSizes
set_option maxRecDepth 20000 in
theorem ggX5_makeReady_X5_fillParts : GoodIn wsX5_makeReady wsX5_fillParts := goodIn_r _ [67, 2, 10, 11, 68, 69, 70, 7, 71, 9, 24, 25, 26, 27, 72, 73, 74, 75, 55, 76, 77, 78, 79, 80, 81, 48, 49, 50, 51, 12, 13, 14, 15, 16, 17, 18, 63, 59, 60, 61, 62, 82, 83, 84, 85, 86, 87, 88, 28, 89, 90, 91, 92, 93, 94, 95, 96, 97, 98, 99, 100] (by decide +kernel) (by decide +kernel)
set_option maxRecDepth 20000 in
theorem gX5_makeReady_X5_fillParts : GoodIn wsX5_makeReady (wsV RX5 40 RX5 yX5_fillParts wsX5_fillParts) := goodIn_app (goodIn_of _ (by decide +kernel)) ggX5_makeReady_X5_fillParts
theorem dX5_makeReady_0 : decode cX5_makeReady 0 = .ok (.aload_n 0, 1) := by decide +kernel
theorem dX5_makeReady_1 : decode cX5_makeReady 1 = .ok (.getfield 19, 3) := by decide +kernel
theorem dX5_makeReady_4 : decode cX5_makeReady 4 = .ok (.ifCond .ne 4, 3) := by decide +kernel
theorem dX5_makeReady_7 : decode cX5_makeReady 7 = .ok (.return_, 1) := by decide +kernel
theorem dX5_makeReady_8 : decode cX5_makeReady 8 = .ok (.aload_n 0, 1) := by decide +kernel
theorem dX5_makeReady_9 : decode cX5_makeReady 9 = .ok (.invokevirtual 31, 3) := by decide +kernel
theorem dX5_makeReady_12 : decode cX5_makeReady 12 = .ok (.aload_n 0, 1) := by decide +kernel
theorem dX5_makeReady_13 : decode cX5_makeReady 13 = .ok (.getfield 23, 3) := by decide +kernel
theorem dX5_makeReady_16 : decode cX5_makeReady 16 = .ok (.getfield 34, 3) := by decide +kernel
theorem dX5_makeReady_19 : decode cX5_makeReady 19 = .ok (.ifCond .le 7, 3) := by decide +kernel
theorem dX5_makeReady_22 : decode cX5_makeReady 22 = .ok (.aload_n 0, 1) := by decide +kernel
theorem dX5_makeReady_23 : decode cX5_makeReady 23 = .ok (.invokevirtual 40, 3) := by decide +kernel
theorem dX5_makeReady_26 : decode cX5_makeReady 26 = .ok (.aload_n 0, 1) := by decide +kernel
theorem dX5_makeReady_27 : decode cX5_makeReady 27 = .ok (.iconst 0, 1) := by decide +kernel
theorem dX5_makeReady_28 : decode cX5_makeReady 28 = .ok (.putfield 19, 3) := by decide +kernel
theorem dX5_makeReady_31 : decode cX5_makeReady 31 = .ok (.return_, 1) := by decide +kernel
set_option maxRecDepth 20000 in
theorem ggX5_of_X5_ofSize : GoodIn wsX5_of wsX5_ofSize := goodIn_r _ [8, 1, 9, 10, 11, 12, 7, 13, 14, 15, 16, 23, 24, 25, 26, 27, 28, 29, 30, 31, 32, 33, 34] (by decide +kernel) (by decide +kernel)
set_option maxRecDepth 20000 in
theorem gX5_of_X5_ofSize : GoodIn wsX5_of (wsV RX5 43 RX5 yX5_ofSize wsX5_ofSize) := goodIn_app (goodIn_of _ (by decide +kernel)) ggX5_of_X5_ofSize
set_option maxRecDepth 20000 in
theorem ggX5_of_X5_span : GoodIn wsX5_of wsX5_span := goodIn_r _ [19] (by decide +kernel) (by decide +kernel)
set_option maxRecDepth 20000 in
theorem gX5_of_X5_span : GoodIn wsX5_of (va_wsS RX5 47 yX5_span wsX5_span) := goodIn_app (goodIn_of _ (by decide +kernel)) ggX5_of_X5_span
set_option maxRecDepth 20000 in
theorem ggX5_of_X5_partSlot : GoodIn wsX5_of wsX5_partSlot := goodIn_r _ [22] (by decide +kernel) (by decide +kernel)
set_option maxRecDepth 20000 in
theorem gX5_of_X5_partSlot : GoodIn wsX5_of (va_wsS RX5 51 yX5_partSlot wsX5_partSlot) := goodIn_app (goodIn_of _ (by decide +kernel)) ggX5_of_X5_partSlot
set_option maxRecDepth 20000 in
theorem ggX5_of_X6_within : GoodIn wsX5_of wsX6_within := goodIn_r _ [16] (by decide +kernel) (by decide +kernel)
set_option maxRecDepth 20000 in
theorem gX5_of_X6_within_n54 : GoodIn wsX5_of (wsX6_within) := ggX5_of_X6_within
theorem dX5_of_0 : decode cX5_of 0 = .ok (.aload_n 0, 1) := by decide +kernel
theorem dX5_of_1 : decode cX5_of 1 = .ok (.getfield 23, 3) := by decide +kernel
theorem dX5_of_4 : decode cX5_of 4 = .ok (.getfield 34, 3) := by decide +kernel
theorem dX5_of_7 : decode cX5_of 7 = .ok (.ifCond .ne 13, 3) := by decide +kernel
theorem dX5_of_10 : decode cX5_of 10 = .ok (.aload_n 0, 1) := by decide +kernel
theorem dX5_of_11 : decode cX5_of 11 = .ok (.iload_n 3, 1) := by decide +kernel
theorem dX5_of_12 : decode cX5_of 12 = .ok (.iload 4, 2) := by decide +kernel
theorem dX5_of_14 : decode cX5_of 14 = .ok (.iload 5, 2) := by decide +kernel
theorem dX5_of_16 : decode cX5_of 16 = .ok (.invokevirtual 43, 3) := by decide +kernel
theorem dX5_of_19 : decode cX5_of 19 = .ok (.ireturn, 1) := by decide +kernel
theorem dX5_of_20 : decode cX5_of 20 = .ok (.iload 5, 2) := by decide +kernel
theorem dX5_of_22 : decode cX5_of 22 = .ok (.iload_n 1, 1) := by decide +kernel
theorem dX5_of_23 : decode cX5_of 23 = .ok (.iload_n 1, 1) := by decide +kernel
theorem dX5_of_24 : decode cX5_of 24 = .ok (.iload_n 3, 1) := by decide +kernel
theorem dX5_of_25 : decode cX5_of 25 = .ok (.iadd, 1) := by decide +kernel
theorem dX5_of_26 : decode cX5_of 26 = .ok (.invokestatic 47, 3) := by decide +kernel
theorem dX5_of_29 : decode cX5_of 29 = .ok (.iload_n 2, 1) := by decide +kernel
theorem dX5_of_30 : decode cX5_of 30 = .ok (.iload_n 2, 1) := by decide +kernel
theorem dX5_of_31 : decode cX5_of 31 = .ok (.iload 4, 2) := by decide +kernel
theorem dX5_of_33 : decode cX5_of 33 = .ok (.iadd, 1) := by decide +kernel
theorem dX5_of_34 : decode cX5_of 34 = .ok (.invokestatic 47, 3) := by decide +kernel
theorem dX5_of_37 : decode cX5_of 37 = .ok (.invokestatic 51, 3) := by decide +kernel
theorem dX5_of_40 : decode cX5_of 40 = .ok (.istore 6, 2) := by decide +kernel
theorem dX5_of_42 : decode cX5_of 42 = .ok (.iload 6, 2) := by decide +kernel
theorem dX5_of_44 : decode cX5_of 44 = .ok (.iconst 0, 1) := by decide +kernel
theorem dX5_of_45 : decode cX5_of 45 = .ok (.aload_n 0, 1) := by decide +kernel
theorem dX5_of_46 : decode cX5_of 46 = .ok (.getfield 16, 3) := by decide +kernel
theorem dX5_of_49 : decode cX5_of 49 = .ok (.arraylength, 1) := by decide +kernel
theorem dX5_of_50 : decode cX5_of 50 = .ok (.iconst 1, 1) := by decide +kernel
theorem dX5_of_51 : decode cX5_of 51 = .ok (.isub, 1) := by decide +kernel
theorem dX5_of_52 : decode cX5_of 52 = .ok (.invokestatic 54, 3) := by decide +kernel
theorem dX5_of_55 : decode cX5_of 55 = .ok (.ifCond .eq 13, 3) := by decide +kernel
theorem dX5_of_58 : decode cX5_of 58 = .ok (.aload_n 0, 1) := by decide +kernel
theorem dX5_of_59 : decode cX5_of 59 = .ok (.getfield 16, 3) := by decide +kernel
theorem dX5_of_62 : decode cX5_of 62 = .ok (.iload 6, 2) := by decide +kernel
theorem dX5_of_64 : decode cX5_of 64 = .ok (.iaload, 1) := by decide +kernel
theorem dX5_of_65 : decode cX5_of 65 = .ok (.goto 4, 3) := by decide +kernel
theorem dX5_of_68 : decode cX5_of 68 = .ok (.iconst 0, 1) := by decide +kernel
theorem dX5_of_69 : decode cX5_of 69 = .ok (.ireturn, 1) := by decide +kernel
set_option maxRecDepth 20000 in
theorem ggX5_ofCut_X4_partsWidth : GoodIn wsX5_ofCut wsX4_partsWidth := goodIn_r _ [7, 8, 39, 40, 41, 42, 43, 44, 45] (by decide +kernel) (by decide +kernel)
set_option maxRecDepth 20000 in
theorem gX5_ofCut_X4_partsWidth : GoodIn wsX5_ofCut (wsV RX5 61 RX4 yX4_partsWidth wsX4_partsWidth) := goodIn_app (goodIn_of _ (by decide +kernel)) ggX5_ofCut_X4_partsWidth
set_option maxRecDepth 20000 in
theorem ggX5_ofCut_X5_of : GoodIn wsX5_ofCut wsX5_of := goodIn_r _ [13, 1, 14, 15, 16, 17, 18, 12, 19, 20, 21, 22, 23, 24, 25, 26, 27, 28, 29, 30, 31, 32, 33, 34, 35, 36, 37, 38, 39, 40, 41, 42, 43, 44, 45] (by decide +kernel) (by decide +kernel)
set_option maxRecDepth 20000 in
theorem gX5_ofCut_X5_of : GoodIn wsX5_ofCut (wsV RX5 65 RX5 yX5_of wsX5_of) := goodIn_app (goodIn_of _ (by decide +kernel)) ggX5_ofCut_X5_of
theorem dX5_ofCut_0 : decode cX5_ofCut 0 = .ok (.iload 6, 2) := by decide +kernel
theorem dX5_ofCut_2 : decode cX5_ofCut 2 = .ok (.aload_n 0, 1) := by decide +kernel
theorem dX5_ofCut_3 : decode cX5_ofCut 3 = .ok (.getfield 23, 3) := by decide +kernel
theorem dX5_ofCut_6 : decode cX5_ofCut 6 = .ok (.getfield 58, 3) := by decide +kernel
theorem dX5_ofCut_9 : decode cX5_ofCut 9 = .ok (.iadd, 1) := by decide +kernel
theorem dX5_ofCut_10 : decode cX5_ofCut 10 = .ok (.istore 7, 2) := by decide +kernel
theorem dX5_ofCut_12 : decode cX5_ofCut 12 = .ok (.aload_n 0, 1) := by decide +kernel
theorem dX5_ofCut_13 : decode cX5_ofCut 13 = .ok (.getfield 23, 3) := by decide +kernel
theorem dX5_ofCut_16 : decode cX5_ofCut 16 = .ok (.iload 5, 2) := by decide +kernel
theorem dX5_ofCut_18 : decode cX5_ofCut 18 = .ok (.invokevirtual 61, 3) := by decide +kernel
theorem dX5_ofCut_21 : decode cX5_ofCut 21 = .ok (.ifCond .eq 36, 3) := by decide +kernel
theorem dX5_ofCut_24 : decode cX5_ofCut 24 = .ok (.aload_n 0, 1) := by decide +kernel
theorem dX5_ofCut_25 : decode cX5_ofCut 25 = .ok (.iload_n 1, 1) := by decide +kernel
theorem dX5_ofCut_26 : decode cX5_ofCut 26 = .ok (.iload_n 2, 1) := by decide +kernel
theorem dX5_ofCut_27 : decode cX5_ofCut 27 = .ok (.iload 6, 2) := by decide +kernel
theorem dX5_ofCut_29 : decode cX5_ofCut 29 = .ok (.iload 4, 2) := by decide +kernel
theorem dX5_ofCut_31 : decode cX5_ofCut 31 = .ok (.iload 5, 2) := by decide +kernel
theorem dX5_ofCut_33 : decode cX5_ofCut 33 = .ok (.invokevirtual 65, 3) := by decide +kernel
theorem dX5_ofCut_36 : decode cX5_ofCut 36 = .ok (.aload_n 0, 1) := by decide +kernel
theorem dX5_ofCut_37 : decode cX5_ofCut 37 = .ok (.iload_n 1, 1) := by decide +kernel
theorem dX5_ofCut_38 : decode cX5_ofCut 38 = .ok (.iload 7, 2) := by decide +kernel
theorem dX5_ofCut_40 : decode cX5_ofCut 40 = .ok (.iadd, 1) := by decide +kernel
theorem dX5_ofCut_41 : decode cX5_ofCut 41 = .ok (.iload_n 2, 1) := by decide +kernel
theorem dX5_ofCut_42 : decode cX5_ofCut 42 = .ok (.iload_n 3, 1) := by decide +kernel
theorem dX5_ofCut_43 : decode cX5_ofCut 43 = .ok (.iload 7, 2) := by decide +kernel
theorem dX5_ofCut_45 : decode cX5_ofCut 45 = .ok (.isub, 1) := by decide +kernel
theorem dX5_ofCut_46 : decode cX5_ofCut 46 = .ok (.iload 4, 2) := by decide +kernel
theorem dX5_ofCut_48 : decode cX5_ofCut 48 = .ok (.iload 5, 2) := by decide +kernel
theorem dX5_ofCut_50 : decode cX5_ofCut 50 = .ok (.invokevirtual 65, 3) := by decide +kernel
theorem dX5_ofCut_53 : decode cX5_ofCut 53 = .ok (.iadd, 1) := by decide +kernel
theorem dX5_ofCut_54 : decode cX5_ofCut 54 = .ok (.goto 32, 3) := by decide +kernel
theorem dX5_ofCut_57 : decode cX5_ofCut 57 = .ok (.aload_n 0, 1) := by decide +kernel
theorem dX5_ofCut_58 : decode cX5_ofCut 58 = .ok (.iload_n 1, 1) := by decide +kernel
theorem dX5_ofCut_59 : decode cX5_ofCut 59 = .ok (.iload_n 2, 1) := by decide +kernel
theorem dX5_ofCut_60 : decode cX5_ofCut 60 = .ok (.iload_n 3, 1) := by decide +kernel
theorem dX5_ofCut_61 : decode cX5_ofCut 61 = .ok (.iload 6, 2) := by decide +kernel
theorem dX5_ofCut_63 : decode cX5_ofCut 63 = .ok (.iload 5, 2) := by decide +kernel
theorem dX5_ofCut_65 : decode cX5_ofCut 65 = .ok (.invokevirtual 65, 3) := by decide +kernel
theorem dX5_ofCut_68 : decode cX5_ofCut 68 = .ok (.aload_n 0, 1) := by decide +kernel
theorem dX5_ofCut_69 : decode cX5_ofCut 69 = .ok (.iload_n 1, 1) := by decide +kernel
theorem dX5_ofCut_70 : decode cX5_ofCut 70 = .ok (.iload_n 2, 1) := by decide +kernel
theorem dX5_ofCut_71 : decode cX5_ofCut 71 = .ok (.iload 7, 2) := by decide +kernel
theorem dX5_ofCut_73 : decode cX5_ofCut 73 = .ok (.iadd, 1) := by decide +kernel
theorem dX5_ofCut_74 : decode cX5_ofCut 74 = .ok (.iload_n 3, 1) := by decide +kernel
theorem dX5_ofCut_75 : decode cX5_ofCut 75 = .ok (.iload 4, 2) := by decide +kernel
theorem dX5_ofCut_77 : decode cX5_ofCut 77 = .ok (.iload 7, 2) := by decide +kernel
theorem dX5_ofCut_79 : decode cX5_ofCut 79 = .ok (.isub, 1) := by decide +kernel
theorem dX5_ofCut_80 : decode cX5_ofCut 80 = .ok (.iload 5, 2) := by decide +kernel
theorem dX5_ofCut_82 : decode cX5_ofCut 82 = .ok (.invokevirtual 65, 3) := by decide +kernel
theorem dX5_ofCut_85 : decode cX5_ofCut 85 = .ok (.iadd, 1) := by decide +kernel
theorem dX5_ofCut_86 : decode cX5_ofCut 86 = .ok (.ireturn, 1) := by decide +kernel
set_option maxRecDepth 20000 in
theorem ggX5_fillSizes_X5_sizeSlot : GoodIn wsX5_fillSizes wsX5_sizeSlot := goodIn_r _ [9] (by decide +kernel) (by decide +kernel)
set_option maxRecDepth 20000 in
theorem gX5_fillSizes_X5_sizeSlot : GoodIn wsX5_fillSizes (va_wsS RX5 78 yX5_sizeSlot wsX5_sizeSlot) := goodIn_app (goodIn_of _ (by decide +kernel)) ggX5_fillSizes_X5_sizeSlot
set_option maxRecDepth 20000 in
theorem ggX5_fillSizes_X6_within : GoodIn wsX5_fillSizes wsX6_within := goodIn_r _ [12] (by decide +kernel) (by decide +kernel)
set_option maxRecDepth 20000 in
theorem gX5_fillSizes_X6_within_n54 : GoodIn wsX5_fillSizes (wsX6_within) := ggX5_fillSizes_X6_within
set_option maxRecDepth 20000 in
theorem ggX5_fillSizes_X5_mostOfSize : GoodIn wsX5_fillSizes wsX5_mostOfSize := goodIn_r _ [16, 17, 18, 19, 20, 21, 1, 22, 23, 24, 25, 26, 27, 28, 29, 30, 31, 32, 33, 34, 35, 36, 37, 38, 39, 40, 41, 42, 43, 44, 8, 45, 2, 5, 6, 7, 9, 10, 11, 12, 46, 47, 48, 49, 50, 51, 52, 53, 54, 55, 56, 57, 58, 59, 60, 61, 62, 63, 64, 65, 66, 67, 68, 69, 70, 71, 72, 73, 74] (by decide +kernel) (by decide +kernel)
set_option maxRecDepth 20000 in
theorem gX5_fillSizes_X5_mostOfSize : GoodIn wsX5_fillSizes (wsV RX5 81 RX5 yX5_mostOfSize wsX5_mostOfSize) := goodIn_app (goodIn_of _ (by decide +kernel)) ggX5_fillSizes_X5_mostOfSize
theorem dX5_fillSizes_0 : decode cX5_fillSizes 0 = .ok (.aload_n 0, 1) := by decide +kernel
theorem dX5_fillSizes_1 : decode cX5_fillSizes 1 = .ok (.getfield 23, 3) := by decide +kernel
theorem dX5_fillSizes_4 : decode cX5_fillSizes 4 = .ok (.getfield 69, 3) := by decide +kernel
theorem dX5_fillSizes_7 : decode cX5_fillSizes 7 = .ok (.istore_n 1, 1) := by decide +kernel
theorem dX5_fillSizes_8 : decode cX5_fillSizes 8 = .ok (.iload_n 1, 1) := by decide +kernel
theorem dX5_fillSizes_9 : decode cX5_fillSizes 9 = .ok (.iconst 1, 1) := by decide +kernel
theorem dX5_fillSizes_10 : decode cX5_fillSizes 10 = .ok (.if_icmp .lt 85, 3) := by decide +kernel
theorem dX5_fillSizes_13 : decode cX5_fillSizes 13 = .ok (.iconst 1, 1) := by decide +kernel
theorem dX5_fillSizes_14 : decode cX5_fillSizes 14 = .ok (.istore_n 2, 1) := by decide +kernel
theorem dX5_fillSizes_15 : decode cX5_fillSizes 15 = .ok (.iload_n 2, 1) := by decide +kernel
theorem dX5_fillSizes_16 : decode cX5_fillSizes 16 = .ok (.aload_n 0, 1) := by decide +kernel
theorem dX5_fillSizes_17 : decode cX5_fillSizes 17 = .ok (.getfield 23, 3) := by decide +kernel
theorem dX5_fillSizes_20 : decode cX5_fillSizes 20 = .ok (.getfield 72, 3) := by decide +kernel
theorem dX5_fillSizes_23 : decode cX5_fillSizes 23 = .ok (.if_icmp .gt 66, 3) := by decide +kernel
theorem dX5_fillSizes_26 : decode cX5_fillSizes 26 = .ok (.iconst 1, 1) := by decide +kernel
theorem dX5_fillSizes_27 : decode cX5_fillSizes 27 = .ok (.istore_n 3, 1) := by decide +kernel
theorem dX5_fillSizes_28 : decode cX5_fillSizes 28 = .ok (.iload_n 3, 1) := by decide +kernel
theorem dX5_fillSizes_29 : decode cX5_fillSizes 29 = .ok (.aload_n 0, 1) := by decide +kernel
theorem dX5_fillSizes_30 : decode cX5_fillSizes 30 = .ok (.getfield 23, 3) := by decide +kernel
theorem dX5_fillSizes_33 : decode cX5_fillSizes 33 = .ok (.getfield 75, 3) := by decide +kernel
theorem dX5_fillSizes_36 : decode cX5_fillSizes 36 = .ok (.if_icmp .gt 47, 3) := by decide +kernel
theorem dX5_fillSizes_39 : decode cX5_fillSizes 39 = .ok (.iload_n 2, 1) := by decide +kernel
theorem dX5_fillSizes_40 : decode cX5_fillSizes 40 = .ok (.iload_n 3, 1) := by decide +kernel
theorem dX5_fillSizes_41 : decode cX5_fillSizes 41 = .ok (.iload_n 1, 1) := by decide +kernel
theorem dX5_fillSizes_42 : decode cX5_fillSizes 42 = .ok (.invokestatic 78, 3) := by decide +kernel
theorem dX5_fillSizes_45 : decode cX5_fillSizes 45 = .ok (.istore 4, 2) := by decide +kernel
theorem dX5_fillSizes_47 : decode cX5_fillSizes 47 = .ok (.iload 4, 2) := by decide +kernel
theorem dX5_fillSizes_49 : decode cX5_fillSizes 49 = .ok (.iconst 0, 1) := by decide +kernel
theorem dX5_fillSizes_50 : decode cX5_fillSizes 50 = .ok (.aload_n 0, 1) := by decide +kernel
theorem dX5_fillSizes_51 : decode cX5_fillSizes 51 = .ok (.getfield 9, 3) := by decide +kernel
theorem dX5_fillSizes_54 : decode cX5_fillSizes 54 = .ok (.arraylength, 1) := by decide +kernel
theorem dX5_fillSizes_55 : decode cX5_fillSizes 55 = .ok (.iconst 1, 1) := by decide +kernel
theorem dX5_fillSizes_56 : decode cX5_fillSizes 56 = .ok (.isub, 1) := by decide +kernel
theorem dX5_fillSizes_57 : decode cX5_fillSizes 57 = .ok (.invokestatic 54, 3) := by decide +kernel
theorem dX5_fillSizes_60 : decode cX5_fillSizes 60 = .ok (.ifCond .eq 17, 3) := by decide +kernel
theorem dX5_fillSizes_63 : decode cX5_fillSizes 63 = .ok (.aload_n 0, 1) := by decide +kernel
theorem dX5_fillSizes_64 : decode cX5_fillSizes 64 = .ok (.getfield 9, 3) := by decide +kernel
theorem dX5_fillSizes_67 : decode cX5_fillSizes 67 = .ok (.iload 4, 2) := by decide +kernel
theorem dX5_fillSizes_69 : decode cX5_fillSizes 69 = .ok (.aload_n 0, 1) := by decide +kernel
theorem dX5_fillSizes_70 : decode cX5_fillSizes 70 = .ok (.iload_n 2, 1) := by decide +kernel
theorem dX5_fillSizes_71 : decode cX5_fillSizes 71 = .ok (.iload_n 3, 1) := by decide +kernel
theorem dX5_fillSizes_72 : decode cX5_fillSizes 72 = .ok (.iload_n 1, 1) := by decide +kernel
theorem dX5_fillSizes_73 : decode cX5_fillSizes 73 = .ok (.invokevirtual 81, 3) := by decide +kernel
theorem dX5_fillSizes_76 : decode cX5_fillSizes 76 = .ok (.iastore, 1) := by decide +kernel
theorem dX5_fillSizes_77 : decode cX5_fillSizes 77 = .ok (.iinc 3 1, 3) := by decide +kernel
theorem dX5_fillSizes_80 : decode cX5_fillSizes 80 = .ok (.goto (-52), 3) := by decide +kernel
theorem dX5_fillSizes_83 : decode cX5_fillSizes 83 = .ok (.iinc 2 1, 3) := by decide +kernel
theorem dX5_fillSizes_86 : decode cX5_fillSizes 86 = .ok (.goto (-71), 3) := by decide +kernel
theorem dX5_fillSizes_89 : decode cX5_fillSizes 89 = .ok (.iinc 1 (-1), 3) := by decide +kernel
theorem dX5_fillSizes_92 : decode cX5_fillSizes 92 = .ok (.goto (-84), 3) := by decide +kernel
theorem dX5_fillSizes_95 : decode cX5_fillSizes 95 = .ok (.return_, 1) := by decide +kernel
set_option maxRecDepth 20000 in
theorem ggX5_mostOfSize_X1_mostValue : GoodIn wsX5_mostOfSize wsX1_mostValue := goodIn_r _ [12, 13, 14, 15, 3, 4, 5, 16, 17, 18, 11, 19, 20, 21, 22, 23, 24, 25, 26, 64, 65, 66, 67, 68] (by decide +kernel) (by decide +kernel)
set_option maxRecDepth 20000 in
theorem gX5_mostOfSize_X1_mostValue : GoodIn wsX5_mostOfSize (wsV RX5 84 RX1 yX1_mostValue wsX1_mostValue) := goodIn_app (goodIn_of _ (by decide +kernel)) ggX5_mostOfSize_X1_mostValue
set_option maxRecDepth 20000 in
theorem ggX5_mostOfSize_X5_ofSize : GoodIn wsX5_mostOfSize wsX5_ofSize := goodIn_r _ [31, 6, 32, 33, 34, 35, 30, 36, 37, 38, 39, 52, 53, 54, 55, 56, 57, 58, 59, 60, 61, 62, 63] (by decide +kernel) (by decide +kernel)
set_option maxRecDepth 20000 in
theorem gX5_mostOfSize_X5_ofSize : GoodIn wsX5_mostOfSize (wsV RX5 43 RX5 yX5_ofSize wsX5_ofSize) := goodIn_app (goodIn_of _ (by decide +kernel)) ggX5_mostOfSize_X5_ofSize
set_option maxRecDepth 20000 in
theorem ggX5_mostOfSize_X4_lastCut : GoodIn wsX5_mostOfSize wsX4_lastCut := goodIn_r _ [44, 45, 46, 47, 48, 43, 49, 50, 57, 58, 59, 60, 61, 62, 63] (by decide +kernel) (by decide +kernel)
set_option maxRecDepth 20000 in
theorem gX5_mostOfSize_X4_lastCut : GoodIn wsX5_mostOfSize (wsV RX5 94 RX4 yX4_lastCut wsX4_lastCut) := goodIn_app (goodIn_of _ (by decide +kernel)) ggX5_mostOfSize_X4_lastCut
set_option maxRecDepth 20000 in
theorem ggX5_mostOfSize_X4_partsWidth : GoodIn wsX5_mostOfSize wsX4_partsWidth := goodIn_r _ [49, 50, 57, 58, 59, 60, 61, 62, 63] (by decide +kernel) (by decide +kernel)
set_option maxRecDepth 20000 in
theorem gX5_mostOfSize_X4_partsWidth : GoodIn wsX5_mostOfSize (wsV RX5 61 RX4 yX4_partsWidth wsX4_partsWidth) := goodIn_app (goodIn_of _ (by decide +kernel)) ggX5_mostOfSize_X4_partsWidth
theorem dX5_mostOfSize_0 : decode cX5_mostOfSize 0 = .ok (.aload_n 0, 1) := by decide +kernel
theorem dX5_mostOfSize_1 : decode cX5_mostOfSize 1 = .ok (.getfield 27, 3) := by decide +kernel
theorem dX5_mostOfSize_4 : decode cX5_mostOfSize 4 = .ok (.iload_n 1, 1) := by decide +kernel
theorem dX5_mostOfSize_5 : decode cX5_mostOfSize 5 = .ok (.iload_n 2, 1) := by decide +kernel
theorem dX5_mostOfSize_6 : decode cX5_mostOfSize 6 = .ok (.invokevirtual 84, 3) := by decide +kernel
theorem dX5_mostOfSize_9 : decode cX5_mostOfSize 9 = .ok (.aload_n 0, 1) := by decide +kernel
theorem dX5_mostOfSize_10 : decode cX5_mostOfSize 10 = .ok (.iload_n 1, 1) := by decide +kernel
theorem dX5_mostOfSize_11 : decode cX5_mostOfSize 11 = .ok (.iload_n 2, 1) := by decide +kernel
theorem dX5_mostOfSize_12 : decode cX5_mostOfSize 12 = .ok (.iload_n 3, 1) := by decide +kernel
theorem dX5_mostOfSize_13 : decode cX5_mostOfSize 13 = .ok (.iconst 1, 1) := by decide +kernel
theorem dX5_mostOfSize_14 : decode cX5_mostOfSize 14 = .ok (.iadd, 1) := by decide +kernel
theorem dX5_mostOfSize_15 : decode cX5_mostOfSize 15 = .ok (.invokevirtual 43, 3) := by decide +kernel
theorem dX5_mostOfSize_18 : decode cX5_mostOfSize 18 = .ok (.invokestatic 89, 3) := by decide +kernel
theorem dX5_mostOfSize_21 : decode cX5_mostOfSize 21 = .ok (.istore 4, 2) := by decide +kernel
theorem dX5_mostOfSize_23 : decode cX5_mostOfSize 23 = .ok (.aload_n 0, 1) := by decide +kernel
theorem dX5_mostOfSize_24 : decode cX5_mostOfSize 24 = .ok (.getfield 23, 3) := by decide +kernel
theorem dX5_mostOfSize_27 : decode cX5_mostOfSize 27 = .ok (.iload_n 1, 1) := by decide +kernel
theorem dX5_mostOfSize_28 : decode cX5_mostOfSize 28 = .ok (.iload_n 2, 1) := by decide +kernel
theorem dX5_mostOfSize_29 : decode cX5_mostOfSize 29 = .ok (.iload_n 3, 1) := by decide +kernel
theorem dX5_mostOfSize_30 : decode cX5_mostOfSize 30 = .ok (.invokevirtual 94, 3) := by decide +kernel
theorem dX5_mostOfSize_33 : decode cX5_mostOfSize 33 = .ok (.istore 5, 2) := by decide +kernel
theorem dX5_mostOfSize_35 : decode cX5_mostOfSize 35 = .ok (.aload_n 0, 1) := by decide +kernel
theorem dX5_mostOfSize_36 : decode cX5_mostOfSize 36 = .ok (.getfield 23, 3) := by decide +kernel
theorem dX5_mostOfSize_39 : decode cX5_mostOfSize 39 = .ok (.iload_n 3, 1) := by decide +kernel
theorem dX5_mostOfSize_40 : decode cX5_mostOfSize 40 = .ok (.invokevirtual 61, 3) := by decide +kernel
theorem dX5_mostOfSize_43 : decode cX5_mostOfSize 43 = .ok (.istore 6, 2) := by decide +kernel
theorem dX5_mostOfSize_45 : decode cX5_mostOfSize 45 = .ok (.iconst 1, 1) := by decide +kernel
theorem dX5_mostOfSize_46 : decode cX5_mostOfSize 46 = .ok (.istore 7, 2) := by decide +kernel
theorem dX5_mostOfSize_48 : decode cX5_mostOfSize 48 = .ok (.iload 7, 2) := by decide +kernel
theorem dX5_mostOfSize_50 : decode cX5_mostOfSize 50 = .ok (.iload 5, 2) := by decide +kernel
theorem dX5_mostOfSize_52 : decode cX5_mostOfSize 52 = .ok (.if_icmp .gt 78, 3) := by decide +kernel
theorem dX5_mostOfSize_55 : decode cX5_mostOfSize 55 = .ok (.iload 7, 2) := by decide +kernel
theorem dX5_mostOfSize_57 : decode cX5_mostOfSize 57 = .ok (.aload_n 0, 1) := by decide +kernel
theorem dX5_mostOfSize_58 : decode cX5_mostOfSize 58 = .ok (.getfield 23, 3) := by decide +kernel
theorem dX5_mostOfSize_61 : decode cX5_mostOfSize 61 = .ok (.getfield 58, 3) := by decide +kernel
theorem dX5_mostOfSize_64 : decode cX5_mostOfSize 64 = .ok (.iadd, 1) := by decide +kernel
theorem dX5_mostOfSize_65 : decode cX5_mostOfSize 65 = .ok (.istore 8, 2) := by decide +kernel
theorem dX5_mostOfSize_67 : decode cX5_mostOfSize 67 = .ok (.iload 6, 2) := by decide +kernel
theorem dX5_mostOfSize_69 : decode cX5_mostOfSize 69 = .ok (.ifCond .eq 25, 3) := by decide +kernel
theorem dX5_mostOfSize_72 : decode cX5_mostOfSize 72 = .ok (.aload_n 0, 1) := by decide +kernel
theorem dX5_mostOfSize_73 : decode cX5_mostOfSize 73 = .ok (.iload 7, 2) := by decide +kernel
theorem dX5_mostOfSize_75 : decode cX5_mostOfSize 75 = .ok (.iload_n 2, 1) := by decide +kernel
theorem dX5_mostOfSize_76 : decode cX5_mostOfSize 76 = .ok (.iload_n 3, 1) := by decide +kernel
theorem dX5_mostOfSize_77 : decode cX5_mostOfSize 77 = .ok (.invokevirtual 43, 3) := by decide +kernel
theorem dX5_mostOfSize_80 : decode cX5_mostOfSize 80 = .ok (.aload_n 0, 1) := by decide +kernel
theorem dX5_mostOfSize_81 : decode cX5_mostOfSize 81 = .ok (.iload_n 1, 1) := by decide +kernel
theorem dX5_mostOfSize_82 : decode cX5_mostOfSize 82 = .ok (.iload 8, 2) := by decide +kernel
theorem dX5_mostOfSize_84 : decode cX5_mostOfSize 84 = .ok (.isub, 1) := by decide +kernel
theorem dX5_mostOfSize_85 : decode cX5_mostOfSize 85 = .ok (.iload_n 2, 1) := by decide +kernel
theorem dX5_mostOfSize_86 : decode cX5_mostOfSize 86 = .ok (.iload_n 3, 1) := by decide +kernel
theorem dX5_mostOfSize_87 : decode cX5_mostOfSize 87 = .ok (.invokevirtual 43, 3) := by decide +kernel
theorem dX5_mostOfSize_90 : decode cX5_mostOfSize 90 = .ok (.iadd, 1) := by decide +kernel
theorem dX5_mostOfSize_91 : decode cX5_mostOfSize 91 = .ok (.goto 22, 3) := by decide +kernel
theorem dX5_mostOfSize_94 : decode cX5_mostOfSize 94 = .ok (.aload_n 0, 1) := by decide +kernel
theorem dX5_mostOfSize_95 : decode cX5_mostOfSize 95 = .ok (.iload_n 1, 1) := by decide +kernel
theorem dX5_mostOfSize_96 : decode cX5_mostOfSize 96 = .ok (.iload 7, 2) := by decide +kernel
theorem dX5_mostOfSize_98 : decode cX5_mostOfSize 98 = .ok (.iload_n 3, 1) := by decide +kernel
theorem dX5_mostOfSize_99 : decode cX5_mostOfSize 99 = .ok (.invokevirtual 43, 3) := by decide +kernel
theorem dX5_mostOfSize_102 : decode cX5_mostOfSize 102 = .ok (.aload_n 0, 1) := by decide +kernel
theorem dX5_mostOfSize_103 : decode cX5_mostOfSize 103 = .ok (.iload_n 1, 1) := by decide +kernel
theorem dX5_mostOfSize_104 : decode cX5_mostOfSize 104 = .ok (.iload_n 2, 1) := by decide +kernel
theorem dX5_mostOfSize_105 : decode cX5_mostOfSize 105 = .ok (.iload 8, 2) := by decide +kernel
theorem dX5_mostOfSize_107 : decode cX5_mostOfSize 107 = .ok (.isub, 1) := by decide +kernel
theorem dX5_mostOfSize_108 : decode cX5_mostOfSize 108 = .ok (.iload_n 3, 1) := by decide +kernel
theorem dX5_mostOfSize_109 : decode cX5_mostOfSize 109 = .ok (.invokevirtual 43, 3) := by decide +kernel
theorem dX5_mostOfSize_112 : decode cX5_mostOfSize 112 = .ok (.iadd, 1) := by decide +kernel
theorem dX5_mostOfSize_113 : decode cX5_mostOfSize 113 = .ok (.istore 9, 2) := by decide +kernel
theorem dX5_mostOfSize_115 : decode cX5_mostOfSize 115 = .ok (.iload 4, 2) := by decide +kernel
theorem dX5_mostOfSize_117 : decode cX5_mostOfSize 117 = .ok (.iload 9, 2) := by decide +kernel
theorem dX5_mostOfSize_119 : decode cX5_mostOfSize 119 = .ok (.invokestatic 89, 3) := by decide +kernel
theorem dX5_mostOfSize_122 : decode cX5_mostOfSize 122 = .ok (.istore 4, 2) := by decide +kernel
theorem dX5_mostOfSize_124 : decode cX5_mostOfSize 124 = .ok (.iinc 7 1, 3) := by decide +kernel
theorem dX5_mostOfSize_127 : decode cX5_mostOfSize 127 = .ok (.goto (-79), 3) := by decide +kernel
theorem dX5_mostOfSize_130 : decode cX5_mostOfSize 130 = .ok (.iload 4, 2) := by decide +kernel
theorem dX5_mostOfSize_132 : decode cX5_mostOfSize 132 = .ok (.ireturn, 1) := by decide +kernel
set_option maxRecDepth 20000 in
theorem ggX5_ofSize_X5_sizeSlot : GoodIn wsX5_ofSize wsX5_sizeSlot := goodIn_r _ [7] (by decide +kernel) (by decide +kernel)
set_option maxRecDepth 20000 in
theorem gX5_ofSize_X5_sizeSlot : GoodIn wsX5_ofSize (va_wsS RX5 78 yX5_sizeSlot wsX5_sizeSlot) := goodIn_app (goodIn_of _ (by decide +kernel)) ggX5_ofSize_X5_sizeSlot
set_option maxRecDepth 20000 in
theorem ggX5_ofSize_X6_within : GoodIn wsX5_ofSize wsX6_within := goodIn_r _ [10] (by decide +kernel) (by decide +kernel)
set_option maxRecDepth 20000 in
theorem gX5_ofSize_X6_within_n54 : GoodIn wsX5_ofSize (wsX6_within) := ggX5_ofSize_X6_within
theorem dX5_ofSize_0 : decode cX5_ofSize 0 = .ok (.iload_n 1, 1) := by decide +kernel
theorem dX5_ofSize_1 : decode cX5_ofSize 1 = .ok (.iload_n 2, 1) := by decide +kernel
theorem dX5_ofSize_2 : decode cX5_ofSize 2 = .ok (.iload_n 3, 1) := by decide +kernel
theorem dX5_ofSize_3 : decode cX5_ofSize 3 = .ok (.invokestatic 78, 3) := by decide +kernel
theorem dX5_ofSize_6 : decode cX5_ofSize 6 = .ok (.istore 4, 2) := by decide +kernel
theorem dX5_ofSize_8 : decode cX5_ofSize 8 = .ok (.iload_n 3, 1) := by decide +kernel
theorem dX5_ofSize_9 : decode cX5_ofSize 9 = .ok (.aload_n 0, 1) := by decide +kernel
theorem dX5_ofSize_10 : decode cX5_ofSize 10 = .ok (.getfield 23, 3) := by decide +kernel
theorem dX5_ofSize_13 : decode cX5_ofSize 13 = .ok (.getfield 69, 3) := by decide +kernel
theorem dX5_ofSize_16 : decode cX5_ofSize 16 = .ok (.if_icmp .gt 29, 3) := by decide +kernel
theorem dX5_ofSize_19 : decode cX5_ofSize 19 = .ok (.iload 4, 2) := by decide +kernel
theorem dX5_ofSize_21 : decode cX5_ofSize 21 = .ok (.iconst 0, 1) := by decide +kernel
theorem dX5_ofSize_22 : decode cX5_ofSize 22 = .ok (.aload_n 0, 1) := by decide +kernel
theorem dX5_ofSize_23 : decode cX5_ofSize 23 = .ok (.getfield 9, 3) := by decide +kernel
theorem dX5_ofSize_26 : decode cX5_ofSize 26 = .ok (.arraylength, 1) := by decide +kernel
theorem dX5_ofSize_27 : decode cX5_ofSize 27 = .ok (.iconst 1, 1) := by decide +kernel
theorem dX5_ofSize_28 : decode cX5_ofSize 28 = .ok (.isub, 1) := by decide +kernel
theorem dX5_ofSize_29 : decode cX5_ofSize 29 = .ok (.invokestatic 54, 3) := by decide +kernel
theorem dX5_ofSize_32 : decode cX5_ofSize 32 = .ok (.ifCond .eq 13, 3) := by decide +kernel
theorem dX5_ofSize_35 : decode cX5_ofSize 35 = .ok (.aload_n 0, 1) := by decide +kernel
theorem dX5_ofSize_36 : decode cX5_ofSize 36 = .ok (.getfield 9, 3) := by decide +kernel
theorem dX5_ofSize_39 : decode cX5_ofSize 39 = .ok (.iload 4, 2) := by decide +kernel
theorem dX5_ofSize_41 : decode cX5_ofSize 41 = .ok (.iaload, 1) := by decide +kernel
theorem dX5_ofSize_42 : decode cX5_ofSize 42 = .ok (.goto 4, 3) := by decide +kernel
theorem dX5_ofSize_45 : decode cX5_ofSize 45 = .ok (.iconst 0, 1) := by decide +kernel
theorem dX5_ofSize_46 : decode cX5_ofSize 46 = .ok (.ireturn, 1) := by decide +kernel
theorem dX5_sizeSlot_0 : decode cX5_sizeSlot 0 = .ok (.iload_n 2, 1) := by decide +kernel
theorem dX5_sizeSlot_1 : decode cX5_sizeSlot 1 = .ok (.iconst 1, 1) := by decide +kernel
theorem dX5_sizeSlot_2 : decode cX5_sizeSlot 2 = .ok (.isub, 1) := by decide +kernel
theorem dX5_sizeSlot_3 : decode cX5_sizeSlot 3 = .ok (.bipush 16, 2) := by decide +kernel
theorem dX5_sizeSlot_5 : decode cX5_sizeSlot 5 = .ok (.imul, 1) := by decide +kernel
theorem dX5_sizeSlot_6 : decode cX5_sizeSlot 6 = .ok (.iload_n 0, 1) := by decide +kernel
theorem dX5_sizeSlot_7 : decode cX5_sizeSlot 7 = .ok (.iadd, 1) := by decide +kernel
theorem dX5_sizeSlot_8 : decode cX5_sizeSlot 8 = .ok (.iconst 1, 1) := by decide +kernel
theorem dX5_sizeSlot_9 : decode cX5_sizeSlot 9 = .ok (.isub, 1) := by decide +kernel
theorem dX5_sizeSlot_10 : decode cX5_sizeSlot 10 = .ok (.bipush 16, 2) := by decide +kernel
theorem dX5_sizeSlot_12 : decode cX5_sizeSlot 12 = .ok (.imul, 1) := by decide +kernel
theorem dX5_sizeSlot_13 : decode cX5_sizeSlot 13 = .ok (.iload_n 1, 1) := by decide +kernel
theorem dX5_sizeSlot_14 : decode cX5_sizeSlot 14 = .ok (.iadd, 1) := by decide +kernel
theorem dX5_sizeSlot_15 : decode cX5_sizeSlot 15 = .ok (.iconst 1, 1) := by decide +kernel
theorem dX5_sizeSlot_16 : decode cX5_sizeSlot 16 = .ok (.isub, 1) := by decide +kernel
theorem dX5_sizeSlot_17 : decode cX5_sizeSlot 17 = .ok (.ireturn, 1) := by decide +kernel
set_option maxRecDepth 20000 in
theorem ggX5_fillParts_X5_fillPart : GoodIn wsX5_fillParts wsX5_fillPart := goodIn_r _ [8, 1, 9, 10, 11, 12, 13, 14, 15, 16, 17, 18, 19, 20, 21, 22, 23, 7, 24, 25, 26, 27, 28, 29, 30, 31, 32, 33, 34, 35, 36, 37, 38, 39, 40, 41, 42, 43, 44, 45, 46, 47, 48, 49, 50, 51, 52, 53, 54, 55, 56, 57, 58, 59, 60] (by decide +kernel) (by decide +kernel)
set_option maxRecDepth 20000 in
theorem gX5_fillParts_X5_fillPart : GoodIn wsX5_fillParts (wsV RX5 97 RX5 yX5_fillPart wsX5_fillPart) := goodIn_app (goodIn_of _ (by decide +kernel)) ggX5_fillParts_X5_fillPart
theorem dX5_fillParts_0 : decode cX5_fillParts 0 = .ok (.iconst 1, 1) := by decide +kernel
theorem dX5_fillParts_1 : decode cX5_fillParts 1 = .ok (.istore_n 1, 1) := by decide +kernel
theorem dX5_fillParts_2 : decode cX5_fillParts 2 = .ok (.iload_n 1, 1) := by decide +kernel
theorem dX5_fillParts_3 : decode cX5_fillParts 3 = .ok (.aload_n 0, 1) := by decide +kernel
theorem dX5_fillParts_4 : decode cX5_fillParts 4 = .ok (.getfield 23, 3) := by decide +kernel
theorem dX5_fillParts_7 : decode cX5_fillParts 7 = .ok (.getfield 72, 3) := by decide +kernel
theorem dX5_fillParts_10 : decode cX5_fillParts 10 = .ok (.if_icmp .gt 72, 3) := by decide +kernel
theorem dX5_fillParts_13 : decode cX5_fillParts 13 = .ok (.iload_n 1, 1) := by decide +kernel
theorem dX5_fillParts_14 : decode cX5_fillParts 14 = .ok (.iconst 1, 1) := by decide +kernel
theorem dX5_fillParts_15 : decode cX5_fillParts 15 = .ok (.isub, 1) := by decide +kernel
theorem dX5_fillParts_16 : decode cX5_fillParts 16 = .ok (.istore_n 2, 1) := by decide +kernel
theorem dX5_fillParts_17 : decode cX5_fillParts 17 = .ok (.iload_n 2, 1) := by decide +kernel
theorem dX5_fillParts_18 : decode cX5_fillParts 18 = .ok (.ifCond .lt 58, 3) := by decide +kernel
theorem dX5_fillParts_21 : decode cX5_fillParts 21 = .ok (.iconst 1, 1) := by decide +kernel
theorem dX5_fillParts_22 : decode cX5_fillParts 22 = .ok (.istore_n 3, 1) := by decide +kernel
theorem dX5_fillParts_23 : decode cX5_fillParts 23 = .ok (.iload_n 3, 1) := by decide +kernel
theorem dX5_fillParts_24 : decode cX5_fillParts 24 = .ok (.aload_n 0, 1) := by decide +kernel
theorem dX5_fillParts_25 : decode cX5_fillParts 25 = .ok (.getfield 23, 3) := by decide +kernel
theorem dX5_fillParts_28 : decode cX5_fillParts 28 = .ok (.getfield 75, 3) := by decide +kernel
theorem dX5_fillParts_31 : decode cX5_fillParts 31 = .ok (.if_icmp .gt 39, 3) := by decide +kernel
theorem dX5_fillParts_34 : decode cX5_fillParts 34 = .ok (.iload_n 3, 1) := by decide +kernel
theorem dX5_fillParts_35 : decode cX5_fillParts 35 = .ok (.iconst 1, 1) := by decide +kernel
theorem dX5_fillParts_36 : decode cX5_fillParts 36 = .ok (.isub, 1) := by decide +kernel
theorem dX5_fillParts_37 : decode cX5_fillParts 37 = .ok (.istore 4, 2) := by decide +kernel
theorem dX5_fillParts_39 : decode cX5_fillParts 39 = .ok (.iload 4, 2) := by decide +kernel
theorem dX5_fillParts_41 : decode cX5_fillParts 41 = .ok (.ifCond .lt 23, 3) := by decide +kernel
theorem dX5_fillParts_44 : decode cX5_fillParts 44 = .ok (.aload_n 0, 1) := by decide +kernel
theorem dX5_fillParts_45 : decode cX5_fillParts 45 = .ok (.iload_n 2, 1) := by decide +kernel
theorem dX5_fillParts_46 : decode cX5_fillParts 46 = .ok (.iload 4, 2) := by decide +kernel
theorem dX5_fillParts_48 : decode cX5_fillParts 48 = .ok (.iload_n 1, 1) := by decide +kernel
theorem dX5_fillParts_49 : decode cX5_fillParts 49 = .ok (.iload_n 2, 1) := by decide +kernel
theorem dX5_fillParts_50 : decode cX5_fillParts 50 = .ok (.isub, 1) := by decide +kernel
theorem dX5_fillParts_51 : decode cX5_fillParts 51 = .ok (.iload_n 3, 1) := by decide +kernel
theorem dX5_fillParts_52 : decode cX5_fillParts 52 = .ok (.iload 4, 2) := by decide +kernel
theorem dX5_fillParts_54 : decode cX5_fillParts 54 = .ok (.isub, 1) := by decide +kernel
theorem dX5_fillParts_55 : decode cX5_fillParts 55 = .ok (.invokevirtual 97, 3) := by decide +kernel
theorem dX5_fillParts_58 : decode cX5_fillParts 58 = .ok (.iinc 4 (-1), 3) := by decide +kernel
theorem dX5_fillParts_61 : decode cX5_fillParts 61 = .ok (.goto (-22), 3) := by decide +kernel
theorem dX5_fillParts_64 : decode cX5_fillParts 64 = .ok (.iinc 3 1, 3) := by decide +kernel
theorem dX5_fillParts_67 : decode cX5_fillParts 67 = .ok (.goto (-44), 3) := by decide +kernel
theorem dX5_fillParts_70 : decode cX5_fillParts 70 = .ok (.iinc 2 (-1), 3) := by decide +kernel
theorem dX5_fillParts_73 : decode cX5_fillParts 73 = .ok (.goto (-56), 3) := by decide +kernel
theorem dX5_fillParts_76 : decode cX5_fillParts 76 = .ok (.iinc 1 1, 3) := by decide +kernel
theorem dX5_fillParts_79 : decode cX5_fillParts 79 = .ok (.goto (-77), 3) := by decide +kernel
theorem dX5_fillParts_82 : decode cX5_fillParts 82 = .ok (.return_, 1) := by decide +kernel
set_option maxRecDepth 20000 in
theorem ggX5_fillPart_X4_isClean : GoodIn wsX5_fillPart wsX4_isClean := goodIn_r _ [12, 13, 14, 48, 49, 50, 51, 52, 53, 54] (by decide +kernel) (by decide +kernel)
set_option maxRecDepth 20000 in
theorem gX5_fillPart_X4_isClean : GoodIn wsX5_fillPart (wsV RX5 101 RX4 yX4_isClean wsX4_isClean) := goodIn_app (goodIn_of _ (by decide +kernel)) ggX5_fillPart_X4_isClean
set_option maxRecDepth 20000 in
theorem ggX5_fillPart_X5_span : GoodIn wsX5_fillPart wsX5_span := goodIn_r _ [18] (by decide +kernel) (by decide +kernel)
set_option maxRecDepth 20000 in
theorem gX5_fillPart_X5_span : GoodIn wsX5_fillPart (va_wsS RX5 47 yX5_span wsX5_span) := goodIn_app (goodIn_of _ (by decide +kernel)) ggX5_fillPart_X5_span
end
section
set_option maxRecDepth 20000 in
theorem ggX5_fillPart_X5_ofSize : GoodIn wsX5_fillPart wsX5_ofSize := goodIn_r _ [22, 1, 2, 23, 24, 25, 17, 26, 27, 28, 29, 43, 44, 45, 46, 47, 48, 49, 50, 51, 52, 53, 54] (by decide +kernel) (by decide +kernel)
set_option maxRecDepth 20000 in
theorem gX5_fillPart_X5_ofSize : GoodIn wsX5_fillPart (wsV RX5 43 RX5 yX5_ofSize wsX5_ofSize) := goodIn_app (goodIn_of _ (by decide +kernel)) ggX5_fillPart_X5_ofSize
set_option maxRecDepth 20000 in
theorem ggX5_fillPart_X4_partsWidth : GoodIn wsX5_fillPart wsX4_partsWidth := goodIn_r _ [33, 34, 48, 49, 50, 51, 52, 53, 54] (by decide +kernel) (by decide +kernel)
set_option maxRecDepth 20000 in
theorem gX5_fillPart_X4_partsWidth : GoodIn wsX5_fillPart (wsV RX5 61 RX4 yX4_partsWidth wsX4_partsWidth) := goodIn_app (goodIn_of _ (by decide +kernel)) ggX5_fillPart_X4_partsWidth
set_option maxRecDepth 20000 in
theorem ggX5_fillPart_X5_partSlot : GoodIn wsX5_fillPart wsX5_partSlot := goodIn_r _ [37] (by decide +kernel) (by decide +kernel)
set_option maxRecDepth 20000 in
theorem gX5_fillPart_X5_partSlot : GoodIn wsX5_fillPart (va_wsS RX5 51 yX5_partSlot wsX5_partSlot) := goodIn_app (goodIn_of _ (by decide +kernel)) ggX5_fillPart_X5_partSlot
set_option maxRecDepth 20000 in
theorem ggX5_fillPart_X5_mostOfCuts : GoodIn wsX5_fillPart wsX5_mostOfCuts := goodIn_r _ [41, 7, 1, 42, 15, 16, 17, 18, 43, 44, 45, 46, 47, 48, 49, 50, 51, 52, 53, 54] (by decide +kernel) (by decide +kernel)
set_option maxRecDepth 20000 in
theorem gX5_fillPart_X5_mostOfCuts : GoodIn wsX5_fillPart (wsV RX5 105 RX5 yX5_mostOfCuts wsX5_mostOfCuts) := goodIn_app (goodIn_of _ (by decide +kernel)) ggX5_fillPart_X5_mostOfCuts
set_option maxRecDepth 20000 in
theorem ggX5_fillPart_X6_within : GoodIn wsX5_fillPart wsX6_within := goodIn_r _ [29] (by decide +kernel) (by decide +kernel)
set_option maxRecDepth 20000 in
theorem gX5_fillPart_X6_within_n54 : GoodIn wsX5_fillPart (wsX6_within) := ggX5_fillPart_X6_within
theorem dX5_fillPart_0 : decode cX5_fillPart 0 = .ok (.aload_n 0, 1) := by decide +kernel
theorem dX5_fillPart_1 : decode cX5_fillPart 1 = .ok (.getfield 23, 3) := by decide +kernel
theorem dX5_fillPart_4 : decode cX5_fillPart 4 = .ok (.iload_n 1, 1) := by decide +kernel
theorem dX5_fillPart_5 : decode cX5_fillPart 5 = .ok (.iload_n 2, 1) := by decide +kernel
theorem dX5_fillPart_6 : decode cX5_fillPart 6 = .ok (.iload_n 3, 1) := by decide +kernel
theorem dX5_fillPart_7 : decode cX5_fillPart 7 = .ok (.iload 4, 2) := by decide +kernel
theorem dX5_fillPart_9 : decode cX5_fillPart 9 = .ok (.invokevirtual 101, 3) := by decide +kernel
theorem dX5_fillPart_12 : decode cX5_fillPart 12 = .ok (.istore 5, 2) := by decide +kernel
theorem dX5_fillPart_14 : decode cX5_fillPart 14 = .ok (.iload_n 1, 1) := by decide +kernel
theorem dX5_fillPart_15 : decode cX5_fillPart 15 = .ok (.iload_n 1, 1) := by decide +kernel
theorem dX5_fillPart_16 : decode cX5_fillPart 16 = .ok (.iload_n 3, 1) := by decide +kernel
theorem dX5_fillPart_17 : decode cX5_fillPart 17 = .ok (.iadd, 1) := by decide +kernel
theorem dX5_fillPart_18 : decode cX5_fillPart 18 = .ok (.invokestatic 47, 3) := by decide +kernel
theorem dX5_fillPart_21 : decode cX5_fillPart 21 = .ok (.istore 6, 2) := by decide +kernel
theorem dX5_fillPart_23 : decode cX5_fillPart 23 = .ok (.iload_n 2, 1) := by decide +kernel
theorem dX5_fillPart_24 : decode cX5_fillPart 24 = .ok (.iload_n 2, 1) := by decide +kernel
theorem dX5_fillPart_25 : decode cX5_fillPart 25 = .ok (.iload 4, 2) := by decide +kernel
theorem dX5_fillPart_27 : decode cX5_fillPart 27 = .ok (.iadd, 1) := by decide +kernel
theorem dX5_fillPart_28 : decode cX5_fillPart 28 = .ok (.invokestatic 47, 3) := by decide +kernel
theorem dX5_fillPart_31 : decode cX5_fillPart 31 = .ok (.istore 7, 2) := by decide +kernel
theorem dX5_fillPart_33 : decode cX5_fillPart 33 = .ok (.iconst 0, 1) := by decide +kernel
theorem dX5_fillPart_34 : decode cX5_fillPart 34 = .ok (.istore 8, 2) := by decide +kernel
theorem dX5_fillPart_36 : decode cX5_fillPart 36 = .ok (.aload_n 0, 1) := by decide +kernel
theorem dX5_fillPart_37 : decode cX5_fillPart 37 = .ok (.getfield 23, 3) := by decide +kernel
theorem dX5_fillPart_40 : decode cX5_fillPart 40 = .ok (.getfield 69, 3) := by decide +kernel
theorem dX5_fillPart_43 : decode cX5_fillPart 43 = .ok (.istore 9, 2) := by decide +kernel
theorem dX5_fillPart_45 : decode cX5_fillPart 45 = .ok (.iload 9, 2) := by decide +kernel
theorem dX5_fillPart_47 : decode cX5_fillPart 47 = .ok (.iconst 1, 1) := by decide +kernel
theorem dX5_fillPart_48 : decode cX5_fillPart 48 = .ok (.if_icmp .lt 139, 3) := by decide +kernel
theorem dX5_fillPart_51 : decode cX5_fillPart 51 = .ok (.aload_n 0, 1) := by decide +kernel
theorem dX5_fillPart_52 : decode cX5_fillPart 52 = .ok (.iload_n 3, 1) := by decide +kernel
theorem dX5_fillPart_53 : decode cX5_fillPart 53 = .ok (.iload 4, 2) := by decide +kernel
theorem dX5_fillPart_55 : decode cX5_fillPart 55 = .ok (.iload 9, 2) := by decide +kernel
theorem dX5_fillPart_57 : decode cX5_fillPart 57 = .ok (.invokevirtual 43, 3) := by decide +kernel
theorem dX5_fillPart_60 : decode cX5_fillPart 60 = .ok (.istore 10, 2) := by decide +kernel
theorem dX5_fillPart_62 : decode cX5_fillPart 62 = .ok (.iload 5, 2) := by decide +kernel
theorem dX5_fillPart_64 : decode cX5_fillPart 64 = .ok (.ifCond .ne 77, 3) := by decide +kernel
theorem dX5_fillPart_67 : decode cX5_fillPart 67 = .ok (.iload 10, 2) := by decide +kernel
theorem dX5_fillPart_69 : decode cX5_fillPart 69 = .ok (.iload 8, 2) := by decide +kernel
theorem dX5_fillPart_71 : decode cX5_fillPart 71 = .ok (.if_icmp .le 70, 3) := by decide +kernel
theorem dX5_fillPart_74 : decode cX5_fillPart 74 = .ok (.aload_n 0, 1) := by decide +kernel
theorem dX5_fillPart_75 : decode cX5_fillPart 75 = .ok (.getfield 23, 3) := by decide +kernel
theorem dX5_fillPart_78 : decode cX5_fillPart 78 = .ok (.iload 9, 2) := by decide +kernel
theorem dX5_fillPart_80 : decode cX5_fillPart 80 = .ok (.invokevirtual 61, 3) := by decide +kernel
theorem dX5_fillPart_83 : decode cX5_fillPart 83 = .ok (.ifCond .eq 27, 3) := by decide +kernel
theorem dX5_fillPart_86 : decode cX5_fillPart 86 = .ok (.aload_n 0, 1) := by decide +kernel
theorem dX5_fillPart_87 : decode cX5_fillPart 87 = .ok (.iload 9, 2) := by decide +kernel
theorem dX5_fillPart_89 : decode cX5_fillPart 89 = .ok (.iconst 0, 1) := by decide +kernel
theorem dX5_fillPart_90 : decode cX5_fillPart 90 = .ok (.iload 7, 2) := by decide +kernel
theorem dX5_fillPart_92 : decode cX5_fillPart 92 = .ok (.invokestatic 51, 3) := by decide +kernel
theorem dX5_fillPart_95 : decode cX5_fillPart 95 = .ok (.sipush 136, 3) := by decide +kernel
theorem dX5_fillPart_98 : decode cX5_fillPart 98 = .ok (.iload_n 1, 1) := by decide +kernel
theorem dX5_fillPart_99 : decode cX5_fillPart 99 = .ok (.iload_n 1, 1) := by decide +kernel
theorem dX5_fillPart_100 : decode cX5_fillPart 100 = .ok (.iload_n 3, 1) := by decide +kernel
theorem dX5_fillPart_101 : decode cX5_fillPart 101 = .ok (.iadd, 1) := by decide +kernel
theorem dX5_fillPart_102 : decode cX5_fillPart 102 = .ok (.iload 10, 2) := by decide +kernel
theorem dX5_fillPart_104 : decode cX5_fillPart 104 = .ok (.invokevirtual 105, 3) := by decide +kernel
theorem dX5_fillPart_107 : decode cX5_fillPart 107 = .ok (.goto 23, 3) := by decide +kernel
theorem dX5_fillPart_110 : decode cX5_fillPart 110 = .ok (.aload_n 0, 1) := by decide +kernel
theorem dX5_fillPart_111 : decode cX5_fillPart 111 = .ok (.iload 9, 2) := by decide +kernel
theorem dX5_fillPart_113 : decode cX5_fillPart 113 = .ok (.iload 6, 2) := by decide +kernel
theorem dX5_fillPart_115 : decode cX5_fillPart 115 = .ok (.iconst 0, 1) := by decide +kernel
theorem dX5_fillPart_116 : decode cX5_fillPart 116 = .ok (.invokestatic 51, 3) := by decide +kernel
theorem dX5_fillPart_119 : decode cX5_fillPart 119 = .ok (.iconst 1, 1) := by decide +kernel
theorem dX5_fillPart_120 : decode cX5_fillPart 120 = .ok (.iload_n 2, 1) := by decide +kernel
theorem dX5_fillPart_121 : decode cX5_fillPart 121 = .ok (.iload_n 2, 1) := by decide +kernel
theorem dX5_fillPart_122 : decode cX5_fillPart 122 = .ok (.iload 4, 2) := by decide +kernel
theorem dX5_fillPart_124 : decode cX5_fillPart 124 = .ok (.iadd, 1) := by decide +kernel
theorem dX5_fillPart_125 : decode cX5_fillPart 125 = .ok (.iload 10, 2) := by decide +kernel
theorem dX5_fillPart_127 : decode cX5_fillPart 127 = .ok (.invokevirtual 105, 3) := by decide +kernel
theorem dX5_fillPart_130 : decode cX5_fillPart 130 = .ok (.istore 11, 2) := by decide +kernel
theorem dX5_fillPart_132 : decode cX5_fillPart 132 = .ok (.iload 8, 2) := by decide +kernel
theorem dX5_fillPart_134 : decode cX5_fillPart 134 = .ok (.iload 11, 2) := by decide +kernel
theorem dX5_fillPart_136 : decode cX5_fillPart 136 = .ok (.invokestatic 89, 3) := by decide +kernel
theorem dX5_fillPart_139 : decode cX5_fillPart 139 = .ok (.istore 10, 2) := by decide +kernel
theorem dX5_fillPart_141 : decode cX5_fillPart 141 = .ok (.iload 9, 2) := by decide +kernel
theorem dX5_fillPart_143 : decode cX5_fillPart 143 = .ok (.iload 6, 2) := by decide +kernel
theorem dX5_fillPart_145 : decode cX5_fillPart 145 = .ok (.iload 7, 2) := by decide +kernel
theorem dX5_fillPart_147 : decode cX5_fillPart 147 = .ok (.invokestatic 51, 3) := by decide +kernel
theorem dX5_fillPart_150 : decode cX5_fillPart 150 = .ok (.istore 11, 2) := by decide +kernel
theorem dX5_fillPart_152 : decode cX5_fillPart 152 = .ok (.iload 11, 2) := by decide +kernel
theorem dX5_fillPart_154 : decode cX5_fillPart 154 = .ok (.iconst 0, 1) := by decide +kernel
theorem dX5_fillPart_155 : decode cX5_fillPart 155 = .ok (.aload_n 0, 1) := by decide +kernel
theorem dX5_fillPart_156 : decode cX5_fillPart 156 = .ok (.getfield 16, 3) := by decide +kernel
theorem dX5_fillPart_159 : decode cX5_fillPart 159 = .ok (.arraylength, 1) := by decide +kernel
theorem dX5_fillPart_160 : decode cX5_fillPart 160 = .ok (.iconst 1, 1) := by decide +kernel
theorem dX5_fillPart_161 : decode cX5_fillPart 161 = .ok (.isub, 1) := by decide +kernel
theorem dX5_fillPart_162 : decode cX5_fillPart 162 = .ok (.invokestatic 54, 3) := by decide +kernel
theorem dX5_fillPart_165 : decode cX5_fillPart 165 = .ok (.ifCond .eq 12, 3) := by decide +kernel
theorem dX5_fillPart_168 : decode cX5_fillPart 168 = .ok (.aload_n 0, 1) := by decide +kernel
theorem dX5_fillPart_169 : decode cX5_fillPart 169 = .ok (.getfield 16, 3) := by decide +kernel
theorem dX5_fillPart_172 : decode cX5_fillPart 172 = .ok (.iload 11, 2) := by decide +kernel
theorem dX5_fillPart_174 : decode cX5_fillPart 174 = .ok (.iload 10, 2) := by decide +kernel
theorem dX5_fillPart_176 : decode cX5_fillPart 176 = .ok (.iastore, 1) := by decide +kernel
theorem dX5_fillPart_177 : decode cX5_fillPart 177 = .ok (.iload 10, 2) := by decide +kernel
theorem dX5_fillPart_179 : decode cX5_fillPart 179 = .ok (.istore 8, 2) := by decide +kernel
theorem dX5_fillPart_181 : decode cX5_fillPart 181 = .ok (.iinc 9 (-1), 3) := by decide +kernel
theorem dX5_fillPart_184 : decode cX5_fillPart 184 = .ok (.goto (-139), 3) := by decide +kernel
theorem dX5_fillPart_187 : decode cX5_fillPart 187 = .ok (.return_, 1) := by decide +kernel
set_option maxRecDepth 20000 in
theorem ggX5_mostOfCuts_X5_span : GoodIn wsX5_mostOfCuts wsX5_span := goodIn_r _ [7] (by decide +kernel) (by decide +kernel)
set_option maxRecDepth 20000 in
theorem gX5_mostOfCuts_X5_span : GoodIn wsX5_mostOfCuts (va_wsS RX5 47 yX5_span wsX5_span) := goodIn_app (goodIn_of _ (by decide +kernel)) ggX5_mostOfCuts_X5_span
theorem dX5_mostOfCuts_0 : decode cX5_mostOfCuts 0 = .ok (.iload_n 1, 1) := by decide +kernel
theorem dX5_mostOfCuts_1 : decode cX5_mostOfCuts 1 = .ok (.ifCond .lt 24, 3) := by decide +kernel
theorem dX5_mostOfCuts_4 : decode cX5_mostOfCuts 4 = .ok (.iload_n 1, 1) := by decide +kernel
theorem dX5_mostOfCuts_5 : decode cX5_mostOfCuts 5 = .ok (.iload_n 2, 1) := by decide +kernel
theorem dX5_mostOfCuts_6 : decode cX5_mostOfCuts 6 = .ok (.iload 4, 2) := by decide +kernel
theorem dX5_mostOfCuts_8 : decode cX5_mostOfCuts 8 = .ok (.iconst 1, 1) := by decide +kernel
theorem dX5_mostOfCuts_9 : decode cX5_mostOfCuts 9 = .ok (.isub, 1) := by decide +kernel
theorem dX5_mostOfCuts_10 : decode cX5_mostOfCuts 10 = .ok (.iload 4, 2) := by decide +kernel
theorem dX5_mostOfCuts_12 : decode cX5_mostOfCuts 12 = .ok (.invokestatic 47, 3) := by decide +kernel
theorem dX5_mostOfCuts_15 : decode cX5_mostOfCuts 15 = .ok (.imul, 1) := by decide +kernel
theorem dX5_mostOfCuts_16 : decode cX5_mostOfCuts 16 = .ok (.iadd, 1) := by decide +kernel
theorem dX5_mostOfCuts_17 : decode cX5_mostOfCuts 17 = .ok (.aload_n 0, 1) := by decide +kernel
theorem dX5_mostOfCuts_18 : decode cX5_mostOfCuts 18 = .ok (.getfield 16, 3) := by decide +kernel
theorem dX5_mostOfCuts_21 : decode cX5_mostOfCuts 21 = .ok (.arraylength, 1) := by decide +kernel
theorem dX5_mostOfCuts_22 : decode cX5_mostOfCuts 22 = .ok (.if_icmp .lt 5, 3) := by decide +kernel
theorem dX5_mostOfCuts_25 : decode cX5_mostOfCuts 25 = .ok (.iconst 0, 1) := by decide +kernel
theorem dX5_mostOfCuts_26 : decode cX5_mostOfCuts 26 = .ok (.ireturn, 1) := by decide +kernel
theorem dX5_mostOfCuts_27 : decode cX5_mostOfCuts 27 = .ok (.iload_n 1, 1) := by decide +kernel
theorem dX5_mostOfCuts_28 : decode cX5_mostOfCuts 28 = .ok (.iload_n 2, 1) := by decide +kernel
theorem dX5_mostOfCuts_29 : decode cX5_mostOfCuts 29 = .ok (.iload_n 3, 1) := by decide +kernel
theorem dX5_mostOfCuts_30 : decode cX5_mostOfCuts 30 = .ok (.iload_n 3, 1) := by decide +kernel
theorem dX5_mostOfCuts_31 : decode cX5_mostOfCuts 31 = .ok (.iconst 1, 1) := by decide +kernel
theorem dX5_mostOfCuts_32 : decode cX5_mostOfCuts 32 = .ok (.iadd, 1) := by decide +kernel
theorem dX5_mostOfCuts_33 : decode cX5_mostOfCuts 33 = .ok (.invokestatic 47, 3) := by decide +kernel
theorem dX5_mostOfCuts_36 : decode cX5_mostOfCuts 36 = .ok (.imul, 1) := by decide +kernel
theorem dX5_mostOfCuts_37 : decode cX5_mostOfCuts 37 = .ok (.iadd, 1) := by decide +kernel
theorem dX5_mostOfCuts_38 : decode cX5_mostOfCuts 38 = .ok (.istore 6, 2) := by decide +kernel
theorem dX5_mostOfCuts_40 : decode cX5_mostOfCuts 40 = .ok (.iload_n 1, 1) := by decide +kernel
theorem dX5_mostOfCuts_41 : decode cX5_mostOfCuts 41 = .ok (.iload_n 2, 1) := by decide +kernel
theorem dX5_mostOfCuts_42 : decode cX5_mostOfCuts 42 = .ok (.iload_n 3, 1) := by decide +kernel
theorem dX5_mostOfCuts_43 : decode cX5_mostOfCuts 43 = .ok (.iconst 1, 1) := by decide +kernel
theorem dX5_mostOfCuts_44 : decode cX5_mostOfCuts 44 = .ok (.iadd, 1) := by decide +kernel
theorem dX5_mostOfCuts_45 : decode cX5_mostOfCuts 45 = .ok (.aload_n 0, 1) := by decide +kernel
theorem dX5_mostOfCuts_46 : decode cX5_mostOfCuts 46 = .ok (.getfield 23, 3) := by decide +kernel
theorem dX5_mostOfCuts_49 : decode cX5_mostOfCuts 49 = .ok (.getfield 58, 3) := by decide +kernel
theorem dX5_mostOfCuts_52 : decode cX5_mostOfCuts 52 = .ok (.iadd, 1) := by decide +kernel
theorem dX5_mostOfCuts_53 : decode cX5_mostOfCuts 53 = .ok (.iload 4, 2) := by decide +kernel
theorem dX5_mostOfCuts_55 : decode cX5_mostOfCuts 55 = .ok (.invokestatic 47, 3) := by decide +kernel
theorem dX5_mostOfCuts_58 : decode cX5_mostOfCuts 58 = .ok (.imul, 1) := by decide +kernel
theorem dX5_mostOfCuts_59 : decode cX5_mostOfCuts 59 = .ok (.iadd, 1) := by decide +kernel
theorem dX5_mostOfCuts_60 : decode cX5_mostOfCuts 60 = .ok (.istore 7, 2) := by decide +kernel
theorem dX5_mostOfCuts_62 : decode cX5_mostOfCuts 62 = .ok (.iconst 0, 1) := by decide +kernel
theorem dX5_mostOfCuts_63 : decode cX5_mostOfCuts 63 = .ok (.istore 8, 2) := by decide +kernel
theorem dX5_mostOfCuts_65 : decode cX5_mostOfCuts 65 = .ok (.iload_n 3, 1) := by decide +kernel
theorem dX5_mostOfCuts_66 : decode cX5_mostOfCuts 66 = .ok (.iconst 1, 1) := by decide +kernel
theorem dX5_mostOfCuts_67 : decode cX5_mostOfCuts 67 = .ok (.iadd, 1) := by decide +kernel
theorem dX5_mostOfCuts_68 : decode cX5_mostOfCuts 68 = .ok (.istore 9, 2) := by decide +kernel
theorem dX5_mostOfCuts_70 : decode cX5_mostOfCuts 70 = .ok (.iload 9, 2) := by decide +kernel
theorem dX5_mostOfCuts_72 : decode cX5_mostOfCuts 72 = .ok (.aload_n 0, 1) := by decide +kernel
theorem dX5_mostOfCuts_73 : decode cX5_mostOfCuts 73 = .ok (.getfield 23, 3) := by decide +kernel
theorem dX5_mostOfCuts_76 : decode cX5_mostOfCuts 76 = .ok (.getfield 58, 3) := by decide +kernel
theorem dX5_mostOfCuts_79 : decode cX5_mostOfCuts 79 = .ok (.iadd, 1) := by decide +kernel
theorem dX5_mostOfCuts_80 : decode cX5_mostOfCuts 80 = .ok (.iload 4, 2) := by decide +kernel
theorem dX5_mostOfCuts_82 : decode cX5_mostOfCuts 82 = .ok (.if_icmp .ge 59, 3) := by decide +kernel
theorem dX5_mostOfCuts_85 : decode cX5_mostOfCuts 85 = .ok (.iload 8, 2) := by decide +kernel
theorem dX5_mostOfCuts_87 : decode cX5_mostOfCuts 87 = .ok (.iload 5, 2) := by decide +kernel
theorem dX5_mostOfCuts_89 : decode cX5_mostOfCuts 89 = .ok (.if_icmp .ge 52, 3) := by decide +kernel
theorem dX5_mostOfCuts_92 : decode cX5_mostOfCuts 92 = .ok (.aload_n 0, 1) := by decide +kernel
theorem dX5_mostOfCuts_93 : decode cX5_mostOfCuts 93 = .ok (.getfield 16, 3) := by decide +kernel
theorem dX5_mostOfCuts_96 : decode cX5_mostOfCuts 96 = .ok (.iload 6, 2) := by decide +kernel
theorem dX5_mostOfCuts_98 : decode cX5_mostOfCuts 98 = .ok (.iaload, 1) := by decide +kernel
theorem dX5_mostOfCuts_99 : decode cX5_mostOfCuts 99 = .ok (.aload_n 0, 1) := by decide +kernel
theorem dX5_mostOfCuts_100 : decode cX5_mostOfCuts 100 = .ok (.getfield 16, 3) := by decide +kernel
theorem dX5_mostOfCuts_103 : decode cX5_mostOfCuts 103 = .ok (.iload 7, 2) := by decide +kernel
theorem dX5_mostOfCuts_105 : decode cX5_mostOfCuts 105 = .ok (.iaload, 1) := by decide +kernel
theorem dX5_mostOfCuts_106 : decode cX5_mostOfCuts 106 = .ok (.iadd, 1) := by decide +kernel
theorem dX5_mostOfCuts_107 : decode cX5_mostOfCuts 107 = .ok (.istore 10, 2) := by decide +kernel
theorem dX5_mostOfCuts_109 : decode cX5_mostOfCuts 109 = .ok (.iload 10, 2) := by decide +kernel
theorem dX5_mostOfCuts_111 : decode cX5_mostOfCuts 111 = .ok (.iload 8, 2) := by decide +kernel
theorem dX5_mostOfCuts_113 : decode cX5_mostOfCuts 113 = .ok (.if_icmp .le 7, 3) := by decide +kernel
theorem dX5_mostOfCuts_116 : decode cX5_mostOfCuts 116 = .ok (.iload 10, 2) := by decide +kernel
theorem dX5_mostOfCuts_118 : decode cX5_mostOfCuts 118 = .ok (.istore 8, 2) := by decide +kernel
theorem dX5_mostOfCuts_120 : decode cX5_mostOfCuts 120 = .ok (.iload 6, 2) := by decide +kernel
theorem dX5_mostOfCuts_122 : decode cX5_mostOfCuts 122 = .ok (.iload_n 2, 1) := by decide +kernel
theorem dX5_mostOfCuts_123 : decode cX5_mostOfCuts 123 = .ok (.iload 9, 2) := by decide +kernel
theorem dX5_mostOfCuts_125 : decode cX5_mostOfCuts 125 = .ok (.imul, 1) := by decide +kernel
theorem dX5_mostOfCuts_126 : decode cX5_mostOfCuts 126 = .ok (.iadd, 1) := by decide +kernel
theorem dX5_mostOfCuts_127 : decode cX5_mostOfCuts 127 = .ok (.istore 6, 2) := by decide +kernel
theorem dX5_mostOfCuts_129 : decode cX5_mostOfCuts 129 = .ok (.iload 7, 2) := by decide +kernel
theorem dX5_mostOfCuts_131 : decode cX5_mostOfCuts 131 = .ok (.iload_n 2, 1) := by decide +kernel
theorem dX5_mostOfCuts_132 : decode cX5_mostOfCuts 132 = .ok (.iadd, 1) := by decide +kernel
theorem dX5_mostOfCuts_133 : decode cX5_mostOfCuts 133 = .ok (.istore 7, 2) := by decide +kernel
theorem dX5_mostOfCuts_135 : decode cX5_mostOfCuts 135 = .ok (.iinc 9 1, 3) := by decide +kernel
theorem dX5_mostOfCuts_138 : decode cX5_mostOfCuts 138 = .ok (.goto (-68), 3) := by decide +kernel
theorem dX5_mostOfCuts_141 : decode cX5_mostOfCuts 141 = .ok (.iload 8, 2) := by decide +kernel
theorem dX5_mostOfCuts_143 : decode cX5_mostOfCuts 143 = .ok (.ireturn, 1) := by decide +kernel
theorem dX5_span_0 : decode cX5_span 0 = .ok (.iload_n 1, 1) := by decide +kernel
theorem dX5_span_1 : decode cX5_span 1 = .ok (.iload_n 1, 1) := by decide +kernel
theorem dX5_span_2 : decode cX5_span 2 = .ok (.iconst 1, 1) := by decide +kernel
theorem dX5_span_3 : decode cX5_span 3 = .ok (.isub, 1) := by decide +kernel
theorem dX5_span_4 : decode cX5_span 4 = .ok (.imul, 1) := by decide +kernel
theorem dX5_span_5 : decode cX5_span 5 = .ok (.iconst 2, 1) := by decide +kernel
theorem dX5_span_6 : decode cX5_span 6 = .ok (.idiv, 1) := by decide +kernel
theorem dX5_span_7 : decode cX5_span 7 = .ok (.iload_n 0, 1) := by decide +kernel
theorem dX5_span_8 : decode cX5_span 8 = .ok (.iadd, 1) := by decide +kernel
theorem dX5_span_9 : decode cX5_span 9 = .ok (.ireturn, 1) := by decide +kernel
theorem dX5_partSlot_0 : decode cX5_partSlot 0 = .ok (.iload_n 0, 1) := by decide +kernel
theorem dX5_partSlot_1 : decode cX5_partSlot 1 = .ok (.iconst 1, 1) := by decide +kernel
theorem dX5_partSlot_2 : decode cX5_partSlot 2 = .ok (.isub, 1) := by decide +kernel
theorem dX5_partSlot_3 : decode cX5_partSlot 3 = .ok (.sipush 136, 3) := by decide +kernel
theorem dX5_partSlot_6 : decode cX5_partSlot 6 = .ok (.imul, 1) := by decide +kernel
theorem dX5_partSlot_7 : decode cX5_partSlot 7 = .ok (.iload_n 1, 1) := by decide +kernel
theorem dX5_partSlot_8 : decode cX5_partSlot 8 = .ok (.iadd, 1) := by decide +kernel
theorem dX5_partSlot_9 : decode cX5_partSlot 9 = .ok (.sipush 136, 3) := by decide +kernel
theorem dX5_partSlot_12 : decode cX5_partSlot 12 = .ok (.imul, 1) := by decide +kernel
theorem dX5_partSlot_13 : decode cX5_partSlot 13 = .ok (.iload_n 2, 1) := by decide +kernel
theorem dX5_partSlot_14 : decode cX5_partSlot 14 = .ok (.iadd, 1) := by decide +kernel
theorem dX5_partSlot_15 : decode cX5_partSlot 15 = .ok (.ireturn, 1) := by decide +kernel
set_option maxRecDepth 20000 in
theorem ggX6_init_X4_init : GoodIn wsX6_init wsX4_init := goodIn_r _ [29, 30, 2, 3, 31, 32, 33, 34, 35, 36, 37, 38, 95, 96, 97, 98, 99, 100, 101] (by decide +kernel) (by decide +kernel)
set_option maxRecDepth 20000 in
theorem gX6_init_X4_init_n11 : GoodIn wsX6_init (wsX4_init) := ggX6_init_X4_init
set_option maxRecDepth 20000 in
theorem ggX6_init_X1_init : GoodIn wsX6_init wsX1_init := goodIn_r _ [40, 41, 2, 3, 42, 37, 43, 44, 45, 46, 47, 102, 103, 104, 105, 106] (by decide +kernel) (by decide +kernel)
set_option maxRecDepth 20000 in
theorem gX6_init_X1_init_n14 : GoodIn wsX6_init (wsX1_init) := ggX6_init_X1_init
set_option maxRecDepth 20000 in
theorem ggX6_init_X5_init : GoodIn wsX6_init wsX5_init := goodIn_r _ [50, 51, 2, 3, 37, 52, 53, 54, 55, 56, 57, 107, 108, 109, 110, 111] (by decide +kernel) (by decide +kernel)
set_option maxRecDepth 20000 in
theorem gX6_init_X5_init : GoodIn wsX6_init (wsX5_init) := ggX6_init_X5_init
set_option maxRecDepth 20000 in
theorem ggX6_init_X3_init : GoodIn wsX6_init wsX3_init := goodIn_r _ [59, 60, 2, 3, 61, 62, 63, 37, 64, 65, 66, 67, 112, 113, 114, 115, 116, 117, 118] (by decide +kernel) (by decide +kernel)
set_option maxRecDepth 20000 in
theorem gX6_init_X3_init_n22 : GoodIn wsX6_init (wsX3_init) := ggX6_init_X3_init
set_option maxRecDepth 20000 in
theorem ggX6_init_X2_init : GoodIn wsX6_init wsX2_init := goodIn_r _ [70, 71, 2, 3, 37, 72, 73, 74, 75, 76, 77, 78, 79, 80, 125, 126, 127, 128, 129, 130, 131, 132, 133] (by decide +kernel) (by decide +kernel)
set_option maxRecDepth 20000 in
theorem gX6_init_X2_init : GoodIn wsX6_init (wsX2_init) := ggX6_init_X2_init
set_option maxRecDepth 20000 in
theorem ggX6_init_X0_init : GoodIn wsX6_init wsX0_init := goodIn_r _ [83, 84, 2, 3, 37, 85, 86, 87, 88, 89, 90, 91, 92, 93, 94, 134, 135, 136, 137, 138, 139, 140, 141, 142, 143] (by decide +kernel) (by decide +kernel)
set_option maxRecDepth 20000 in
theorem gX6_init_X0_init : GoodIn wsX6_init (wsX0_init) := ggX6_init_X0_init
theorem dX6_init_0 : decode cX6_init 0 = .ok (.aload_n 0, 1) := by decide +kernel
theorem dX6_init_1 : decode cX6_init 1 = .ok (.invokespecial 3, 3) := by decide +kernel
theorem dX6_init_4 : decode cX6_init 4 = .ok (.new 9, 3) := by decide +kernel
theorem dX6_init_7 : decode cX6_init 7 = .ok (.dup, 1) := by decide +kernel
theorem dX6_init_8 : decode cX6_init 8 = .ok (.invokespecial 11, 3) := by decide +kernel
theorem dX6_init_11 : decode cX6_init 11 = .ok (.astore_n 1, 1) := by decide +kernel
theorem dX6_init_12 : decode cX6_init 12 = .ok (.new 12, 3) := by decide +kernel
theorem dX6_init_15 : decode cX6_init 15 = .ok (.dup, 1) := by decide +kernel
theorem dX6_init_16 : decode cX6_init 16 = .ok (.invokespecial 14, 3) := by decide +kernel
theorem dX6_init_19 : decode cX6_init 19 = .ok (.astore_n 2, 1) := by decide +kernel
theorem dX6_init_20 : decode cX6_init 20 = .ok (.new 15, 3) := by decide +kernel
theorem dX6_init_23 : decode cX6_init 23 = .ok (.dup, 1) := by decide +kernel
theorem dX6_init_24 : decode cX6_init 24 = .ok (.aload_n 1, 1) := by decide +kernel
theorem dX6_init_25 : decode cX6_init 25 = .ok (.aload_n 2, 1) := by decide +kernel
theorem dX6_init_26 : decode cX6_init 26 = .ok (.invokespecial 17, 3) := by decide +kernel
theorem dX6_init_29 : decode cX6_init 29 = .ok (.astore_n 3, 1) := by decide +kernel
theorem dX6_init_30 : decode cX6_init 30 = .ok (.new 20, 3) := by decide +kernel
theorem dX6_init_33 : decode cX6_init 33 = .ok (.dup, 1) := by decide +kernel
theorem dX6_init_34 : decode cX6_init 34 = .ok (.invokespecial 22, 3) := by decide +kernel
theorem dX6_init_37 : decode cX6_init 37 = .ok (.astore 4, 2) := by decide +kernel
theorem dX6_init_39 : decode cX6_init 39 = .ok (.aload_n 0, 1) := by decide +kernel
theorem dX6_init_40 : decode cX6_init 40 = .ok (.aload_n 1, 1) := by decide +kernel
theorem dX6_init_41 : decode cX6_init 41 = .ok (.putfield 23, 3) := by decide +kernel
theorem dX6_init_44 : decode cX6_init 44 = .ok (.aload_n 0, 1) := by decide +kernel
theorem dX6_init_45 : decode cX6_init 45 = .ok (.aload_n 2, 1) := by decide +kernel
theorem dX6_init_46 : decode cX6_init 46 = .ok (.putfield 27, 3) := by decide +kernel
theorem dX6_init_49 : decode cX6_init 49 = .ok (.aload_n 0, 1) := by decide +kernel
theorem dX6_init_50 : decode cX6_init 50 = .ok (.aload_n 3, 1) := by decide +kernel
theorem dX6_init_51 : decode cX6_init 51 = .ok (.putfield 31, 3) := by decide +kernel
theorem dX6_init_54 : decode cX6_init 54 = .ok (.aload_n 0, 1) := by decide +kernel
theorem dX6_init_55 : decode cX6_init 55 = .ok (.new 35, 3) := by decide +kernel
theorem dX6_init_58 : decode cX6_init 58 = .ok (.dup, 1) := by decide +kernel
theorem dX6_init_59 : decode cX6_init 59 = .ok (.aload_n 1, 1) := by decide +kernel
theorem dX6_init_60 : decode cX6_init 60 = .ok (.aload_n 2, 1) := by decide +kernel
theorem dX6_init_61 : decode cX6_init 61 = .ok (.aload_n 3, 1) := by decide +kernel
theorem dX6_init_62 : decode cX6_init 62 = .ok (.invokespecial 37, 3) := by decide +kernel
theorem dX6_init_65 : decode cX6_init 65 = .ok (.putfield 40, 3) := by decide +kernel
theorem dX6_init_68 : decode cX6_init 68 = .ok (.aload_n 0, 1) := by decide +kernel
theorem dX6_init_69 : decode cX6_init 69 = .ok (.aload 4, 2) := by decide +kernel
theorem dX6_init_71 : decode cX6_init 71 = .ok (.putfield 44, 3) := by decide +kernel
theorem dX6_init_74 : decode cX6_init 74 = .ok (.aload_n 0, 1) := by decide +kernel
theorem dX6_init_75 : decode cX6_init 75 = .ok (.new 48, 3) := by decide +kernel
theorem dX6_init_78 : decode cX6_init 78 = .ok (.dup, 1) := by decide +kernel
theorem dX6_init_79 : decode cX6_init 79 = .ok (.aload 4, 2) := by decide +kernel
theorem dX6_init_81 : decode cX6_init 81 = .ok (.invokespecial 50, 3) := by decide +kernel
theorem dX6_init_84 : decode cX6_init 84 = .ok (.putfield 53, 3) := by decide +kernel
theorem dX6_init_87 : decode cX6_init 87 = .ok (.return_, 1) := by decide +kernel
set_option maxRecDepth 20000 in
theorem ggX6_plate_X6_within : GoodIn wsX6_plate wsX6_within := goodIn_r _ [6] (by decide +kernel) (by decide +kernel)
set_option maxRecDepth 20000 in
theorem gX6_plate_X6_within : GoodIn wsX6_plate (va_wsS RX6 57 yX6_within wsX6_within) := goodIn_app (goodIn_of _ (by decide +kernel)) ggX6_plate_X6_within
set_option maxRecDepth 20000 in
theorem ggX6_plate_X4_become : GoodIn wsX6_plate wsX4_become := goodIn_r _ [11, 12, 13, 14, 15, 16, 17, 37, 38, 39, 40, 41, 42, 43] (by decide +kernel) (by decide +kernel)
set_option maxRecDepth 20000 in
theorem gX6_plate_X4_become : GoodIn wsX6_plate (wsV RX6 61 RX4 yX4_become wsX4_become) := goodIn_app (goodIn_of _ (by decide +kernel)) ggX6_plate_X4_become
set_option maxRecDepth 20000 in
theorem ggX6_plate_X2_forget : GoodIn wsX6_plate wsX2_forget := goodIn_r _ [22, 23, 24, 25, 26, 27, 28, 29, 30, 44, 45, 46, 47, 48, 49, 50, 51, 52, 53, 54, 55, 56, 57] (by decide +kernel) (by decide +kernel)
set_option maxRecDepth 20000 in
theorem gX6_plate_X2_forget : GoodIn wsX6_plate (wsV RX6 65 RX2 yX2_forget wsX2_forget) := goodIn_app (goodIn_of _ (by decide +kernel)) ggX6_plate_X2_forget
theorem dX6_plate_0 : decode cX6_plate 0 = .ok (.iload_n 1, 1) := by decide +kernel
theorem dX6_plate_1 : decode cX6_plate 1 = .ok (.iconst 1, 1) := by decide +kernel
theorem dX6_plate_2 : decode cX6_plate 2 = .ok (.bipush 16, 2) := by decide +kernel
theorem dX6_plate_4 : decode cX6_plate 4 = .ok (.invokestatic 57, 3) := by decide +kernel
theorem dX6_plate_7 : decode cX6_plate 7 = .ok (.ifCond .eq 42, 3) := by decide +kernel
theorem dX6_plate_10 : decode cX6_plate 10 = .ok (.iload_n 2, 1) := by decide +kernel
theorem dX6_plate_11 : decode cX6_plate 11 = .ok (.iconst 1, 1) := by decide +kernel
theorem dX6_plate_12 : decode cX6_plate 12 = .ok (.bipush 16, 2) := by decide +kernel
theorem dX6_plate_14 : decode cX6_plate 14 = .ok (.invokestatic 57, 3) := by decide +kernel
theorem dX6_plate_17 : decode cX6_plate 17 = .ok (.ifCond .eq 32, 3) := by decide +kernel
theorem dX6_plate_20 : decode cX6_plate 20 = .ok (.iload_n 3, 1) := by decide +kernel
theorem dX6_plate_21 : decode cX6_plate 21 = .ok (.iconst 0, 1) := by decide +kernel
theorem dX6_plate_22 : decode cX6_plate 22 = .ok (.iconst 2, 1) := by decide +kernel
theorem dX6_plate_23 : decode cX6_plate 23 = .ok (.invokestatic 57, 3) := by decide +kernel
theorem dX6_plate_26 : decode cX6_plate 26 = .ok (.ifCond .eq 23, 3) := by decide +kernel
theorem dX6_plate_29 : decode cX6_plate 29 = .ok (.iload 4, 2) := by decide +kernel
theorem dX6_plate_31 : decode cX6_plate 31 = .ok (.iconst 1, 1) := by decide +kernel
theorem dX6_plate_32 : decode cX6_plate 32 = .ok (.iconst 4, 1) := by decide +kernel
theorem dX6_plate_33 : decode cX6_plate 33 = .ok (.invokestatic 57, 3) := by decide +kernel
theorem dX6_plate_36 : decode cX6_plate 36 = .ok (.ifCond .eq 13, 3) := by decide +kernel
theorem dX6_plate_39 : decode cX6_plate 39 = .ok (.iload 5, 2) := by decide +kernel
theorem dX6_plate_41 : decode cX6_plate 41 = .ok (.iconst 0, 1) := by decide +kernel
theorem dX6_plate_42 : decode cX6_plate 42 = .ok (.iconst 1, 1) := by decide +kernel
theorem dX6_plate_43 : decode cX6_plate 43 = .ok (.invokestatic 57, 3) := by decide +kernel
theorem dX6_plate_46 : decode cX6_plate 46 = .ok (.ifCond .ne 6, 3) := by decide +kernel
theorem dX6_plate_49 : decode cX6_plate 49 = .ok (.bipush (-3), 2) := by decide +kernel
theorem dX6_plate_51 : decode cX6_plate 51 = .ok (.ireturn, 1) := by decide +kernel
theorem dX6_plate_52 : decode cX6_plate 52 = .ok (.aload_n 0, 1) := by decide +kernel
theorem dX6_plate_53 : decode cX6_plate 53 = .ok (.getfield 23, 3) := by decide +kernel
theorem dX6_plate_56 : decode cX6_plate 56 = .ok (.iload_n 1, 1) := by decide +kernel
theorem dX6_plate_57 : decode cX6_plate 57 = .ok (.iload_n 2, 1) := by decide +kernel
theorem dX6_plate_58 : decode cX6_plate 58 = .ok (.iload_n 3, 1) := by decide +kernel
theorem dX6_plate_59 : decode cX6_plate 59 = .ok (.iload 4, 2) := by decide +kernel
theorem dX6_plate_61 : decode cX6_plate 61 = .ok (.iload 5, 2) := by decide +kernel
theorem dX6_plate_63 : decode cX6_plate 63 = .ok (.invokevirtual 61, 3) := by decide +kernel
theorem dX6_plate_66 : decode cX6_plate 66 = .ok (.aload_n 0, 1) := by decide +kernel
theorem dX6_plate_67 : decode cX6_plate 67 = .ok (.getfield 40, 3) := by decide +kernel
theorem dX6_plate_70 : decode cX6_plate 70 = .ok (.invokevirtual 65, 3) := by decide +kernel
theorem dX6_plate_73 : decode cX6_plate 73 = .ok (.iconst 1, 1) := by decide +kernel
theorem dX6_plate_74 : decode cX6_plate 74 = .ok (.ireturn, 1) := by decide +kernel
set_option maxRecDepth 20000 in
theorem ggX6_defect_X4_holds : GoodIn wsX6_defect wsX4_holds := goodIn_r _ [8, 9, 10, 11, 12, 13, 39, 40, 41, 42, 43, 44, 45] (by decide +kernel) (by decide +kernel)
set_option maxRecDepth 20000 in
theorem gX6_defect_X4_holds : GoodIn wsX6_defect (wsV RX6 68 RX4 yX4_holds wsX4_holds) := goodIn_app (goodIn_of _ (by decide +kernel)) ggX6_defect_X4_holds
set_option maxRecDepth 20000 in
theorem ggX6_defect_X4_spoil : GoodIn wsX6_defect wsX4_spoil := goodIn_r _ [17, 18, 19, 39, 40, 41, 42, 43, 44, 45] (by decide +kernel) (by decide +kernel)
set_option maxRecDepth 20000 in
theorem gX6_defect_X4_spoil : GoodIn wsX6_defect (wsV RX6 72 RX4 yX4_spoil wsX4_spoil) := goodIn_app (goodIn_of _ (by decide +kernel)) ggX6_defect_X4_spoil
set_option maxRecDepth 20000 in
theorem ggX6_defect_X2_forget : GoodIn wsX6_defect wsX2_forget := goodIn_r _ [24, 25, 26, 27, 28, 29, 30, 31, 32, 46, 47, 48, 49, 50, 51, 52, 53, 54, 55, 56, 57, 58, 59] (by decide +kernel) (by decide +kernel)
set_option maxRecDepth 20000 in
theorem gX6_defect_X2_forget : GoodIn wsX6_defect (wsV RX6 65 RX2 yX2_forget wsX2_forget) := goodIn_app (goodIn_of _ (by decide +kernel)) ggX6_defect_X2_forget
theorem dX6_defect_0 : decode cX6_defect 0 = .ok (.aload_n 0, 1) := by decide +kernel
theorem dX6_defect_1 : decode cX6_defect 1 = .ok (.getfield 23, 3) := by decide +kernel
theorem dX6_defect_4 : decode cX6_defect 4 = .ok (.iload_n 1, 1) := by decide +kernel
theorem dX6_defect_5 : decode cX6_defect 5 = .ok (.iload_n 2, 1) := by decide +kernel
theorem dX6_defect_6 : decode cX6_defect 6 = .ok (.iload_n 3, 1) := by decide +kernel
theorem dX6_defect_7 : decode cX6_defect 7 = .ok (.iload 4, 2) := by decide +kernel
theorem dX6_defect_9 : decode cX6_defect 9 = .ok (.invokevirtual 68, 3) := by decide +kernel
theorem dX6_defect_12 : decode cX6_defect 12 = .ok (.ifCond .ne 6, 3) := by decide +kernel
theorem dX6_defect_15 : decode cX6_defect 15 = .ok (.bipush (-3), 2) := by decide +kernel
theorem dX6_defect_17 : decode cX6_defect 17 = .ok (.ireturn, 1) := by decide +kernel
theorem dX6_defect_18 : decode cX6_defect 18 = .ok (.aload_n 0, 1) := by decide +kernel
theorem dX6_defect_19 : decode cX6_defect 19 = .ok (.getfield 23, 3) := by decide +kernel
theorem dX6_defect_22 : decode cX6_defect 22 = .ok (.iload_n 1, 1) := by decide +kernel
theorem dX6_defect_23 : decode cX6_defect 23 = .ok (.iload_n 2, 1) := by decide +kernel
theorem dX6_defect_24 : decode cX6_defect 24 = .ok (.iload_n 3, 1) := by decide +kernel
theorem dX6_defect_25 : decode cX6_defect 25 = .ok (.iload 4, 2) := by decide +kernel
theorem dX6_defect_27 : decode cX6_defect 27 = .ok (.invokevirtual 72, 3) := by decide +kernel
theorem dX6_defect_30 : decode cX6_defect 30 = .ok (.ifCond .ne 6, 3) := by decide +kernel
theorem dX6_defect_33 : decode cX6_defect 33 = .ok (.bipush (-4), 2) := by decide +kernel
theorem dX6_defect_35 : decode cX6_defect 35 = .ok (.ireturn, 1) := by decide +kernel
theorem dX6_defect_36 : decode cX6_defect 36 = .ok (.aload_n 0, 1) := by decide +kernel
theorem dX6_defect_37 : decode cX6_defect 37 = .ok (.getfield 40, 3) := by decide +kernel
theorem dX6_defect_40 : decode cX6_defect 40 = .ok (.invokevirtual 65, 3) := by decide +kernel
theorem dX6_defect_43 : decode cX6_defect 43 = .ok (.aload_n 0, 1) := by decide +kernel
theorem dX6_defect_44 : decode cX6_defect 44 = .ok (.getfield 23, 3) := by decide +kernel
theorem dX6_defect_47 : decode cX6_defect 47 = .ok (.getfield 75, 3) := by decide +kernel
theorem dX6_defect_50 : decode cX6_defect 50 = .ok (.ireturn, 1) := by decide +kernel
set_option maxRecDepth 20000 in
theorem ggX6_kind_X6_within : GoodIn wsX6_kind wsX6_within := goodIn_r _ [6] (by decide +kernel) (by decide +kernel)
set_option maxRecDepth 20000 in
theorem gX6_kind_X6_within : GoodIn wsX6_kind (va_wsS RX6 57 yX6_within wsX6_within) := goodIn_app (goodIn_of _ (by decide +kernel)) ggX6_kind_X6_within
set_option maxRecDepth 20000 in
theorem ggX6_kind_X1_add : GoodIn wsX6_kind wsX1_add := goodIn_r _ [11, 12, 13, 14, 15, 16, 36, 37, 38, 39, 40] (by decide +kernel) (by decide +kernel)
set_option maxRecDepth 20000 in
theorem gX6_kind_X1_add : GoodIn wsX6_kind (wsV RX6 79 RX1 yX1_add wsX1_add) := goodIn_app (goodIn_of _ (by decide +kernel)) ggX6_kind_X1_add
set_option maxRecDepth 20000 in
theorem ggX6_kind_X2_forget : GoodIn wsX6_kind wsX2_forget := goodIn_r _ [21, 22, 23, 24, 25, 26, 27, 28, 29, 41, 42, 43, 44, 45, 46, 47, 48, 49, 50, 51, 52, 53, 54] (by decide +kernel) (by decide +kernel)
set_option maxRecDepth 20000 in
theorem gX6_kind_X2_forget : GoodIn wsX6_kind (wsV RX6 65 RX2 yX2_forget wsX2_forget) := goodIn_app (goodIn_of _ (by decide +kernel)) ggX6_kind_X2_forget
theorem dX6_kind_0 : decode cX6_kind 0 = .ok (.iload_n 1, 1) := by decide +kernel
theorem dX6_kind_1 : decode cX6_kind 1 = .ok (.iconst 1, 1) := by decide +kernel
theorem dX6_kind_2 : decode cX6_kind 2 = .ok (.bipush 16, 2) := by decide +kernel
theorem dX6_kind_4 : decode cX6_kind 4 = .ok (.invokestatic 57, 3) := by decide +kernel
theorem dX6_kind_7 : decode cX6_kind 7 = .ok (.ifCond .eq 24, 3) := by decide +kernel
theorem dX6_kind_10 : decode cX6_kind 10 = .ok (.iload_n 2, 1) := by decide +kernel
theorem dX6_kind_11 : decode cX6_kind 11 = .ok (.iconst 1, 1) := by decide +kernel
theorem dX6_kind_12 : decode cX6_kind 12 = .ok (.bipush 16, 2) := by decide +kernel
theorem dX6_kind_14 : decode cX6_kind 14 = .ok (.invokestatic 57, 3) := by decide +kernel
theorem dX6_kind_17 : decode cX6_kind 17 = .ok (.ifCond .eq 14, 3) := by decide +kernel
theorem dX6_kind_20 : decode cX6_kind 20 = .ok (.iload_n 3, 1) := by decide +kernel
theorem dX6_kind_21 : decode cX6_kind 21 = .ok (.iconst 1, 1) := by decide +kernel
theorem dX6_kind_22 : decode cX6_kind 22 = .ok (.sipush 1000, 3) := by decide +kernel
theorem dX6_kind_25 : decode cX6_kind 25 = .ok (.invokestatic 57, 3) := by decide +kernel
theorem dX6_kind_28 : decode cX6_kind 28 = .ok (.ifCond .ne 6, 3) := by decide +kernel
theorem dX6_kind_31 : decode cX6_kind 31 = .ok (.bipush (-3), 2) := by decide +kernel
theorem dX6_kind_33 : decode cX6_kind 33 = .ok (.ireturn, 1) := by decide +kernel
theorem dX6_kind_34 : decode cX6_kind 34 = .ok (.aload_n 0, 1) := by decide +kernel
theorem dX6_kind_35 : decode cX6_kind 35 = .ok (.getfield 27, 3) := by decide +kernel
theorem dX6_kind_38 : decode cX6_kind 38 = .ok (.iload_n 1, 1) := by decide +kernel
theorem dX6_kind_39 : decode cX6_kind 39 = .ok (.iload_n 2, 1) := by decide +kernel
theorem dX6_kind_40 : decode cX6_kind 40 = .ok (.iload_n 3, 1) := by decide +kernel
theorem dX6_kind_41 : decode cX6_kind 41 = .ok (.iload 4, 2) := by decide +kernel
theorem dX6_kind_43 : decode cX6_kind 43 = .ok (.invokevirtual 79, 3) := by decide +kernel
theorem dX6_kind_46 : decode cX6_kind 46 = .ok (.istore 5, 2) := by decide +kernel
theorem dX6_kind_48 : decode cX6_kind 48 = .ok (.iload 5, 2) := by decide +kernel
theorem dX6_kind_50 : decode cX6_kind 50 = .ok (.bipush (-4), 2) := by decide +kernel
theorem dX6_kind_52 : decode cX6_kind 52 = .ok (.if_icmp .eq 10, 3) := by decide +kernel
theorem dX6_kind_55 : decode cX6_kind 55 = .ok (.aload_n 0, 1) := by decide +kernel
theorem dX6_kind_56 : decode cX6_kind 56 = .ok (.getfield 40, 3) := by decide +kernel
theorem dX6_kind_59 : decode cX6_kind 59 = .ok (.invokevirtual 65, 3) := by decide +kernel
theorem dX6_kind_62 : decode cX6_kind 62 = .ok (.iload 5, 2) := by decide +kernel
theorem dX6_kind_64 : decode cX6_kind 64 = .ok (.ireturn, 1) := by decide +kernel
set_option maxRecDepth 20000 in
theorem ggX6_value_X6_within : GoodIn wsX6_value wsX6_within := goodIn_r _ [8] (by decide +kernel) (by decide +kernel)
set_option maxRecDepth 20000 in
theorem gX6_value_X6_within : GoodIn wsX6_value (va_wsS RX6 57 yX6_within wsX6_within) := goodIn_app (goodIn_of _ (by decide +kernel)) ggX6_value_X6_within
set_option maxRecDepth 20000 in
theorem ggX6_value_X2_forget : GoodIn wsX6_value wsX2_forget := goodIn_r _ [13, 14, 15, 16, 17, 18, 19, 20, 21, 33, 34, 35, 36, 37, 38, 39, 40, 41, 42, 43, 44, 45, 46] (by decide +kernel) (by decide +kernel)
set_option maxRecDepth 20000 in
theorem gX6_value_X2_forget : GoodIn wsX6_value (wsV RX6 65 RX2 yX2_forget wsX2_forget) := goodIn_app (goodIn_of _ (by decide +kernel)) ggX6_value_X2_forget
theorem dX6_value_0 : decode cX6_value 0 = .ok (.iload_n 1, 1) := by decide +kernel
theorem dX6_value_1 : decode cX6_value 1 = .ok (.iconst 0, 1) := by decide +kernel
theorem dX6_value_2 : decode cX6_value 2 = .ok (.aload_n 0, 1) := by decide +kernel
theorem dX6_value_3 : decode cX6_value 3 = .ok (.getfield 27, 3) := by decide +kernel
theorem dX6_value_6 : decode cX6_value 6 = .ok (.getfield 83, 3) := by decide +kernel
theorem dX6_value_9 : decode cX6_value 9 = .ok (.iconst 1, 1) := by decide +kernel
theorem dX6_value_10 : decode cX6_value 10 = .ok (.isub, 1) := by decide +kernel
theorem dX6_value_11 : decode cX6_value 11 = .ok (.invokestatic 57, 3) := by decide +kernel
theorem dX6_value_14 : decode cX6_value 14 = .ok (.ifCond .ne 6, 3) := by decide +kernel
theorem dX6_value_17 : decode cX6_value 17 = .ok (.bipush (-2), 2) := by decide +kernel
theorem dX6_value_19 : decode cX6_value 19 = .ok (.ireturn, 1) := by decide +kernel
theorem dX6_value_20 : decode cX6_value 20 = .ok (.iload_n 2, 1) := by decide +kernel
theorem dX6_value_21 : decode cX6_value 21 = .ok (.iconst 1, 1) := by decide +kernel
theorem dX6_value_22 : decode cX6_value 22 = .ok (.sipush 1000, 3) := by decide +kernel
theorem dX6_value_25 : decode cX6_value 25 = .ok (.invokestatic 57, 3) := by decide +kernel
theorem dX6_value_28 : decode cX6_value 28 = .ok (.ifCond .ne 6, 3) := by decide +kernel
theorem dX6_value_31 : decode cX6_value 31 = .ok (.bipush (-3), 2) := by decide +kernel
theorem dX6_value_33 : decode cX6_value 33 = .ok (.ireturn, 1) := by decide +kernel
theorem dX6_value_34 : decode cX6_value 34 = .ok (.aload_n 0, 1) := by decide +kernel
theorem dX6_value_35 : decode cX6_value 35 = .ok (.getfield 27, 3) := by decide +kernel
theorem dX6_value_38 : decode cX6_value 38 = .ok (.getfield 86, 3) := by decide +kernel
theorem dX6_value_41 : decode cX6_value 41 = .ok (.iload_n 1, 1) := by decide +kernel
theorem dX6_value_42 : decode cX6_value 42 = .ok (.iaload, 1) := by decide +kernel
theorem dX6_value_43 : decode cX6_value 43 = .ok (.istore_n 3, 1) := by decide +kernel
theorem dX6_value_44 : decode cX6_value 44 = .ok (.aload_n 0, 1) := by decide +kernel
theorem dX6_value_45 : decode cX6_value 45 = .ok (.getfield 27, 3) := by decide +kernel
theorem dX6_value_48 : decode cX6_value 48 = .ok (.getfield 86, 3) := by decide +kernel
theorem dX6_value_51 : decode cX6_value 51 = .ok (.iload_n 1, 1) := by decide +kernel
theorem dX6_value_52 : decode cX6_value 52 = .ok (.iload_n 2, 1) := by decide +kernel
theorem dX6_value_53 : decode cX6_value 53 = .ok (.iastore, 1) := by decide +kernel
theorem dX6_value_54 : decode cX6_value 54 = .ok (.aload_n 0, 1) := by decide +kernel
theorem dX6_value_55 : decode cX6_value 55 = .ok (.getfield 40, 3) := by decide +kernel
theorem dX6_value_58 : decode cX6_value 58 = .ok (.invokevirtual 65, 3) := by decide +kernel
theorem dX6_value_61 : decode cX6_value 61 = .ok (.iload_n 3, 1) := by decide +kernel
theorem dX6_value_62 : decode cX6_value 62 = .ok (.ireturn, 1) := by decide +kernel
set_option maxRecDepth 20000 in
theorem ggX6_worth_X4_holds : GoodIn wsX6_worth wsX4_holds := goodIn_r _ [8, 9, 10, 11, 12, 13, 113, 114, 115, 116, 117, 118, 119] (by decide +kernel) (by decide +kernel)
set_option maxRecDepth 20000 in
theorem gX6_worth_X4_holds : GoodIn wsX6_worth (wsV RX6 68 RX4 yX4_holds wsX4_holds) := goodIn_app (goodIn_of _ (by decide +kernel)) ggX6_worth_X4_holds
set_option maxRecDepth 20000 in
theorem ggX6_worth_X6_within : GoodIn wsX6_worth wsX6_within := goodIn_r _ [13] (by decide +kernel) (by decide +kernel)
set_option maxRecDepth 20000 in
theorem gX6_worth_X6_within : GoodIn wsX6_worth (va_wsS RX6 57 yX6_within wsX6_within) := goodIn_app (goodIn_of _ (by decide +kernel)) ggX6_worth_X6_within
set_option maxRecDepth 20000 in
theorem ggX6_worth_X5_makeReady : GoodIn wsX6_worth wsX5_makeReady := goodIn_r _ [19, 20, 21, 22, 23, 24, 25, 18, 26, 27, 28, 29, 30, 31, 32, 33, 11, 12, 13, 34, 35, 36, 37, 38, 39, 40, 41, 42, 43, 44, 45, 46, 47, 48, 49, 50, 51, 52, 53, 54, 55, 56, 57, 58, 59, 60, 61, 62, 63, 64, 65, 66, 67, 68, 69, 7, 70, 71, 72, 73, 74, 75, 76, 77, 78, 79, 80, 81, 82, 83, 84, 85, 86, 87, 88, 89, 90, 91, 92, 93, 94, 95, 96, 97, 98, 99, 100, 101, 102, 120, 121, 122, 123, 124, 113, 114, 115, 116, 117, 118, 119, 125, 126, 127, 128, 129] (by decide +kernel) (by decide +kernel)
set_option maxRecDepth 20000 in
theorem gX6_worth_X5_makeReady : GoodIn wsX6_worth (wsV RX6 93 RX5 yX5_makeReady wsX5_makeReady) := goodIn_app (goodIn_of _ (by decide +kernel)) ggX6_worth_X5_makeReady
set_option maxRecDepth 20000 in
theorem ggX6_worth_X5_of : GoodIn wsX6_worth wsX5_of := goodIn_r _ [106, 21, 22, 86, 63, 64, 65, 18, 66, 27, 30, 31, 32, 33, 11, 12, 13, 93, 94, 95, 96, 97, 98, 120, 121, 122, 123, 124, 113, 114, 115, 116, 117, 118, 119] (by decide +kernel) (by decide +kernel)
set_option maxRecDepth 20000 in
theorem gX6_worth_X5_of : GoodIn wsX6_worth (wsV RX6 96 RX5 yX5_of wsX5_of) := goodIn_app (goodIn_of _ (by decide +kernel)) ggX6_worth_X5_of
theorem dX6_worth_0 : decode cX6_worth 0 = .ok (.aload_n 0, 1) := by decide +kernel
theorem dX6_worth_1 : decode cX6_worth 1 = .ok (.getfield 23, 3) := by decide +kernel
theorem dX6_worth_4 : decode cX6_worth 4 = .ok (.iload_n 1, 1) := by decide +kernel
theorem dX6_worth_5 : decode cX6_worth 5 = .ok (.iload_n 2, 1) := by decide +kernel
theorem dX6_worth_6 : decode cX6_worth 6 = .ok (.iload_n 3, 1) := by decide +kernel
theorem dX6_worth_7 : decode cX6_worth 7 = .ok (.iload 4, 2) := by decide +kernel
theorem dX6_worth_9 : decode cX6_worth 9 = .ok (.invokevirtual 68, 3) := by decide +kernel
theorem dX6_worth_12 : decode cX6_worth 12 = .ok (.ifCond .eq 19, 3) := by decide +kernel
theorem dX6_worth_15 : decode cX6_worth 15 = .ok (.iload 5, 2) := by decide +kernel
theorem dX6_worth_17 : decode cX6_worth 17 = .ok (.iconst 1, 1) := by decide +kernel
theorem dX6_worth_18 : decode cX6_worth 18 = .ok (.aload_n 0, 1) := by decide +kernel
theorem dX6_worth_19 : decode cX6_worth 19 = .ok (.getfield 23, 3) := by decide +kernel
theorem dX6_worth_22 : decode cX6_worth 22 = .ok (.getfield 90, 3) := by decide +kernel
theorem dX6_worth_25 : decode cX6_worth 25 = .ok (.invokestatic 57, 3) := by decide +kernel
theorem dX6_worth_28 : decode cX6_worth 28 = .ok (.ifCond .ne 6, 3) := by decide +kernel
theorem dX6_worth_31 : decode cX6_worth 31 = .ok (.bipush (-3), 2) := by decide +kernel
theorem dX6_worth_33 : decode cX6_worth 33 = .ok (.ireturn, 1) := by decide +kernel
theorem dX6_worth_34 : decode cX6_worth 34 = .ok (.aload_n 0, 1) := by decide +kernel
theorem dX6_worth_35 : decode cX6_worth 35 = .ok (.getfield 31, 3) := by decide +kernel
theorem dX6_worth_38 : decode cX6_worth 38 = .ok (.invokevirtual 93, 3) := by decide +kernel
theorem dX6_worth_41 : decode cX6_worth 41 = .ok (.aload_n 0, 1) := by decide +kernel
theorem dX6_worth_42 : decode cX6_worth 42 = .ok (.getfield 31, 3) := by decide +kernel
theorem dX6_worth_45 : decode cX6_worth 45 = .ok (.iload_n 1, 1) := by decide +kernel
theorem dX6_worth_46 : decode cX6_worth 46 = .ok (.iload_n 2, 1) := by decide +kernel
theorem dX6_worth_47 : decode cX6_worth 47 = .ok (.iload_n 3, 1) := by decide +kernel
theorem dX6_worth_48 : decode cX6_worth 48 = .ok (.iload 4, 2) := by decide +kernel
theorem dX6_worth_50 : decode cX6_worth 50 = .ok (.iload 5, 2) := by decide +kernel
theorem dX6_worth_52 : decode cX6_worth 52 = .ok (.invokevirtual 96, 3) := by decide +kernel
theorem dX6_worth_55 : decode cX6_worth 55 = .ok (.ireturn, 1) := by decide +kernel
set_option maxRecDepth 20000 in
theorem ggX6_pieces_X2_makeReady : GoodIn wsX6_pieces wsX2_makeReady := goodIn_r _ [7, 8, 9, 10, 11, 12, 13, 14, 15, 16, 17, 18, 19, 20, 21, 22, 23, 24, 25, 26, 27, 28, 29, 30, 31, 32, 33, 34, 35, 36, 37, 38, 39, 40, 41, 42, 43, 44, 45, 46, 47, 48, 49, 50, 51, 52, 53, 54, 55, 56, 57, 58, 59, 60, 61, 62, 63, 64, 65, 66, 67, 68, 69, 70, 71, 72, 73, 74, 75, 76, 77, 78, 79, 80, 81, 82, 83, 84, 85, 86, 87, 88, 89, 90, 91, 92, 93, 94, 95, 96, 97, 98, 99, 100, 101, 102, 103, 104, 105, 106, 107, 108, 109, 110, 6, 111, 112, 113, 114, 115, 116, 117, 118, 119, 120, 121, 122, 123, 124, 125, 126, 127, 128, 129, 130, 131, 132, 133, 134, 135, 136, 137, 138, 139, 140, 141, 142, 143, 144, 145, 146, 147, 148, 149, 156, 157, 158, 159, 160, 161, 162, 163, 164, 165, 166, 167, 168, 169, 170, 171, 172, 173, 174, 175, 176, 177, 178, 179, 180, 181] (by decide +kernel) (by decide +kernel)
set_option maxRecDepth 20000 in
theorem gX6_pieces_X2_makeReady : GoodIn wsX6_pieces (wsV RX6 100 RX2 yX2_makeReady wsX2_makeReady) := goodIn_app (goodIn_of _ (by decide +kernel)) ggX6_pieces_X2_makeReady
theorem dX6_pieces_0 : decode cX6_pieces 0 = .ok (.aload_n 0, 1) := by decide +kernel
theorem dX6_pieces_1 : decode cX6_pieces 1 = .ok (.getfield 40, 3) := by decide +kernel
theorem dX6_pieces_4 : decode cX6_pieces 4 = .ok (.invokevirtual 100, 3) := by decide +kernel
theorem dX6_pieces_7 : decode cX6_pieces 7 = .ok (.aload_n 0, 1) := by decide +kernel
theorem dX6_pieces_8 : decode cX6_pieces 8 = .ok (.getfield 40, 3) := by decide +kernel
theorem dX6_pieces_11 : decode cX6_pieces 11 = .ok (.getfield 101, 3) := by decide +kernel
theorem dX6_pieces_14 : decode cX6_pieces 14 = .ok (.ireturn, 1) := by decide +kernel
set_option maxRecDepth 20000 in
theorem ggX6_piece_X6_within : GoodIn wsX6_piece wsX6_within := goodIn_r _ [7] (by decide +kernel) (by decide +kernel)
set_option maxRecDepth 20000 in
theorem gX6_piece_X6_within : GoodIn wsX6_piece (va_wsS RX6 57 yX6_within wsX6_within) := goodIn_app (goodIn_of _ (by decide +kernel)) ggX6_piece_X6_within
set_option maxRecDepth 20000 in
theorem ggX6_piece_X2_makeReady : GoodIn wsX6_piece wsX2_makeReady := goodIn_r _ [12, 13, 14, 15, 16, 17, 18, 19, 20, 21, 22, 23, 24, 25, 26, 27, 28, 29, 30, 31, 32, 33, 34, 35, 36, 37, 38, 39, 5, 6, 7, 40, 41, 42, 43, 44, 45, 46, 47, 48, 49, 50, 51, 52, 53, 54, 55, 56, 57, 58, 59, 60, 61, 62, 63, 64, 65, 66, 67, 68, 69, 70, 71, 72, 73, 74, 75, 76, 77, 78, 79, 80, 81, 82, 83, 84, 85, 86, 87, 88, 89, 90, 91, 92, 93, 94, 95, 96, 97, 98, 99, 100, 101, 102, 103, 104, 105, 106, 107, 108, 109, 110, 111, 112, 11, 113, 114, 115, 116, 117, 118, 119, 120, 121, 122, 123, 124, 125, 126, 127, 128, 129, 130, 131, 132, 133, 134, 135, 136, 137, 138, 139, 140, 141, 142, 143, 144, 145, 146, 147, 148, 149, 150, 151, 158, 159, 160, 161, 162, 163, 164, 165, 166, 167, 168, 169, 170, 171, 172, 173, 174, 175, 176, 177, 178, 179, 180, 181, 182, 183] (by decide +kernel) (by decide +kernel)
set_option maxRecDepth 20000 in
theorem gX6_piece_X2_makeReady : GoodIn wsX6_piece (wsV RX6 100 RX2 yX2_makeReady wsX2_makeReady) := goodIn_app (goodIn_of _ (by decide +kernel)) ggX6_piece_X2_makeReady
theorem dX6_piece_0 : decode cX6_piece 0 = .ok (.iload_n 2, 1) := by decide +kernel
theorem dX6_piece_1 : decode cX6_piece 1 = .ok (.iconst 0, 1) := by decide +kernel
theorem dX6_piece_2 : decode cX6_piece 2 = .ok (.iconst 5, 1) := by decide +kernel
theorem dX6_piece_3 : decode cX6_piece 3 = .ok (.invokestatic 57, 3) := by decide +kernel
theorem dX6_piece_6 : decode cX6_piece 6 = .ok (.ifCond .ne 6, 3) := by decide +kernel
theorem dX6_piece_9 : decode cX6_piece 9 = .ok (.bipush (-3), 2) := by decide +kernel
theorem dX6_piece_11 : decode cX6_piece 11 = .ok (.ireturn, 1) := by decide +kernel
theorem dX6_piece_12 : decode cX6_piece 12 = .ok (.aload_n 0, 1) := by decide +kernel
theorem dX6_piece_13 : decode cX6_piece 13 = .ok (.getfield 40, 3) := by decide +kernel
theorem dX6_piece_16 : decode cX6_piece 16 = .ok (.invokevirtual 100, 3) := by decide +kernel
theorem dX6_piece_19 : decode cX6_piece 19 = .ok (.iload_n 1, 1) := by decide +kernel
theorem dX6_piece_20 : decode cX6_piece 20 = .ok (.iconst 0, 1) := by decide +kernel
theorem dX6_piece_21 : decode cX6_piece 21 = .ok (.aload_n 0, 1) := by decide +kernel
theorem dX6_piece_22 : decode cX6_piece 22 = .ok (.getfield 40, 3) := by decide +kernel
theorem dX6_piece_25 : decode cX6_piece 25 = .ok (.getfield 101, 3) := by decide +kernel
theorem dX6_piece_28 : decode cX6_piece 28 = .ok (.iconst 1, 1) := by decide +kernel
theorem dX6_piece_29 : decode cX6_piece 29 = .ok (.isub, 1) := by decide +kernel
theorem dX6_piece_30 : decode cX6_piece 30 = .ok (.invokestatic 57, 3) := by decide +kernel
theorem dX6_piece_33 : decode cX6_piece 33 = .ok (.ifCond .eq 20, 3) := by decide +kernel
theorem dX6_piece_36 : decode cX6_piece 36 = .ok (.aload_n 0, 1) := by decide +kernel
theorem dX6_piece_37 : decode cX6_piece 37 = .ok (.getfield 40, 3) := by decide +kernel
theorem dX6_piece_40 : decode cX6_piece 40 = .ok (.getfield 104, 3) := by decide +kernel
theorem dX6_piece_43 : decode cX6_piece 43 = .ok (.iload_n 1, 1) := by decide +kernel
theorem dX6_piece_44 : decode cX6_piece 44 = .ok (.bipush 6, 2) := by decide +kernel
theorem dX6_piece_46 : decode cX6_piece 46 = .ok (.imul, 1) := by decide +kernel
theorem dX6_piece_47 : decode cX6_piece 47 = .ok (.iload_n 2, 1) := by decide +kernel
theorem dX6_piece_48 : decode cX6_piece 48 = .ok (.iadd, 1) := by decide +kernel
theorem dX6_piece_49 : decode cX6_piece 49 = .ok (.iaload, 1) := by decide +kernel
theorem dX6_piece_50 : decode cX6_piece 50 = .ok (.goto 4, 3) := by decide +kernel
theorem dX6_piece_53 : decode cX6_piece 53 = .ok (.iconst (-1), 1) := by decide +kernel
theorem dX6_piece_54 : decode cX6_piece 54 = .ok (.ireturn, 1) := by decide +kernel
set_option maxRecDepth 20000 in
theorem ggX6_cuts_X2_makeReady : GoodIn wsX6_cuts wsX2_makeReady := goodIn_r _ [7, 8, 9, 10, 11, 12, 13, 14, 15, 16, 17, 18, 19, 20, 21, 22, 23, 24, 25, 26, 27, 28, 29, 30, 31, 32, 33, 34, 35, 36, 37, 38, 39, 40, 41, 42, 43, 44, 45, 46, 47, 48, 49, 50, 51, 52, 53, 54, 55, 56, 57, 58, 59, 60, 61, 62, 63, 64, 65, 66, 67, 68, 69, 70, 71, 72, 73, 74, 75, 76, 77, 78, 79, 80, 81, 82, 83, 84, 85, 86, 87, 88, 89, 90, 91, 92, 93, 94, 95, 96, 97, 98, 99, 100, 101, 102, 103, 104, 105, 106, 107, 108, 109, 110, 6, 111, 112, 113, 114, 115, 116, 117, 118, 119, 120, 121, 122, 123, 124, 125, 126, 127, 128, 129, 130, 131, 132, 133, 134, 135, 136, 137, 138, 139, 140, 141, 142, 143, 144, 145, 146, 147, 148, 149, 156, 157, 158, 159, 160, 161, 162, 163, 164, 165, 166, 167, 168, 169, 170, 171, 172, 173, 174, 175, 176, 177, 178, 179, 180, 181] (by decide +kernel) (by decide +kernel)
set_option maxRecDepth 20000 in
theorem gX6_cuts_X2_makeReady : GoodIn wsX6_cuts (wsV RX6 100 RX2 yX2_makeReady wsX2_makeReady) := goodIn_app (goodIn_of _ (by decide +kernel)) ggX6_cuts_X2_makeReady
theorem dX6_cuts_0 : decode cX6_cuts 0 = .ok (.aload_n 0, 1) := by decide +kernel
theorem dX6_cuts_1 : decode cX6_cuts 1 = .ok (.getfield 40, 3) := by decide +kernel
theorem dX6_cuts_4 : decode cX6_cuts 4 = .ok (.invokevirtual 100, 3) := by decide +kernel
theorem dX6_cuts_7 : decode cX6_cuts 7 = .ok (.aload_n 0, 1) := by decide +kernel
theorem dX6_cuts_8 : decode cX6_cuts 8 = .ok (.getfield 40, 3) := by decide +kernel
theorem dX6_cuts_11 : decode cX6_cuts 11 = .ok (.getfield 107, 3) := by decide +kernel
theorem dX6_cuts_14 : decode cX6_cuts 14 = .ok (.ireturn, 1) := by decide +kernel
set_option maxRecDepth 20000 in
theorem ggX6_cut_X6_within : GoodIn wsX6_cut wsX6_within := goodIn_r _ [7] (by decide +kernel) (by decide +kernel)
set_option maxRecDepth 20000 in
theorem gX6_cut_X6_within : GoodIn wsX6_cut (va_wsS RX6 57 yX6_within wsX6_within) := goodIn_app (goodIn_of _ (by decide +kernel)) ggX6_cut_X6_within
set_option maxRecDepth 20000 in
theorem ggX6_cut_X2_makeReady : GoodIn wsX6_cut wsX2_makeReady := goodIn_r _ [12, 13, 14, 15, 16, 17, 18, 19, 20, 21, 22, 23, 24, 25, 26, 27, 28, 29, 30, 31, 32, 33, 34, 35, 36, 37, 38, 39, 5, 6, 7, 40, 41, 42, 43, 44, 45, 46, 47, 48, 49, 50, 51, 52, 53, 54, 55, 56, 57, 58, 59, 60, 61, 62, 63, 64, 65, 66, 67, 68, 69, 70, 71, 72, 73, 74, 75, 76, 77, 78, 79, 80, 81, 82, 83, 84, 85, 86, 87, 88, 89, 90, 91, 92, 93, 94, 95, 96, 97, 98, 99, 100, 101, 102, 103, 104, 105, 106, 107, 108, 109, 110, 111, 112, 11, 113, 114, 115, 116, 117, 118, 119, 120, 121, 122, 123, 124, 125, 126, 127, 128, 129, 130, 131, 132, 133, 134, 135, 136, 137, 138, 139, 140, 141, 142, 143, 144, 145, 146, 147, 148, 149, 150, 151, 158, 159, 160, 161, 162, 163, 164, 165, 166, 167, 168, 169, 170, 171, 172, 173, 174, 175, 176, 177, 178, 179, 180, 181, 182, 183] (by decide +kernel) (by decide +kernel)
set_option maxRecDepth 20000 in
theorem gX6_cut_X2_makeReady : GoodIn wsX6_cut (wsV RX6 100 RX2 yX2_makeReady wsX2_makeReady) := goodIn_app (goodIn_of _ (by decide +kernel)) ggX6_cut_X2_makeReady
theorem dX6_cut_0 : decode cX6_cut 0 = .ok (.iload_n 2, 1) := by decide +kernel
theorem dX6_cut_1 : decode cX6_cut 1 = .ok (.iconst 0, 1) := by decide +kernel
theorem dX6_cut_2 : decode cX6_cut 2 = .ok (.bipush 6, 2) := by decide +kernel
theorem dX6_cut_4 : decode cX6_cut 4 = .ok (.invokestatic 57, 3) := by decide +kernel
theorem dX6_cut_7 : decode cX6_cut 7 = .ok (.ifCond .ne 6, 3) := by decide +kernel
theorem dX6_cut_10 : decode cX6_cut 10 = .ok (.bipush (-3), 2) := by decide +kernel
theorem dX6_cut_12 : decode cX6_cut 12 = .ok (.ireturn, 1) := by decide +kernel
theorem dX6_cut_13 : decode cX6_cut 13 = .ok (.aload_n 0, 1) := by decide +kernel
theorem dX6_cut_14 : decode cX6_cut 14 = .ok (.getfield 40, 3) := by decide +kernel
theorem dX6_cut_17 : decode cX6_cut 17 = .ok (.invokevirtual 100, 3) := by decide +kernel
theorem dX6_cut_20 : decode cX6_cut 20 = .ok (.iload_n 1, 1) := by decide +kernel
theorem dX6_cut_21 : decode cX6_cut 21 = .ok (.iconst 0, 1) := by decide +kernel
theorem dX6_cut_22 : decode cX6_cut 22 = .ok (.aload_n 0, 1) := by decide +kernel
theorem dX6_cut_23 : decode cX6_cut 23 = .ok (.getfield 40, 3) := by decide +kernel
theorem dX6_cut_26 : decode cX6_cut 26 = .ok (.getfield 107, 3) := by decide +kernel
theorem dX6_cut_29 : decode cX6_cut 29 = .ok (.iconst 1, 1) := by decide +kernel
theorem dX6_cut_30 : decode cX6_cut 30 = .ok (.isub, 1) := by decide +kernel
theorem dX6_cut_31 : decode cX6_cut 31 = .ok (.invokestatic 57, 3) := by decide +kernel
theorem dX6_cut_34 : decode cX6_cut 34 = .ok (.ifCond .eq 20, 3) := by decide +kernel
theorem dX6_cut_37 : decode cX6_cut 37 = .ok (.aload_n 0, 1) := by decide +kernel
theorem dX6_cut_38 : decode cX6_cut 38 = .ok (.getfield 40, 3) := by decide +kernel
theorem dX6_cut_41 : decode cX6_cut 41 = .ok (.getfield 110, 3) := by decide +kernel
theorem dX6_cut_44 : decode cX6_cut 44 = .ok (.iload_n 1, 1) := by decide +kernel
theorem dX6_cut_45 : decode cX6_cut 45 = .ok (.bipush 7, 2) := by decide +kernel
theorem dX6_cut_47 : decode cX6_cut 47 = .ok (.imul, 1) := by decide +kernel
theorem dX6_cut_48 : decode cX6_cut 48 = .ok (.iload_n 2, 1) := by decide +kernel
theorem dX6_cut_49 : decode cX6_cut 49 = .ok (.iadd, 1) := by decide +kernel
theorem dX6_cut_50 : decode cX6_cut 50 = .ok (.iaload, 1) := by decide +kernel
theorem dX6_cut_51 : decode cX6_cut 51 = .ok (.goto 4, 3) := by decide +kernel
theorem dX6_cut_54 : decode cX6_cut 54 = .ok (.iconst (-1), 1) := by decide +kernel
theorem dX6_cut_55 : decode cX6_cut 55 = .ok (.ireturn, 1) := by decide +kernel
set_option maxRecDepth 20000 in
theorem ggX6_waste_X2_makeReady : GoodIn wsX6_waste wsX2_makeReady := goodIn_r _ [7, 8, 9, 10, 11, 12, 13, 14, 15, 16, 17, 18, 19, 20, 21, 22, 23, 24, 25, 26, 27, 28, 29, 30, 31, 32, 33, 34, 35, 36, 37, 38, 39, 40, 41, 42, 43, 44, 45, 46, 47, 48, 49, 50, 51, 52, 53, 54, 55, 56, 57, 58, 59, 60, 61, 62, 63, 64, 65, 66, 67, 68, 69, 70, 71, 72, 73, 74, 75, 76, 77, 78, 79, 80, 81, 82, 83, 84, 85, 86, 87, 88, 89, 90, 91, 92, 93, 94, 95, 96, 97, 98, 99, 100, 101, 102, 103, 104, 105, 106, 107, 108, 109, 110, 6, 111, 112, 113, 114, 115, 116, 117, 118, 119, 120, 121, 122, 123, 124, 125, 126, 127, 128, 129, 130, 131, 132, 133, 134, 135, 136, 137, 138, 139, 140, 141, 142, 143, 144, 145, 146, 147, 148, 149, 156, 157, 158, 159, 160, 161, 162, 163, 164, 165, 166, 167, 168, 169, 170, 171, 172, 173, 174, 175, 176, 177, 178, 179, 180, 181] (by decide +kernel) (by decide +kernel)
set_option maxRecDepth 20000 in
theorem gX6_waste_X2_makeReady : GoodIn wsX6_waste (wsV RX6 100 RX2 yX2_makeReady wsX2_makeReady) := goodIn_app (goodIn_of _ (by decide +kernel)) ggX6_waste_X2_makeReady
theorem dX6_waste_0 : decode cX6_waste 0 = .ok (.aload_n 0, 1) := by decide +kernel
theorem dX6_waste_1 : decode cX6_waste 1 = .ok (.getfield 40, 3) := by decide +kernel
theorem dX6_waste_4 : decode cX6_waste 4 = .ok (.invokevirtual 100, 3) := by decide +kernel
theorem dX6_waste_7 : decode cX6_waste 7 = .ok (.aload_n 0, 1) := by decide +kernel
theorem dX6_waste_8 : decode cX6_waste 8 = .ok (.getfield 40, 3) := by decide +kernel
theorem dX6_waste_11 : decode cX6_waste 11 = .ok (.getfield 113, 3) := by decide +kernel
theorem dX6_waste_14 : decode cX6_waste 14 = .ok (.ireturn, 1) := by decide +kernel
set_option maxRecDepth 20000 in
theorem ggX6_stock_X6_within : GoodIn wsX6_stock wsX6_within := goodIn_r _ [6] (by decide +kernel) (by decide +kernel)
set_option maxRecDepth 20000 in
theorem gX6_stock_X6_within : GoodIn wsX6_stock (va_wsS RX6 57 yX6_within wsX6_within) := goodIn_app (goodIn_of _ (by decide +kernel)) ggX6_stock_X6_within
set_option maxRecDepth 20000 in
theorem ggX6_stock_X3_addStock : GoodIn wsX6_stock wsX3_addStock := goodIn_r _ [11, 12, 13, 14, 28, 29, 30, 31, 32, 33, 34] (by decide +kernel) (by decide +kernel)
set_option maxRecDepth 20000 in
theorem gX6_stock_X3_addStock : GoodIn wsX6_stock (wsV RX6 116 RX3 yX3_addStock wsX3_addStock) := goodIn_app (goodIn_of _ (by decide +kernel)) ggX6_stock_X3_addStock
set_option maxRecDepth 20000 in
theorem ggX6_stock_X0_forgetCosts : GoodIn wsX6_stock wsX0_forgetCosts := goodIn_r _ [19, 20, 21, 35, 36, 37, 38, 39, 40, 41, 42, 43, 44] (by decide +kernel) (by decide +kernel)
set_option maxRecDepth 20000 in
theorem gX6_stock_X0_forgetCosts : GoodIn wsX6_stock (wsV RX6 120 RX0 yX0_forgetCosts wsX0_forgetCosts) := goodIn_app (goodIn_of _ (by decide +kernel)) ggX6_stock_X0_forgetCosts
theorem dX6_stock_0 : decode cX6_stock 0 = .ok (.iload_n 1, 1) := by decide +kernel
theorem dX6_stock_1 : decode cX6_stock 1 = .ok (.iconst 1, 1) := by decide +kernel
theorem dX6_stock_2 : decode cX6_stock 2 = .ok (.bipush 99, 2) := by decide +kernel
theorem dX6_stock_4 : decode cX6_stock 4 = .ok (.invokestatic 57, 3) := by decide +kernel
theorem dX6_stock_7 : decode cX6_stock 7 = .ok (.ifCond .eq 13, 3) := by decide +kernel
theorem dX6_stock_10 : decode cX6_stock 10 = .ok (.iload_n 2, 1) := by decide +kernel
theorem dX6_stock_11 : decode cX6_stock 11 = .ok (.iconst 1, 1) := by decide +kernel
theorem dX6_stock_12 : decode cX6_stock 12 = .ok (.bipush 100, 2) := by decide +kernel
theorem dX6_stock_14 : decode cX6_stock 14 = .ok (.invokestatic 57, 3) := by decide +kernel
theorem dX6_stock_17 : decode cX6_stock 17 = .ok (.ifCond .ne 6, 3) := by decide +kernel
theorem dX6_stock_20 : decode cX6_stock 20 = .ok (.bipush (-3), 2) := by decide +kernel
theorem dX6_stock_22 : decode cX6_stock 22 = .ok (.ireturn, 1) := by decide +kernel
theorem dX6_stock_23 : decode cX6_stock 23 = .ok (.aload_n 0, 1) := by decide +kernel
theorem dX6_stock_24 : decode cX6_stock 24 = .ok (.getfield 44, 3) := by decide +kernel
theorem dX6_stock_27 : decode cX6_stock 27 = .ok (.iload_n 1, 1) := by decide +kernel
theorem dX6_stock_28 : decode cX6_stock 28 = .ok (.iload_n 2, 1) := by decide +kernel
theorem dX6_stock_29 : decode cX6_stock 29 = .ok (.invokevirtual 116, 3) := by decide +kernel
theorem dX6_stock_32 : decode cX6_stock 32 = .ok (.istore_n 3, 1) := by decide +kernel
theorem dX6_stock_33 : decode cX6_stock 33 = .ok (.iload_n 3, 1) := by decide +kernel
theorem dX6_stock_34 : decode cX6_stock 34 = .ok (.bipush (-4), 2) := by decide +kernel
theorem dX6_stock_36 : decode cX6_stock 36 = .ok (.if_icmp .eq 10, 3) := by decide +kernel
theorem dX6_stock_39 : decode cX6_stock 39 = .ok (.aload_n 0, 1) := by decide +kernel
theorem dX6_stock_40 : decode cX6_stock 40 = .ok (.getfield 53, 3) := by decide +kernel
theorem dX6_stock_43 : decode cX6_stock 43 = .ok (.invokevirtual 120, 3) := by decide +kernel
theorem dX6_stock_46 : decode cX6_stock 46 = .ok (.iload_n 3, 1) := by decide +kernel
end
section
theorem dX6_stock_47 : decode cX6_stock 47 = .ok (.ireturn, 1) := by decide +kernel
set_option maxRecDepth 20000 in
theorem ggX6_order_X6_within : GoodIn wsX6_order wsX6_within := goodIn_r _ [6] (by decide +kernel) (by decide +kernel)
set_option maxRecDepth 20000 in
theorem gX6_order_X6_within : GoodIn wsX6_order (va_wsS RX6 57 yX6_within wsX6_within) := goodIn_app (goodIn_of _ (by decide +kernel)) ggX6_order_X6_within
set_option maxRecDepth 20000 in
theorem ggX6_order_X3_addOrder : GoodIn wsX6_order wsX3_addOrder := goodIn_r _ [11, 12, 13, 14, 28, 29, 30, 31, 32, 33, 34] (by decide +kernel) (by decide +kernel)
set_option maxRecDepth 20000 in
theorem gX6_order_X3_addOrder : GoodIn wsX6_order (wsV RX6 123 RX3 yX3_addOrder wsX3_addOrder) := goodIn_app (goodIn_of _ (by decide +kernel)) ggX6_order_X3_addOrder
set_option maxRecDepth 20000 in
theorem ggX6_order_X0_forgetCosts : GoodIn wsX6_order wsX0_forgetCosts := goodIn_r _ [19, 20, 21, 35, 36, 37, 38, 39, 40, 41, 42, 43, 44] (by decide +kernel) (by decide +kernel)
set_option maxRecDepth 20000 in
theorem gX6_order_X0_forgetCosts : GoodIn wsX6_order (wsV RX6 120 RX0 yX0_forgetCosts wsX0_forgetCosts) := goodIn_app (goodIn_of _ (by decide +kernel)) ggX6_order_X0_forgetCosts
theorem dX6_order_0 : decode cX6_order 0 = .ok (.iload_n 1, 1) := by decide +kernel
theorem dX6_order_1 : decode cX6_order 1 = .ok (.iconst 1, 1) := by decide +kernel
theorem dX6_order_2 : decode cX6_order 2 = .ok (.bipush 99, 2) := by decide +kernel
theorem dX6_order_4 : decode cX6_order 4 = .ok (.invokestatic 57, 3) := by decide +kernel
theorem dX6_order_7 : decode cX6_order 7 = .ok (.ifCond .eq 12, 3) := by decide +kernel
theorem dX6_order_10 : decode cX6_order 10 = .ok (.iload_n 2, 1) := by decide +kernel
theorem dX6_order_11 : decode cX6_order 11 = .ok (.iconst 0, 1) := by decide +kernel
theorem dX6_order_12 : decode cX6_order 12 = .ok (.iconst 5, 1) := by decide +kernel
theorem dX6_order_13 : decode cX6_order 13 = .ok (.invokestatic 57, 3) := by decide +kernel
theorem dX6_order_16 : decode cX6_order 16 = .ok (.ifCond .ne 6, 3) := by decide +kernel
theorem dX6_order_19 : decode cX6_order 19 = .ok (.bipush (-3), 2) := by decide +kernel
theorem dX6_order_21 : decode cX6_order 21 = .ok (.ireturn, 1) := by decide +kernel
theorem dX6_order_22 : decode cX6_order 22 = .ok (.aload_n 0, 1) := by decide +kernel
theorem dX6_order_23 : decode cX6_order 23 = .ok (.getfield 44, 3) := by decide +kernel
theorem dX6_order_26 : decode cX6_order 26 = .ok (.iload_n 1, 1) := by decide +kernel
theorem dX6_order_27 : decode cX6_order 27 = .ok (.iload_n 2, 1) := by decide +kernel
theorem dX6_order_28 : decode cX6_order 28 = .ok (.invokevirtual 123, 3) := by decide +kernel
theorem dX6_order_31 : decode cX6_order 31 = .ok (.istore_n 3, 1) := by decide +kernel
theorem dX6_order_32 : decode cX6_order 32 = .ok (.iload_n 3, 1) := by decide +kernel
theorem dX6_order_33 : decode cX6_order 33 = .ok (.bipush (-4), 2) := by decide +kernel
theorem dX6_order_35 : decode cX6_order 35 = .ok (.if_icmp .eq 10, 3) := by decide +kernel
theorem dX6_order_38 : decode cX6_order 38 = .ok (.aload_n 0, 1) := by decide +kernel
theorem dX6_order_39 : decode cX6_order 39 = .ok (.getfield 53, 3) := by decide +kernel
theorem dX6_order_42 : decode cX6_order 42 = .ok (.invokevirtual 120, 3) := by decide +kernel
theorem dX6_order_45 : decode cX6_order 45 = .ok (.iload_n 3, 1) := by decide +kernel
theorem dX6_order_46 : decode cX6_order 46 = .ok (.ireturn, 1) := by decide +kernel
set_option maxRecDepth 20000 in
theorem ggX6_demand_X6_within : GoodIn wsX6_demand wsX6_within := goodIn_r _ [8] (by decide +kernel) (by decide +kernel)
set_option maxRecDepth 20000 in
theorem gX6_demand_X6_within : GoodIn wsX6_demand (va_wsS RX6 57 yX6_within wsX6_within) := goodIn_app (goodIn_of _ (by decide +kernel)) ggX6_demand_X6_within
set_option maxRecDepth 20000 in
theorem ggX6_demand_X0_forgetBars : GoodIn wsX6_demand wsX0_forgetBars := goodIn_r _ [13, 14, 28, 29, 30, 31, 32, 33, 34, 35, 36, 37] (by decide +kernel) (by decide +kernel)
set_option maxRecDepth 20000 in
theorem gX6_demand_X0_forgetBars : GoodIn wsX6_demand (wsV RX6 132 RX0 yX0_forgetBars wsX0_forgetBars) := goodIn_app (goodIn_of _ (by decide +kernel)) ggX6_demand_X0_forgetBars
theorem dX6_demand_0 : decode cX6_demand 0 = .ok (.iload_n 1, 1) := by decide +kernel
theorem dX6_demand_1 : decode cX6_demand 1 = .ok (.iconst 0, 1) := by decide +kernel
theorem dX6_demand_2 : decode cX6_demand 2 = .ok (.aload_n 0, 1) := by decide +kernel
theorem dX6_demand_3 : decode cX6_demand 3 = .ok (.getfield 44, 3) := by decide +kernel
theorem dX6_demand_6 : decode cX6_demand 6 = .ok (.getfield 126, 3) := by decide +kernel
theorem dX6_demand_9 : decode cX6_demand 9 = .ok (.iconst 1, 1) := by decide +kernel
theorem dX6_demand_10 : decode cX6_demand 10 = .ok (.isub, 1) := by decide +kernel
theorem dX6_demand_11 : decode cX6_demand 11 = .ok (.invokestatic 57, 3) := by decide +kernel
theorem dX6_demand_14 : decode cX6_demand 14 = .ok (.ifCond .ne 6, 3) := by decide +kernel
theorem dX6_demand_17 : decode cX6_demand 17 = .ok (.bipush (-2), 2) := by decide +kernel
theorem dX6_demand_19 : decode cX6_demand 19 = .ok (.ireturn, 1) := by decide +kernel
theorem dX6_demand_20 : decode cX6_demand 20 = .ok (.iload_n 2, 1) := by decide +kernel
theorem dX6_demand_21 : decode cX6_demand 21 = .ok (.iconst 0, 1) := by decide +kernel
theorem dX6_demand_22 : decode cX6_demand 22 = .ok (.iconst 5, 1) := by decide +kernel
theorem dX6_demand_23 : decode cX6_demand 23 = .ok (.invokestatic 57, 3) := by decide +kernel
theorem dX6_demand_26 : decode cX6_demand 26 = .ok (.ifCond .ne 6, 3) := by decide +kernel
theorem dX6_demand_29 : decode cX6_demand 29 = .ok (.bipush (-3), 2) := by decide +kernel
theorem dX6_demand_31 : decode cX6_demand 31 = .ok (.ireturn, 1) := by decide +kernel
theorem dX6_demand_32 : decode cX6_demand 32 = .ok (.aload_n 0, 1) := by decide +kernel
theorem dX6_demand_33 : decode cX6_demand 33 = .ok (.getfield 44, 3) := by decide +kernel
theorem dX6_demand_36 : decode cX6_demand 36 = .ok (.getfield 129, 3) := by decide +kernel
theorem dX6_demand_39 : decode cX6_demand 39 = .ok (.iload_n 1, 1) := by decide +kernel
theorem dX6_demand_40 : decode cX6_demand 40 = .ok (.iaload, 1) := by decide +kernel
theorem dX6_demand_41 : decode cX6_demand 41 = .ok (.istore_n 3, 1) := by decide +kernel
theorem dX6_demand_42 : decode cX6_demand 42 = .ok (.aload_n 0, 1) := by decide +kernel
theorem dX6_demand_43 : decode cX6_demand 43 = .ok (.getfield 44, 3) := by decide +kernel
theorem dX6_demand_46 : decode cX6_demand 46 = .ok (.getfield 129, 3) := by decide +kernel
theorem dX6_demand_49 : decode cX6_demand 49 = .ok (.iload_n 1, 1) := by decide +kernel
theorem dX6_demand_50 : decode cX6_demand 50 = .ok (.iload_n 2, 1) := by decide +kernel
theorem dX6_demand_51 : decode cX6_demand 51 = .ok (.iastore, 1) := by decide +kernel
theorem dX6_demand_52 : decode cX6_demand 52 = .ok (.aload_n 0, 1) := by decide +kernel
theorem dX6_demand_53 : decode cX6_demand 53 = .ok (.getfield 53, 3) := by decide +kernel
theorem dX6_demand_56 : decode cX6_demand 56 = .ok (.invokevirtual 132, 3) := by decide +kernel
theorem dX6_demand_59 : decode cX6_demand 59 = .ok (.iload_n 3, 1) := by decide +kernel
theorem dX6_demand_60 : decode cX6_demand 60 = .ok (.ireturn, 1) := by decide +kernel
set_option maxRecDepth 20000 in
theorem ggX6_blade_X6_within : GoodIn wsX6_blade wsX6_within := goodIn_r _ [7] (by decide +kernel) (by decide +kernel)
set_option maxRecDepth 20000 in
theorem gX6_blade_X6_within : GoodIn wsX6_blade (va_wsS RX6 57 yX6_within wsX6_within) := goodIn_app (goodIn_of _ (by decide +kernel)) ggX6_blade_X6_within
set_option maxRecDepth 20000 in
theorem ggX6_blade_X0_forgetCosts : GoodIn wsX6_blade wsX0_forgetCosts := goodIn_r _ [12, 13, 14, 28, 29, 30, 31, 32, 33, 34, 35, 36, 37] (by decide +kernel) (by decide +kernel)
set_option maxRecDepth 20000 in
theorem gX6_blade_X0_forgetCosts : GoodIn wsX6_blade (wsV RX6 120 RX0 yX0_forgetCosts wsX0_forgetCosts) := goodIn_app (goodIn_of _ (by decide +kernel)) ggX6_blade_X0_forgetCosts
theorem dX6_blade_0 : decode cX6_blade 0 = .ok (.iload_n 1, 1) := by decide +kernel
theorem dX6_blade_1 : decode cX6_blade 1 = .ok (.iconst 0, 1) := by decide +kernel
theorem dX6_blade_2 : decode cX6_blade 2 = .ok (.iconst 3, 1) := by decide +kernel
theorem dX6_blade_3 : decode cX6_blade 3 = .ok (.invokestatic 57, 3) := by decide +kernel
theorem dX6_blade_6 : decode cX6_blade 6 = .ok (.ifCond .ne 6, 3) := by decide +kernel
theorem dX6_blade_9 : decode cX6_blade 9 = .ok (.bipush (-3), 2) := by decide +kernel
theorem dX6_blade_11 : decode cX6_blade 11 = .ok (.ireturn, 1) := by decide +kernel
theorem dX6_blade_12 : decode cX6_blade 12 = .ok (.aload_n 0, 1) := by decide +kernel
theorem dX6_blade_13 : decode cX6_blade 13 = .ok (.getfield 44, 3) := by decide +kernel
theorem dX6_blade_16 : decode cX6_blade 16 = .ok (.getfield 135, 3) := by decide +kernel
theorem dX6_blade_19 : decode cX6_blade 19 = .ok (.istore_n 2, 1) := by decide +kernel
theorem dX6_blade_20 : decode cX6_blade 20 = .ok (.aload_n 0, 1) := by decide +kernel
theorem dX6_blade_21 : decode cX6_blade 21 = .ok (.getfield 44, 3) := by decide +kernel
theorem dX6_blade_24 : decode cX6_blade 24 = .ok (.iload_n 1, 1) := by decide +kernel
theorem dX6_blade_25 : decode cX6_blade 25 = .ok (.putfield 135, 3) := by decide +kernel
theorem dX6_blade_28 : decode cX6_blade 28 = .ok (.aload_n 0, 1) := by decide +kernel
theorem dX6_blade_29 : decode cX6_blade 29 = .ok (.getfield 53, 3) := by decide +kernel
theorem dX6_blade_32 : decode cX6_blade 32 = .ok (.invokevirtual 120, 3) := by decide +kernel
theorem dX6_blade_35 : decode cX6_blade 35 = .ok (.iload_n 2, 1) := by decide +kernel
theorem dX6_blade_36 : decode cX6_blade 36 = .ok (.ireturn, 1) := by decide +kernel
set_option maxRecDepth 20000 in
theorem ggX6_price_X0_makeReady : GoodIn wsX6_price wsX0_makeReady := goodIn_r _ [8, 9, 10, 11, 12, 13, 14, 15, 16, 17, 18, 19, 7, 20, 21, 22, 23, 24, 25, 26, 27, 28, 29, 30, 31, 32, 33, 34, 35, 36, 37, 38, 39, 40, 41, 42, 43, 44, 45, 46, 47, 48, 49, 50, 51, 52, 53, 54, 55, 56, 57, 58, 59, 60, 61, 62, 63, 64, 65, 66, 67, 68, 69, 70, 71, 72, 73, 74, 75, 76, 77, 78, 85, 86, 87, 88, 89, 90, 91, 92, 93, 94, 95, 96, 97, 98, 99, 100, 101] (by decide +kernel) (by decide +kernel)
set_option maxRecDepth 20000 in
theorem gX6_price_X0_makeReady : GoodIn wsX6_price (wsV RX6 138 RX0 yX0_makeReady wsX0_makeReady) := goodIn_app (goodIn_of _ (by decide +kernel)) ggX6_price_X0_makeReady
theorem dX6_price_0 : decode cX6_price 0 = .ok (.aload_n 0, 1) := by decide +kernel
theorem dX6_price_1 : decode cX6_price 1 = .ok (.getfield 53, 3) := by decide +kernel
theorem dX6_price_4 : decode cX6_price 4 = .ok (.invokevirtual 138, 3) := by decide +kernel
theorem dX6_price_7 : decode cX6_price 7 = .ok (.aload_n 0, 1) := by decide +kernel
theorem dX6_price_8 : decode cX6_price 8 = .ok (.getfield 53, 3) := by decide +kernel
theorem dX6_price_11 : decode cX6_price 11 = .ok (.getfield 139, 3) := by decide +kernel
theorem dX6_price_14 : decode cX6_price 14 = .ok (.ifCond .eq 7, 3) := by decide +kernel
theorem dX6_price_17 : decode cX6_price 17 = .ok (.iconst (-1), 1) := by decide +kernel
theorem dX6_price_18 : decode cX6_price 18 = .ok (.goto 10, 3) := by decide +kernel
theorem dX6_price_21 : decode cX6_price 21 = .ok (.aload_n 0, 1) := by decide +kernel
theorem dX6_price_22 : decode cX6_price 22 = .ok (.getfield 53, 3) := by decide +kernel
theorem dX6_price_25 : decode cX6_price 25 = .ok (.getfield 143, 3) := by decide +kernel
theorem dX6_price_28 : decode cX6_price 28 = .ok (.ireturn, 1) := by decide +kernel
set_option maxRecDepth 20000 in
theorem ggX6_bars_X0_makeReady : GoodIn wsX6_bars wsX0_makeReady := goodIn_r _ [8, 9, 10, 11, 12, 13, 14, 15, 16, 17, 18, 19, 7, 20, 21, 22, 23, 24, 25, 26, 27, 28, 29, 30, 31, 32, 33, 34, 35, 36, 37, 38, 39, 40, 41, 42, 43, 44, 45, 46, 47, 48, 49, 50, 51, 52, 53, 54, 55, 56, 57, 58, 59, 60, 61, 62, 63, 64, 65, 66, 67, 68, 69, 70, 71, 72, 73, 74, 75, 76, 77, 78, 85, 86, 87, 88, 89, 90, 91, 92, 93, 94, 95, 96, 97, 98, 99, 100, 101] (by decide +kernel) (by decide +kernel)
set_option maxRecDepth 20000 in
theorem gX6_bars_X0_makeReady : GoodIn wsX6_bars (wsV RX6 138 RX0 yX0_makeReady wsX0_makeReady) := goodIn_app (goodIn_of _ (by decide +kernel)) ggX6_bars_X0_makeReady
theorem dX6_bars_0 : decode cX6_bars 0 = .ok (.aload_n 0, 1) := by decide +kernel
theorem dX6_bars_1 : decode cX6_bars 1 = .ok (.getfield 53, 3) := by decide +kernel
theorem dX6_bars_4 : decode cX6_bars 4 = .ok (.invokevirtual 138, 3) := by decide +kernel
theorem dX6_bars_7 : decode cX6_bars 7 = .ok (.aload_n 0, 1) := by decide +kernel
theorem dX6_bars_8 : decode cX6_bars 8 = .ok (.getfield 53, 3) := by decide +kernel
theorem dX6_bars_11 : decode cX6_bars 11 = .ok (.getfield 139, 3) := by decide +kernel
theorem dX6_bars_14 : decode cX6_bars 14 = .ok (.ifCond .eq 7, 3) := by decide +kernel
theorem dX6_bars_17 : decode cX6_bars 17 = .ok (.iconst (-1), 1) := by decide +kernel
theorem dX6_bars_18 : decode cX6_bars 18 = .ok (.goto 10, 3) := by decide +kernel
theorem dX6_bars_21 : decode cX6_bars 21 = .ok (.aload_n 0, 1) := by decide +kernel
theorem dX6_bars_22 : decode cX6_bars 22 = .ok (.getfield 53, 3) := by decide +kernel
theorem dX6_bars_25 : decode cX6_bars 25 = .ok (.getfield 146, 3) := by decide +kernel
theorem dX6_bars_28 : decode cX6_bars 28 = .ok (.ireturn, 1) := by decide +kernel
set_option maxRecDepth 20000 in
theorem ggX6_bar_X6_within : GoodIn wsX6_bar wsX6_within := goodIn_r _ [7] (by decide +kernel) (by decide +kernel)
set_option maxRecDepth 20000 in
theorem gX6_bar_X6_within : GoodIn wsX6_bar (va_wsS RX6 57 yX6_within wsX6_within) := goodIn_app (goodIn_of _ (by decide +kernel)) ggX6_bar_X6_within
set_option maxRecDepth 20000 in
theorem ggX6_bar_X0_makeReady : GoodIn wsX6_bar wsX0_makeReady := goodIn_r _ [12, 13, 14, 15, 16, 17, 18, 19, 20, 21, 22, 23, 11, 24, 25, 26, 27, 28, 29, 30, 31, 32, 33, 34, 35, 36, 37, 38, 39, 40, 5, 6, 7, 41, 42, 43, 44, 45, 46, 47, 48, 49, 50, 51, 52, 53, 54, 55, 56, 57, 58, 59, 60, 61, 62, 63, 64, 65, 66, 67, 68, 69, 70, 71, 72, 73, 74, 75, 76, 77, 78, 79, 91, 92, 93, 94, 95, 96, 97, 98, 99, 100, 101, 102, 103, 104, 105, 106, 107] (by decide +kernel) (by decide +kernel)
set_option maxRecDepth 20000 in
theorem gX6_bar_X0_makeReady : GoodIn wsX6_bar (wsV RX6 138 RX0 yX0_makeReady wsX0_makeReady) := goodIn_app (goodIn_of _ (by decide +kernel)) ggX6_bar_X0_makeReady
set_option maxRecDepth 20000 in
theorem ggX6_bar_X0_fact : GoodIn wsX6_bar wsX0_fact := goodIn_r _ [83, 16, 84, 53, 54, 11, 55, 46, 47, 48, 49, 50, 51, 52, 56, 57, 58, 28, 59, 60, 61, 62, 91, 92, 93, 94, 95, 96, 97, 98, 99, 100, 101, 102, 103, 104, 105, 106, 107] (by decide +kernel) (by decide +kernel)
set_option maxRecDepth 20000 in
theorem gX6_bar_X0_fact : GoodIn wsX6_bar (wsV RX6 150 RX0 yX0_fact wsX0_fact) := goodIn_app (goodIn_of _ (by decide +kernel)) ggX6_bar_X0_fact
theorem dX6_bar_0 : decode cX6_bar 0 = .ok (.iload_n 2, 1) := by decide +kernel
theorem dX6_bar_1 : decode cX6_bar 1 = .ok (.iconst 0, 1) := by decide +kernel
theorem dX6_bar_2 : decode cX6_bar 2 = .ok (.iconst 5, 1) := by decide +kernel
theorem dX6_bar_3 : decode cX6_bar 3 = .ok (.invokestatic 57, 3) := by decide +kernel
theorem dX6_bar_6 : decode cX6_bar 6 = .ok (.ifCond .ne 6, 3) := by decide +kernel
theorem dX6_bar_9 : decode cX6_bar 9 = .ok (.bipush (-3), 2) := by decide +kernel
theorem dX6_bar_11 : decode cX6_bar 11 = .ok (.ireturn, 1) := by decide +kernel
theorem dX6_bar_12 : decode cX6_bar 12 = .ok (.aload_n 0, 1) := by decide +kernel
theorem dX6_bar_13 : decode cX6_bar 13 = .ok (.getfield 53, 3) := by decide +kernel
theorem dX6_bar_16 : decode cX6_bar 16 = .ok (.invokevirtual 138, 3) := by decide +kernel
theorem dX6_bar_19 : decode cX6_bar 19 = .ok (.iload_n 1, 1) := by decide +kernel
theorem dX6_bar_20 : decode cX6_bar 20 = .ok (.iconst 0, 1) := by decide +kernel
theorem dX6_bar_21 : decode cX6_bar 21 = .ok (.aload_n 0, 1) := by decide +kernel
theorem dX6_bar_22 : decode cX6_bar 22 = .ok (.getfield 53, 3) := by decide +kernel
theorem dX6_bar_25 : decode cX6_bar 25 = .ok (.getfield 146, 3) := by decide +kernel
theorem dX6_bar_28 : decode cX6_bar 28 = .ok (.iconst 1, 1) := by decide +kernel
theorem dX6_bar_29 : decode cX6_bar 29 = .ok (.isub, 1) := by decide +kernel
theorem dX6_bar_30 : decode cX6_bar 30 = .ok (.invokestatic 57, 3) := by decide +kernel
theorem dX6_bar_33 : decode cX6_bar 33 = .ok (.ifCond .eq 23, 3) := by decide +kernel
theorem dX6_bar_36 : decode cX6_bar 36 = .ok (.aload_n 0, 1) := by decide +kernel
theorem dX6_bar_37 : decode cX6_bar 37 = .ok (.getfield 53, 3) := by decide +kernel
theorem dX6_bar_40 : decode cX6_bar 40 = .ok (.aload_n 0, 1) := by decide +kernel
theorem dX6_bar_41 : decode cX6_bar 41 = .ok (.getfield 53, 3) := by decide +kernel
theorem dX6_bar_44 : decode cX6_bar 44 = .ok (.getfield 147, 3) := by decide +kernel
theorem dX6_bar_47 : decode cX6_bar 47 = .ok (.iload_n 1, 1) := by decide +kernel
theorem dX6_bar_48 : decode cX6_bar 48 = .ok (.iaload, 1) := by decide +kernel
theorem dX6_bar_49 : decode cX6_bar 49 = .ok (.iload_n 2, 1) := by decide +kernel
theorem dX6_bar_50 : decode cX6_bar 50 = .ok (.invokevirtual 150, 3) := by decide +kernel
theorem dX6_bar_53 : decode cX6_bar 53 = .ok (.goto 4, 3) := by decide +kernel
theorem dX6_bar_56 : decode cX6_bar 56 = .ok (.iconst (-1), 1) := by decide +kernel
theorem dX6_bar_57 : decode cX6_bar 57 = .ok (.ireturn, 1) := by decide +kernel
theorem dX6_told_0 : decode cX6_told 0 = .ok (.iload_n 1, 1) := by decide +kernel
theorem dX6_told_1 : decode cX6_told 1 = .ok (.tableswitch 135 0 9 #[55, 63, 71, 79, 87, 95, 103, 111, 119, 127], 55) := by decide +kernel
theorem dX6_told_56 : decode cX6_told 56 = .ok (.aload_n 0, 1) := by decide +kernel
theorem dX6_told_57 : decode cX6_told 57 = .ok (.getfield 23, 3) := by decide +kernel
theorem dX6_told_60 : decode cX6_told 60 = .ok (.getfield 153, 3) := by decide +kernel
theorem dX6_told_63 : decode cX6_told 63 = .ok (.ireturn, 1) := by decide +kernel
theorem dX6_told_64 : decode cX6_told 64 = .ok (.aload_n 0, 1) := by decide +kernel
theorem dX6_told_65 : decode cX6_told 65 = .ok (.getfield 23, 3) := by decide +kernel
theorem dX6_told_68 : decode cX6_told 68 = .ok (.getfield 156, 3) := by decide +kernel
theorem dX6_told_71 : decode cX6_told 71 = .ok (.ireturn, 1) := by decide +kernel
theorem dX6_told_72 : decode cX6_told 72 = .ok (.aload_n 0, 1) := by decide +kernel
theorem dX6_told_73 : decode cX6_told 73 = .ok (.getfield 23, 3) := by decide +kernel
theorem dX6_told_76 : decode cX6_told 76 = .ok (.getfield 159, 3) := by decide +kernel
theorem dX6_told_79 : decode cX6_told 79 = .ok (.ireturn, 1) := by decide +kernel
theorem dX6_told_80 : decode cX6_told 80 = .ok (.aload_n 0, 1) := by decide +kernel
theorem dX6_told_81 : decode cX6_told 81 = .ok (.getfield 23, 3) := by decide +kernel
theorem dX6_told_84 : decode cX6_told 84 = .ok (.getfield 90, 3) := by decide +kernel
theorem dX6_told_87 : decode cX6_told 87 = .ok (.ireturn, 1) := by decide +kernel
theorem dX6_told_88 : decode cX6_told 88 = .ok (.aload_n 0, 1) := by decide +kernel
theorem dX6_told_89 : decode cX6_told 89 = .ok (.getfield 23, 3) := by decide +kernel
theorem dX6_told_92 : decode cX6_told 92 = .ok (.getfield 162, 3) := by decide +kernel
theorem dX6_told_95 : decode cX6_told 95 = .ok (.ireturn, 1) := by decide +kernel
theorem dX6_told_96 : decode cX6_told 96 = .ok (.aload_n 0, 1) := by decide +kernel
theorem dX6_told_97 : decode cX6_told 97 = .ok (.getfield 23, 3) := by decide +kernel
theorem dX6_told_100 : decode cX6_told 100 = .ok (.getfield 75, 3) := by decide +kernel
theorem dX6_told_103 : decode cX6_told 103 = .ok (.ireturn, 1) := by decide +kernel
theorem dX6_told_104 : decode cX6_told 104 = .ok (.aload_n 0, 1) := by decide +kernel
theorem dX6_told_105 : decode cX6_told 105 = .ok (.getfield 27, 3) := by decide +kernel
theorem dX6_told_108 : decode cX6_told 108 = .ok (.getfield 83, 3) := by decide +kernel
theorem dX6_told_111 : decode cX6_told 111 = .ok (.ireturn, 1) := by decide +kernel
theorem dX6_told_112 : decode cX6_told 112 = .ok (.aload_n 0, 1) := by decide +kernel
theorem dX6_told_113 : decode cX6_told 113 = .ok (.getfield 44, 3) := by decide +kernel
theorem dX6_told_116 : decode cX6_told 116 = .ok (.getfield 165, 3) := by decide +kernel
theorem dX6_told_119 : decode cX6_told 119 = .ok (.ireturn, 1) := by decide +kernel
theorem dX6_told_120 : decode cX6_told 120 = .ok (.aload_n 0, 1) := by decide +kernel
theorem dX6_told_121 : decode cX6_told 121 = .ok (.getfield 44, 3) := by decide +kernel
theorem dX6_told_124 : decode cX6_told 124 = .ok (.getfield 126, 3) := by decide +kernel
theorem dX6_told_127 : decode cX6_told 127 = .ok (.ireturn, 1) := by decide +kernel
theorem dX6_told_128 : decode cX6_told 128 = .ok (.aload_n 0, 1) := by decide +kernel
theorem dX6_told_129 : decode cX6_told 129 = .ok (.getfield 44, 3) := by decide +kernel
theorem dX6_told_132 : decode cX6_told 132 = .ok (.getfield 135, 3) := by decide +kernel
theorem dX6_told_135 : decode cX6_told 135 = .ok (.ireturn, 1) := by decide +kernel
theorem dX6_told_136 : decode cX6_told 136 = .ok (.bipush (-3), 2) := by decide +kernel
theorem dX6_told_138 : decode cX6_told 138 = .ok (.ireturn, 1) := by decide +kernel
set_option maxRecDepth 20000 in
theorem ggX6_noKinds_X2_forget : GoodIn wsX6_noKinds wsX2_forget := goodIn_r _ [8, 9, 10, 11, 12, 13, 14, 15, 16, 28, 29, 30, 31, 32, 33, 34, 35, 36, 37, 38, 39, 40, 41] (by decide +kernel) (by decide +kernel)
set_option maxRecDepth 20000 in
theorem gX6_noKinds_X2_forget : GoodIn wsX6_noKinds (wsV RX6 65 RX2 yX2_forget wsX2_forget) := goodIn_app (goodIn_of _ (by decide +kernel)) ggX6_noKinds_X2_forget
theorem dX6_noKinds_0 : decode cX6_noKinds 0 = .ok (.aload_n 0, 1) := by decide +kernel
theorem dX6_noKinds_1 : decode cX6_noKinds 1 = .ok (.getfield 27, 3) := by decide +kernel
theorem dX6_noKinds_4 : decode cX6_noKinds 4 = .ok (.getfield 83, 3) := by decide +kernel
theorem dX6_noKinds_7 : decode cX6_noKinds 7 = .ok (.istore_n 1, 1) := by decide +kernel
theorem dX6_noKinds_8 : decode cX6_noKinds 8 = .ok (.aload_n 0, 1) := by decide +kernel
theorem dX6_noKinds_9 : decode cX6_noKinds 9 = .ok (.getfield 27, 3) := by decide +kernel
theorem dX6_noKinds_12 : decode cX6_noKinds 12 = .ok (.iconst 0, 1) := by decide +kernel
theorem dX6_noKinds_13 : decode cX6_noKinds 13 = .ok (.putfield 83, 3) := by decide +kernel
theorem dX6_noKinds_16 : decode cX6_noKinds 16 = .ok (.aload_n 0, 1) := by decide +kernel
theorem dX6_noKinds_17 : decode cX6_noKinds 17 = .ok (.getfield 40, 3) := by decide +kernel
theorem dX6_noKinds_20 : decode cX6_noKinds 20 = .ok (.invokevirtual 65, 3) := by decide +kernel
theorem dX6_noKinds_23 : decode cX6_noKinds 23 = .ok (.iload_n 1, 1) := by decide +kernel
theorem dX6_noKinds_24 : decode cX6_noKinds 24 = .ok (.ireturn, 1) := by decide +kernel
set_option maxRecDepth 20000 in
theorem ggX6_noBars_X0_forgetCosts : GoodIn wsX6_noBars wsX0_forgetCosts := goodIn_r _ [9, 10, 11, 25, 26, 27, 28, 29, 30, 31, 32, 33, 34] (by decide +kernel) (by decide +kernel)
set_option maxRecDepth 20000 in
theorem gX6_noBars_X0_forgetCosts : GoodIn wsX6_noBars (wsV RX6 120 RX0 yX0_forgetCosts wsX0_forgetCosts) := goodIn_app (goodIn_of _ (by decide +kernel)) ggX6_noBars_X0_forgetCosts
theorem dX6_noBars_0 : decode cX6_noBars 0 = .ok (.aload_n 0, 1) := by decide +kernel
theorem dX6_noBars_1 : decode cX6_noBars 1 = .ok (.getfield 44, 3) := by decide +kernel
theorem dX6_noBars_4 : decode cX6_noBars 4 = .ok (.getfield 165, 3) := by decide +kernel
theorem dX6_noBars_7 : decode cX6_noBars 7 = .ok (.aload_n 0, 1) := by decide +kernel
theorem dX6_noBars_8 : decode cX6_noBars 8 = .ok (.getfield 44, 3) := by decide +kernel
theorem dX6_noBars_11 : decode cX6_noBars 11 = .ok (.getfield 126, 3) := by decide +kernel
theorem dX6_noBars_14 : decode cX6_noBars 14 = .ok (.iadd, 1) := by decide +kernel
theorem dX6_noBars_15 : decode cX6_noBars 15 = .ok (.istore_n 1, 1) := by decide +kernel
theorem dX6_noBars_16 : decode cX6_noBars 16 = .ok (.aload_n 0, 1) := by decide +kernel
theorem dX6_noBars_17 : decode cX6_noBars 17 = .ok (.getfield 44, 3) := by decide +kernel
theorem dX6_noBars_20 : decode cX6_noBars 20 = .ok (.iconst 0, 1) := by decide +kernel
theorem dX6_noBars_21 : decode cX6_noBars 21 = .ok (.putfield 165, 3) := by decide +kernel
theorem dX6_noBars_24 : decode cX6_noBars 24 = .ok (.aload_n 0, 1) := by decide +kernel
theorem dX6_noBars_25 : decode cX6_noBars 25 = .ok (.getfield 44, 3) := by decide +kernel
theorem dX6_noBars_28 : decode cX6_noBars 28 = .ok (.iconst 0, 1) := by decide +kernel
theorem dX6_noBars_29 : decode cX6_noBars 29 = .ok (.putfield 126, 3) := by decide +kernel
theorem dX6_noBars_32 : decode cX6_noBars 32 = .ok (.aload_n 0, 1) := by decide +kernel
theorem dX6_noBars_33 : decode cX6_noBars 33 = .ok (.getfield 53, 3) := by decide +kernel
theorem dX6_noBars_36 : decode cX6_noBars 36 = .ok (.invokevirtual 120, 3) := by decide +kernel
theorem dX6_noBars_39 : decode cX6_noBars 39 = .ok (.iload_n 1, 1) := by decide +kernel
theorem dX6_noBars_40 : decode cX6_noBars 40 = .ok (.ireturn, 1) := by decide +kernel
theorem dX6_within_0 : decode cX6_within 0 = .ok (.iload_n 0, 1) := by decide +kernel
theorem dX6_within_1 : decode cX6_within 1 = .ok (.iload_n 1, 1) := by decide +kernel
theorem dX6_within_2 : decode cX6_within 2 = .ok (.if_icmp .lt 12, 3) := by decide +kernel
theorem dX6_within_5 : decode cX6_within 5 = .ok (.iload_n 0, 1) := by decide +kernel
theorem dX6_within_6 : decode cX6_within 6 = .ok (.iload_n 2, 1) := by decide +kernel
theorem dX6_within_7 : decode cX6_within 7 = .ok (.if_icmp .gt 7, 3) := by decide +kernel
theorem dX6_within_10 : decode cX6_within 10 = .ok (.iconst 1, 1) := by decide +kernel
theorem dX6_within_11 : decode cX6_within 11 = .ok (.goto 4, 3) := by decide +kernel
theorem dX6_within_14 : decode cX6_within 14 = .ok (.iconst 0, 1) := by decide +kernel
theorem dX6_within_15 : decode cX6_within 15 = .ok (.ireturn, 1) := by decide +kernel
theorem dX7_init_0 : decode cX7_init 0 = .ok (.aload_n 0, 1) := by decide +kernel
theorem dX7_init_1 : decode cX7_init 1 = .ok (.invokespecial 1, 3) := by decide +kernel
theorem dX7_init_4 : decode cX7_init 4 = .ok (.aload_n 0, 1) := by decide +kernel
theorem dX7_init_5 : decode cX7_init 5 = .ok (.iconst 1, 1) := by decide +kernel
theorem dX7_init_6 : decode cX7_init 6 = .ok (.putfield 7, 3) := by decide +kernel
theorem dX7_init_9 : decode cX7_init 9 = .ok (.aload_n 0, 1) := by decide +kernel
theorem dX7_init_10 : decode cX7_init 10 = .ok (.iconst 1, 1) := by decide +kernel
theorem dX7_init_11 : decode cX7_init 11 = .ok (.putfield 13, 3) := by decide +kernel
theorem dX7_init_14 : decode cX7_init 14 = .ok (.aload_n 0, 1) := by decide +kernel
theorem dX7_init_15 : decode cX7_init 15 = .ok (.iconst 1, 1) := by decide +kernel
theorem dX7_init_16 : decode cX7_init 16 = .ok (.putfield 16, 3) := by decide +kernel
theorem dX7_init_19 : decode cX7_init 19 = .ok (.aload_n 0, 1) := by decide +kernel
theorem dX7_init_20 : decode cX7_init 20 = .ok (.bipush 6, 2) := by decide +kernel
theorem dX7_init_22 : decode cX7_init 22 = .ok (.newarray .int, 2) := by decide +kernel
theorem dX7_init_24 : decode cX7_init 24 = .ok (.putfield 19, 3) := by decide +kernel
theorem dX7_init_27 : decode cX7_init 27 = .ok (.aload_n 0, 1) := by decide +kernel
theorem dX7_init_28 : decode cX7_init 28 = .ok (.bipush 6, 2) := by decide +kernel
theorem dX7_init_30 : decode cX7_init 30 = .ok (.newarray .int, 2) := by decide +kernel
theorem dX7_init_32 : decode cX7_init 32 = .ok (.putfield 23, 3) := by decide +kernel
theorem dX7_init_35 : decode cX7_init 35 = .ok (.aload_n 0, 1) := by decide +kernel
theorem dX7_init_36 : decode cX7_init 36 = .ok (.bipush 6, 2) := by decide +kernel
theorem dX7_init_38 : decode cX7_init 38 = .ok (.newarray .int, 2) := by decide +kernel
theorem dX7_init_40 : decode cX7_init 40 = .ok (.putfield 26, 3) := by decide +kernel
theorem dX7_init_43 : decode cX7_init 43 = .ok (.aload_n 0, 1) := by decide +kernel
theorem dX7_init_44 : decode cX7_init 44 = .ok (.bipush 6, 2) := by decide +kernel
theorem dX7_init_46 : decode cX7_init 46 = .ok (.newarray .int, 2) := by decide +kernel
theorem dX7_init_48 : decode cX7_init 48 = .ok (.putfield 29, 3) := by decide +kernel
theorem dX7_init_51 : decode cX7_init 51 = .ok (.aload_n 0, 1) := by decide +kernel
theorem dX7_init_52 : decode cX7_init 52 = .ok (.bipush 8, 2) := by decide +kernel
theorem dX7_init_54 : decode cX7_init 54 = .ok (.newarray .int, 2) := by decide +kernel
theorem dX7_init_56 : decode cX7_init 56 = .ok (.putfield 32, 3) := by decide +kernel
theorem dX7_init_59 : decode cX7_init 59 = .ok (.aload_n 0, 1) := by decide +kernel
theorem dX7_init_60 : decode cX7_init 60 = .ok (.bipush 8, 2) := by decide +kernel
theorem dX7_init_62 : decode cX7_init 62 = .ok (.newarray .int, 2) := by decide +kernel
theorem dX7_init_64 : decode cX7_init 64 = .ok (.putfield 35, 3) := by decide +kernel
theorem dX7_init_67 : decode cX7_init 67 = .ok (.aload_n 0, 1) := by decide +kernel
theorem dX7_init_68 : decode cX7_init 68 = .ok (.bipush 8, 2) := by decide +kernel
theorem dX7_init_70 : decode cX7_init 70 = .ok (.newarray .int, 2) := by decide +kernel
theorem dX7_init_72 : decode cX7_init 72 = .ok (.putfield 38, 3) := by decide +kernel
theorem dX7_init_75 : decode cX7_init 75 = .ok (.aload_n 0, 1) := by decide +kernel
theorem dX7_init_76 : decode cX7_init 76 = .ok (.bipush 8, 2) := by decide +kernel
theorem dX7_init_78 : decode cX7_init 78 = .ok (.newarray .boolean, 2) := by decide +kernel
theorem dX7_init_80 : decode cX7_init 80 = .ok (.putfield 41, 3) := by decide +kernel
theorem dX7_init_83 : decode cX7_init 83 = .ok (.aload_n 0, 1) := by decide +kernel
theorem dX7_init_84 : decode cX7_init 84 = .ok (.sipush 256, 3) := by decide +kernel
theorem dX7_init_87 : decode cX7_init 87 = .ok (.newarray .int, 2) := by decide +kernel
theorem dX7_init_89 : decode cX7_init 89 = .ok (.putfield 45, 3) := by decide +kernel
theorem dX7_init_92 : decode cX7_init 92 = .ok (.aload_n 0, 1) := by decide +kernel
theorem dX7_init_93 : decode cX7_init 93 = .ok (.ldc 48, 2) := by decide +kernel
theorem dX7_init_95 : decode cX7_init 95 = .ok (.newarray .int, 2) := by decide +kernel
theorem dX7_init_97 : decode cX7_init 97 = .ok (.putfield 49, 3) := by decide +kernel
theorem dX7_init_100 : decode cX7_init 100 = .ok (.aload_n 0, 1) := by decide +kernel
theorem dX7_init_101 : decode cX7_init 101 = .ok (.sipush 256, 3) := by decide +kernel
theorem dX7_init_104 : decode cX7_init 104 = .ok (.newarray .int, 2) := by decide +kernel
theorem dX7_init_106 : decode cX7_init 106 = .ok (.putfield 52, 3) := by decide +kernel
theorem dX7_init_109 : decode cX7_init 109 = .ok (.aload_n 0, 1) := by decide +kernel
theorem dX7_init_110 : decode cX7_init 110 = .ok (.sipush 256, 3) := by decide +kernel
theorem dX7_init_113 : decode cX7_init 113 = .ok (.newarray .int, 2) := by decide +kernel
theorem dX7_init_115 : decode cX7_init 115 = .ok (.putfield 55, 3) := by decide +kernel
theorem dX7_init_118 : decode cX7_init 118 = .ok (.aload_n 0, 1) := by decide +kernel
theorem dX7_init_119 : decode cX7_init 119 = .ok (.sipush 256, 3) := by decide +kernel
theorem dX7_init_122 : decode cX7_init 122 = .ok (.newarray .int, 2) := by decide +kernel
theorem dX7_init_124 : decode cX7_init 124 = .ok (.putfield 58, 3) := by decide +kernel
theorem dX7_init_127 : decode cX7_init 127 = .ok (.aload_n 0, 1) := by decide +kernel
theorem dX7_init_128 : decode cX7_init 128 = .ok (.sipush 256, 3) := by decide +kernel
theorem dX7_init_131 : decode cX7_init 131 = .ok (.newarray .int, 2) := by decide +kernel
theorem dX7_init_133 : decode cX7_init 133 = .ok (.putfield 61, 3) := by decide +kernel
theorem dX7_init_136 : decode cX7_init 136 = .ok (.aload_n 0, 1) := by decide +kernel
theorem dX7_init_137 : decode cX7_init 137 = .ok (.sipush 256, 3) := by decide +kernel
theorem dX7_init_140 : decode cX7_init 140 = .ok (.newarray .int, 2) := by decide +kernel
theorem dX7_init_142 : decode cX7_init 142 = .ok (.putfield 64, 3) := by decide +kernel
theorem dX7_init_145 : decode cX7_init 145 = .ok (.aload_n 0, 1) := by decide +kernel
theorem dX7_init_146 : decode cX7_init 146 = .ok (.sipush 256, 3) := by decide +kernel
theorem dX7_init_149 : decode cX7_init 149 = .ok (.newarray .int, 2) := by decide +kernel
theorem dX7_init_151 : decode cX7_init 151 = .ok (.putfield 67, 3) := by decide +kernel
theorem dX7_init_154 : decode cX7_init 154 = .ok (.aload_n 0, 1) := by decide +kernel
theorem dX7_init_155 : decode cX7_init 155 = .ok (.sipush 256, 3) := by decide +kernel
theorem dX7_init_158 : decode cX7_init 158 = .ok (.newarray .int, 2) := by decide +kernel
theorem dX7_init_160 : decode cX7_init 160 = .ok (.putfield 70, 3) := by decide +kernel
theorem dX7_init_163 : decode cX7_init 163 = .ok (.aload_n 0, 1) := by decide +kernel
theorem dX7_init_164 : decode cX7_init 164 = .ok (.sipush 256, 3) := by decide +kernel
theorem dX7_init_167 : decode cX7_init 167 = .ok (.newarray .int, 2) := by decide +kernel
theorem dX7_init_169 : decode cX7_init 169 = .ok (.putfield 73, 3) := by decide +kernel
theorem dX7_init_172 : decode cX7_init 172 = .ok (.aload_n 0, 1) := by decide +kernel
theorem dX7_init_173 : decode cX7_init 173 = .ok (.sipush 256, 3) := by decide +kernel
theorem dX7_init_176 : decode cX7_init 176 = .ok (.newarray .int, 2) := by decide +kernel
theorem dX7_init_178 : decode cX7_init 178 = .ok (.putfield 76, 3) := by decide +kernel
theorem dX7_init_181 : decode cX7_init 181 = .ok (.aload_n 0, 1) := by decide +kernel
theorem dX7_init_182 : decode cX7_init 182 = .ok (.sipush 256, 3) := by decide +kernel
theorem dX7_init_185 : decode cX7_init 185 = .ok (.newarray .int, 2) := by decide +kernel
theorem dX7_init_187 : decode cX7_init 187 = .ok (.putfield 79, 3) := by decide +kernel
theorem dX7_init_190 : decode cX7_init 190 = .ok (.aload_n 0, 1) := by decide +kernel
theorem dX7_init_191 : decode cX7_init 191 = .ok (.sipush 1300, 3) := by decide +kernel
theorem dX7_init_194 : decode cX7_init 194 = .ok (.newarray .int, 2) := by decide +kernel
theorem dX7_init_196 : decode cX7_init 196 = .ok (.putfield 82, 3) := by decide +kernel
theorem dX7_init_199 : decode cX7_init 199 = .ok (.aload_n 0, 1) := by decide +kernel
theorem dX7_init_200 : decode cX7_init 200 = .ok (.iconst 3, 1) := by decide +kernel
theorem dX7_init_201 : decode cX7_init 201 = .ok (.newarray .int, 2) := by decide +kernel
theorem dX7_init_203 : decode cX7_init 203 = .ok (.putfield 85, 3) := by decide +kernel
theorem dX7_init_206 : decode cX7_init 206 = .ok (.aload_n 0, 1) := by decide +kernel
theorem dX7_init_207 : decode cX7_init 207 = .ok (.iconst 3, 1) := by decide +kernel
theorem dX7_init_208 : decode cX7_init 208 = .ok (.newarray .int, 2) := by decide +kernel
theorem dX7_init_210 : decode cX7_init 210 = .ok (.putfield 88, 3) := by decide +kernel
theorem dX7_init_213 : decode cX7_init 213 = .ok (.aload_n 0, 1) := by decide +kernel
theorem dX7_init_214 : decode cX7_init 214 = .ok (.iconst 4, 1) := by decide +kernel
theorem dX7_init_215 : decode cX7_init 215 = .ok (.newarray .int, 2) := by decide +kernel
theorem dX7_init_217 : decode cX7_init 217 = .ok (.putfield 91, 3) := by decide +kernel
theorem dX7_init_220 : decode cX7_init 220 = .ok (.aload_n 0, 1) := by decide +kernel
theorem dX7_init_221 : decode cX7_init 221 = .ok (.iconst 4, 1) := by decide +kernel
theorem dX7_init_222 : decode cX7_init 222 = .ok (.newarray .int, 2) := by decide +kernel
theorem dX7_init_224 : decode cX7_init 224 = .ok (.putfield 94, 3) := by decide +kernel
theorem dX7_init_227 : decode cX7_init 227 = .ok (.aload_n 0, 1) := by decide +kernel
theorem dX7_init_228 : decode cX7_init 228 = .ok (.sipush 1296, 3) := by decide +kernel
theorem dX7_init_231 : decode cX7_init 231 = .ok (.newarray .int, 2) := by decide +kernel
theorem dX7_init_233 : decode cX7_init 233 = .ok (.putfield 97, 3) := by decide +kernel
theorem dX7_init_236 : decode cX7_init 236 = .ok (.aload_n 0, 1) := by decide +kernel
theorem dX7_init_237 : decode cX7_init 237 = .ok (.sipush 1296, 3) := by decide +kernel
theorem dX7_init_240 : decode cX7_init 240 = .ok (.newarray .int, 2) := by decide +kernel
theorem dX7_init_242 : decode cX7_init 242 = .ok (.putfield 100, 3) := by decide +kernel
theorem dX7_init_245 : decode cX7_init 245 = .ok (.aload_n 0, 1) := by decide +kernel
theorem dX7_init_246 : decode cX7_init 246 = .ok (.sipush 1296, 3) := by decide +kernel
theorem dX7_init_249 : decode cX7_init 249 = .ok (.newarray .int, 2) := by decide +kernel
theorem dX7_init_251 : decode cX7_init 251 = .ok (.putfield 103, 3) := by decide +kernel
theorem dX7_init_254 : decode cX7_init 254 = .ok (.aload_n 0, 1) := by decide +kernel
theorem dX7_init_255 : decode cX7_init 255 = .ok (.sipush 1296, 3) := by decide +kernel
theorem dX7_init_258 : decode cX7_init 258 = .ok (.newarray .int, 2) := by decide +kernel
theorem dX7_init_260 : decode cX7_init 260 = .ok (.putfield 106, 3) := by decide +kernel
theorem dX7_init_263 : decode cX7_init 263 = .ok (.aload_n 0, 1) := by decide +kernel
theorem dX7_init_264 : decode cX7_init 264 = .ok (.bipush 20, 2) := by decide +kernel
theorem dX7_init_266 : decode cX7_init 266 = .ok (.newarray .int, 2) := by decide +kernel
theorem dX7_init_268 : decode cX7_init 268 = .ok (.putfield 109, 3) := by decide +kernel
theorem dX7_init_271 : decode cX7_init 271 = .ok (.iconst 0, 1) := by decide +kernel
theorem dX7_init_272 : decode cX7_init 272 = .ok (.istore_n 1, 1) := by decide +kernel
theorem dX7_init_273 : decode cX7_init 273 = .ok (.iconst 1, 1) := by decide +kernel
theorem dX7_init_274 : decode cX7_init 274 = .ok (.istore_n 2, 1) := by decide +kernel
theorem dX7_init_275 : decode cX7_init 275 = .ok (.iload_n 2, 1) := by decide +kernel
theorem dX7_init_276 : decode cX7_init 276 = .ok (.bipush 16, 2) := by decide +kernel
theorem dX7_init_278 : decode cX7_init 278 = .ok (.if_icmp .gt 42, 3) := by decide +kernel
theorem dX7_init_281 : decode cX7_init 281 = .ok (.iconst 0, 1) := by decide +kernel
theorem dX7_init_282 : decode cX7_init 282 = .ok (.istore_n 3, 1) := by decide +kernel
theorem dX7_init_283 : decode cX7_init 283 = .ok (.iload_n 3, 1) := by decide +kernel
theorem dX7_init_284 : decode cX7_init 284 = .ok (.iload_n 2, 1) := by decide +kernel
theorem dX7_init_285 : decode cX7_init 285 = .ok (.iadd, 1) := by decide +kernel
theorem dX7_init_286 : decode cX7_init 286 = .ok (.bipush 16, 2) := by decide +kernel
theorem dX7_init_288 : decode cX7_init 288 = .ok (.if_icmp .gt 26, 3) := by decide +kernel
theorem dX7_init_291 : decode cX7_init 291 = .ok (.aload_n 0, 1) := by decide +kernel
theorem dX7_init_292 : decode cX7_init 292 = .ok (.getfield 45, 3) := by decide +kernel
theorem dX7_init_295 : decode cX7_init 295 = .ok (.bipush 16, 2) := by decide +kernel
theorem dX7_init_297 : decode cX7_init 297 = .ok (.iload_n 3, 1) := by decide +kernel
theorem dX7_init_298 : decode cX7_init 298 = .ok (.imul, 1) := by decide +kernel
theorem dX7_init_299 : decode cX7_init 299 = .ok (.iload_n 2, 1) := by decide +kernel
theorem dX7_init_300 : decode cX7_init 300 = .ok (.iadd, 1) := by decide +kernel
theorem dX7_init_301 : decode cX7_init 301 = .ok (.iconst 1, 1) := by decide +kernel
theorem dX7_init_302 : decode cX7_init 302 = .ok (.isub, 1) := by decide +kernel
theorem dX7_init_303 : decode cX7_init 303 = .ok (.iload_n 1, 1) := by decide +kernel
theorem dX7_init_304 : decode cX7_init 304 = .ok (.iastore, 1) := by decide +kernel
theorem dX7_init_305 : decode cX7_init 305 = .ok (.iinc 1 1, 3) := by decide +kernel
theorem dX7_init_308 : decode cX7_init 308 = .ok (.iinc 3 1, 3) := by decide +kernel
theorem dX7_init_311 : decode cX7_init 311 = .ok (.goto (-28), 3) := by decide +kernel
theorem dX7_init_314 : decode cX7_init 314 = .ok (.iinc 2 1, 3) := by decide +kernel
theorem dX7_init_317 : decode cX7_init 317 = .ok (.goto (-42), 3) := by decide +kernel
theorem dX7_init_320 : decode cX7_init 320 = .ok (.return_, 1) := by decide +kernel
theorem dX7_within_0 : decode cX7_within 0 = .ok (.iload_n 0, 1) := by decide +kernel
theorem dX7_within_1 : decode cX7_within 1 = .ok (.iload_n 1, 1) := by decide +kernel
theorem dX7_within_2 : decode cX7_within 2 = .ok (.if_icmp .lt 12, 3) := by decide +kernel
theorem dX7_within_5 : decode cX7_within 5 = .ok (.iload_n 0, 1) := by decide +kernel
theorem dX7_within_6 : decode cX7_within 6 = .ok (.iload_n 2, 1) := by decide +kernel
theorem dX7_within_7 : decode cX7_within 7 = .ok (.if_icmp .gt 7, 3) := by decide +kernel
theorem dX7_within_10 : decode cX7_within 10 = .ok (.iconst 1, 1) := by decide +kernel
theorem dX7_within_11 : decode cX7_within 11 = .ok (.goto 4, 3) := by decide +kernel
theorem dX7_within_14 : decode cX7_within 14 = .ok (.iconst 0, 1) := by decide +kernel
theorem dX7_within_15 : decode cX7_within 15 = .ok (.ireturn, 1) := by decide +kernel
set_option maxRecDepth 20000 in
theorem ggX7_plate_X7_within : GoodIn wsX7_plate wsX7_within := goodIn_r _ [11] (by decide +kernel) (by decide +kernel)
set_option maxRecDepth 20000 in
theorem gX7_plate_X7_within : GoodIn wsX7_plate (va_wsS RX7 112 yX7_within wsX7_within) := goodIn_app (goodIn_of _ (by decide +kernel)) ggX7_plate_X7_within
theorem dX7_plate_0 : decode cX7_plate 0 = .ok (.iload_n 1, 1) := by decide +kernel
theorem dX7_plate_1 : decode cX7_plate 1 = .ok (.iconst 1, 1) := by decide +kernel
theorem dX7_plate_2 : decode cX7_plate 2 = .ok (.bipush 16, 2) := by decide +kernel
theorem dX7_plate_4 : decode cX7_plate 4 = .ok (.invokestatic 112, 3) := by decide +kernel
theorem dX7_plate_7 : decode cX7_plate 7 = .ok (.ifCond .eq 42, 3) := by decide +kernel
theorem dX7_plate_10 : decode cX7_plate 10 = .ok (.iload_n 2, 1) := by decide +kernel
theorem dX7_plate_11 : decode cX7_plate 11 = .ok (.iconst 1, 1) := by decide +kernel
theorem dX7_plate_12 : decode cX7_plate 12 = .ok (.bipush 16, 2) := by decide +kernel
theorem dX7_plate_14 : decode cX7_plate 14 = .ok (.invokestatic 112, 3) := by decide +kernel
theorem dX7_plate_17 : decode cX7_plate 17 = .ok (.ifCond .eq 32, 3) := by decide +kernel
theorem dX7_plate_20 : decode cX7_plate 20 = .ok (.iload_n 3, 1) := by decide +kernel
theorem dX7_plate_21 : decode cX7_plate 21 = .ok (.iconst 0, 1) := by decide +kernel
theorem dX7_plate_22 : decode cX7_plate 22 = .ok (.iconst 2, 1) := by decide +kernel
theorem dX7_plate_23 : decode cX7_plate 23 = .ok (.invokestatic 112, 3) := by decide +kernel
theorem dX7_plate_26 : decode cX7_plate 26 = .ok (.ifCond .eq 23, 3) := by decide +kernel
theorem dX7_plate_29 : decode cX7_plate 29 = .ok (.iload 4, 2) := by decide +kernel
theorem dX7_plate_31 : decode cX7_plate 31 = .ok (.iconst 1, 1) := by decide +kernel
theorem dX7_plate_32 : decode cX7_plate 32 = .ok (.iconst 4, 1) := by decide +kernel
theorem dX7_plate_33 : decode cX7_plate 33 = .ok (.invokestatic 112, 3) := by decide +kernel
theorem dX7_plate_36 : decode cX7_plate 36 = .ok (.ifCond .eq 13, 3) := by decide +kernel
theorem dX7_plate_39 : decode cX7_plate 39 = .ok (.iload 5, 2) := by decide +kernel
theorem dX7_plate_41 : decode cX7_plate 41 = .ok (.iconst 0, 1) := by decide +kernel
theorem dX7_plate_42 : decode cX7_plate 42 = .ok (.iconst 1, 1) := by decide +kernel
theorem dX7_plate_43 : decode cX7_plate 43 = .ok (.invokestatic 112, 3) := by decide +kernel
theorem dX7_plate_46 : decode cX7_plate 46 = .ok (.ifCond .ne 6, 3) := by decide +kernel
theorem dX7_plate_49 : decode cX7_plate 49 = .ok (.bipush (-3), 2) := by decide +kernel
theorem dX7_plate_51 : decode cX7_plate 51 = .ok (.ireturn, 1) := by decide +kernel
theorem dX7_plate_52 : decode cX7_plate 52 = .ok (.aload_n 0, 1) := by decide +kernel
theorem dX7_plate_53 : decode cX7_plate 53 = .ok (.iload_n 1, 1) := by decide +kernel
theorem dX7_plate_54 : decode cX7_plate 54 = .ok (.putfield 7, 3) := by decide +kernel
theorem dX7_plate_57 : decode cX7_plate 57 = .ok (.aload_n 0, 1) := by decide +kernel
theorem dX7_plate_58 : decode cX7_plate 58 = .ok (.iload_n 2, 1) := by decide +kernel
theorem dX7_plate_59 : decode cX7_plate 59 = .ok (.putfield 13, 3) := by decide +kernel
theorem dX7_plate_62 : decode cX7_plate 62 = .ok (.aload_n 0, 1) := by decide +kernel
theorem dX7_plate_63 : decode cX7_plate 63 = .ok (.iload_n 3, 1) := by decide +kernel
theorem dX7_plate_64 : decode cX7_plate 64 = .ok (.putfield 116, 3) := by decide +kernel
theorem dX7_plate_67 : decode cX7_plate 67 = .ok (.aload_n 0, 1) := by decide +kernel
theorem dX7_plate_68 : decode cX7_plate 68 = .ok (.iload 4, 2) := by decide +kernel
theorem dX7_plate_70 : decode cX7_plate 70 = .ok (.putfield 16, 3) := by decide +kernel
theorem dX7_plate_73 : decode cX7_plate 73 = .ok (.aload_n 0, 1) := by decide +kernel
theorem dX7_plate_74 : decode cX7_plate 74 = .ok (.iload 5, 2) := by decide +kernel
theorem dX7_plate_76 : decode cX7_plate 76 = .ok (.putfield 119, 3) := by decide +kernel
theorem dX7_plate_79 : decode cX7_plate 79 = .ok (.aload_n 0, 1) := by decide +kernel
theorem dX7_plate_80 : decode cX7_plate 80 = .ok (.iconst 0, 1) := by decide +kernel
theorem dX7_plate_81 : decode cX7_plate 81 = .ok (.putfield 122, 3) := by decide +kernel
theorem dX7_plate_84 : decode cX7_plate 84 = .ok (.aload_n 0, 1) := by decide +kernel
theorem dX7_plate_85 : decode cX7_plate 85 = .ok (.iconst 0, 1) := by decide +kernel
theorem dX7_plate_86 : decode cX7_plate 86 = .ok (.putfield 125, 3) := by decide +kernel
theorem dX7_plate_89 : decode cX7_plate 89 = .ok (.iconst 1, 1) := by decide +kernel
theorem dX7_plate_90 : decode cX7_plate 90 = .ok (.ireturn, 1) := by decide +kernel
set_option maxRecDepth 20000 in
theorem ggX7_lies_X7_within : GoodIn wsX7_lies wsX7_within := goodIn_r _ [6] (by decide +kernel) (by decide +kernel)
set_option maxRecDepth 20000 in
theorem gX7_lies_X7_within : GoodIn wsX7_lies (va_wsS RX7 112 yX7_within wsX7_within) := goodIn_app (goodIn_of _ (by decide +kernel)) ggX7_lies_X7_within
theorem dX7_lies_0 : decode cX7_lies 0 = .ok (.iload_n 1, 1) := by decide +kernel
theorem dX7_lies_1 : decode cX7_lies 1 = .ok (.iconst 0, 1) := by decide +kernel
theorem dX7_lies_2 : decode cX7_lies 2 = .ok (.aload_n 0, 1) := by decide +kernel
theorem dX7_lies_3 : decode cX7_lies 3 = .ok (.getfield 7, 3) := by decide +kernel
theorem dX7_lies_6 : decode cX7_lies 6 = .ok (.iconst 1, 1) := by decide +kernel
theorem dX7_lies_7 : decode cX7_lies 7 = .ok (.isub, 1) := by decide +kernel
theorem dX7_lies_8 : decode cX7_lies 8 = .ok (.invokestatic 112, 3) := by decide +kernel
theorem dX7_lies_11 : decode cX7_lies 11 = .ok (.ifCond .eq 50, 3) := by decide +kernel
theorem dX7_lies_14 : decode cX7_lies 14 = .ok (.iload_n 2, 1) := by decide +kernel
theorem dX7_lies_15 : decode cX7_lies 15 = .ok (.iconst 0, 1) := by decide +kernel
theorem dX7_lies_16 : decode cX7_lies 16 = .ok (.aload_n 0, 1) := by decide +kernel
theorem dX7_lies_17 : decode cX7_lies 17 = .ok (.getfield 13, 3) := by decide +kernel
theorem dX7_lies_20 : decode cX7_lies 20 = .ok (.iconst 1, 1) := by decide +kernel
theorem dX7_lies_21 : decode cX7_lies 21 = .ok (.isub, 1) := by decide +kernel
theorem dX7_lies_22 : decode cX7_lies 22 = .ok (.invokestatic 112, 3) := by decide +kernel
theorem dX7_lies_25 : decode cX7_lies 25 = .ok (.ifCond .eq 36, 3) := by decide +kernel
theorem dX7_lies_28 : decode cX7_lies 28 = .ok (.iload_n 3, 1) := by decide +kernel
theorem dX7_lies_29 : decode cX7_lies 29 = .ok (.iconst 1, 1) := by decide +kernel
theorem dX7_lies_30 : decode cX7_lies 30 = .ok (.aload_n 0, 1) := by decide +kernel
theorem dX7_lies_31 : decode cX7_lies 31 = .ok (.getfield 7, 3) := by decide +kernel
theorem dX7_lies_34 : decode cX7_lies 34 = .ok (.iload_n 1, 1) := by decide +kernel
theorem dX7_lies_35 : decode cX7_lies 35 = .ok (.isub, 1) := by decide +kernel
theorem dX7_lies_36 : decode cX7_lies 36 = .ok (.invokestatic 112, 3) := by decide +kernel
theorem dX7_lies_39 : decode cX7_lies 39 = .ok (.ifCond .eq 22, 3) := by decide +kernel
theorem dX7_lies_42 : decode cX7_lies 42 = .ok (.iload 4, 2) := by decide +kernel
theorem dX7_lies_44 : decode cX7_lies 44 = .ok (.iconst 1, 1) := by decide +kernel
theorem dX7_lies_45 : decode cX7_lies 45 = .ok (.aload_n 0, 1) := by decide +kernel
theorem dX7_lies_46 : decode cX7_lies 46 = .ok (.getfield 13, 3) := by decide +kernel
theorem dX7_lies_49 : decode cX7_lies 49 = .ok (.iload_n 2, 1) := by decide +kernel
theorem dX7_lies_50 : decode cX7_lies 50 = .ok (.isub, 1) := by decide +kernel
theorem dX7_lies_51 : decode cX7_lies 51 = .ok (.invokestatic 112, 3) := by decide +kernel
theorem dX7_lies_54 : decode cX7_lies 54 = .ok (.ifCond .eq 7, 3) := by decide +kernel
theorem dX7_lies_57 : decode cX7_lies 57 = .ok (.iconst 1, 1) := by decide +kernel
theorem dX7_lies_58 : decode cX7_lies 58 = .ok (.goto 4, 3) := by decide +kernel
theorem dX7_lies_61 : decode cX7_lies 61 = .ok (.iconst 0, 1) := by decide +kernel
theorem dX7_lies_62 : decode cX7_lies 62 = .ok (.ireturn, 1) := by decide +kernel
set_option maxRecDepth 20000 in
theorem ggX7_defect_X7_lies : GoodIn wsX7_defect wsX7_lies := goodIn_r _ [11, 12, 13, 14, 15, 10, 16, 17, 18, 19, 20, 21, 22, 23, 24, 25, 26, 27, 28, 29, 30, 31, 32, 33, 34, 35, 36, 37, 38, 39, 40, 41, 42, 43, 44, 45, 46, 47, 48, 49, 50, 51, 52, 53, 54, 55, 56, 57, 58, 59, 60, 61, 62, 63] (by decide +kernel) (by decide +kernel)
set_option maxRecDepth 20000 in
theorem gX7_defect_X7_lies : GoodIn wsX7_defect (wsV RX7 129 RX7 yX7_lies wsX7_lies) := goodIn_app (goodIn_of _ (by decide +kernel)) ggX7_defect_X7_lies
theorem dX7_defect_0 : decode cX7_defect 0 = .ok (.aload_n 0, 1) := by decide +kernel
theorem dX7_defect_1 : decode cX7_defect 1 = .ok (.iload_n 1, 1) := by decide +kernel
theorem dX7_defect_2 : decode cX7_defect 2 = .ok (.iload_n 2, 1) := by decide +kernel
theorem dX7_defect_3 : decode cX7_defect 3 = .ok (.iload_n 3, 1) := by decide +kernel
theorem dX7_defect_4 : decode cX7_defect 4 = .ok (.iload 4, 2) := by decide +kernel
theorem dX7_defect_6 : decode cX7_defect 6 = .ok (.invokevirtual 129, 3) := by decide +kernel
theorem dX7_defect_9 : decode cX7_defect 9 = .ok (.ifCond .ne 6, 3) := by decide +kernel
theorem dX7_defect_12 : decode cX7_defect 12 = .ok (.bipush (-3), 2) := by decide +kernel
theorem dX7_defect_14 : decode cX7_defect 14 = .ok (.ireturn, 1) := by decide +kernel
theorem dX7_defect_15 : decode cX7_defect 15 = .ok (.aload_n 0, 1) := by decide +kernel
theorem dX7_defect_16 : decode cX7_defect 16 = .ok (.getfield 122, 3) := by decide +kernel
theorem dX7_defect_19 : decode cX7_defect 19 = .ok (.bipush 6, 2) := by decide +kernel
theorem dX7_defect_21 : decode cX7_defect 21 = .ok (.if_icmp .ne 6, 3) := by decide +kernel
theorem dX7_defect_24 : decode cX7_defect 24 = .ok (.bipush (-4), 2) := by decide +kernel
theorem dX7_defect_26 : decode cX7_defect 26 = .ok (.ireturn, 1) := by decide +kernel
theorem dX7_defect_27 : decode cX7_defect 27 = .ok (.aload_n 0, 1) := by decide +kernel
theorem dX7_defect_28 : decode cX7_defect 28 = .ok (.getfield 19, 3) := by decide +kernel
theorem dX7_defect_31 : decode cX7_defect 31 = .ok (.aload_n 0, 1) := by decide +kernel
theorem dX7_defect_32 : decode cX7_defect 32 = .ok (.getfield 122, 3) := by decide +kernel
theorem dX7_defect_35 : decode cX7_defect 35 = .ok (.iload_n 1, 1) := by decide +kernel
theorem dX7_defect_36 : decode cX7_defect 36 = .ok (.iastore, 1) := by decide +kernel
theorem dX7_defect_37 : decode cX7_defect 37 = .ok (.aload_n 0, 1) := by decide +kernel
theorem dX7_defect_38 : decode cX7_defect 38 = .ok (.getfield 23, 3) := by decide +kernel
theorem dX7_defect_41 : decode cX7_defect 41 = .ok (.aload_n 0, 1) := by decide +kernel
theorem dX7_defect_42 : decode cX7_defect 42 = .ok (.getfield 122, 3) := by decide +kernel
theorem dX7_defect_45 : decode cX7_defect 45 = .ok (.iload_n 2, 1) := by decide +kernel
theorem dX7_defect_46 : decode cX7_defect 46 = .ok (.iastore, 1) := by decide +kernel
theorem dX7_defect_47 : decode cX7_defect 47 = .ok (.aload_n 0, 1) := by decide +kernel
theorem dX7_defect_48 : decode cX7_defect 48 = .ok (.getfield 26, 3) := by decide +kernel
theorem dX7_defect_51 : decode cX7_defect 51 = .ok (.aload_n 0, 1) := by decide +kernel
theorem dX7_defect_52 : decode cX7_defect 52 = .ok (.getfield 122, 3) := by decide +kernel
theorem dX7_defect_55 : decode cX7_defect 55 = .ok (.iload_n 3, 1) := by decide +kernel
theorem dX7_defect_56 : decode cX7_defect 56 = .ok (.iastore, 1) := by decide +kernel
theorem dX7_defect_57 : decode cX7_defect 57 = .ok (.aload_n 0, 1) := by decide +kernel
theorem dX7_defect_58 : decode cX7_defect 58 = .ok (.getfield 29, 3) := by decide +kernel
theorem dX7_defect_61 : decode cX7_defect 61 = .ok (.aload_n 0, 1) := by decide +kernel
theorem dX7_defect_62 : decode cX7_defect 62 = .ok (.getfield 122, 3) := by decide +kernel
theorem dX7_defect_65 : decode cX7_defect 65 = .ok (.iload 4, 2) := by decide +kernel
theorem dX7_defect_67 : decode cX7_defect 67 = .ok (.iastore, 1) := by decide +kernel
theorem dX7_defect_68 : decode cX7_defect 68 = .ok (.aload_n 0, 1) := by decide +kernel
theorem dX7_defect_69 : decode cX7_defect 69 = .ok (.dup, 1) := by decide +kernel
theorem dX7_defect_70 : decode cX7_defect 70 = .ok (.getfield 122, 3) := by decide +kernel
theorem dX7_defect_73 : decode cX7_defect 73 = .ok (.iconst 1, 1) := by decide +kernel
theorem dX7_defect_74 : decode cX7_defect 74 = .ok (.iadd, 1) := by decide +kernel
theorem dX7_defect_75 : decode cX7_defect 75 = .ok (.putfield 122, 3) := by decide +kernel
theorem dX7_defect_78 : decode cX7_defect 78 = .ok (.aload_n 0, 1) := by decide +kernel
theorem dX7_defect_79 : decode cX7_defect 79 = .ok (.iconst 0, 1) := by decide +kernel
theorem dX7_defect_80 : decode cX7_defect 80 = .ok (.putfield 125, 3) := by decide +kernel
theorem dX7_defect_83 : decode cX7_defect 83 = .ok (.aload_n 0, 1) := by decide +kernel
theorem dX7_defect_84 : decode cX7_defect 84 = .ok (.getfield 122, 3) := by decide +kernel
theorem dX7_defect_87 : decode cX7_defect 87 = .ok (.ireturn, 1) := by decide +kernel
set_option maxRecDepth 20000 in
theorem ggX7_kind_X7_within : GoodIn wsX7_kind wsX7_within := goodIn_r _ [10] (by decide +kernel) (by decide +kernel)
set_option maxRecDepth 20000 in
theorem gX7_kind_X7_within : GoodIn wsX7_kind (va_wsS RX7 112 yX7_within wsX7_within) := goodIn_app (goodIn_of _ (by decide +kernel)) ggX7_kind_X7_within
theorem dX7_kind_0 : decode cX7_kind 0 = .ok (.iload_n 1, 1) := by decide +kernel
theorem dX7_kind_1 : decode cX7_kind 1 = .ok (.iconst 1, 1) := by decide +kernel
theorem dX7_kind_2 : decode cX7_kind 2 = .ok (.bipush 16, 2) := by decide +kernel
theorem dX7_kind_4 : decode cX7_kind 4 = .ok (.invokestatic 112, 3) := by decide +kernel
theorem dX7_kind_7 : decode cX7_kind 7 = .ok (.ifCond .eq 24, 3) := by decide +kernel
theorem dX7_kind_10 : decode cX7_kind 10 = .ok (.iload_n 2, 1) := by decide +kernel
theorem dX7_kind_11 : decode cX7_kind 11 = .ok (.iconst 1, 1) := by decide +kernel
theorem dX7_kind_12 : decode cX7_kind 12 = .ok (.bipush 16, 2) := by decide +kernel
theorem dX7_kind_14 : decode cX7_kind 14 = .ok (.invokestatic 112, 3) := by decide +kernel
theorem dX7_kind_17 : decode cX7_kind 17 = .ok (.ifCond .eq 14, 3) := by decide +kernel
theorem dX7_kind_20 : decode cX7_kind 20 = .ok (.iload_n 3, 1) := by decide +kernel
theorem dX7_kind_21 : decode cX7_kind 21 = .ok (.iconst 1, 1) := by decide +kernel
theorem dX7_kind_22 : decode cX7_kind 22 = .ok (.sipush 1000, 3) := by decide +kernel
theorem dX7_kind_25 : decode cX7_kind 25 = .ok (.invokestatic 112, 3) := by decide +kernel
theorem dX7_kind_28 : decode cX7_kind 28 = .ok (.ifCond .ne 6, 3) := by decide +kernel
theorem dX7_kind_31 : decode cX7_kind 31 = .ok (.bipush (-3), 2) := by decide +kernel
theorem dX7_kind_33 : decode cX7_kind 33 = .ok (.ireturn, 1) := by decide +kernel
theorem dX7_kind_34 : decode cX7_kind 34 = .ok (.aload_n 0, 1) := by decide +kernel
theorem dX7_kind_35 : decode cX7_kind 35 = .ok (.getfield 133, 3) := by decide +kernel
theorem dX7_kind_38 : decode cX7_kind 38 = .ok (.bipush 8, 2) := by decide +kernel
theorem dX7_kind_40 : decode cX7_kind 40 = .ok (.if_icmp .ne 6, 3) := by decide +kernel
theorem dX7_kind_43 : decode cX7_kind 43 = .ok (.bipush (-4), 2) := by decide +kernel
theorem dX7_kind_45 : decode cX7_kind 45 = .ok (.ireturn, 1) := by decide +kernel
theorem dX7_kind_46 : decode cX7_kind 46 = .ok (.aload_n 0, 1) := by decide +kernel
theorem dX7_kind_47 : decode cX7_kind 47 = .ok (.getfield 32, 3) := by decide +kernel
theorem dX7_kind_50 : decode cX7_kind 50 = .ok (.aload_n 0, 1) := by decide +kernel
theorem dX7_kind_51 : decode cX7_kind 51 = .ok (.getfield 133, 3) := by decide +kernel
theorem dX7_kind_54 : decode cX7_kind 54 = .ok (.iload_n 1, 1) := by decide +kernel
end
section
theorem dX7_kind_55 : decode cX7_kind 55 = .ok (.iastore, 1) := by decide +kernel
theorem dX7_kind_56 : decode cX7_kind 56 = .ok (.aload_n 0, 1) := by decide +kernel
theorem dX7_kind_57 : decode cX7_kind 57 = .ok (.getfield 35, 3) := by decide +kernel
theorem dX7_kind_60 : decode cX7_kind 60 = .ok (.aload_n 0, 1) := by decide +kernel
theorem dX7_kind_61 : decode cX7_kind 61 = .ok (.getfield 133, 3) := by decide +kernel
theorem dX7_kind_64 : decode cX7_kind 64 = .ok (.iload_n 2, 1) := by decide +kernel
theorem dX7_kind_65 : decode cX7_kind 65 = .ok (.iastore, 1) := by decide +kernel
theorem dX7_kind_66 : decode cX7_kind 66 = .ok (.aload_n 0, 1) := by decide +kernel
theorem dX7_kind_67 : decode cX7_kind 67 = .ok (.getfield 38, 3) := by decide +kernel
theorem dX7_kind_70 : decode cX7_kind 70 = .ok (.aload_n 0, 1) := by decide +kernel
theorem dX7_kind_71 : decode cX7_kind 71 = .ok (.getfield 133, 3) := by decide +kernel
theorem dX7_kind_74 : decode cX7_kind 74 = .ok (.iload_n 3, 1) := by decide +kernel
theorem dX7_kind_75 : decode cX7_kind 75 = .ok (.iastore, 1) := by decide +kernel
theorem dX7_kind_76 : decode cX7_kind 76 = .ok (.aload_n 0, 1) := by decide +kernel
theorem dX7_kind_77 : decode cX7_kind 77 = .ok (.getfield 41, 3) := by decide +kernel
theorem dX7_kind_80 : decode cX7_kind 80 = .ok (.aload_n 0, 1) := by decide +kernel
theorem dX7_kind_81 : decode cX7_kind 81 = .ok (.getfield 133, 3) := by decide +kernel
theorem dX7_kind_84 : decode cX7_kind 84 = .ok (.iload 4, 2) := by decide +kernel
theorem dX7_kind_86 : decode cX7_kind 86 = .ok (.bastore, 1) := by decide +kernel
theorem dX7_kind_87 : decode cX7_kind 87 = .ok (.aload_n 0, 1) := by decide +kernel
theorem dX7_kind_88 : decode cX7_kind 88 = .ok (.dup, 1) := by decide +kernel
theorem dX7_kind_89 : decode cX7_kind 89 = .ok (.getfield 133, 3) := by decide +kernel
theorem dX7_kind_92 : decode cX7_kind 92 = .ok (.iconst 1, 1) := by decide +kernel
theorem dX7_kind_93 : decode cX7_kind 93 = .ok (.iadd, 1) := by decide +kernel
theorem dX7_kind_94 : decode cX7_kind 94 = .ok (.putfield 133, 3) := by decide +kernel
theorem dX7_kind_97 : decode cX7_kind 97 = .ok (.aload_n 0, 1) := by decide +kernel
theorem dX7_kind_98 : decode cX7_kind 98 = .ok (.iconst 0, 1) := by decide +kernel
theorem dX7_kind_99 : decode cX7_kind 99 = .ok (.putfield 125, 3) := by decide +kernel
theorem dX7_kind_102 : decode cX7_kind 102 = .ok (.aload_n 0, 1) := by decide +kernel
theorem dX7_kind_103 : decode cX7_kind 103 = .ok (.getfield 133, 3) := by decide +kernel
theorem dX7_kind_106 : decode cX7_kind 106 = .ok (.iconst 1, 1) := by decide +kernel
theorem dX7_kind_107 : decode cX7_kind 107 = .ok (.isub, 1) := by decide +kernel
theorem dX7_kind_108 : decode cX7_kind 108 = .ok (.ireturn, 1) := by decide +kernel
set_option maxRecDepth 20000 in
theorem ggX7_value_X7_within : GoodIn wsX7_value wsX7_within := goodIn_r _ [7] (by decide +kernel) (by decide +kernel)
set_option maxRecDepth 20000 in
theorem gX7_value_X7_within : GoodIn wsX7_value (va_wsS RX7 112 yX7_within wsX7_within) := goodIn_app (goodIn_of _ (by decide +kernel)) ggX7_value_X7_within
theorem dX7_value_0 : decode cX7_value 0 = .ok (.iload_n 1, 1) := by decide +kernel
theorem dX7_value_1 : decode cX7_value 1 = .ok (.iconst 0, 1) := by decide +kernel
theorem dX7_value_2 : decode cX7_value 2 = .ok (.aload_n 0, 1) := by decide +kernel
theorem dX7_value_3 : decode cX7_value 3 = .ok (.getfield 133, 3) := by decide +kernel
theorem dX7_value_6 : decode cX7_value 6 = .ok (.iconst 1, 1) := by decide +kernel
theorem dX7_value_7 : decode cX7_value 7 = .ok (.isub, 1) := by decide +kernel
theorem dX7_value_8 : decode cX7_value 8 = .ok (.invokestatic 112, 3) := by decide +kernel
theorem dX7_value_11 : decode cX7_value 11 = .ok (.ifCond .ne 6, 3) := by decide +kernel
theorem dX7_value_14 : decode cX7_value 14 = .ok (.bipush (-2), 2) := by decide +kernel
theorem dX7_value_16 : decode cX7_value 16 = .ok (.ireturn, 1) := by decide +kernel
theorem dX7_value_17 : decode cX7_value 17 = .ok (.iload_n 2, 1) := by decide +kernel
theorem dX7_value_18 : decode cX7_value 18 = .ok (.iconst 1, 1) := by decide +kernel
theorem dX7_value_19 : decode cX7_value 19 = .ok (.sipush 1000, 3) := by decide +kernel
theorem dX7_value_22 : decode cX7_value 22 = .ok (.invokestatic 112, 3) := by decide +kernel
theorem dX7_value_25 : decode cX7_value 25 = .ok (.ifCond .ne 6, 3) := by decide +kernel
theorem dX7_value_28 : decode cX7_value 28 = .ok (.bipush (-3), 2) := by decide +kernel
theorem dX7_value_30 : decode cX7_value 30 = .ok (.ireturn, 1) := by decide +kernel
theorem dX7_value_31 : decode cX7_value 31 = .ok (.aload_n 0, 1) := by decide +kernel
theorem dX7_value_32 : decode cX7_value 32 = .ok (.getfield 38, 3) := by decide +kernel
theorem dX7_value_35 : decode cX7_value 35 = .ok (.iload_n 1, 1) := by decide +kernel
theorem dX7_value_36 : decode cX7_value 36 = .ok (.iaload, 1) := by decide +kernel
theorem dX7_value_37 : decode cX7_value 37 = .ok (.istore_n 3, 1) := by decide +kernel
theorem dX7_value_38 : decode cX7_value 38 = .ok (.aload_n 0, 1) := by decide +kernel
theorem dX7_value_39 : decode cX7_value 39 = .ok (.getfield 38, 3) := by decide +kernel
theorem dX7_value_42 : decode cX7_value 42 = .ok (.iload_n 1, 1) := by decide +kernel
theorem dX7_value_43 : decode cX7_value 43 = .ok (.iload_n 2, 1) := by decide +kernel
theorem dX7_value_44 : decode cX7_value 44 = .ok (.iastore, 1) := by decide +kernel
theorem dX7_value_45 : decode cX7_value 45 = .ok (.aload_n 0, 1) := by decide +kernel
theorem dX7_value_46 : decode cX7_value 46 = .ok (.iconst 0, 1) := by decide +kernel
theorem dX7_value_47 : decode cX7_value 47 = .ok (.putfield 125, 3) := by decide +kernel
theorem dX7_value_50 : decode cX7_value 50 = .ok (.iload_n 3, 1) := by decide +kernel
theorem dX7_value_51 : decode cX7_value 51 = .ok (.ireturn, 1) := by decide +kernel
theorem dX7_at_0 : decode cX7_at 0 = .ok (.sipush 136, 3) := by decide +kernel
theorem dX7_at_3 : decode cX7_at 3 = .ok (.iload_n 1, 1) := by decide +kernel
theorem dX7_at_4 : decode cX7_at 4 = .ok (.iconst 1, 1) := by decide +kernel
theorem dX7_at_5 : decode cX7_at 5 = .ok (.isub, 1) := by decide +kernel
theorem dX7_at_6 : decode cX7_at 6 = .ok (.imul, 1) := by decide +kernel
theorem dX7_at_7 : decode cX7_at 7 = .ok (.aload_n 0, 1) := by decide +kernel
theorem dX7_at_8 : decode cX7_at 8 = .ok (.getfield 45, 3) := by decide +kernel
theorem dX7_at_11 : decode cX7_at 11 = .ok (.bipush 16, 2) := by decide +kernel
theorem dX7_at_13 : decode cX7_at 13 = .ok (.iload_n 2, 1) := by decide +kernel
theorem dX7_at_14 : decode cX7_at 14 = .ok (.imul, 1) := by decide +kernel
theorem dX7_at_15 : decode cX7_at 15 = .ok (.iload 4, 2) := by decide +kernel
theorem dX7_at_17 : decode cX7_at 17 = .ok (.iadd, 1) := by decide +kernel
theorem dX7_at_18 : decode cX7_at 18 = .ok (.iconst 1, 1) := by decide +kernel
theorem dX7_at_19 : decode cX7_at 19 = .ok (.isub, 1) := by decide +kernel
theorem dX7_at_20 : decode cX7_at 20 = .ok (.iaload, 1) := by decide +kernel
theorem dX7_at_21 : decode cX7_at 21 = .ok (.iadd, 1) := by decide +kernel
theorem dX7_at_22 : decode cX7_at 22 = .ok (.sipush 136, 3) := by decide +kernel
theorem dX7_at_25 : decode cX7_at 25 = .ok (.imul, 1) := by decide +kernel
theorem dX7_at_26 : decode cX7_at 26 = .ok (.aload_n 0, 1) := by decide +kernel
theorem dX7_at_27 : decode cX7_at 27 = .ok (.getfield 45, 3) := by decide +kernel
theorem dX7_at_30 : decode cX7_at 30 = .ok (.bipush 16, 2) := by decide +kernel
theorem dX7_at_32 : decode cX7_at 32 = .ok (.iload_n 3, 1) := by decide +kernel
theorem dX7_at_33 : decode cX7_at 33 = .ok (.imul, 1) := by decide +kernel
theorem dX7_at_34 : decode cX7_at 34 = .ok (.iload 5, 2) := by decide +kernel
theorem dX7_at_36 : decode cX7_at 36 = .ok (.iadd, 1) := by decide +kernel
theorem dX7_at_37 : decode cX7_at 37 = .ok (.iconst 1, 1) := by decide +kernel
theorem dX7_at_38 : decode cX7_at 38 = .ok (.isub, 1) := by decide +kernel
theorem dX7_at_39 : decode cX7_at 39 = .ok (.iaload, 1) := by decide +kernel
theorem dX7_at_40 : decode cX7_at 40 = .ok (.iadd, 1) := by decide +kernel
theorem dX7_at_41 : decode cX7_at 41 = .ok (.ireturn, 1) := by decide +kernel
theorem dX7_isSpoiled_0 : decode cX7_isSpoiled 0 = .ok (.iconst 0, 1) := by decide +kernel
theorem dX7_isSpoiled_1 : decode cX7_isSpoiled 1 = .ok (.istore 5, 2) := by decide +kernel
theorem dX7_isSpoiled_3 : decode cX7_isSpoiled 3 = .ok (.iconst 0, 1) := by decide +kernel
theorem dX7_isSpoiled_4 : decode cX7_isSpoiled 4 = .ok (.istore 6, 2) := by decide +kernel
theorem dX7_isSpoiled_6 : decode cX7_isSpoiled 6 = .ok (.iload 6, 2) := by decide +kernel
theorem dX7_isSpoiled_8 : decode cX7_isSpoiled 8 = .ok (.aload_n 0, 1) := by decide +kernel
theorem dX7_isSpoiled_9 : decode cX7_isSpoiled 9 = .ok (.getfield 122, 3) := by decide +kernel
theorem dX7_isSpoiled_12 : decode cX7_isSpoiled 12 = .ok (.if_icmp .ge 98, 3) := by decide +kernel
theorem dX7_isSpoiled_15 : decode cX7_isSpoiled 15 = .ok (.aload_n 0, 1) := by decide +kernel
theorem dX7_isSpoiled_16 : decode cX7_isSpoiled 16 = .ok (.getfield 19, 3) := by decide +kernel
theorem dX7_isSpoiled_19 : decode cX7_isSpoiled 19 = .ok (.iload 6, 2) := by decide +kernel
theorem dX7_isSpoiled_21 : decode cX7_isSpoiled 21 = .ok (.iaload, 1) := by decide +kernel
theorem dX7_isSpoiled_22 : decode cX7_isSpoiled 22 = .ok (.iload_n 1, 1) := by decide +kernel
theorem dX7_isSpoiled_23 : decode cX7_isSpoiled 23 = .ok (.iload_n 3, 1) := by decide +kernel
theorem dX7_isSpoiled_24 : decode cX7_isSpoiled 24 = .ok (.iadd, 1) := by decide +kernel
theorem dX7_isSpoiled_25 : decode cX7_isSpoiled 25 = .ok (.if_icmp .ge 55, 3) := by decide +kernel
theorem dX7_isSpoiled_28 : decode cX7_isSpoiled 28 = .ok (.aload_n 0, 1) := by decide +kernel
theorem dX7_isSpoiled_29 : decode cX7_isSpoiled 29 = .ok (.getfield 19, 3) := by decide +kernel
theorem dX7_isSpoiled_32 : decode cX7_isSpoiled 32 = .ok (.iload 6, 2) := by decide +kernel
theorem dX7_isSpoiled_34 : decode cX7_isSpoiled 34 = .ok (.iaload, 1) := by decide +kernel
theorem dX7_isSpoiled_35 : decode cX7_isSpoiled 35 = .ok (.aload_n 0, 1) := by decide +kernel
theorem dX7_isSpoiled_36 : decode cX7_isSpoiled 36 = .ok (.getfield 26, 3) := by decide +kernel
theorem dX7_isSpoiled_39 : decode cX7_isSpoiled 39 = .ok (.iload 6, 2) := by decide +kernel
theorem dX7_isSpoiled_41 : decode cX7_isSpoiled 41 = .ok (.iaload, 1) := by decide +kernel
theorem dX7_isSpoiled_42 : decode cX7_isSpoiled 42 = .ok (.iadd, 1) := by decide +kernel
theorem dX7_isSpoiled_43 : decode cX7_isSpoiled 43 = .ok (.iload_n 1, 1) := by decide +kernel
theorem dX7_isSpoiled_44 : decode cX7_isSpoiled 44 = .ok (.if_icmp .le 36, 3) := by decide +kernel
theorem dX7_isSpoiled_47 : decode cX7_isSpoiled 47 = .ok (.aload_n 0, 1) := by decide +kernel
theorem dX7_isSpoiled_48 : decode cX7_isSpoiled 48 = .ok (.getfield 23, 3) := by decide +kernel
theorem dX7_isSpoiled_51 : decode cX7_isSpoiled 51 = .ok (.iload 6, 2) := by decide +kernel
theorem dX7_isSpoiled_53 : decode cX7_isSpoiled 53 = .ok (.iaload, 1) := by decide +kernel
theorem dX7_isSpoiled_54 : decode cX7_isSpoiled 54 = .ok (.iload_n 2, 1) := by decide +kernel
theorem dX7_isSpoiled_55 : decode cX7_isSpoiled 55 = .ok (.iload 4, 2) := by decide +kernel
theorem dX7_isSpoiled_57 : decode cX7_isSpoiled 57 = .ok (.iadd, 1) := by decide +kernel
theorem dX7_isSpoiled_58 : decode cX7_isSpoiled 58 = .ok (.if_icmp .ge 22, 3) := by decide +kernel
theorem dX7_isSpoiled_61 : decode cX7_isSpoiled 61 = .ok (.aload_n 0, 1) := by decide +kernel
theorem dX7_isSpoiled_62 : decode cX7_isSpoiled 62 = .ok (.getfield 23, 3) := by decide +kernel
theorem dX7_isSpoiled_65 : decode cX7_isSpoiled 65 = .ok (.iload 6, 2) := by decide +kernel
theorem dX7_isSpoiled_67 : decode cX7_isSpoiled 67 = .ok (.iaload, 1) := by decide +kernel
theorem dX7_isSpoiled_68 : decode cX7_isSpoiled 68 = .ok (.aload_n 0, 1) := by decide +kernel
theorem dX7_isSpoiled_69 : decode cX7_isSpoiled 69 = .ok (.getfield 29, 3) := by decide +kernel
theorem dX7_isSpoiled_72 : decode cX7_isSpoiled 72 = .ok (.iload 6, 2) := by decide +kernel
theorem dX7_isSpoiled_74 : decode cX7_isSpoiled 74 = .ok (.iaload, 1) := by decide +kernel
theorem dX7_isSpoiled_75 : decode cX7_isSpoiled 75 = .ok (.iadd, 1) := by decide +kernel
theorem dX7_isSpoiled_76 : decode cX7_isSpoiled 76 = .ok (.iload_n 2, 1) := by decide +kernel
theorem dX7_isSpoiled_77 : decode cX7_isSpoiled 77 = .ok (.if_icmp .gt 7, 3) := by decide +kernel
theorem dX7_isSpoiled_80 : decode cX7_isSpoiled 80 = .ok (.iconst 1, 1) := by decide +kernel
theorem dX7_isSpoiled_81 : decode cX7_isSpoiled 81 = .ok (.goto 4, 3) := by decide +kernel
theorem dX7_isSpoiled_84 : decode cX7_isSpoiled 84 = .ok (.iconst 0, 1) := by decide +kernel
theorem dX7_isSpoiled_85 : decode cX7_isSpoiled 85 = .ok (.istore 7, 2) := by decide +kernel
theorem dX7_isSpoiled_87 : decode cX7_isSpoiled 87 = .ok (.iload 5, 2) := by decide +kernel
theorem dX7_isSpoiled_89 : decode cX7_isSpoiled 89 = .ok (.ifCond .ne 8, 3) := by decide +kernel
theorem dX7_isSpoiled_92 : decode cX7_isSpoiled 92 = .ok (.iload 7, 2) := by decide +kernel
theorem dX7_isSpoiled_94 : decode cX7_isSpoiled 94 = .ok (.ifCond .ne 7, 3) := by decide +kernel
theorem dX7_isSpoiled_97 : decode cX7_isSpoiled 97 = .ok (.iconst 1, 1) := by decide +kernel
theorem dX7_isSpoiled_98 : decode cX7_isSpoiled 98 = .ok (.goto 4, 3) := by decide +kernel
theorem dX7_isSpoiled_101 : decode cX7_isSpoiled 101 = .ok (.iconst 0, 1) := by decide +kernel
theorem dX7_isSpoiled_102 : decode cX7_isSpoiled 102 = .ok (.istore 5, 2) := by decide +kernel
theorem dX7_isSpoiled_104 : decode cX7_isSpoiled 104 = .ok (.iinc 6 1, 3) := by decide +kernel
theorem dX7_isSpoiled_107 : decode cX7_isSpoiled 107 = .ok (.goto (-101), 3) := by decide +kernel
theorem dX7_isSpoiled_110 : decode cX7_isSpoiled 110 = .ok (.iload 5, 2) := by decide +kernel
theorem dX7_isSpoiled_112 : decode cX7_isSpoiled 112 = .ok (.ireturn, 1) := by decide +kernel
theorem dX7_isLike_0 : decode cX7_isLike 0 = .ok (.iload_n 2, 1) := by decide +kernel
theorem dX7_isLike_1 : decode cX7_isLike 1 = .ok (.ifCond .ne 32, 3) := by decide +kernel
theorem dX7_isLike_4 : decode cX7_isLike 4 = .ok (.aload_n 0, 1) := by decide +kernel
theorem dX7_isLike_5 : decode cX7_isLike 5 = .ok (.getfield 32, 3) := by decide +kernel
theorem dX7_isLike_8 : decode cX7_isLike 8 = .ok (.iload_n 1, 1) := by decide +kernel
theorem dX7_isLike_9 : decode cX7_isLike 9 = .ok (.iaload, 1) := by decide +kernel
theorem dX7_isLike_10 : decode cX7_isLike 10 = .ok (.iload_n 3, 1) := by decide +kernel
theorem dX7_isLike_11 : decode cX7_isLike 11 = .ok (.if_icmp .ne 18, 3) := by decide +kernel
theorem dX7_isLike_14 : decode cX7_isLike 14 = .ok (.aload_n 0, 1) := by decide +kernel
theorem dX7_isLike_15 : decode cX7_isLike 15 = .ok (.getfield 35, 3) := by decide +kernel
theorem dX7_isLike_18 : decode cX7_isLike 18 = .ok (.iload_n 1, 1) := by decide +kernel
theorem dX7_isLike_19 : decode cX7_isLike 19 = .ok (.iaload, 1) := by decide +kernel
theorem dX7_isLike_20 : decode cX7_isLike 20 = .ok (.iload 4, 2) := by decide +kernel
theorem dX7_isLike_22 : decode cX7_isLike 22 = .ok (.if_icmp .ne 7, 3) := by decide +kernel
theorem dX7_isLike_25 : decode cX7_isLike 25 = .ok (.iconst 1, 1) := by decide +kernel
theorem dX7_isLike_26 : decode cX7_isLike 26 = .ok (.goto 42, 3) := by decide +kernel
theorem dX7_isLike_29 : decode cX7_isLike 29 = .ok (.iconst 0, 1) := by decide +kernel
theorem dX7_isLike_30 : decode cX7_isLike 30 = .ok (.goto 38, 3) := by decide +kernel
theorem dX7_isLike_33 : decode cX7_isLike 33 = .ok (.aload_n 0, 1) := by decide +kernel
theorem dX7_isLike_34 : decode cX7_isLike 34 = .ok (.getfield 41, 3) := by decide +kernel
theorem dX7_isLike_37 : decode cX7_isLike 37 = .ok (.iload_n 1, 1) := by decide +kernel
theorem dX7_isLike_38 : decode cX7_isLike 38 = .ok (.baload, 1) := by decide +kernel
theorem dX7_isLike_39 : decode cX7_isLike 39 = .ok (.ifCond .eq 28, 3) := by decide +kernel
theorem dX7_isLike_42 : decode cX7_isLike 42 = .ok (.aload_n 0, 1) := by decide +kernel
theorem dX7_isLike_43 : decode cX7_isLike 43 = .ok (.getfield 35, 3) := by decide +kernel
theorem dX7_isLike_46 : decode cX7_isLike 46 = .ok (.iload_n 1, 1) := by decide +kernel
theorem dX7_isLike_47 : decode cX7_isLike 47 = .ok (.iaload, 1) := by decide +kernel
theorem dX7_isLike_48 : decode cX7_isLike 48 = .ok (.iload_n 3, 1) := by decide +kernel
theorem dX7_isLike_49 : decode cX7_isLike 49 = .ok (.if_icmp .ne 18, 3) := by decide +kernel
theorem dX7_isLike_52 : decode cX7_isLike 52 = .ok (.aload_n 0, 1) := by decide +kernel
theorem dX7_isLike_53 : decode cX7_isLike 53 = .ok (.getfield 32, 3) := by decide +kernel
theorem dX7_isLike_56 : decode cX7_isLike 56 = .ok (.iload_n 1, 1) := by decide +kernel
theorem dX7_isLike_57 : decode cX7_isLike 57 = .ok (.iaload, 1) := by decide +kernel
theorem dX7_isLike_58 : decode cX7_isLike 58 = .ok (.iload 4, 2) := by decide +kernel
theorem dX7_isLike_60 : decode cX7_isLike 60 = .ok (.if_icmp .ne 7, 3) := by decide +kernel
theorem dX7_isLike_63 : decode cX7_isLike 63 = .ok (.iconst 1, 1) := by decide +kernel
theorem dX7_isLike_64 : decode cX7_isLike 64 = .ok (.goto 4, 3) := by decide +kernel
theorem dX7_isLike_67 : decode cX7_isLike 67 = .ok (.iconst 0, 1) := by decide +kernel
theorem dX7_isLike_68 : decode cX7_isLike 68 = .ok (.ireturn, 1) := by decide +kernel
set_option maxRecDepth 20000 in
theorem ggX7_bestPiece_X7_isLike : GoodIn wsX7_bestPiece wsX7_isLike := goodIn_r _ [7, 8, 9, 10, 20, 21, 22, 23, 24, 25, 26, 27, 28, 29, 30, 31, 32, 33, 34, 35, 36, 37, 38, 39, 40, 41, 42, 43, 44, 45, 46, 47, 48, 49, 50, 51, 52, 53, 54, 55, 56, 57, 58, 59, 60, 61, 62, 63, 64, 65, 66] (by decide +kernel) (by decide +kernel)
set_option maxRecDepth 20000 in
theorem gX7_bestPiece_X7_isLike : GoodIn wsX7_bestPiece (wsV RX7 136 RX7 yX7_isLike wsX7_isLike) := goodIn_app (goodIn_of _ (by decide +kernel)) ggX7_bestPiece_X7_isLike
set_option maxRecDepth 20000 in
theorem ggX7_bestPiece_X7_isSpoiled : GoodIn wsX7_bestPiece wsX7_isSpoiled := goodIn_r _ [14, 15, 16, 17, 18, 19, 20, 21, 22, 23, 24, 25, 26, 27, 28, 29, 30, 31, 32, 33, 34, 35, 36, 37, 38, 39, 40, 41, 42, 43, 44, 45, 46, 47, 48, 49, 50, 51, 52, 53, 54, 55, 56, 57, 58, 59, 60, 61, 62, 63, 64, 65, 66] (by decide +kernel) (by decide +kernel)
set_option maxRecDepth 20000 in
theorem gX7_bestPiece_X7_isSpoiled : GoodIn wsX7_bestPiece (wsV RX7 139 RX7 yX7_isSpoiled wsX7_isSpoiled) := goodIn_app (goodIn_of _ (by decide +kernel)) ggX7_bestPiece_X7_isSpoiled
theorem dX7_bestPiece_0 : decode cX7_bestPiece 0 = .ok (.iconst 0, 1) := by decide +kernel
theorem dX7_bestPiece_1 : decode cX7_bestPiece 1 = .ok (.istore 5, 2) := by decide +kernel
theorem dX7_bestPiece_3 : decode cX7_bestPiece 3 = .ok (.iconst 0, 1) := by decide +kernel
theorem dX7_bestPiece_4 : decode cX7_bestPiece 4 = .ok (.istore 6, 2) := by decide +kernel
theorem dX7_bestPiece_6 : decode cX7_bestPiece 6 = .ok (.iload 6, 2) := by decide +kernel
theorem dX7_bestPiece_8 : decode cX7_bestPiece 8 = .ok (.aload_n 0, 1) := by decide +kernel
theorem dX7_bestPiece_9 : decode cX7_bestPiece 9 = .ok (.getfield 133, 3) := by decide +kernel
theorem dX7_bestPiece_12 : decode cX7_bestPiece 12 = .ok (.if_icmp .ge 56, 3) := by decide +kernel
theorem dX7_bestPiece_15 : decode cX7_bestPiece 15 = .ok (.aload_n 0, 1) := by decide +kernel
theorem dX7_bestPiece_16 : decode cX7_bestPiece 16 = .ok (.iload 6, 2) := by decide +kernel
theorem dX7_bestPiece_18 : decode cX7_bestPiece 18 = .ok (.iconst 0, 1) := by decide +kernel
theorem dX7_bestPiece_19 : decode cX7_bestPiece 19 = .ok (.iload_n 3, 1) := by decide +kernel
theorem dX7_bestPiece_20 : decode cX7_bestPiece 20 = .ok (.iload 4, 2) := by decide +kernel
theorem dX7_bestPiece_22 : decode cX7_bestPiece 22 = .ok (.invokevirtual 136, 3) := by decide +kernel
theorem dX7_bestPiece_25 : decode cX7_bestPiece 25 = .ok (.ifCond .ne 16, 3) := by decide +kernel
theorem dX7_bestPiece_28 : decode cX7_bestPiece 28 = .ok (.aload_n 0, 1) := by decide +kernel
theorem dX7_bestPiece_29 : decode cX7_bestPiece 29 = .ok (.iload 6, 2) := by decide +kernel
theorem dX7_bestPiece_31 : decode cX7_bestPiece 31 = .ok (.iconst 1, 1) := by decide +kernel
theorem dX7_bestPiece_32 : decode cX7_bestPiece 32 = .ok (.iload_n 3, 1) := by decide +kernel
theorem dX7_bestPiece_33 : decode cX7_bestPiece 33 = .ok (.iload 4, 2) := by decide +kernel
theorem dX7_bestPiece_35 : decode cX7_bestPiece 35 = .ok (.invokevirtual 136, 3) := by decide +kernel
theorem dX7_bestPiece_38 : decode cX7_bestPiece 38 = .ok (.ifCond .eq 24, 3) := by decide +kernel
theorem dX7_bestPiece_41 : decode cX7_bestPiece 41 = .ok (.aload_n 0, 1) := by decide +kernel
theorem dX7_bestPiece_42 : decode cX7_bestPiece 42 = .ok (.getfield 38, 3) := by decide +kernel
theorem dX7_bestPiece_45 : decode cX7_bestPiece 45 = .ok (.iload 6, 2) := by decide +kernel
theorem dX7_bestPiece_47 : decode cX7_bestPiece 47 = .ok (.iaload, 1) := by decide +kernel
theorem dX7_bestPiece_48 : decode cX7_bestPiece 48 = .ok (.iload 5, 2) := by decide +kernel
theorem dX7_bestPiece_50 : decode cX7_bestPiece 50 = .ok (.if_icmp .le 12, 3) := by decide +kernel
theorem dX7_bestPiece_53 : decode cX7_bestPiece 53 = .ok (.aload_n 0, 1) := by decide +kernel
theorem dX7_bestPiece_54 : decode cX7_bestPiece 54 = .ok (.getfield 38, 3) := by decide +kernel
theorem dX7_bestPiece_57 : decode cX7_bestPiece 57 = .ok (.iload 6, 2) := by decide +kernel
theorem dX7_bestPiece_59 : decode cX7_bestPiece 59 = .ok (.iaload, 1) := by decide +kernel
theorem dX7_bestPiece_60 : decode cX7_bestPiece 60 = .ok (.istore 5, 2) := by decide +kernel
theorem dX7_bestPiece_62 : decode cX7_bestPiece 62 = .ok (.iinc 6 1, 3) := by decide +kernel
theorem dX7_bestPiece_65 : decode cX7_bestPiece 65 = .ok (.goto (-59), 3) := by decide +kernel
theorem dX7_bestPiece_68 : decode cX7_bestPiece 68 = .ok (.iload 5, 2) := by decide +kernel
theorem dX7_bestPiece_70 : decode cX7_bestPiece 70 = .ok (.ifCond .le 19, 3) := by decide +kernel
theorem dX7_bestPiece_73 : decode cX7_bestPiece 73 = .ok (.aload_n 0, 1) := by decide +kernel
theorem dX7_bestPiece_74 : decode cX7_bestPiece 74 = .ok (.iload_n 1, 1) := by decide +kernel
theorem dX7_bestPiece_75 : decode cX7_bestPiece 75 = .ok (.iload_n 2, 1) := by decide +kernel
theorem dX7_bestPiece_76 : decode cX7_bestPiece 76 = .ok (.iload_n 3, 1) := by decide +kernel
theorem dX7_bestPiece_77 : decode cX7_bestPiece 77 = .ok (.iload 4, 2) := by decide +kernel
theorem dX7_bestPiece_79 : decode cX7_bestPiece 79 = .ok (.invokevirtual 139, 3) := by decide +kernel
theorem dX7_bestPiece_82 : decode cX7_bestPiece 82 = .ok (.ifCond .eq 7, 3) := by decide +kernel
theorem dX7_bestPiece_85 : decode cX7_bestPiece 85 = .ok (.iconst 0, 1) := by decide +kernel
theorem dX7_bestPiece_86 : decode cX7_bestPiece 86 = .ok (.goto 5, 3) := by decide +kernel
theorem dX7_bestPiece_89 : decode cX7_bestPiece 89 = .ok (.iload 5, 2) := by decide +kernel
theorem dX7_bestPiece_91 : decode cX7_bestPiece 91 = .ok (.ireturn, 1) := by decide +kernel
theorem dX7_wayOf_0 : decode cX7_wayOf 0 = .ok (.iload_n 1, 1) := by decide +kernel
theorem dX7_wayOf_1 : decode cX7_wayOf 1 = .ok (.iconst 2, 1) := by decide +kernel
theorem dX7_wayOf_2 : decode cX7_wayOf 2 = .ok (.irem, 1) := by decide +kernel
theorem dX7_wayOf_3 : decode cX7_wayOf 3 = .ok (.iconst 1, 1) := by decide +kernel
theorem dX7_wayOf_4 : decode cX7_wayOf 4 = .ok (.if_icmp .ne 10, 3) := by decide +kernel
theorem dX7_wayOf_7 : decode cX7_wayOf 7 = .ok (.aload_n 0, 1) := by decide +kernel
theorem dX7_wayOf_8 : decode cX7_wayOf 8 = .ok (.getfield 119, 3) := by decide +kernel
theorem dX7_wayOf_11 : decode cX7_wayOf 11 = .ok (.goto 9, 3) := by decide +kernel
theorem dX7_wayOf_14 : decode cX7_wayOf 14 = .ok (.iconst 1, 1) := by decide +kernel
theorem dX7_wayOf_15 : decode cX7_wayOf 15 = .ok (.aload_n 0, 1) := by decide +kernel
theorem dX7_wayOf_16 : decode cX7_wayOf 16 = .ok (.getfield 119, 3) := by decide +kernel
theorem dX7_wayOf_19 : decode cX7_wayOf 19 = .ok (.isub, 1) := by decide +kernel
theorem dX7_wayOf_20 : decode cX7_wayOf 20 = .ok (.ireturn, 1) := by decide +kernel
set_option maxRecDepth 20000 in
theorem ggX7_both_X7_wayOf : GoodIn wsX7_both wsX7_wayOf := goodIn_r _ [7, 8, 14, 15, 16, 17, 18, 19, 20, 21, 22, 23, 24, 25, 26, 27, 28, 29, 30, 31, 32, 33, 34, 35, 36, 37, 38, 39, 40, 41, 42, 43, 44, 45, 46, 47, 48, 49, 50, 51, 52, 53, 54, 55, 56, 57, 58, 59, 60] (by decide +kernel) (by decide +kernel)
set_option maxRecDepth 20000 in
theorem gX7_both_X7_wayOf : GoodIn wsX7_both (wsV RX7 142 RX7 yX7_wayOf wsX7_wayOf) := goodIn_app (goodIn_of _ (by decide +kernel)) ggX7_both_X7_wayOf
set_option maxRecDepth 20000 in
theorem ggX7_both_X7_at : GoodIn wsX7_both wsX7_at := goodIn_r _ [12, 13, 14, 15, 16, 17, 18, 19, 20, 21, 22, 23, 24, 25, 26, 27, 28, 29, 30, 31, 32, 33, 34, 35, 36, 37, 38, 39, 40, 41, 42, 43, 44, 45, 46, 47, 48, 49, 50, 51, 52, 53, 54, 55, 56, 57, 58, 59, 60] (by decide +kernel) (by decide +kernel)
set_option maxRecDepth 20000 in
theorem gX7_both_X7_at : GoodIn wsX7_both (wsV RX7 146 RX7 yX7_at wsX7_at) := goodIn_app (goodIn_of _ (by decide +kernel)) ggX7_both_X7_at
theorem dX7_both_0 : decode cX7_both 0 = .ok (.aload_n 0, 1) := by decide +kernel
theorem dX7_both_1 : decode cX7_both 1 = .ok (.iload_n 1, 1) := by decide +kernel
theorem dX7_both_2 : decode cX7_both 2 = .ok (.invokevirtual 142, 3) := by decide +kernel
theorem dX7_both_5 : decode cX7_both 5 = .ok (.ifCond .ne 53, 3) := by decide +kernel
theorem dX7_both_8 : decode cX7_both 8 = .ok (.aload_n 0, 1) := by decide +kernel
theorem dX7_both_9 : decode cX7_both 9 = .ok (.getfield 49, 3) := by decide +kernel
theorem dX7_both_12 : decode cX7_both 12 = .ok (.aload_n 0, 1) := by decide +kernel
theorem dX7_both_13 : decode cX7_both 13 = .ok (.iload_n 1, 1) := by decide +kernel
theorem dX7_both_14 : decode cX7_both 14 = .ok (.iload_n 2, 1) := by decide +kernel
theorem dX7_both_15 : decode cX7_both 15 = .ok (.iload_n 3, 1) := by decide +kernel
theorem dX7_both_16 : decode cX7_both 16 = .ok (.iload 6, 2) := by decide +kernel
theorem dX7_both_18 : decode cX7_both 18 = .ok (.iload 5, 2) := by decide +kernel
theorem dX7_both_20 : decode cX7_both 20 = .ok (.invokevirtual 146, 3) := by decide +kernel
theorem dX7_both_23 : decode cX7_both 23 = .ok (.iaload, 1) := by decide +kernel
theorem dX7_both_24 : decode cX7_both 24 = .ok (.aload_n 0, 1) := by decide +kernel
theorem dX7_both_25 : decode cX7_both 25 = .ok (.getfield 49, 3) := by decide +kernel
theorem dX7_both_28 : decode cX7_both 28 = .ok (.aload_n 0, 1) := by decide +kernel
theorem dX7_both_29 : decode cX7_both 29 = .ok (.iload_n 1, 1) := by decide +kernel
theorem dX7_both_30 : decode cX7_both 30 = .ok (.iload_n 2, 1) := by decide +kernel
theorem dX7_both_31 : decode cX7_both 31 = .ok (.iload 6, 2) := by decide +kernel
theorem dX7_both_33 : decode cX7_both 33 = .ok (.iadd, 1) := by decide +kernel
theorem dX7_both_34 : decode cX7_both 34 = .ok (.aload_n 0, 1) := by decide +kernel
theorem dX7_both_35 : decode cX7_both 35 = .ok (.getfield 116, 3) := by decide +kernel
theorem dX7_both_38 : decode cX7_both 38 = .ok (.iadd, 1) := by decide +kernel
theorem dX7_both_39 : decode cX7_both 39 = .ok (.iload_n 3, 1) := by decide +kernel
theorem dX7_both_40 : decode cX7_both 40 = .ok (.iload 4, 2) := by decide +kernel
theorem dX7_both_42 : decode cX7_both 42 = .ok (.iload 6, 2) := by decide +kernel
theorem dX7_both_44 : decode cX7_both 44 = .ok (.isub, 1) := by decide +kernel
theorem dX7_both_45 : decode cX7_both 45 = .ok (.aload_n 0, 1) := by decide +kernel
theorem dX7_both_46 : decode cX7_both 46 = .ok (.getfield 116, 3) := by decide +kernel
theorem dX7_both_49 : decode cX7_both 49 = .ok (.isub, 1) := by decide +kernel
theorem dX7_both_50 : decode cX7_both 50 = .ok (.iload 5, 2) := by decide +kernel
theorem dX7_both_52 : decode cX7_both 52 = .ok (.invokevirtual 146, 3) := by decide +kernel
theorem dX7_both_55 : decode cX7_both 55 = .ok (.iaload, 1) := by decide +kernel
theorem dX7_both_56 : decode cX7_both 56 = .ok (.iadd, 1) := by decide +kernel
theorem dX7_both_57 : decode cX7_both 57 = .ok (.ireturn, 1) := by decide +kernel
theorem dX7_both_58 : decode cX7_both 58 = .ok (.aload_n 0, 1) := by decide +kernel
theorem dX7_both_59 : decode cX7_both 59 = .ok (.getfield 49, 3) := by decide +kernel
theorem dX7_both_62 : decode cX7_both 62 = .ok (.aload_n 0, 1) := by decide +kernel
theorem dX7_both_63 : decode cX7_both 63 = .ok (.iload_n 1, 1) := by decide +kernel
theorem dX7_both_64 : decode cX7_both 64 = .ok (.iload_n 2, 1) := by decide +kernel
theorem dX7_both_65 : decode cX7_both 65 = .ok (.iload_n 3, 1) := by decide +kernel
theorem dX7_both_66 : decode cX7_both 66 = .ok (.iload 4, 2) := by decide +kernel
theorem dX7_both_68 : decode cX7_both 68 = .ok (.iload 6, 2) := by decide +kernel
theorem dX7_both_70 : decode cX7_both 70 = .ok (.invokevirtual 146, 3) := by decide +kernel
theorem dX7_both_73 : decode cX7_both 73 = .ok (.iaload, 1) := by decide +kernel
theorem dX7_both_74 : decode cX7_both 74 = .ok (.aload_n 0, 1) := by decide +kernel
theorem dX7_both_75 : decode cX7_both 75 = .ok (.getfield 49, 3) := by decide +kernel
theorem dX7_both_78 : decode cX7_both 78 = .ok (.aload_n 0, 1) := by decide +kernel
theorem dX7_both_79 : decode cX7_both 79 = .ok (.iload_n 1, 1) := by decide +kernel
theorem dX7_both_80 : decode cX7_both 80 = .ok (.iload_n 2, 1) := by decide +kernel
theorem dX7_both_81 : decode cX7_both 81 = .ok (.iload_n 3, 1) := by decide +kernel
theorem dX7_both_82 : decode cX7_both 82 = .ok (.iload 6, 2) := by decide +kernel
theorem dX7_both_84 : decode cX7_both 84 = .ok (.iadd, 1) := by decide +kernel
theorem dX7_both_85 : decode cX7_both 85 = .ok (.aload_n 0, 1) := by decide +kernel
theorem dX7_both_86 : decode cX7_both 86 = .ok (.getfield 116, 3) := by decide +kernel
theorem dX7_both_89 : decode cX7_both 89 = .ok (.iadd, 1) := by decide +kernel
theorem dX7_both_90 : decode cX7_both 90 = .ok (.iload 4, 2) := by decide +kernel
theorem dX7_both_92 : decode cX7_both 92 = .ok (.iload 5, 2) := by decide +kernel
theorem dX7_both_94 : decode cX7_both 94 = .ok (.iload 6, 2) := by decide +kernel
theorem dX7_both_96 : decode cX7_both 96 = .ok (.isub, 1) := by decide +kernel
theorem dX7_both_97 : decode cX7_both 97 = .ok (.aload_n 0, 1) := by decide +kernel
theorem dX7_both_98 : decode cX7_both 98 = .ok (.getfield 116, 3) := by decide +kernel
theorem dX7_both_101 : decode cX7_both 101 = .ok (.isub, 1) := by decide +kernel
theorem dX7_both_102 : decode cX7_both 102 = .ok (.invokevirtual 146, 3) := by decide +kernel
theorem dX7_both_105 : decode cX7_both 105 = .ok (.iaload, 1) := by decide +kernel
theorem dX7_both_106 : decode cX7_both 106 = .ok (.iadd, 1) := by decide +kernel
theorem dX7_both_107 : decode cX7_both 107 = .ok (.ireturn, 1) := by decide +kernel
set_option maxRecDepth 20000 in
theorem ggX7_work_X7_workPart : GoodIn wsX7_work wsX7_workPart := goodIn_r _ [8, 9, 10, 11, 12, 13, 14, 7, 15, 16, 17, 18, 19, 20, 21, 22, 23, 24, 25, 26, 27, 28, 29, 30, 31, 32, 33, 34, 35, 36, 37, 38, 39, 40, 41, 42, 43, 44, 45, 46, 47, 78, 79, 80, 81, 82, 83, 84, 85, 86, 87, 88, 89, 90, 91, 92, 93, 94, 95, 96, 97, 98, 99, 100, 101, 102, 103, 104, 105, 106, 107, 108, 109, 110, 111, 112, 113, 114, 115, 116, 117, 118, 119, 120, 121, 122, 123, 124] (by decide +kernel) (by decide +kernel)
set_option maxRecDepth 20000 in
theorem gX7_work_X7_workPart : GoodIn wsX7_work (wsV RX7 150 RX7 yX7_workPart wsX7_workPart) := goodIn_app (goodIn_of _ (by decide +kernel)) ggX7_work_X7_workPart
set_option maxRecDepth 20000 in
theorem ggX7_work_X7_layPlan : GoodIn wsX7_work wsX7_layPlan := goodIn_r _ [51, 52, 53, 54, 2, 3, 55, 56, 57, 58, 7, 59, 60, 61, 62, 63, 11, 10, 64, 65, 66, 67, 68, 69, 43, 44, 45, 46, 47, 70, 71, 72, 73, 16, 17, 74, 75, 76, 77, 25, 26, 27, 28, 29, 30, 31, 32, 33, 18, 19, 20, 21, 22, 23, 24, 34, 35, 36, 37, 38, 39, 40, 41, 42, 78, 79, 80, 81, 82, 83, 84, 85, 86, 87, 88, 89, 90, 91, 92, 93, 94, 95, 96, 97, 98, 99, 100, 101, 102, 103, 104, 105, 106, 107, 108, 109, 110, 111, 112, 113, 114, 115, 116, 117, 118, 119, 120, 121, 122, 123, 124] (by decide +kernel) (by decide +kernel)
set_option maxRecDepth 20000 in
theorem gX7_work_X7_layPlan : GoodIn wsX7_work (wsV RX7 154 RX7 yX7_layPlan wsX7_layPlan) := goodIn_app (goodIn_of _ (by decide +kernel)) ggX7_work_X7_layPlan
theorem dX7_work_0 : decode cX7_work 0 = .ok (.aload_n 0, 1) := by decide +kernel
theorem dX7_work_1 : decode cX7_work 1 = .ok (.getfield 125, 3) := by decide +kernel
theorem dX7_work_4 : decode cX7_work 4 = .ok (.ifCond .eq 4, 3) := by decide +kernel
theorem dX7_work_7 : decode cX7_work 7 = .ok (.return_, 1) := by decide +kernel
theorem dX7_work_8 : decode cX7_work 8 = .ok (.aload_n 0, 1) := by decide +kernel
theorem dX7_work_9 : decode cX7_work 9 = .ok (.iconst 1, 1) := by decide +kernel
theorem dX7_work_10 : decode cX7_work 10 = .ok (.putfield 125, 3) := by decide +kernel
theorem dX7_work_13 : decode cX7_work 13 = .ok (.iconst 1, 1) := by decide +kernel
theorem dX7_work_14 : decode cX7_work 14 = .ok (.istore_n 1, 1) := by decide +kernel
theorem dX7_work_15 : decode cX7_work 15 = .ok (.iload_n 1, 1) := by decide +kernel
theorem dX7_work_16 : decode cX7_work 16 = .ok (.aload_n 0, 1) := by decide +kernel
theorem dX7_work_17 : decode cX7_work 17 = .ok (.getfield 7, 3) := by decide +kernel
theorem dX7_work_20 : decode cX7_work 20 = .ok (.if_icmp .gt 72, 3) := by decide +kernel
theorem dX7_work_23 : decode cX7_work 23 = .ok (.iconst 1, 1) := by decide +kernel
theorem dX7_work_24 : decode cX7_work 24 = .ok (.istore_n 2, 1) := by decide +kernel
theorem dX7_work_25 : decode cX7_work 25 = .ok (.iload_n 2, 1) := by decide +kernel
theorem dX7_work_26 : decode cX7_work 26 = .ok (.aload_n 0, 1) := by decide +kernel
theorem dX7_work_27 : decode cX7_work 27 = .ok (.getfield 13, 3) := by decide +kernel
theorem dX7_work_30 : decode cX7_work 30 = .ok (.if_icmp .gt 56, 3) := by decide +kernel
theorem dX7_work_33 : decode cX7_work 33 = .ok (.iconst 0, 1) := by decide +kernel
theorem dX7_work_34 : decode cX7_work 34 = .ok (.istore_n 3, 1) := by decide +kernel
theorem dX7_work_35 : decode cX7_work 35 = .ok (.iload_n 3, 1) := by decide +kernel
theorem dX7_work_36 : decode cX7_work 36 = .ok (.iload_n 1, 1) := by decide +kernel
theorem dX7_work_37 : decode cX7_work 37 = .ok (.iadd, 1) := by decide +kernel
theorem dX7_work_38 : decode cX7_work 38 = .ok (.aload_n 0, 1) := by decide +kernel
theorem dX7_work_39 : decode cX7_work 39 = .ok (.getfield 7, 3) := by decide +kernel
theorem dX7_work_42 : decode cX7_work 42 = .ok (.if_icmp .gt 38, 3) := by decide +kernel
theorem dX7_work_45 : decode cX7_work 45 = .ok (.iconst 0, 1) := by decide +kernel
theorem dX7_work_46 : decode cX7_work 46 = .ok (.istore 4, 2) := by decide +kernel
theorem dX7_work_48 : decode cX7_work 48 = .ok (.iload 4, 2) := by decide +kernel
theorem dX7_work_50 : decode cX7_work 50 = .ok (.iload_n 2, 1) := by decide +kernel
theorem dX7_work_51 : decode cX7_work 51 = .ok (.iadd, 1) := by decide +kernel
theorem dX7_work_52 : decode cX7_work 52 = .ok (.aload_n 0, 1) := by decide +kernel
theorem dX7_work_53 : decode cX7_work 53 = .ok (.getfield 13, 3) := by decide +kernel
theorem dX7_work_56 : decode cX7_work 56 = .ok (.if_icmp .gt 18, 3) := by decide +kernel
theorem dX7_work_59 : decode cX7_work 59 = .ok (.aload_n 0, 1) := by decide +kernel
theorem dX7_work_60 : decode cX7_work 60 = .ok (.iload_n 3, 1) := by decide +kernel
theorem dX7_work_61 : decode cX7_work 61 = .ok (.iload 4, 2) := by decide +kernel
theorem dX7_work_63 : decode cX7_work 63 = .ok (.iload_n 1, 1) := by decide +kernel
theorem dX7_work_64 : decode cX7_work 64 = .ok (.iload_n 2, 1) := by decide +kernel
theorem dX7_work_65 : decode cX7_work 65 = .ok (.invokevirtual 150, 3) := by decide +kernel
theorem dX7_work_68 : decode cX7_work 68 = .ok (.iinc 4 1, 3) := by decide +kernel
theorem dX7_work_71 : decode cX7_work 71 = .ok (.goto (-23), 3) := by decide +kernel
theorem dX7_work_74 : decode cX7_work 74 = .ok (.iinc 3 1, 3) := by decide +kernel
theorem dX7_work_77 : decode cX7_work 77 = .ok (.goto (-42), 3) := by decide +kernel
theorem dX7_work_80 : decode cX7_work 80 = .ok (.iinc 2 1, 3) := by decide +kernel
theorem dX7_work_83 : decode cX7_work 83 = .ok (.goto (-58), 3) := by decide +kernel
theorem dX7_work_86 : decode cX7_work 86 = .ok (.iinc 1 1, 3) := by decide +kernel
theorem dX7_work_89 : decode cX7_work 89 = .ok (.goto (-74), 3) := by decide +kernel
theorem dX7_work_92 : decode cX7_work 92 = .ok (.aload_n 0, 1) := by decide +kernel
theorem dX7_work_93 : decode cX7_work 93 = .ok (.invokevirtual 154, 3) := by decide +kernel
theorem dX7_work_96 : decode cX7_work 96 = .ok (.return_, 1) := by decide +kernel
set_option maxRecDepth 20000 in
theorem ggX7_workPart_X7_bestPiece : GoodIn wsX7_workPart wsX7_bestPiece := goodIn_r _ [8, 9, 10, 11, 12, 13, 7, 14, 15, 16, 17, 18, 19, 20, 21, 22, 23, 24, 25, 26, 41, 42, 43, 44, 45, 46, 47, 48, 49, 50, 51, 52, 53, 54, 55, 56, 57, 58, 59, 60, 61, 62, 63, 64, 65, 66, 67, 68, 69, 70, 71, 72, 73, 74, 75, 76, 77, 78, 79, 80, 81, 82, 83, 84, 85, 86, 87] (by decide +kernel) (by decide +kernel)
set_option maxRecDepth 20000 in
theorem gX7_workPart_X7_bestPiece : GoodIn wsX7_workPart (wsV RX7 157 RX7 yX7_bestPiece wsX7_bestPiece) := goodIn_app (goodIn_of _ (by decide +kernel)) ggX7_workPart_X7_bestPiece
set_option maxRecDepth 20000 in
theorem ggX7_workPart_X7_wayOf : GoodIn wsX7_workPart wsX7_wayOf := goodIn_r _ [30, 31, 41, 42, 43, 44, 45, 46, 47, 48, 49, 50, 51, 52, 53, 54, 55, 56, 57, 58, 59, 60, 61, 62, 63, 64, 65, 66, 67, 68, 69, 70, 71, 72, 73, 74, 75, 76, 77, 78, 79, 80, 81, 82, 83, 84, 85, 86, 87] (by decide +kernel) (by decide +kernel)
set_option maxRecDepth 20000 in
theorem gX7_workPart_X7_wayOf : GoodIn wsX7_workPart (wsV RX7 142 RX7 yX7_wayOf wsX7_wayOf) := goodIn_app (goodIn_of _ (by decide +kernel)) ggX7_workPart_X7_wayOf
set_option maxRecDepth 20000 in
theorem ggX7_workPart_X7_both : GoodIn wsX7_workPart wsX7_both := goodIn_r _ [35, 3, 2, 27, 28, 29, 7, 30, 31, 36, 37, 38, 39, 40, 41, 42, 43, 44, 45, 46, 47, 48, 49, 50, 51, 52, 53, 54, 55, 56, 57, 58, 59, 60, 61, 62, 63, 64, 65, 66, 67, 68, 69, 70, 71, 72, 73, 74, 75, 76, 77, 78, 79, 80, 81, 82, 83, 84, 85, 86, 87] (by decide +kernel) (by decide +kernel)
set_option maxRecDepth 20000 in
theorem gX7_workPart_X7_both : GoodIn wsX7_workPart (wsV RX7 161 RX7 yX7_both wsX7_both) := goodIn_app (goodIn_of _ (by decide +kernel)) ggX7_workPart_X7_both
set_option maxRecDepth 20000 in
theorem ggX7_workPart_X7_at : GoodIn wsX7_workPart wsX7_at := goodIn_r _ [39, 40, 41, 42, 43, 44, 45, 46, 47, 48, 49, 50, 51, 52, 53, 54, 55, 56, 57, 58, 59, 60, 61, 62, 63, 64, 65, 66, 67, 68, 69, 70, 71, 72, 73, 74, 75, 76, 77, 78, 79, 80, 81, 82, 83, 84, 85, 86, 87] (by decide +kernel) (by decide +kernel)
set_option maxRecDepth 20000 in
theorem gX7_workPart_X7_at : GoodIn wsX7_workPart (wsV RX7 146 RX7 yX7_at wsX7_at) := goodIn_app (goodIn_of _ (by decide +kernel)) ggX7_workPart_X7_at
theorem dX7_workPart_0 : decode cX7_workPart 0 = .ok (.aload_n 0, 1) := by decide +kernel
theorem dX7_workPart_1 : decode cX7_workPart 1 = .ok (.iload_n 1, 1) := by decide +kernel
theorem dX7_workPart_2 : decode cX7_workPart 2 = .ok (.iload_n 2, 1) := by decide +kernel
theorem dX7_workPart_3 : decode cX7_workPart 3 = .ok (.iload_n 3, 1) := by decide +kernel
theorem dX7_workPart_4 : decode cX7_workPart 4 = .ok (.iload 4, 2) := by decide +kernel
theorem dX7_workPart_6 : decode cX7_workPart 6 = .ok (.invokevirtual 157, 3) := by decide +kernel
theorem dX7_workPart_9 : decode cX7_workPart 9 = .ok (.istore 5, 2) := by decide +kernel
theorem dX7_workPart_11 : decode cX7_workPart 11 = .ok (.aload_n 0, 1) := by decide +kernel
theorem dX7_workPart_12 : decode cX7_workPart 12 = .ok (.getfield 16, 3) := by decide +kernel
theorem dX7_workPart_15 : decode cX7_workPart 15 = .ok (.istore 6, 2) := by decide +kernel
theorem dX7_workPart_17 : decode cX7_workPart 17 = .ok (.iload 6, 2) := by decide +kernel
theorem dX7_workPart_19 : decode cX7_workPart 19 = .ok (.ifCond .le 145, 3) := by decide +kernel
theorem dX7_workPart_22 : decode cX7_workPart 22 = .ok (.iload 5, 2) := by decide +kernel
theorem dX7_workPart_24 : decode cX7_workPart 24 = .ok (.istore 7, 2) := by decide +kernel
theorem dX7_workPart_26 : decode cX7_workPart 26 = .ok (.aload_n 0, 1) := by decide +kernel
theorem dX7_workPart_27 : decode cX7_workPart 27 = .ok (.iload 6, 2) := by decide +kernel
theorem dX7_workPart_29 : decode cX7_workPart 29 = .ok (.invokevirtual 142, 3) := by decide +kernel
theorem dX7_workPart_32 : decode cX7_workPart 32 = .ok (.ifCond .ne 7, 3) := by decide +kernel
theorem dX7_workPart_35 : decode cX7_workPart 35 = .ok (.iload_n 3, 1) := by decide +kernel
theorem dX7_workPart_36 : decode cX7_workPart 36 = .ok (.goto 5, 3) := by decide +kernel
theorem dX7_workPart_39 : decode cX7_workPart 39 = .ok (.iload 4, 2) := by decide +kernel
theorem dX7_workPart_41 : decode cX7_workPart 41 = .ok (.istore 8, 2) := by decide +kernel
theorem dX7_workPart_43 : decode cX7_workPart 43 = .ok (.iconst 1, 1) := by decide +kernel
theorem dX7_workPart_44 : decode cX7_workPart 44 = .ok (.istore 9, 2) := by decide +kernel
theorem dX7_workPart_46 : decode cX7_workPart 46 = .ok (.iload 9, 2) := by decide +kernel
theorem dX7_workPart_48 : decode cX7_workPart 48 = .ok (.aload_n 0, 1) := by decide +kernel
theorem dX7_workPart_49 : decode cX7_workPart 49 = .ok (.getfield 116, 3) := by decide +kernel
theorem dX7_workPart_52 : decode cX7_workPart 52 = .ok (.iadd, 1) := by decide +kernel
theorem dX7_workPart_53 : decode cX7_workPart 53 = .ok (.iload 8, 2) := by decide +kernel
theorem dX7_workPart_55 : decode cX7_workPart 55 = .ok (.if_icmp .ge 40, 3) := by decide +kernel
theorem dX7_workPart_58 : decode cX7_workPart 58 = .ok (.aload_n 0, 1) := by decide +kernel
theorem dX7_workPart_59 : decode cX7_workPart 59 = .ok (.iload 6, 2) := by decide +kernel
theorem dX7_workPart_61 : decode cX7_workPart 61 = .ok (.iload_n 1, 1) := by decide +kernel
theorem dX7_workPart_62 : decode cX7_workPart 62 = .ok (.iload_n 2, 1) := by decide +kernel
theorem dX7_workPart_63 : decode cX7_workPart 63 = .ok (.iload_n 3, 1) := by decide +kernel
theorem dX7_workPart_64 : decode cX7_workPart 64 = .ok (.iload 4, 2) := by decide +kernel
theorem dX7_workPart_66 : decode cX7_workPart 66 = .ok (.iload 9, 2) := by decide +kernel
theorem dX7_workPart_68 : decode cX7_workPart 68 = .ok (.invokevirtual 161, 3) := by decide +kernel
theorem dX7_workPart_71 : decode cX7_workPart 71 = .ok (.istore 10, 2) := by decide +kernel
theorem dX7_workPart_73 : decode cX7_workPart 73 = .ok (.iload 10, 2) := by decide +kernel
theorem dX7_workPart_75 : decode cX7_workPart 75 = .ok (.iload 7, 2) := by decide +kernel
theorem dX7_workPart_77 : decode cX7_workPart 77 = .ok (.if_icmp .le 8, 3) := by decide +kernel
theorem dX7_workPart_80 : decode cX7_workPart 80 = .ok (.iload 10, 2) := by decide +kernel
theorem dX7_workPart_82 : decode cX7_workPart 82 = .ok (.goto 5, 3) := by decide +kernel
theorem dX7_workPart_85 : decode cX7_workPart 85 = .ok (.iload 7, 2) := by decide +kernel
theorem dX7_workPart_87 : decode cX7_workPart 87 = .ok (.istore 7, 2) := by decide +kernel
theorem dX7_workPart_89 : decode cX7_workPart 89 = .ok (.iinc 9 1, 3) := by decide +kernel
theorem dX7_workPart_92 : decode cX7_workPart 92 = .ok (.goto (-46), 3) := by decide +kernel
theorem dX7_workPart_95 : decode cX7_workPart 95 = .ok (.iload 6, 2) := by decide +kernel
theorem dX7_workPart_97 : decode cX7_workPart 97 = .ok (.aload_n 0, 1) := by decide +kernel
theorem dX7_workPart_98 : decode cX7_workPart 98 = .ok (.getfield 16, 3) := by decide +kernel
theorem dX7_workPart_101 : decode cX7_workPart 101 = .ok (.if_icmp .ge 39, 3) := by decide +kernel
theorem dX7_workPart_104 : decode cX7_workPart 104 = .ok (.aload_n 0, 1) := by decide +kernel
theorem dX7_workPart_105 : decode cX7_workPart 105 = .ok (.getfield 49, 3) := by decide +kernel
theorem dX7_workPart_108 : decode cX7_workPart 108 = .ok (.aload_n 0, 1) := by decide +kernel
theorem dX7_workPart_109 : decode cX7_workPart 109 = .ok (.iload 6, 2) := by decide +kernel
theorem dX7_workPart_111 : decode cX7_workPart 111 = .ok (.iconst 1, 1) := by decide +kernel
theorem dX7_workPart_112 : decode cX7_workPart 112 = .ok (.iadd, 1) := by decide +kernel
theorem dX7_workPart_113 : decode cX7_workPart 113 = .ok (.iload_n 1, 1) := by decide +kernel
theorem dX7_workPart_114 : decode cX7_workPart 114 = .ok (.iload_n 2, 1) := by decide +kernel
theorem dX7_workPart_115 : decode cX7_workPart 115 = .ok (.iload_n 3, 1) := by decide +kernel
theorem dX7_workPart_116 : decode cX7_workPart 116 = .ok (.iload 4, 2) := by decide +kernel
theorem dX7_workPart_118 : decode cX7_workPart 118 = .ok (.invokevirtual 146, 3) := by decide +kernel
theorem dX7_workPart_121 : decode cX7_workPart 121 = .ok (.iaload, 1) := by decide +kernel
theorem dX7_workPart_122 : decode cX7_workPart 122 = .ok (.istore 9, 2) := by decide +kernel
theorem dX7_workPart_124 : decode cX7_workPart 124 = .ok (.iload 9, 2) := by decide +kernel
theorem dX7_workPart_126 : decode cX7_workPart 126 = .ok (.iload 7, 2) := by decide +kernel
theorem dX7_workPart_128 : decode cX7_workPart 128 = .ok (.if_icmp .le 8, 3) := by decide +kernel
theorem dX7_workPart_131 : decode cX7_workPart 131 = .ok (.iload 9, 2) := by decide +kernel
theorem dX7_workPart_133 : decode cX7_workPart 133 = .ok (.goto 5, 3) := by decide +kernel
theorem dX7_workPart_136 : decode cX7_workPart 136 = .ok (.iload 7, 2) := by decide +kernel
theorem dX7_workPart_138 : decode cX7_workPart 138 = .ok (.istore 7, 2) := by decide +kernel
theorem dX7_workPart_140 : decode cX7_workPart 140 = .ok (.aload_n 0, 1) := by decide +kernel
theorem dX7_workPart_141 : decode cX7_workPart 141 = .ok (.getfield 49, 3) := by decide +kernel
theorem dX7_workPart_144 : decode cX7_workPart 144 = .ok (.aload_n 0, 1) := by decide +kernel
theorem dX7_workPart_145 : decode cX7_workPart 145 = .ok (.iload 6, 2) := by decide +kernel
theorem dX7_workPart_147 : decode cX7_workPart 147 = .ok (.iload_n 1, 1) := by decide +kernel
theorem dX7_workPart_148 : decode cX7_workPart 148 = .ok (.iload_n 2, 1) := by decide +kernel
theorem dX7_workPart_149 : decode cX7_workPart 149 = .ok (.iload_n 3, 1) := by decide +kernel
theorem dX7_workPart_150 : decode cX7_workPart 150 = .ok (.iload 4, 2) := by decide +kernel
theorem dX7_workPart_152 : decode cX7_workPart 152 = .ok (.invokevirtual 146, 3) := by decide +kernel
theorem dX7_workPart_155 : decode cX7_workPart 155 = .ok (.iload 7, 2) := by decide +kernel
theorem dX7_workPart_157 : decode cX7_workPart 157 = .ok (.iastore, 1) := by decide +kernel
theorem dX7_workPart_158 : decode cX7_workPart 158 = .ok (.iinc 6 (-1), 3) := by decide +kernel
theorem dX7_workPart_161 : decode cX7_workPart 161 = .ok (.goto (-144), 3) := by decide +kernel
theorem dX7_workPart_164 : decode cX7_workPart 164 = .ok (.return_, 1) := by decide +kernel
theorem dX7_lay_0 : decode cX7_lay 0 = .ok (.aload_n 0, 1) := by decide +kernel
theorem dX7_lay_1 : decode cX7_lay 1 = .ok (.getfield 82, 3) := by decide +kernel
theorem dX7_lay_4 : decode cX7_lay 4 = .ok (.aload_n 0, 1) := by decide +kernel
theorem dX7_lay_5 : decode cX7_lay 5 = .ok (.getfield 165, 3) := by decide +kernel
theorem dX7_lay_8 : decode cX7_lay 8 = .ok (.iload_n 1, 1) := by decide +kernel
theorem dX7_lay_9 : decode cX7_lay 9 = .ok (.iastore, 1) := by decide +kernel
theorem dX7_lay_10 : decode cX7_lay 10 = .ok (.aload_n 0, 1) := by decide +kernel
theorem dX7_lay_11 : decode cX7_lay 11 = .ok (.getfield 82, 3) := by decide +kernel
theorem dX7_lay_14 : decode cX7_lay 14 = .ok (.aload_n 0, 1) := by decide +kernel
theorem dX7_lay_15 : decode cX7_lay 15 = .ok (.getfield 165, 3) := by decide +kernel
theorem dX7_lay_18 : decode cX7_lay 18 = .ok (.iconst 1, 1) := by decide +kernel
theorem dX7_lay_19 : decode cX7_lay 19 = .ok (.iadd, 1) := by decide +kernel
theorem dX7_lay_20 : decode cX7_lay 20 = .ok (.iload_n 2, 1) := by decide +kernel
theorem dX7_lay_21 : decode cX7_lay 21 = .ok (.iastore, 1) := by decide +kernel
theorem dX7_lay_22 : decode cX7_lay 22 = .ok (.aload_n 0, 1) := by decide +kernel
theorem dX7_lay_23 : decode cX7_lay 23 = .ok (.getfield 82, 3) := by decide +kernel
theorem dX7_lay_26 : decode cX7_lay 26 = .ok (.aload_n 0, 1) := by decide +kernel
theorem dX7_lay_27 : decode cX7_lay 27 = .ok (.getfield 165, 3) := by decide +kernel
theorem dX7_lay_30 : decode cX7_lay 30 = .ok (.iconst 2, 1) := by decide +kernel
theorem dX7_lay_31 : decode cX7_lay 31 = .ok (.iadd, 1) := by decide +kernel
theorem dX7_lay_32 : decode cX7_lay 32 = .ok (.iload_n 3, 1) := by decide +kernel
theorem dX7_lay_33 : decode cX7_lay 33 = .ok (.iastore, 1) := by decide +kernel
theorem dX7_lay_34 : decode cX7_lay 34 = .ok (.aload_n 0, 1) := by decide +kernel
theorem dX7_lay_35 : decode cX7_lay 35 = .ok (.getfield 82, 3) := by decide +kernel
theorem dX7_lay_38 : decode cX7_lay 38 = .ok (.aload_n 0, 1) := by decide +kernel
theorem dX7_lay_39 : decode cX7_lay 39 = .ok (.getfield 165, 3) := by decide +kernel
theorem dX7_lay_42 : decode cX7_lay 42 = .ok (.iconst 3, 1) := by decide +kernel
theorem dX7_lay_43 : decode cX7_lay 43 = .ok (.iadd, 1) := by decide +kernel
theorem dX7_lay_44 : decode cX7_lay 44 = .ok (.iload 4, 2) := by decide +kernel
theorem dX7_lay_46 : decode cX7_lay 46 = .ok (.iastore, 1) := by decide +kernel
theorem dX7_lay_47 : decode cX7_lay 47 = .ok (.aload_n 0, 1) := by decide +kernel
theorem dX7_lay_48 : decode cX7_lay 48 = .ok (.getfield 82, 3) := by decide +kernel
theorem dX7_lay_51 : decode cX7_lay 51 = .ok (.aload_n 0, 1) := by decide +kernel
theorem dX7_lay_52 : decode cX7_lay 52 = .ok (.getfield 165, 3) := by decide +kernel
theorem dX7_lay_55 : decode cX7_lay 55 = .ok (.iconst 4, 1) := by decide +kernel
theorem dX7_lay_56 : decode cX7_lay 56 = .ok (.iadd, 1) := by decide +kernel
theorem dX7_lay_57 : decode cX7_lay 57 = .ok (.iload 5, 2) := by decide +kernel
theorem dX7_lay_59 : decode cX7_lay 59 = .ok (.iastore, 1) := by decide +kernel
theorem dX7_lay_60 : decode cX7_lay 60 = .ok (.aload_n 0, 1) := by decide +kernel
theorem dX7_lay_61 : decode cX7_lay 61 = .ok (.dup, 1) := by decide +kernel
theorem dX7_lay_62 : decode cX7_lay 62 = .ok (.getfield 165, 3) := by decide +kernel
theorem dX7_lay_65 : decode cX7_lay 65 = .ok (.iconst 5, 1) := by decide +kernel
theorem dX7_lay_66 : decode cX7_lay 66 = .ok (.iadd, 1) := by decide +kernel
theorem dX7_lay_67 : decode cX7_lay 67 = .ok (.putfield 165, 3) := by decide +kernel
theorem dX7_lay_70 : decode cX7_lay 70 = .ok (.return_, 1) := by decide +kernel
set_option maxRecDepth 20000 in
theorem ggX7_layPlan_X7_lay : GoodIn wsX7_layPlan wsX7_lay := goodIn_r _ [11, 6, 3, 64, 65, 66, 67, 68, 69, 70, 71, 72, 73, 74, 75, 76, 77, 78, 79, 80, 81, 82, 83, 84, 85, 86, 87, 88, 89, 90, 91, 92, 93, 94, 95, 96, 97, 98, 99, 100, 101, 102, 103, 104, 105, 106, 107, 108, 109, 110] (by decide +kernel) (by decide +kernel)
set_option maxRecDepth 20000 in
theorem gX7_layPlan_X7_lay : GoodIn wsX7_layPlan (wsV RX7 174 RX7 yX7_lay wsX7_lay) := goodIn_app (goodIn_of _ (by decide +kernel)) ggX7_layPlan_X7_lay
set_option maxRecDepth 20000 in
theorem ggX7_layPlan_X7_layPart : GoodIn wsX7_layPlan wsX7_layPart := goodIn_r _ [15, 16, 17, 18, 2, 19, 20, 21, 22, 23, 24, 25, 26, 10, 27, 28, 29, 30, 31, 32, 33, 34, 35, 1, 36, 37, 38, 39, 40, 41, 42, 43, 44, 45, 46, 47, 48, 49, 50, 51, 52, 53, 54, 55, 56, 57, 58, 59, 60, 61, 62, 63, 7, 8, 9, 11, 6, 3, 64, 65, 66, 67, 68, 69, 70, 71, 72, 73, 74, 75, 76, 77, 78, 79, 80, 81, 82, 83, 84, 85, 86, 87, 88, 89, 90, 91, 92, 93, 94, 95, 96, 97, 98, 99, 100, 101, 102, 103, 104, 105, 106, 107, 108, 109, 110] (by decide +kernel) (by decide +kernel)
set_option maxRecDepth 20000 in
theorem gX7_layPlan_X7_layPart : GoodIn wsX7_layPlan (wsV RX7 178 RX7 yX7_layPart wsX7_layPart) := goodIn_app (goodIn_of _ (by decide +kernel)) ggX7_layPlan_X7_layPart
theorem dX7_layPlan_0 : decode cX7_layPlan 0 = .ok (.aload_n 0, 1) := by decide +kernel
theorem dX7_layPlan_1 : decode cX7_layPlan 1 = .ok (.iconst 0, 1) := by decide +kernel
theorem dX7_layPlan_2 : decode cX7_layPlan 2 = .ok (.putfield 168, 3) := by decide +kernel
theorem dX7_layPlan_5 : decode cX7_layPlan 5 = .ok (.aload_n 0, 1) := by decide +kernel
theorem dX7_layPlan_6 : decode cX7_layPlan 6 = .ok (.iconst 0, 1) := by decide +kernel
theorem dX7_layPlan_7 : decode cX7_layPlan 7 = .ok (.putfield 171, 3) := by decide +kernel
theorem dX7_layPlan_10 : decode cX7_layPlan 10 = .ok (.aload_n 0, 1) := by decide +kernel
theorem dX7_layPlan_11 : decode cX7_layPlan 11 = .ok (.iconst 0, 1) := by decide +kernel
theorem dX7_layPlan_12 : decode cX7_layPlan 12 = .ok (.putfield 165, 3) := by decide +kernel
theorem dX7_layPlan_15 : decode cX7_layPlan 15 = .ok (.aload_n 0, 1) := by decide +kernel
theorem dX7_layPlan_16 : decode cX7_layPlan 16 = .ok (.iconst 1, 1) := by decide +kernel
theorem dX7_layPlan_17 : decode cX7_layPlan 17 = .ok (.iconst 0, 1) := by decide +kernel
theorem dX7_layPlan_18 : decode cX7_layPlan 18 = .ok (.iconst 0, 1) := by decide +kernel
theorem dX7_layPlan_19 : decode cX7_layPlan 19 = .ok (.aload_n 0, 1) := by decide +kernel
theorem dX7_layPlan_20 : decode cX7_layPlan 20 = .ok (.getfield 7, 3) := by decide +kernel
theorem dX7_layPlan_23 : decode cX7_layPlan 23 = .ok (.aload_n 0, 1) := by decide +kernel
theorem dX7_layPlan_24 : decode cX7_layPlan 24 = .ok (.getfield 13, 3) := by decide +kernel
theorem dX7_layPlan_27 : decode cX7_layPlan 27 = .ok (.invokevirtual 174, 3) := by decide +kernel
theorem dX7_layPlan_30 : decode cX7_layPlan 30 = .ok (.aload_n 0, 1) := by decide +kernel
theorem dX7_layPlan_31 : decode cX7_layPlan 31 = .ok (.getfield 165, 3) := by decide +kernel
theorem dX7_layPlan_34 : decode cX7_layPlan 34 = .ok (.ifCond .le 73, 3) := by decide +kernel
theorem dX7_layPlan_37 : decode cX7_layPlan 37 = .ok (.aload_n 0, 1) := by decide +kernel
theorem dX7_layPlan_38 : decode cX7_layPlan 38 = .ok (.dup, 1) := by decide +kernel
theorem dX7_layPlan_39 : decode cX7_layPlan 39 = .ok (.getfield 165, 3) := by decide +kernel
theorem dX7_layPlan_42 : decode cX7_layPlan 42 = .ok (.iconst 5, 1) := by decide +kernel
theorem dX7_layPlan_43 : decode cX7_layPlan 43 = .ok (.isub, 1) := by decide +kernel
theorem dX7_layPlan_44 : decode cX7_layPlan 44 = .ok (.putfield 165, 3) := by decide +kernel
theorem dX7_layPlan_47 : decode cX7_layPlan 47 = .ok (.aload_n 0, 1) := by decide +kernel
theorem dX7_layPlan_48 : decode cX7_layPlan 48 = .ok (.aload_n 0, 1) := by decide +kernel
theorem dX7_layPlan_49 : decode cX7_layPlan 49 = .ok (.getfield 82, 3) := by decide +kernel
theorem dX7_layPlan_52 : decode cX7_layPlan 52 = .ok (.aload_n 0, 1) := by decide +kernel
theorem dX7_layPlan_53 : decode cX7_layPlan 53 = .ok (.getfield 165, 3) := by decide +kernel
theorem dX7_layPlan_56 : decode cX7_layPlan 56 = .ok (.iaload, 1) := by decide +kernel
theorem dX7_layPlan_57 : decode cX7_layPlan 57 = .ok (.aload_n 0, 1) := by decide +kernel
theorem dX7_layPlan_58 : decode cX7_layPlan 58 = .ok (.getfield 82, 3) := by decide +kernel
theorem dX7_layPlan_61 : decode cX7_layPlan 61 = .ok (.aload_n 0, 1) := by decide +kernel
theorem dX7_layPlan_62 : decode cX7_layPlan 62 = .ok (.getfield 165, 3) := by decide +kernel
theorem dX7_layPlan_65 : decode cX7_layPlan 65 = .ok (.iconst 1, 1) := by decide +kernel
theorem dX7_layPlan_66 : decode cX7_layPlan 66 = .ok (.iadd, 1) := by decide +kernel
theorem dX7_layPlan_67 : decode cX7_layPlan 67 = .ok (.iaload, 1) := by decide +kernel
theorem dX7_layPlan_68 : decode cX7_layPlan 68 = .ok (.aload_n 0, 1) := by decide +kernel
theorem dX7_layPlan_69 : decode cX7_layPlan 69 = .ok (.getfield 82, 3) := by decide +kernel
theorem dX7_layPlan_72 : decode cX7_layPlan 72 = .ok (.aload_n 0, 1) := by decide +kernel
theorem dX7_layPlan_73 : decode cX7_layPlan 73 = .ok (.getfield 165, 3) := by decide +kernel
theorem dX7_layPlan_76 : decode cX7_layPlan 76 = .ok (.iconst 2, 1) := by decide +kernel
theorem dX7_layPlan_77 : decode cX7_layPlan 77 = .ok (.iadd, 1) := by decide +kernel
theorem dX7_layPlan_78 : decode cX7_layPlan 78 = .ok (.iaload, 1) := by decide +kernel
theorem dX7_layPlan_79 : decode cX7_layPlan 79 = .ok (.aload_n 0, 1) := by decide +kernel
theorem dX7_layPlan_80 : decode cX7_layPlan 80 = .ok (.getfield 82, 3) := by decide +kernel
theorem dX7_layPlan_83 : decode cX7_layPlan 83 = .ok (.aload_n 0, 1) := by decide +kernel
theorem dX7_layPlan_84 : decode cX7_layPlan 84 = .ok (.getfield 165, 3) := by decide +kernel
theorem dX7_layPlan_87 : decode cX7_layPlan 87 = .ok (.iconst 3, 1) := by decide +kernel
theorem dX7_layPlan_88 : decode cX7_layPlan 88 = .ok (.iadd, 1) := by decide +kernel
theorem dX7_layPlan_89 : decode cX7_layPlan 89 = .ok (.iaload, 1) := by decide +kernel
theorem dX7_layPlan_90 : decode cX7_layPlan 90 = .ok (.aload_n 0, 1) := by decide +kernel
theorem dX7_layPlan_91 : decode cX7_layPlan 91 = .ok (.getfield 82, 3) := by decide +kernel
theorem dX7_layPlan_94 : decode cX7_layPlan 94 = .ok (.aload_n 0, 1) := by decide +kernel
theorem dX7_layPlan_95 : decode cX7_layPlan 95 = .ok (.getfield 165, 3) := by decide +kernel
theorem dX7_layPlan_98 : decode cX7_layPlan 98 = .ok (.iconst 4, 1) := by decide +kernel
theorem dX7_layPlan_99 : decode cX7_layPlan 99 = .ok (.iadd, 1) := by decide +kernel
theorem dX7_layPlan_100 : decode cX7_layPlan 100 = .ok (.iaload, 1) := by decide +kernel
theorem dX7_layPlan_101 : decode cX7_layPlan 101 = .ok (.invokevirtual 178, 3) := by decide +kernel
theorem dX7_layPlan_104 : decode cX7_layPlan 104 = .ok (.goto (-74), 3) := by decide +kernel
theorem dX7_layPlan_107 : decode cX7_layPlan 107 = .ok (.return_, 1) := by decide +kernel
set_option maxRecDepth 20000 in
theorem ggX7_layPart_X7_at : GoodIn wsX7_layPart wsX7_at := goodIn_r _ [14, 15, 58, 59, 60, 61, 62, 63, 64, 65, 66, 67, 68, 69, 70, 71, 72, 73, 74, 75, 76, 77, 78, 79, 80, 81, 82, 83, 84, 85, 86, 87, 88, 89, 90, 91, 92, 93, 94, 95, 96, 97, 98, 99, 100, 101, 102, 103, 104] (by decide +kernel) (by decide +kernel)
set_option maxRecDepth 20000 in
theorem gX7_layPart_X7_at : GoodIn wsX7_layPart (wsV RX7 146 RX7 yX7_at wsX7_at) := goodIn_app (goodIn_of _ (by decide +kernel)) ggX7_layPart_X7_at
end
section
set_option maxRecDepth 20000 in
theorem ggX7_layPart_X7_isPiece : GoodIn wsX7_layPart wsX7_isPiece := goodIn_r _ [19, 20, 21, 22, 23, 24, 25, 26, 27, 28, 29, 13, 30, 31, 32, 33, 34, 35, 36, 37, 38, 39, 40, 41, 42, 58, 59, 60, 61, 62, 63, 64, 65, 66, 67, 68, 69, 70, 71, 72, 73, 74, 75, 76, 77, 78, 79, 80, 81, 82, 83, 84, 85, 86, 87, 88, 89, 90, 91, 92, 93, 94, 95, 96, 97, 98, 99, 100, 101, 102, 103, 104] (by decide +kernel) (by decide +kernel)
set_option maxRecDepth 20000 in
theorem gX7_layPart_X7_isPiece : GoodIn wsX7_layPart (wsV RX7 181 RX7 yX7_isPiece wsX7_isPiece) := goodIn_app (goodIn_of _ (by decide +kernel)) ggX7_layPart_X7_isPiece
set_option maxRecDepth 20000 in
theorem ggX7_layPart_X7_wayOf : GoodIn wsX7_layPart wsX7_wayOf := goodIn_r _ [46, 47, 58, 59, 60, 61, 62, 63, 64, 65, 66, 67, 68, 69, 70, 71, 72, 73, 74, 75, 76, 77, 78, 79, 80, 81, 82, 83, 84, 85, 86, 87, 88, 89, 90, 91, 92, 93, 94, 95, 96, 97, 98, 99, 100, 101, 102, 103, 104] (by decide +kernel) (by decide +kernel)
set_option maxRecDepth 20000 in
theorem gX7_layPart_X7_wayOf : GoodIn wsX7_layPart (wsV RX7 142 RX7 yX7_wayOf wsX7_wayOf) := goodIn_app (goodIn_of _ (by decide +kernel)) ggX7_layPart_X7_wayOf
set_option maxRecDepth 20000 in
theorem ggX7_layPart_X7_both : GoodIn wsX7_layPart wsX7_both := goodIn_r _ [51, 1, 2, 43, 44, 45, 13, 46, 47, 10, 11, 12, 14, 15, 58, 59, 60, 61, 62, 63, 64, 65, 66, 67, 68, 69, 70, 71, 72, 73, 74, 75, 76, 77, 78, 79, 80, 81, 82, 83, 84, 85, 86, 87, 88, 89, 90, 91, 92, 93, 94, 95, 96, 97, 98, 99, 100, 101, 102, 103, 104] (by decide +kernel) (by decide +kernel)
set_option maxRecDepth 20000 in
theorem gX7_layPart_X7_both : GoodIn wsX7_layPart (wsV RX7 161 RX7 yX7_both wsX7_both) := goodIn_app (goodIn_of _ (by decide +kernel)) ggX7_layPart_X7_both
set_option maxRecDepth 20000 in
theorem ggX7_layPart_X7_lay : GoodIn wsX7_layPart wsX7_lay := goodIn_r _ [55, 56, 57, 58, 59, 60, 61, 62, 63, 64, 65, 66, 67, 68, 69, 70, 71, 72, 73, 74, 75, 76, 77, 78, 79, 80, 81, 82, 83, 84, 85, 86, 87, 88, 89, 90, 91, 92, 93, 94, 95, 96, 97, 98, 99, 100, 101, 102, 103, 104] (by decide +kernel) (by decide +kernel)
set_option maxRecDepth 20000 in
theorem gX7_layPart_X7_lay : GoodIn wsX7_layPart (wsV RX7 174 RX7 yX7_lay wsX7_lay) := goodIn_app (goodIn_of _ (by decide +kernel)) ggX7_layPart_X7_lay
theorem dX7_layPart_0 : decode cX7_layPart 0 = .ok (.aload_n 0, 1) := by decide +kernel
theorem dX7_layPart_1 : decode cX7_layPart 1 = .ok (.getfield 49, 3) := by decide +kernel
theorem dX7_layPart_4 : decode cX7_layPart 4 = .ok (.aload_n 0, 1) := by decide +kernel
theorem dX7_layPart_5 : decode cX7_layPart 5 = .ok (.iload_n 1, 1) := by decide +kernel
theorem dX7_layPart_6 : decode cX7_layPart 6 = .ok (.iload_n 2, 1) := by decide +kernel
theorem dX7_layPart_7 : decode cX7_layPart 7 = .ok (.iload_n 3, 1) := by decide +kernel
theorem dX7_layPart_8 : decode cX7_layPart 8 = .ok (.iload 4, 2) := by decide +kernel
theorem dX7_layPart_10 : decode cX7_layPart 10 = .ok (.iload 5, 2) := by decide +kernel
theorem dX7_layPart_12 : decode cX7_layPart 12 = .ok (.invokevirtual 146, 3) := by decide +kernel
theorem dX7_layPart_15 : decode cX7_layPart 15 = .ok (.iaload, 1) := by decide +kernel
theorem dX7_layPart_16 : decode cX7_layPart 16 = .ok (.istore 6, 2) := by decide +kernel
theorem dX7_layPart_18 : decode cX7_layPart 18 = .ok (.iload 6, 2) := by decide +kernel
theorem dX7_layPart_20 : decode cX7_layPart 20 = .ok (.ifCond .eq 18, 3) := by decide +kernel
theorem dX7_layPart_23 : decode cX7_layPart 23 = .ok (.aload_n 0, 1) := by decide +kernel
theorem dX7_layPart_24 : decode cX7_layPart 24 = .ok (.iload_n 2, 1) := by decide +kernel
theorem dX7_layPart_25 : decode cX7_layPart 25 = .ok (.iload_n 3, 1) := by decide +kernel
theorem dX7_layPart_26 : decode cX7_layPart 26 = .ok (.iload 4, 2) := by decide +kernel
theorem dX7_layPart_28 : decode cX7_layPart 28 = .ok (.iload 5, 2) := by decide +kernel
theorem dX7_layPart_30 : decode cX7_layPart 30 = .ok (.iload 6, 2) := by decide +kernel
theorem dX7_layPart_32 : decode cX7_layPart 32 = .ok (.invokevirtual 181, 3) := by decide +kernel
theorem dX7_layPart_35 : decode cX7_layPart 35 = .ok (.ifCond .eq 4, 3) := by decide +kernel
theorem dX7_layPart_38 : decode cX7_layPart 38 = .ok (.return_, 1) := by decide +kernel
theorem dX7_layPart_39 : decode cX7_layPart 39 = .ok (.aload_n 0, 1) := by decide +kernel
theorem dX7_layPart_40 : decode cX7_layPart 40 = .ok (.iload_n 1, 1) := by decide +kernel
theorem dX7_layPart_41 : decode cX7_layPart 41 = .ok (.invokevirtual 142, 3) := by decide +kernel
theorem dX7_layPart_44 : decode cX7_layPart 44 = .ok (.istore 7, 2) := by decide +kernel
theorem dX7_layPart_46 : decode cX7_layPart 46 = .ok (.iload 7, 2) := by decide +kernel
theorem dX7_layPart_48 : decode cX7_layPart 48 = .ok (.ifCond .ne 8, 3) := by decide +kernel
theorem dX7_layPart_51 : decode cX7_layPart 51 = .ok (.iload 4, 2) := by decide +kernel
theorem dX7_layPart_53 : decode cX7_layPart 53 = .ok (.goto 5, 3) := by decide +kernel
theorem dX7_layPart_56 : decode cX7_layPart 56 = .ok (.iload 5, 2) := by decide +kernel
theorem dX7_layPart_58 : decode cX7_layPart 58 = .ok (.istore 8, 2) := by decide +kernel
theorem dX7_layPart_60 : decode cX7_layPart 60 = .ok (.iconst 1, 1) := by decide +kernel
theorem dX7_layPart_61 : decode cX7_layPart 61 = .ok (.istore 9, 2) := by decide +kernel
theorem dX7_layPart_63 : decode cX7_layPart 63 = .ok (.iload 9, 2) := by decide +kernel
theorem dX7_layPart_65 : decode cX7_layPart 65 = .ok (.aload_n 0, 1) := by decide +kernel
theorem dX7_layPart_66 : decode cX7_layPart 66 = .ok (.getfield 116, 3) := by decide +kernel
theorem dX7_layPart_69 : decode cX7_layPart 69 = .ok (.iadd, 1) := by decide +kernel
theorem dX7_layPart_70 : decode cX7_layPart 70 = .ok (.iload 8, 2) := by decide +kernel
theorem dX7_layPart_72 : decode cX7_layPart 72 = .ok (.if_icmp .ge 199, 3) := by decide +kernel
theorem dX7_layPart_75 : decode cX7_layPart 75 = .ok (.aload_n 0, 1) := by decide +kernel
theorem dX7_layPart_76 : decode cX7_layPart 76 = .ok (.iload_n 1, 1) := by decide +kernel
theorem dX7_layPart_77 : decode cX7_layPart 77 = .ok (.iload_n 2, 1) := by decide +kernel
theorem dX7_layPart_78 : decode cX7_layPart 78 = .ok (.iload_n 3, 1) := by decide +kernel
theorem dX7_layPart_79 : decode cX7_layPart 79 = .ok (.iload 4, 2) := by decide +kernel
theorem dX7_layPart_81 : decode cX7_layPart 81 = .ok (.iload 5, 2) := by decide +kernel
theorem dX7_layPart_83 : decode cX7_layPart 83 = .ok (.iload 9, 2) := by decide +kernel
theorem dX7_layPart_85 : decode cX7_layPart 85 = .ok (.invokevirtual 161, 3) := by decide +kernel
theorem dX7_layPart_88 : decode cX7_layPart 88 = .ok (.iload 6, 2) := by decide +kernel
theorem dX7_layPart_90 : decode cX7_layPart 90 = .ok (.if_icmp .ne 175, 3) := by decide +kernel
theorem dX7_layPart_93 : decode cX7_layPart 93 = .ok (.aload_n 0, 1) := by decide +kernel
theorem dX7_layPart_94 : decode cX7_layPart 94 = .ok (.getfield 64, 3) := by decide +kernel
theorem dX7_layPart_97 : decode cX7_layPart 97 = .ok (.aload_n 0, 1) := by decide +kernel
theorem dX7_layPart_98 : decode cX7_layPart 98 = .ok (.getfield 171, 3) := by decide +kernel
theorem dX7_layPart_101 : decode cX7_layPart 101 = .ok (.iload_n 1, 1) := by decide +kernel
theorem dX7_layPart_102 : decode cX7_layPart 102 = .ok (.iastore, 1) := by decide +kernel
theorem dX7_layPart_103 : decode cX7_layPart 103 = .ok (.aload_n 0, 1) := by decide +kernel
theorem dX7_layPart_104 : decode cX7_layPart 104 = .ok (.getfield 67, 3) := by decide +kernel
theorem dX7_layPart_107 : decode cX7_layPart 107 = .ok (.aload_n 0, 1) := by decide +kernel
theorem dX7_layPart_108 : decode cX7_layPart 108 = .ok (.getfield 171, 3) := by decide +kernel
theorem dX7_layPart_111 : decode cX7_layPart 111 = .ok (.iload 7, 2) := by decide +kernel
theorem dX7_layPart_113 : decode cX7_layPart 113 = .ok (.ifCond .ne 10, 3) := by decide +kernel
theorem dX7_layPart_116 : decode cX7_layPart 116 = .ok (.iload_n 2, 1) := by decide +kernel
theorem dX7_layPart_117 : decode cX7_layPart 117 = .ok (.iload 9, 2) := by decide +kernel
theorem dX7_layPart_119 : decode cX7_layPart 119 = .ok (.iadd, 1) := by decide +kernel
theorem dX7_layPart_120 : decode cX7_layPart 120 = .ok (.goto 7, 3) := by decide +kernel
theorem dX7_layPart_123 : decode cX7_layPart 123 = .ok (.iload_n 3, 1) := by decide +kernel
theorem dX7_layPart_124 : decode cX7_layPart 124 = .ok (.iload 9, 2) := by decide +kernel
theorem dX7_layPart_126 : decode cX7_layPart 126 = .ok (.iadd, 1) := by decide +kernel
theorem dX7_layPart_127 : decode cX7_layPart 127 = .ok (.iastore, 1) := by decide +kernel
theorem dX7_layPart_128 : decode cX7_layPart 128 = .ok (.aload_n 0, 1) := by decide +kernel
theorem dX7_layPart_129 : decode cX7_layPart 129 = .ok (.getfield 70, 3) := by decide +kernel
theorem dX7_layPart_132 : decode cX7_layPart 132 = .ok (.aload_n 0, 1) := by decide +kernel
theorem dX7_layPart_133 : decode cX7_layPart 133 = .ok (.getfield 171, 3) := by decide +kernel
theorem dX7_layPart_136 : decode cX7_layPart 136 = .ok (.iload_n 2, 1) := by decide +kernel
theorem dX7_layPart_137 : decode cX7_layPart 137 = .ok (.iastore, 1) := by decide +kernel
theorem dX7_layPart_138 : decode cX7_layPart 138 = .ok (.aload_n 0, 1) := by decide +kernel
theorem dX7_layPart_139 : decode cX7_layPart 139 = .ok (.getfield 73, 3) := by decide +kernel
theorem dX7_layPart_142 : decode cX7_layPart 142 = .ok (.aload_n 0, 1) := by decide +kernel
theorem dX7_layPart_143 : decode cX7_layPart 143 = .ok (.getfield 171, 3) := by decide +kernel
theorem dX7_layPart_146 : decode cX7_layPart 146 = .ok (.iload_n 3, 1) := by decide +kernel
theorem dX7_layPart_147 : decode cX7_layPart 147 = .ok (.iastore, 1) := by decide +kernel
theorem dX7_layPart_148 : decode cX7_layPart 148 = .ok (.aload_n 0, 1) := by decide +kernel
theorem dX7_layPart_149 : decode cX7_layPart 149 = .ok (.getfield 76, 3) := by decide +kernel
theorem dX7_layPart_152 : decode cX7_layPart 152 = .ok (.aload_n 0, 1) := by decide +kernel
theorem dX7_layPart_153 : decode cX7_layPart 153 = .ok (.getfield 171, 3) := by decide +kernel
theorem dX7_layPart_156 : decode cX7_layPart 156 = .ok (.iload 4, 2) := by decide +kernel
theorem dX7_layPart_158 : decode cX7_layPart 158 = .ok (.iastore, 1) := by decide +kernel
theorem dX7_layPart_159 : decode cX7_layPart 159 = .ok (.aload_n 0, 1) := by decide +kernel
theorem dX7_layPart_160 : decode cX7_layPart 160 = .ok (.getfield 79, 3) := by decide +kernel
theorem dX7_layPart_163 : decode cX7_layPart 163 = .ok (.aload_n 0, 1) := by decide +kernel
theorem dX7_layPart_164 : decode cX7_layPart 164 = .ok (.getfield 171, 3) := by decide +kernel
theorem dX7_layPart_167 : decode cX7_layPart 167 = .ok (.iload 5, 2) := by decide +kernel
theorem dX7_layPart_169 : decode cX7_layPart 169 = .ok (.iastore, 1) := by decide +kernel
theorem dX7_layPart_170 : decode cX7_layPart 170 = .ok (.aload_n 0, 1) := by decide +kernel
theorem dX7_layPart_171 : decode cX7_layPart 171 = .ok (.dup, 1) := by decide +kernel
theorem dX7_layPart_172 : decode cX7_layPart 172 = .ok (.getfield 171, 3) := by decide +kernel
theorem dX7_layPart_175 : decode cX7_layPart 175 = .ok (.iconst 1, 1) := by decide +kernel
theorem dX7_layPart_176 : decode cX7_layPart 176 = .ok (.iadd, 1) := by decide +kernel
theorem dX7_layPart_177 : decode cX7_layPart 177 = .ok (.putfield 171, 3) := by decide +kernel
theorem dX7_layPart_180 : decode cX7_layPart 180 = .ok (.iload 7, 2) := by decide +kernel
theorem dX7_layPart_182 : decode cX7_layPart 182 = .ok (.ifCond .ne 44, 3) := by decide +kernel
theorem dX7_layPart_185 : decode cX7_layPart 185 = .ok (.aload_n 0, 1) := by decide +kernel
theorem dX7_layPart_186 : decode cX7_layPart 186 = .ok (.iload_n 1, 1) := by decide +kernel
theorem dX7_layPart_187 : decode cX7_layPart 187 = .ok (.iload_n 2, 1) := by decide +kernel
theorem dX7_layPart_188 : decode cX7_layPart 188 = .ok (.iload 9, 2) := by decide +kernel
theorem dX7_layPart_190 : decode cX7_layPart 190 = .ok (.iadd, 1) := by decide +kernel
theorem dX7_layPart_191 : decode cX7_layPart 191 = .ok (.aload_n 0, 1) := by decide +kernel
theorem dX7_layPart_192 : decode cX7_layPart 192 = .ok (.getfield 116, 3) := by decide +kernel
theorem dX7_layPart_195 : decode cX7_layPart 195 = .ok (.iadd, 1) := by decide +kernel
theorem dX7_layPart_196 : decode cX7_layPart 196 = .ok (.iload_n 3, 1) := by decide +kernel
theorem dX7_layPart_197 : decode cX7_layPart 197 = .ok (.iload 4, 2) := by decide +kernel
theorem dX7_layPart_199 : decode cX7_layPart 199 = .ok (.iload 9, 2) := by decide +kernel
theorem dX7_layPart_201 : decode cX7_layPart 201 = .ok (.isub, 1) := by decide +kernel
theorem dX7_layPart_202 : decode cX7_layPart 202 = .ok (.aload_n 0, 1) := by decide +kernel
theorem dX7_layPart_203 : decode cX7_layPart 203 = .ok (.getfield 116, 3) := by decide +kernel
theorem dX7_layPart_206 : decode cX7_layPart 206 = .ok (.isub, 1) := by decide +kernel
theorem dX7_layPart_207 : decode cX7_layPart 207 = .ok (.iload 5, 2) := by decide +kernel
theorem dX7_layPart_209 : decode cX7_layPart 209 = .ok (.invokevirtual 174, 3) := by decide +kernel
theorem dX7_layPart_212 : decode cX7_layPart 212 = .ok (.aload_n 0, 1) := by decide +kernel
theorem dX7_layPart_213 : decode cX7_layPart 213 = .ok (.iload_n 1, 1) := by decide +kernel
theorem dX7_layPart_214 : decode cX7_layPart 214 = .ok (.iload_n 2, 1) := by decide +kernel
theorem dX7_layPart_215 : decode cX7_layPart 215 = .ok (.iload_n 3, 1) := by decide +kernel
theorem dX7_layPart_216 : decode cX7_layPart 216 = .ok (.iload 9, 2) := by decide +kernel
theorem dX7_layPart_218 : decode cX7_layPart 218 = .ok (.iload 5, 2) := by decide +kernel
theorem dX7_layPart_220 : decode cX7_layPart 220 = .ok (.invokevirtual 174, 3) := by decide +kernel
theorem dX7_layPart_223 : decode cX7_layPart 223 = .ok (.goto 41, 3) := by decide +kernel
theorem dX7_layPart_226 : decode cX7_layPart 226 = .ok (.aload_n 0, 1) := by decide +kernel
theorem dX7_layPart_227 : decode cX7_layPart 227 = .ok (.iload_n 1, 1) := by decide +kernel
theorem dX7_layPart_228 : decode cX7_layPart 228 = .ok (.iload_n 2, 1) := by decide +kernel
theorem dX7_layPart_229 : decode cX7_layPart 229 = .ok (.iload_n 3, 1) := by decide +kernel
theorem dX7_layPart_230 : decode cX7_layPart 230 = .ok (.iload 9, 2) := by decide +kernel
theorem dX7_layPart_232 : decode cX7_layPart 232 = .ok (.iadd, 1) := by decide +kernel
theorem dX7_layPart_233 : decode cX7_layPart 233 = .ok (.aload_n 0, 1) := by decide +kernel
theorem dX7_layPart_234 : decode cX7_layPart 234 = .ok (.getfield 116, 3) := by decide +kernel
theorem dX7_layPart_237 : decode cX7_layPart 237 = .ok (.iadd, 1) := by decide +kernel
theorem dX7_layPart_238 : decode cX7_layPart 238 = .ok (.iload 4, 2) := by decide +kernel
theorem dX7_layPart_240 : decode cX7_layPart 240 = .ok (.iload 5, 2) := by decide +kernel
theorem dX7_layPart_242 : decode cX7_layPart 242 = .ok (.iload 9, 2) := by decide +kernel
theorem dX7_layPart_244 : decode cX7_layPart 244 = .ok (.isub, 1) := by decide +kernel
theorem dX7_layPart_245 : decode cX7_layPart 245 = .ok (.aload_n 0, 1) := by decide +kernel
theorem dX7_layPart_246 : decode cX7_layPart 246 = .ok (.getfield 116, 3) := by decide +kernel
theorem dX7_layPart_249 : decode cX7_layPart 249 = .ok (.isub, 1) := by decide +kernel
theorem dX7_layPart_250 : decode cX7_layPart 250 = .ok (.invokevirtual 174, 3) := by decide +kernel
theorem dX7_layPart_253 : decode cX7_layPart 253 = .ok (.aload_n 0, 1) := by decide +kernel
theorem dX7_layPart_254 : decode cX7_layPart 254 = .ok (.iload_n 1, 1) := by decide +kernel
theorem dX7_layPart_255 : decode cX7_layPart 255 = .ok (.iload_n 2, 1) := by decide +kernel
theorem dX7_layPart_256 : decode cX7_layPart 256 = .ok (.iload_n 3, 1) := by decide +kernel
theorem dX7_layPart_257 : decode cX7_layPart 257 = .ok (.iload 4, 2) := by decide +kernel
theorem dX7_layPart_259 : decode cX7_layPart 259 = .ok (.iload 9, 2) := by decide +kernel
theorem dX7_layPart_261 : decode cX7_layPart 261 = .ok (.invokevirtual 174, 3) := by decide +kernel
theorem dX7_layPart_264 : decode cX7_layPart 264 = .ok (.return_, 1) := by decide +kernel
theorem dX7_layPart_265 : decode cX7_layPart 265 = .ok (.iinc 9 1, 3) := by decide +kernel
theorem dX7_layPart_268 : decode cX7_layPart 268 = .ok (.goto (-205), 3) := by decide +kernel
theorem dX7_layPart_271 : decode cX7_layPart 271 = .ok (.aload_n 0, 1) := by decide +kernel
theorem dX7_layPart_272 : decode cX7_layPart 272 = .ok (.iload_n 1, 1) := by decide +kernel
theorem dX7_layPart_273 : decode cX7_layPart 273 = .ok (.iconst 1, 1) := by decide +kernel
theorem dX7_layPart_274 : decode cX7_layPart 274 = .ok (.iadd, 1) := by decide +kernel
theorem dX7_layPart_275 : decode cX7_layPart 275 = .ok (.iload_n 2, 1) := by decide +kernel
theorem dX7_layPart_276 : decode cX7_layPart 276 = .ok (.iload_n 3, 1) := by decide +kernel
theorem dX7_layPart_277 : decode cX7_layPart 277 = .ok (.iload 4, 2) := by decide +kernel
theorem dX7_layPart_279 : decode cX7_layPart 279 = .ok (.iload 5, 2) := by decide +kernel
theorem dX7_layPart_281 : decode cX7_layPart 281 = .ok (.invokevirtual 174, 3) := by decide +kernel
theorem dX7_layPart_284 : decode cX7_layPart 284 = .ok (.return_, 1) := by decide +kernel
set_option maxRecDepth 20000 in
theorem ggX7_isPiece_X7_isSpoiled : GoodIn wsX7_isPiece wsX7_isSpoiled := goodIn_r _ [12, 13, 14, 15, 16, 17, 25, 26, 27, 28, 29, 30, 31, 32, 33, 34, 35, 36, 37, 38, 39, 40, 41, 42, 43, 44, 45, 46, 47, 48, 49, 50, 51, 52, 53, 54, 55, 56, 57, 58, 59, 60, 61, 62, 63, 64, 65, 66, 67, 68, 69, 70, 71] (by decide +kernel) (by decide +kernel)
set_option maxRecDepth 20000 in
theorem gX7_isPiece_X7_isSpoiled : GoodIn wsX7_isPiece (wsV RX7 139 RX7 yX7_isSpoiled wsX7_isSpoiled) := goodIn_app (goodIn_of _ (by decide +kernel)) ggX7_isPiece_X7_isSpoiled
set_option maxRecDepth 20000 in
theorem ggX7_isPiece_X7_isLike : GoodIn wsX7_isPiece wsX7_isLike := goodIn_r _ [21, 22, 23, 24, 25, 26, 27, 28, 29, 30, 31, 32, 33, 34, 35, 36, 37, 38, 39, 40, 41, 42, 43, 44, 45, 46, 47, 48, 49, 50, 51, 52, 53, 54, 55, 56, 57, 58, 59, 60, 61, 62, 63, 64, 65, 66, 67, 68, 69, 70, 71] (by decide +kernel) (by decide +kernel)
set_option maxRecDepth 20000 in
theorem gX7_isPiece_X7_isLike : GoodIn wsX7_isPiece (wsV RX7 136 RX7 yX7_isLike wsX7_isLike) := goodIn_app (goodIn_of _ (by decide +kernel)) ggX7_isPiece_X7_isLike
theorem dX7_isPiece_0 : decode cX7_isPiece 0 = .ok (.aload_n 0, 1) := by decide +kernel
theorem dX7_isPiece_1 : decode cX7_isPiece 1 = .ok (.iload_n 1, 1) := by decide +kernel
theorem dX7_isPiece_2 : decode cX7_isPiece 2 = .ok (.iload_n 2, 1) := by decide +kernel
theorem dX7_isPiece_3 : decode cX7_isPiece 3 = .ok (.iload_n 3, 1) := by decide +kernel
theorem dX7_isPiece_4 : decode cX7_isPiece 4 = .ok (.iload 4, 2) := by decide +kernel
theorem dX7_isPiece_6 : decode cX7_isPiece 6 = .ok (.invokevirtual 139, 3) := by decide +kernel
theorem dX7_isPiece_9 : decode cX7_isPiece 9 = .ok (.ifCond .eq 5, 3) := by decide +kernel
theorem dX7_isPiece_12 : decode cX7_isPiece 12 = .ok (.iconst 0, 1) := by decide +kernel
theorem dX7_isPiece_13 : decode cX7_isPiece 13 = .ok (.ireturn, 1) := by decide +kernel
theorem dX7_isPiece_14 : decode cX7_isPiece 14 = .ok (.iconst 0, 1) := by decide +kernel
theorem dX7_isPiece_15 : decode cX7_isPiece 15 = .ok (.istore 6, 2) := by decide +kernel
theorem dX7_isPiece_17 : decode cX7_isPiece 17 = .ok (.iload 6, 2) := by decide +kernel
theorem dX7_isPiece_19 : decode cX7_isPiece 19 = .ok (.aload_n 0, 1) := by decide +kernel
theorem dX7_isPiece_20 : decode cX7_isPiece 20 = .ok (.getfield 133, 3) := by decide +kernel
theorem dX7_isPiece_23 : decode cX7_isPiece 23 = .ok (.if_icmp .ge 104, 3) := by decide +kernel
theorem dX7_isPiece_26 : decode cX7_isPiece 26 = .ok (.iconst 0, 1) := by decide +kernel
theorem dX7_isPiece_27 : decode cX7_isPiece 27 = .ok (.istore 7, 2) := by decide +kernel
theorem dX7_isPiece_29 : decode cX7_isPiece 29 = .ok (.iload 7, 2) := by decide +kernel
theorem dX7_isPiece_31 : decode cX7_isPiece 31 = .ok (.iconst 2, 1) := by decide +kernel
theorem dX7_isPiece_32 : decode cX7_isPiece 32 = .ok (.if_icmp .ge 89, 3) := by decide +kernel
theorem dX7_isPiece_35 : decode cX7_isPiece 35 = .ok (.aload_n 0, 1) := by decide +kernel
theorem dX7_isPiece_36 : decode cX7_isPiece 36 = .ok (.getfield 38, 3) := by decide +kernel
theorem dX7_isPiece_39 : decode cX7_isPiece 39 = .ok (.iload 6, 2) := by decide +kernel
theorem dX7_isPiece_41 : decode cX7_isPiece 41 = .ok (.iaload, 1) := by decide +kernel
theorem dX7_isPiece_42 : decode cX7_isPiece 42 = .ok (.iload 5, 2) := by decide +kernel
theorem dX7_isPiece_44 : decode cX7_isPiece 44 = .ok (.if_icmp .ne 71, 3) := by decide +kernel
theorem dX7_isPiece_47 : decode cX7_isPiece 47 = .ok (.aload_n 0, 1) := by decide +kernel
theorem dX7_isPiece_48 : decode cX7_isPiece 48 = .ok (.iload 6, 2) := by decide +kernel
theorem dX7_isPiece_50 : decode cX7_isPiece 50 = .ok (.iload 7, 2) := by decide +kernel
theorem dX7_isPiece_52 : decode cX7_isPiece 52 = .ok (.iload_n 3, 1) := by decide +kernel
theorem dX7_isPiece_53 : decode cX7_isPiece 53 = .ok (.iload 4, 2) := by decide +kernel
theorem dX7_isPiece_55 : decode cX7_isPiece 55 = .ok (.invokevirtual 136, 3) := by decide +kernel
theorem dX7_isPiece_58 : decode cX7_isPiece 58 = .ok (.ifCond .eq 57, 3) := by decide +kernel
theorem dX7_isPiece_61 : decode cX7_isPiece 61 = .ok (.aload_n 0, 1) := by decide +kernel
theorem dX7_isPiece_62 : decode cX7_isPiece 62 = .ok (.getfield 52, 3) := by decide +kernel
theorem dX7_isPiece_65 : decode cX7_isPiece 65 = .ok (.aload_n 0, 1) := by decide +kernel
theorem dX7_isPiece_66 : decode cX7_isPiece 66 = .ok (.getfield 168, 3) := by decide +kernel
theorem dX7_isPiece_69 : decode cX7_isPiece 69 = .ok (.iload 6, 2) := by decide +kernel
theorem dX7_isPiece_71 : decode cX7_isPiece 71 = .ok (.iastore, 1) := by decide +kernel
theorem dX7_isPiece_72 : decode cX7_isPiece 72 = .ok (.aload_n 0, 1) := by decide +kernel
theorem dX7_isPiece_73 : decode cX7_isPiece 73 = .ok (.getfield 55, 3) := by decide +kernel
theorem dX7_isPiece_76 : decode cX7_isPiece 76 = .ok (.aload_n 0, 1) := by decide +kernel
theorem dX7_isPiece_77 : decode cX7_isPiece 77 = .ok (.getfield 168, 3) := by decide +kernel
theorem dX7_isPiece_80 : decode cX7_isPiece 80 = .ok (.iload_n 1, 1) := by decide +kernel
theorem dX7_isPiece_81 : decode cX7_isPiece 81 = .ok (.iastore, 1) := by decide +kernel
theorem dX7_isPiece_82 : decode cX7_isPiece 82 = .ok (.aload_n 0, 1) := by decide +kernel
theorem dX7_isPiece_83 : decode cX7_isPiece 83 = .ok (.getfield 58, 3) := by decide +kernel
theorem dX7_isPiece_86 : decode cX7_isPiece 86 = .ok (.aload_n 0, 1) := by decide +kernel
theorem dX7_isPiece_87 : decode cX7_isPiece 87 = .ok (.getfield 168, 3) := by decide +kernel
theorem dX7_isPiece_90 : decode cX7_isPiece 90 = .ok (.iload_n 2, 1) := by decide +kernel
theorem dX7_isPiece_91 : decode cX7_isPiece 91 = .ok (.iastore, 1) := by decide +kernel
theorem dX7_isPiece_92 : decode cX7_isPiece 92 = .ok (.aload_n 0, 1) := by decide +kernel
theorem dX7_isPiece_93 : decode cX7_isPiece 93 = .ok (.getfield 61, 3) := by decide +kernel
theorem dX7_isPiece_96 : decode cX7_isPiece 96 = .ok (.aload_n 0, 1) := by decide +kernel
theorem dX7_isPiece_97 : decode cX7_isPiece 97 = .ok (.getfield 168, 3) := by decide +kernel
theorem dX7_isPiece_100 : decode cX7_isPiece 100 = .ok (.iload 7, 2) := by decide +kernel
theorem dX7_isPiece_102 : decode cX7_isPiece 102 = .ok (.iastore, 1) := by decide +kernel
theorem dX7_isPiece_103 : decode cX7_isPiece 103 = .ok (.aload_n 0, 1) := by decide +kernel
theorem dX7_isPiece_104 : decode cX7_isPiece 104 = .ok (.dup, 1) := by decide +kernel
theorem dX7_isPiece_105 : decode cX7_isPiece 105 = .ok (.getfield 168, 3) := by decide +kernel
theorem dX7_isPiece_108 : decode cX7_isPiece 108 = .ok (.iconst 1, 1) := by decide +kernel
theorem dX7_isPiece_109 : decode cX7_isPiece 109 = .ok (.iadd, 1) := by decide +kernel
theorem dX7_isPiece_110 : decode cX7_isPiece 110 = .ok (.putfield 168, 3) := by decide +kernel
theorem dX7_isPiece_113 : decode cX7_isPiece 113 = .ok (.iconst 1, 1) := by decide +kernel
theorem dX7_isPiece_114 : decode cX7_isPiece 114 = .ok (.ireturn, 1) := by decide +kernel
theorem dX7_isPiece_115 : decode cX7_isPiece 115 = .ok (.iinc 7 1, 3) := by decide +kernel
theorem dX7_isPiece_118 : decode cX7_isPiece 118 = .ok (.goto (-89), 3) := by decide +kernel
theorem dX7_isPiece_121 : decode cX7_isPiece 121 = .ok (.iinc 6 1, 3) := by decide +kernel
theorem dX7_isPiece_124 : decode cX7_isPiece 124 = .ok (.goto (-107), 3) := by decide +kernel
theorem dX7_isPiece_127 : decode cX7_isPiece 127 = .ok (.iconst 0, 1) := by decide +kernel
theorem dX7_isPiece_128 : decode cX7_isPiece 128 = .ok (.ireturn, 1) := by decide +kernel
set_option maxRecDepth 20000 in
theorem ggX7_worth_X7_lies : GoodIn wsX7_worth wsX7_lies := goodIn_r _ [7, 8, 9, 10, 11, 6, 12, 89, 90, 91, 92, 93, 94, 95, 96, 97, 98, 99, 100, 101, 102, 103, 104, 105, 106, 107, 108, 109, 110, 111, 112, 113, 114, 115, 116, 117, 118, 119, 120, 121, 122, 123, 124, 125, 126, 127, 128, 129, 130, 131, 132, 133, 134, 135] (by decide +kernel) (by decide +kernel)
set_option maxRecDepth 20000 in
theorem gX7_worth_X7_lies : GoodIn wsX7_worth (wsV RX7 129 RX7 yX7_lies wsX7_lies) := goodIn_app (goodIn_of _ (by decide +kernel)) ggX7_worth_X7_lies
set_option maxRecDepth 20000 in
theorem ggX7_worth_X7_within : GoodIn wsX7_worth wsX7_within := goodIn_r _ [12] (by decide +kernel) (by decide +kernel)
set_option maxRecDepth 20000 in
theorem gX7_worth_X7_within : GoodIn wsX7_worth (va_wsS RX7 112 yX7_within wsX7_within) := goodIn_app (goodIn_of _ (by decide +kernel)) ggX7_worth_X7_within
set_option maxRecDepth 20000 in
theorem ggX7_worth_X7_work : GoodIn wsX7_worth wsX7_work := goodIn_r _ [16, 17, 8, 9, 18, 19, 20, 6, 21, 1, 22, 2, 23, 24, 25, 26, 27, 28, 29, 30, 31, 32, 33, 34, 35, 36, 37, 38, 39, 40, 41, 42, 43, 44, 45, 46, 47, 48, 49, 50, 51, 52, 53, 54, 55, 56, 57, 58, 59, 60, 61, 62, 63, 64, 65, 66, 67, 68, 69, 70, 71, 72, 73, 74, 75, 76, 77, 78, 79, 80, 81, 82, 83, 84, 85, 86, 87, 88, 89, 90, 91, 92, 93, 94, 95, 96, 97, 98, 99, 100, 101, 102, 103, 104, 105, 106, 107, 108, 109, 110, 111, 112, 113, 114, 115, 116, 117, 118, 119, 120, 121, 122, 123, 124, 125, 126, 127, 128, 129, 130, 131, 132, 133, 134, 135] (by decide +kernel) (by decide +kernel)
set_option maxRecDepth 20000 in
theorem gX7_worth_X7_work : GoodIn wsX7_worth (wsV RX7 185 RX7 yX7_work wsX7_work) := goodIn_app (goodIn_of _ (by decide +kernel)) ggX7_worth_X7_work
set_option maxRecDepth 20000 in
theorem ggX7_worth_X7_at : GoodIn wsX7_worth wsX7_at := goodIn_r _ [57, 58, 89, 90, 91, 92, 93, 94, 95, 96, 97, 98, 99, 100, 101, 102, 103, 104, 105, 106, 107, 108, 109, 110, 111, 112, 113, 114, 115, 116, 117, 118, 119, 120, 121, 122, 123, 124, 125, 126, 127, 128, 129, 130, 131, 132, 133, 134, 135] (by decide +kernel) (by decide +kernel)
set_option maxRecDepth 20000 in
theorem gX7_worth_X7_at : GoodIn wsX7_worth (wsV RX7 146 RX7 yX7_at wsX7_at) := goodIn_app (goodIn_of _ (by decide +kernel)) ggX7_worth_X7_at
theorem dX7_worth_0 : decode cX7_worth 0 = .ok (.aload_n 0, 1) := by decide +kernel
theorem dX7_worth_1 : decode cX7_worth 1 = .ok (.iload_n 1, 1) := by decide +kernel
theorem dX7_worth_2 : decode cX7_worth 2 = .ok (.iload_n 2, 1) := by decide +kernel
theorem dX7_worth_3 : decode cX7_worth 3 = .ok (.iload_n 3, 1) := by decide +kernel
theorem dX7_worth_4 : decode cX7_worth 4 = .ok (.iload 4, 2) := by decide +kernel
theorem dX7_worth_6 : decode cX7_worth 6 = .ok (.invokevirtual 129, 3) := by decide +kernel
theorem dX7_worth_9 : decode cX7_worth 9 = .ok (.ifCond .eq 16, 3) := by decide +kernel
theorem dX7_worth_12 : decode cX7_worth 12 = .ok (.iload 5, 2) := by decide +kernel
theorem dX7_worth_14 : decode cX7_worth 14 = .ok (.iconst 1, 1) := by decide +kernel
theorem dX7_worth_15 : decode cX7_worth 15 = .ok (.aload_n 0, 1) := by decide +kernel
theorem dX7_worth_16 : decode cX7_worth 16 = .ok (.getfield 16, 3) := by decide +kernel
theorem dX7_worth_19 : decode cX7_worth 19 = .ok (.invokestatic 112, 3) := by decide +kernel
theorem dX7_worth_22 : decode cX7_worth 22 = .ok (.ifCond .ne 6, 3) := by decide +kernel
theorem dX7_worth_25 : decode cX7_worth 25 = .ok (.bipush (-3), 2) := by decide +kernel
theorem dX7_worth_27 : decode cX7_worth 27 = .ok (.ireturn, 1) := by decide +kernel
theorem dX7_worth_28 : decode cX7_worth 28 = .ok (.aload_n 0, 1) := by decide +kernel
theorem dX7_worth_29 : decode cX7_worth 29 = .ok (.invokevirtual 185, 3) := by decide +kernel
theorem dX7_worth_32 : decode cX7_worth 32 = .ok (.aload_n 0, 1) := by decide +kernel
theorem dX7_worth_33 : decode cX7_worth 33 = .ok (.getfield 49, 3) := by decide +kernel
theorem dX7_worth_36 : decode cX7_worth 36 = .ok (.aload_n 0, 1) := by decide +kernel
theorem dX7_worth_37 : decode cX7_worth 37 = .ok (.iload 5, 2) := by decide +kernel
theorem dX7_worth_39 : decode cX7_worth 39 = .ok (.iload_n 1, 1) := by decide +kernel
theorem dX7_worth_40 : decode cX7_worth 40 = .ok (.iload_n 2, 1) := by decide +kernel
theorem dX7_worth_41 : decode cX7_worth 41 = .ok (.iload_n 3, 1) := by decide +kernel
theorem dX7_worth_42 : decode cX7_worth 42 = .ok (.iload 4, 2) := by decide +kernel
theorem dX7_worth_44 : decode cX7_worth 44 = .ok (.invokevirtual 146, 3) := by decide +kernel
theorem dX7_worth_47 : decode cX7_worth 47 = .ok (.iaload, 1) := by decide +kernel
theorem dX7_worth_48 : decode cX7_worth 48 = .ok (.ireturn, 1) := by decide +kernel
set_option maxRecDepth 20000 in
theorem ggX7_pieces_X7_work : GoodIn wsX7_pieces wsX7_work := goodIn_r _ [6, 7, 8, 9, 10, 11, 12, 5, 13, 14, 15, 16, 17, 18, 19, 20, 21, 22, 23, 24, 25, 26, 27, 28, 29, 30, 31, 32, 33, 34, 35, 36, 37, 38, 39, 40, 41, 42, 43, 44, 45, 46, 47, 48, 49, 50, 51, 52, 53, 54, 55, 56, 1, 57, 58, 59, 60, 61, 62, 63, 64, 65, 66, 67, 68, 69, 70, 71, 72, 73, 74, 75, 76, 77, 78, 79, 80, 81, 82, 83, 84, 85, 86, 87, 88, 89, 90, 91, 92, 93, 94, 95, 96, 97, 98, 99, 100, 101, 102, 103, 104, 105, 106, 107, 108, 109, 110, 111, 112, 113, 114, 115, 116, 117, 118, 119, 120, 121, 122, 123, 124, 125, 126, 127, 128] (by decide +kernel) (by decide +kernel)
set_option maxRecDepth 20000 in
theorem gX7_pieces_X7_work : GoodIn wsX7_pieces (wsV RX7 185 RX7 yX7_work wsX7_work) := goodIn_app (goodIn_of _ (by decide +kernel)) ggX7_pieces_X7_work
theorem dX7_pieces_0 : decode cX7_pieces 0 = .ok (.aload_n 0, 1) := by decide +kernel
theorem dX7_pieces_1 : decode cX7_pieces 1 = .ok (.invokevirtual 185, 3) := by decide +kernel
theorem dX7_pieces_4 : decode cX7_pieces 4 = .ok (.aload_n 0, 1) := by decide +kernel
theorem dX7_pieces_5 : decode cX7_pieces 5 = .ok (.getfield 168, 3) := by decide +kernel
theorem dX7_pieces_8 : decode cX7_pieces 8 = .ok (.ireturn, 1) := by decide +kernel
theorem dX7_pieceSide_0 : decode cX7_pieceSide 0 = .ok (.aload_n 0, 1) := by decide +kernel
theorem dX7_pieceSide_1 : decode cX7_pieceSide 1 = .ok (.getfield 52, 3) := by decide +kernel
theorem dX7_pieceSide_4 : decode cX7_pieceSide 4 = .ok (.iload_n 1, 1) := by decide +kernel
theorem dX7_pieceSide_5 : decode cX7_pieceSide 5 = .ok (.iaload, 1) := by decide +kernel
theorem dX7_pieceSide_6 : decode cX7_pieceSide 6 = .ok (.istore_n 3, 1) := by decide +kernel
theorem dX7_pieceSide_7 : decode cX7_pieceSide 7 = .ok (.iload_n 2, 1) := by decide +kernel
theorem dX7_pieceSide_8 : decode cX7_pieceSide 8 = .ok (.aload_n 0, 1) := by decide +kernel
theorem dX7_pieceSide_9 : decode cX7_pieceSide 9 = .ok (.getfield 61, 3) := by decide +kernel
theorem dX7_pieceSide_12 : decode cX7_pieceSide 12 = .ok (.iload_n 1, 1) := by decide +kernel
theorem dX7_pieceSide_13 : decode cX7_pieceSide 13 = .ok (.iaload, 1) := by decide +kernel
theorem dX7_pieceSide_14 : decode cX7_pieceSide 14 = .ok (.ifCond .ne 7, 3) := by decide +kernel
theorem dX7_pieceSide_17 : decode cX7_pieceSide 17 = .ok (.iconst 1, 1) := by decide +kernel
theorem dX7_pieceSide_18 : decode cX7_pieceSide 18 = .ok (.goto 4, 3) := by decide +kernel
theorem dX7_pieceSide_21 : decode cX7_pieceSide 21 = .ok (.iconst 0, 1) := by decide +kernel
theorem dX7_pieceSide_22 : decode cX7_pieceSide 22 = .ok (.if_icmp .ne 12, 3) := by decide +kernel
theorem dX7_pieceSide_25 : decode cX7_pieceSide 25 = .ok (.aload_n 0, 1) := by decide +kernel
theorem dX7_pieceSide_26 : decode cX7_pieceSide 26 = .ok (.getfield 32, 3) := by decide +kernel
theorem dX7_pieceSide_29 : decode cX7_pieceSide 29 = .ok (.iload_n 3, 1) := by decide +kernel
theorem dX7_pieceSide_30 : decode cX7_pieceSide 30 = .ok (.iaload, 1) := by decide +kernel
theorem dX7_pieceSide_31 : decode cX7_pieceSide 31 = .ok (.goto 9, 3) := by decide +kernel
theorem dX7_pieceSide_34 : decode cX7_pieceSide 34 = .ok (.aload_n 0, 1) := by decide +kernel
theorem dX7_pieceSide_35 : decode cX7_pieceSide 35 = .ok (.getfield 35, 3) := by decide +kernel
theorem dX7_pieceSide_38 : decode cX7_pieceSide 38 = .ok (.iload_n 3, 1) := by decide +kernel
theorem dX7_pieceSide_39 : decode cX7_pieceSide 39 = .ok (.iaload, 1) := by decide +kernel
theorem dX7_pieceSide_40 : decode cX7_pieceSide 40 = .ok (.ireturn, 1) := by decide +kernel
set_option maxRecDepth 20000 in
theorem ggX7_piece_X7_within : GoodIn wsX7_piece wsX7_within := goodIn_r _ [9] (by decide +kernel) (by decide +kernel)
set_option maxRecDepth 20000 in
theorem gX7_piece_X7_within : GoodIn wsX7_piece (va_wsS RX7 112 yX7_within wsX7_within) := goodIn_app (goodIn_of _ (by decide +kernel)) ggX7_piece_X7_within
set_option maxRecDepth 20000 in
theorem ggX7_piece_X7_work : GoodIn wsX7_piece wsX7_work := goodIn_r _ [13, 14, 15, 16, 17, 18, 19, 8, 20, 21, 22, 23, 24, 25, 26, 27, 28, 29, 30, 31, 32, 33, 34, 35, 36, 37, 38, 39, 40, 41, 42, 43, 44, 45, 46, 47, 48, 49, 50, 51, 52, 53, 54, 55, 56, 57, 58, 59, 60, 61, 62, 63, 1, 64, 65, 66, 67, 68, 69, 70, 71, 72, 73, 74, 75, 76, 77, 78, 79, 80, 81, 82, 83, 84, 2, 3, 4, 5, 89, 90, 91, 92, 93, 94, 95, 96, 97, 98, 99, 100, 101, 102, 103, 104, 105, 106, 107, 108, 109, 110, 111, 112, 113, 114, 115, 116, 117, 118, 119, 120, 121, 122, 123, 124, 125, 126, 127, 128, 129, 130, 131, 132, 133, 134, 135] (by decide +kernel) (by decide +kernel)
set_option maxRecDepth 20000 in
theorem gX7_piece_X7_work : GoodIn wsX7_piece (wsV RX7 185 RX7 yX7_work wsX7_work) := goodIn_app (goodIn_of _ (by decide +kernel)) ggX7_piece_X7_work
set_option maxRecDepth 20000 in
theorem ggX7_piece_X7_pieceSide : GoodIn wsX7_piece wsX7_pieceSide := goodIn_r _ [88, 2, 5, 34, 35, 89, 90, 91, 92, 93, 94, 95, 96, 97, 98, 99, 100, 101, 102, 103, 104, 105, 106, 107, 108, 109, 110, 111, 112, 113, 114, 115, 116, 117, 118, 119, 120, 121, 122, 123, 124, 125, 126, 127, 128, 129, 130, 131, 132, 133, 134, 135] (by decide +kernel) (by decide +kernel)
set_option maxRecDepth 20000 in
theorem gX7_piece_X7_pieceSide : GoodIn wsX7_piece (wsV RX7 188 RX7 yX7_pieceSide wsX7_pieceSide) := goodIn_app (goodIn_of _ (by decide +kernel)) ggX7_piece_X7_pieceSide
theorem dX7_piece_0 : decode cX7_piece 0 = .ok (.iload_n 2, 1) := by decide +kernel
theorem dX7_piece_1 : decode cX7_piece 1 = .ok (.iconst 0, 1) := by decide +kernel
theorem dX7_piece_2 : decode cX7_piece 2 = .ok (.iconst 5, 1) := by decide +kernel
theorem dX7_piece_3 : decode cX7_piece 3 = .ok (.invokestatic 112, 3) := by decide +kernel
theorem dX7_piece_6 : decode cX7_piece 6 = .ok (.ifCond .ne 6, 3) := by decide +kernel
theorem dX7_piece_9 : decode cX7_piece 9 = .ok (.bipush (-3), 2) := by decide +kernel
theorem dX7_piece_11 : decode cX7_piece 11 = .ok (.ireturn, 1) := by decide +kernel
theorem dX7_piece_12 : decode cX7_piece 12 = .ok (.aload_n 0, 1) := by decide +kernel
theorem dX7_piece_13 : decode cX7_piece 13 = .ok (.invokevirtual 185, 3) := by decide +kernel
theorem dX7_piece_16 : decode cX7_piece 16 = .ok (.iload_n 1, 1) := by decide +kernel
theorem dX7_piece_17 : decode cX7_piece 17 = .ok (.iconst 0, 1) := by decide +kernel
theorem dX7_piece_18 : decode cX7_piece 18 = .ok (.aload_n 0, 1) := by decide +kernel
theorem dX7_piece_19 : decode cX7_piece 19 = .ok (.getfield 168, 3) := by decide +kernel
theorem dX7_piece_22 : decode cX7_piece 22 = .ok (.iconst 1, 1) := by decide +kernel
theorem dX7_piece_23 : decode cX7_piece 23 = .ok (.isub, 1) := by decide +kernel
theorem dX7_piece_24 : decode cX7_piece 24 = .ok (.invokestatic 112, 3) := by decide +kernel
theorem dX7_piece_27 : decode cX7_piece 27 = .ok (.ifCond .ne 5, 3) := by decide +kernel
theorem dX7_piece_30 : decode cX7_piece 30 = .ok (.iconst (-1), 1) := by decide +kernel
theorem dX7_piece_31 : decode cX7_piece 31 = .ok (.ireturn, 1) := by decide +kernel
theorem dX7_piece_32 : decode cX7_piece 32 = .ok (.iload_n 2, 1) := by decide +kernel
theorem dX7_piece_33 : decode cX7_piece 33 = .ok (.tableswitch 70 0 4 #[35, 42, 49, 56, 63], 35) := by decide +kernel
theorem dX7_piece_68 : decode cX7_piece 68 = .ok (.aload_n 0, 1) := by decide +kernel
theorem dX7_piece_69 : decode cX7_piece 69 = .ok (.getfield 52, 3) := by decide +kernel
theorem dX7_piece_72 : decode cX7_piece 72 = .ok (.iload_n 1, 1) := by decide +kernel
theorem dX7_piece_73 : decode cX7_piece 73 = .ok (.iaload, 1) := by decide +kernel
theorem dX7_piece_74 : decode cX7_piece 74 = .ok (.ireturn, 1) := by decide +kernel
theorem dX7_piece_75 : decode cX7_piece 75 = .ok (.aload_n 0, 1) := by decide +kernel
theorem dX7_piece_76 : decode cX7_piece 76 = .ok (.getfield 55, 3) := by decide +kernel
theorem dX7_piece_79 : decode cX7_piece 79 = .ok (.iload_n 1, 1) := by decide +kernel
theorem dX7_piece_80 : decode cX7_piece 80 = .ok (.iaload, 1) := by decide +kernel
theorem dX7_piece_81 : decode cX7_piece 81 = .ok (.ireturn, 1) := by decide +kernel
theorem dX7_piece_82 : decode cX7_piece 82 = .ok (.aload_n 0, 1) := by decide +kernel
theorem dX7_piece_83 : decode cX7_piece 83 = .ok (.getfield 58, 3) := by decide +kernel
theorem dX7_piece_86 : decode cX7_piece 86 = .ok (.iload_n 1, 1) := by decide +kernel
theorem dX7_piece_87 : decode cX7_piece 87 = .ok (.iaload, 1) := by decide +kernel
theorem dX7_piece_88 : decode cX7_piece 88 = .ok (.ireturn, 1) := by decide +kernel
theorem dX7_piece_89 : decode cX7_piece 89 = .ok (.aload_n 0, 1) := by decide +kernel
theorem dX7_piece_90 : decode cX7_piece 90 = .ok (.iload_n 1, 1) := by decide +kernel
theorem dX7_piece_91 : decode cX7_piece 91 = .ok (.iconst 1, 1) := by decide +kernel
theorem dX7_piece_92 : decode cX7_piece 92 = .ok (.invokevirtual 188, 3) := by decide +kernel
theorem dX7_piece_95 : decode cX7_piece 95 = .ok (.ireturn, 1) := by decide +kernel
theorem dX7_piece_96 : decode cX7_piece 96 = .ok (.aload_n 0, 1) := by decide +kernel
theorem dX7_piece_97 : decode cX7_piece 97 = .ok (.iload_n 1, 1) := by decide +kernel
theorem dX7_piece_98 : decode cX7_piece 98 = .ok (.iconst 0, 1) := by decide +kernel
theorem dX7_piece_99 : decode cX7_piece 99 = .ok (.invokevirtual 188, 3) := by decide +kernel
theorem dX7_piece_102 : decode cX7_piece 102 = .ok (.ireturn, 1) := by decide +kernel
theorem dX7_piece_103 : decode cX7_piece 103 = .ok (.aload_n 0, 1) := by decide +kernel
theorem dX7_piece_104 : decode cX7_piece 104 = .ok (.getfield 61, 3) := by decide +kernel
theorem dX7_piece_107 : decode cX7_piece 107 = .ok (.iload_n 1, 1) := by decide +kernel
theorem dX7_piece_108 : decode cX7_piece 108 = .ok (.iaload, 1) := by decide +kernel
theorem dX7_piece_109 : decode cX7_piece 109 = .ok (.ireturn, 1) := by decide +kernel
set_option maxRecDepth 20000 in
theorem ggX7_cuts_X7_work : GoodIn wsX7_cuts wsX7_work := goodIn_r _ [6, 7, 8, 9, 10, 11, 12, 5, 13, 14, 15, 16, 17, 18, 19, 20, 21, 22, 23, 24, 25, 26, 27, 28, 29, 30, 31, 32, 33, 34, 35, 36, 37, 38, 39, 40, 41, 42, 43, 44, 45, 46, 47, 48, 49, 50, 51, 52, 53, 54, 55, 56, 57, 1, 58, 59, 60, 61, 62, 63, 64, 65, 66, 67, 68, 69, 70, 71, 72, 73, 74, 75, 76, 77, 78, 79, 80, 81, 82, 83, 84, 85, 86, 87, 88, 89, 90, 91, 92, 93, 94, 95, 96, 97, 98, 99, 100, 101, 102, 103, 104, 105, 106, 107, 108, 109, 110, 111, 112, 113, 114, 115, 116, 117, 118, 119, 120, 121, 122, 123, 124, 125, 126, 127, 128] (by decide +kernel) (by decide +kernel)
set_option maxRecDepth 20000 in
theorem gX7_cuts_X7_work : GoodIn wsX7_cuts (wsV RX7 185 RX7 yX7_work wsX7_work) := goodIn_app (goodIn_of _ (by decide +kernel)) ggX7_cuts_X7_work
theorem dX7_cuts_0 : decode cX7_cuts 0 = .ok (.aload_n 0, 1) := by decide +kernel
theorem dX7_cuts_1 : decode cX7_cuts 1 = .ok (.invokevirtual 185, 3) := by decide +kernel
theorem dX7_cuts_4 : decode cX7_cuts 4 = .ok (.aload_n 0, 1) := by decide +kernel
theorem dX7_cuts_5 : decode cX7_cuts 5 = .ok (.getfield 171, 3) := by decide +kernel
theorem dX7_cuts_8 : decode cX7_cuts 8 = .ok (.ireturn, 1) := by decide +kernel
set_option maxRecDepth 20000 in
theorem ggX7_cut_X7_within : GoodIn wsX7_cut wsX7_within := goodIn_r _ [11] (by decide +kernel) (by decide +kernel)
set_option maxRecDepth 20000 in
theorem gX7_cut_X7_within : GoodIn wsX7_cut (va_wsS RX7 112 yX7_within wsX7_within) := goodIn_app (goodIn_of _ (by decide +kernel)) ggX7_cut_X7_within
set_option maxRecDepth 20000 in
theorem ggX7_cut_X7_work : GoodIn wsX7_cut wsX7_work := goodIn_r _ [15, 16, 17, 18, 19, 20, 21, 10, 22, 23, 24, 25, 26, 27, 28, 29, 30, 31, 32, 33, 34, 35, 36, 37, 38, 39, 40, 41, 42, 43, 44, 45, 46, 47, 48, 49, 50, 51, 52, 53, 54, 55, 56, 57, 58, 59, 60, 61, 62, 63, 64, 65, 66, 1, 67, 68, 69, 70, 71, 72, 73, 74, 75, 76, 2, 3, 4, 5, 6, 7, 77, 78, 79, 80, 81, 82, 83, 84, 85, 86, 87, 88, 89, 90, 91, 92, 93, 94, 95, 96, 97, 98, 99, 100, 101, 102, 103, 104, 105, 106, 107, 108, 109, 110, 111, 112, 113, 114, 115, 116, 117, 118, 119, 120, 121, 122, 123, 124, 125, 126, 127, 128, 129, 130, 131] (by decide +kernel) (by decide +kernel)
set_option maxRecDepth 20000 in
theorem gX7_cut_X7_work : GoodIn wsX7_cut (wsV RX7 185 RX7 yX7_work wsX7_work) := goodIn_app (goodIn_of _ (by decide +kernel)) ggX7_cut_X7_work
set_option maxRecDepth 20000 in
theorem ggX7_cut_X7_wayOf : GoodIn wsX7_cut wsX7_wayOf := goodIn_r _ [51, 52, 85, 86, 87, 88, 89, 90, 91, 92, 93, 94, 95, 96, 97, 98, 99, 100, 101, 102, 103, 104, 105, 106, 107, 108, 109, 110, 111, 112, 113, 114, 115, 116, 117, 118, 119, 120, 121, 122, 123, 124, 125, 126, 127, 128, 129, 130, 131] (by decide +kernel) (by decide +kernel)
set_option maxRecDepth 20000 in
theorem gX7_cut_X7_wayOf : GoodIn wsX7_cut (wsV RX7 142 RX7 yX7_wayOf wsX7_wayOf) := goodIn_app (goodIn_of _ (by decide +kernel)) ggX7_cut_X7_wayOf
theorem dX7_cut_0 : decode cX7_cut 0 = .ok (.iload_n 2, 1) := by decide +kernel
theorem dX7_cut_1 : decode cX7_cut 1 = .ok (.iconst 0, 1) := by decide +kernel
theorem dX7_cut_2 : decode cX7_cut 2 = .ok (.bipush 6, 2) := by decide +kernel
theorem dX7_cut_4 : decode cX7_cut 4 = .ok (.invokestatic 112, 3) := by decide +kernel
theorem dX7_cut_7 : decode cX7_cut 7 = .ok (.ifCond .ne 6, 3) := by decide +kernel
theorem dX7_cut_10 : decode cX7_cut 10 = .ok (.bipush (-3), 2) := by decide +kernel
theorem dX7_cut_12 : decode cX7_cut 12 = .ok (.ireturn, 1) := by decide +kernel
theorem dX7_cut_13 : decode cX7_cut 13 = .ok (.aload_n 0, 1) := by decide +kernel
theorem dX7_cut_14 : decode cX7_cut 14 = .ok (.invokevirtual 185, 3) := by decide +kernel
theorem dX7_cut_17 : decode cX7_cut 17 = .ok (.iload_n 1, 1) := by decide +kernel
theorem dX7_cut_18 : decode cX7_cut 18 = .ok (.iconst 0, 1) := by decide +kernel
theorem dX7_cut_19 : decode cX7_cut 19 = .ok (.aload_n 0, 1) := by decide +kernel
theorem dX7_cut_20 : decode cX7_cut 20 = .ok (.getfield 171, 3) := by decide +kernel
theorem dX7_cut_23 : decode cX7_cut 23 = .ok (.iconst 1, 1) := by decide +kernel
theorem dX7_cut_24 : decode cX7_cut 24 = .ok (.isub, 1) := by decide +kernel
theorem dX7_cut_25 : decode cX7_cut 25 = .ok (.invokestatic 112, 3) := by decide +kernel
theorem dX7_cut_28 : decode cX7_cut 28 = .ok (.ifCond .ne 5, 3) := by decide +kernel
theorem dX7_cut_31 : decode cX7_cut 31 = .ok (.iconst (-1), 1) := by decide +kernel
theorem dX7_cut_32 : decode cX7_cut 32 = .ok (.ireturn, 1) := by decide +kernel
theorem dX7_cut_33 : decode cX7_cut 33 = .ok (.iload_n 2, 1) := by decide +kernel
theorem dX7_cut_34 : decode cX7_cut 34 = .ok (.tableswitch 84 0 5 #[38, 45, 56, 63, 70, 77], 38) := by decide +kernel
theorem dX7_cut_72 : decode cX7_cut 72 = .ok (.aload_n 0, 1) := by decide +kernel
theorem dX7_cut_73 : decode cX7_cut 73 = .ok (.getfield 64, 3) := by decide +kernel
theorem dX7_cut_76 : decode cX7_cut 76 = .ok (.iload_n 1, 1) := by decide +kernel
theorem dX7_cut_77 : decode cX7_cut 77 = .ok (.iaload, 1) := by decide +kernel
theorem dX7_cut_78 : decode cX7_cut 78 = .ok (.ireturn, 1) := by decide +kernel
theorem dX7_cut_79 : decode cX7_cut 79 = .ok (.aload_n 0, 1) := by decide +kernel
theorem dX7_cut_80 : decode cX7_cut 80 = .ok (.aload_n 0, 1) := by decide +kernel
theorem dX7_cut_81 : decode cX7_cut 81 = .ok (.getfield 64, 3) := by decide +kernel
theorem dX7_cut_84 : decode cX7_cut 84 = .ok (.iload_n 1, 1) := by decide +kernel
theorem dX7_cut_85 : decode cX7_cut 85 = .ok (.iaload, 1) := by decide +kernel
theorem dX7_cut_86 : decode cX7_cut 86 = .ok (.invokevirtual 142, 3) := by decide +kernel
theorem dX7_cut_89 : decode cX7_cut 89 = .ok (.ireturn, 1) := by decide +kernel
theorem dX7_cut_90 : decode cX7_cut 90 = .ok (.aload_n 0, 1) := by decide +kernel
theorem dX7_cut_91 : decode cX7_cut 91 = .ok (.getfield 67, 3) := by decide +kernel
theorem dX7_cut_94 : decode cX7_cut 94 = .ok (.iload_n 1, 1) := by decide +kernel
theorem dX7_cut_95 : decode cX7_cut 95 = .ok (.iaload, 1) := by decide +kernel
theorem dX7_cut_96 : decode cX7_cut 96 = .ok (.ireturn, 1) := by decide +kernel
theorem dX7_cut_97 : decode cX7_cut 97 = .ok (.aload_n 0, 1) := by decide +kernel
theorem dX7_cut_98 : decode cX7_cut 98 = .ok (.getfield 70, 3) := by decide +kernel
theorem dX7_cut_101 : decode cX7_cut 101 = .ok (.iload_n 1, 1) := by decide +kernel
theorem dX7_cut_102 : decode cX7_cut 102 = .ok (.iaload, 1) := by decide +kernel
theorem dX7_cut_103 : decode cX7_cut 103 = .ok (.ireturn, 1) := by decide +kernel
theorem dX7_cut_104 : decode cX7_cut 104 = .ok (.aload_n 0, 1) := by decide +kernel
theorem dX7_cut_105 : decode cX7_cut 105 = .ok (.getfield 73, 3) := by decide +kernel
theorem dX7_cut_108 : decode cX7_cut 108 = .ok (.iload_n 1, 1) := by decide +kernel
theorem dX7_cut_109 : decode cX7_cut 109 = .ok (.iaload, 1) := by decide +kernel
theorem dX7_cut_110 : decode cX7_cut 110 = .ok (.ireturn, 1) := by decide +kernel
theorem dX7_cut_111 : decode cX7_cut 111 = .ok (.aload_n 0, 1) := by decide +kernel
theorem dX7_cut_112 : decode cX7_cut 112 = .ok (.getfield 76, 3) := by decide +kernel
theorem dX7_cut_115 : decode cX7_cut 115 = .ok (.iload_n 1, 1) := by decide +kernel
theorem dX7_cut_116 : decode cX7_cut 116 = .ok (.iaload, 1) := by decide +kernel
theorem dX7_cut_117 : decode cX7_cut 117 = .ok (.ireturn, 1) := by decide +kernel
theorem dX7_cut_118 : decode cX7_cut 118 = .ok (.aload_n 0, 1) := by decide +kernel
theorem dX7_cut_119 : decode cX7_cut 119 = .ok (.getfield 79, 3) := by decide +kernel
theorem dX7_cut_122 : decode cX7_cut 122 = .ok (.iload_n 1, 1) := by decide +kernel
theorem dX7_cut_123 : decode cX7_cut 123 = .ok (.iaload, 1) := by decide +kernel
theorem dX7_cut_124 : decode cX7_cut 124 = .ok (.ireturn, 1) := by decide +kernel
set_option maxRecDepth 20000 in
theorem ggX7_waste_X7_work : GoodIn wsX7_waste wsX7_work := goodIn_r _ [11, 12, 1, 2, 13, 14, 15, 10, 16, 17, 18, 19, 20, 21, 22, 23, 24, 25, 26, 27, 28, 29, 4, 6, 30, 31, 32, 33, 34, 35, 36, 37, 38, 39, 40, 41, 42, 43, 44, 45, 46, 47, 48, 49, 50, 51, 52, 53, 54, 55, 56, 57, 3, 58, 59, 60, 61, 62, 63, 64, 65, 66, 67, 68, 69, 70, 71, 72, 73, 74, 75, 76, 77, 78, 5, 79, 80, 81, 82, 83, 84, 85, 86, 87, 88, 89, 90, 91, 92, 93, 94, 95, 96, 97, 98, 99, 100, 101, 102, 103, 104, 105, 106, 107, 108, 109, 110, 111, 112, 113, 114, 115, 116, 117, 118, 119, 120, 121, 122, 123, 124, 125, 126, 127, 128] (by decide +kernel) (by decide +kernel)
set_option maxRecDepth 20000 in
theorem gX7_waste_X7_work : GoodIn wsX7_waste (wsV RX7 185 RX7 yX7_work wsX7_work) := goodIn_app (goodIn_of _ (by decide +kernel)) ggX7_waste_X7_work
theorem dX7_waste_0 : decode cX7_waste 0 = .ok (.aload_n 0, 1) := by decide +kernel
theorem dX7_waste_1 : decode cX7_waste 1 = .ok (.invokevirtual 185, 3) := by decide +kernel
theorem dX7_waste_4 : decode cX7_waste 4 = .ok (.aload_n 0, 1) := by decide +kernel
theorem dX7_waste_5 : decode cX7_waste 5 = .ok (.getfield 7, 3) := by decide +kernel
theorem dX7_waste_8 : decode cX7_waste 8 = .ok (.aload_n 0, 1) := by decide +kernel
theorem dX7_waste_9 : decode cX7_waste 9 = .ok (.getfield 13, 3) := by decide +kernel
theorem dX7_waste_12 : decode cX7_waste 12 = .ok (.imul, 1) := by decide +kernel
theorem dX7_waste_13 : decode cX7_waste 13 = .ok (.istore_n 1, 1) := by decide +kernel
theorem dX7_waste_14 : decode cX7_waste 14 = .ok (.iconst 0, 1) := by decide +kernel
theorem dX7_waste_15 : decode cX7_waste 15 = .ok (.istore_n 2, 1) := by decide +kernel
theorem dX7_waste_16 : decode cX7_waste 16 = .ok (.iload_n 2, 1) := by decide +kernel
theorem dX7_waste_17 : decode cX7_waste 17 = .ok (.aload_n 0, 1) := by decide +kernel
theorem dX7_waste_18 : decode cX7_waste 18 = .ok (.getfield 168, 3) := by decide +kernel
theorem dX7_waste_21 : decode cX7_waste 21 = .ok (.if_icmp .ge 35, 3) := by decide +kernel
theorem dX7_waste_24 : decode cX7_waste 24 = .ok (.iload_n 1, 1) := by decide +kernel
theorem dX7_waste_25 : decode cX7_waste 25 = .ok (.aload_n 0, 1) := by decide +kernel
theorem dX7_waste_26 : decode cX7_waste 26 = .ok (.getfield 32, 3) := by decide +kernel
theorem dX7_waste_29 : decode cX7_waste 29 = .ok (.aload_n 0, 1) := by decide +kernel
theorem dX7_waste_30 : decode cX7_waste 30 = .ok (.getfield 52, 3) := by decide +kernel
theorem dX7_waste_33 : decode cX7_waste 33 = .ok (.iload_n 2, 1) := by decide +kernel
theorem dX7_waste_34 : decode cX7_waste 34 = .ok (.iaload, 1) := by decide +kernel
theorem dX7_waste_35 : decode cX7_waste 35 = .ok (.iaload, 1) := by decide +kernel
theorem dX7_waste_36 : decode cX7_waste 36 = .ok (.aload_n 0, 1) := by decide +kernel
theorem dX7_waste_37 : decode cX7_waste 37 = .ok (.getfield 35, 3) := by decide +kernel
theorem dX7_waste_40 : decode cX7_waste 40 = .ok (.aload_n 0, 1) := by decide +kernel
theorem dX7_waste_41 : decode cX7_waste 41 = .ok (.getfield 52, 3) := by decide +kernel
theorem dX7_waste_44 : decode cX7_waste 44 = .ok (.iload_n 2, 1) := by decide +kernel
theorem dX7_waste_45 : decode cX7_waste 45 = .ok (.iaload, 1) := by decide +kernel
theorem dX7_waste_46 : decode cX7_waste 46 = .ok (.iaload, 1) := by decide +kernel
theorem dX7_waste_47 : decode cX7_waste 47 = .ok (.imul, 1) := by decide +kernel
theorem dX7_waste_48 : decode cX7_waste 48 = .ok (.isub, 1) := by decide +kernel
theorem dX7_waste_49 : decode cX7_waste 49 = .ok (.istore_n 1, 1) := by decide +kernel
theorem dX7_waste_50 : decode cX7_waste 50 = .ok (.iinc 2 1, 3) := by decide +kernel
theorem dX7_waste_53 : decode cX7_waste 53 = .ok (.goto (-37), 3) := by decide +kernel
theorem dX7_waste_56 : decode cX7_waste 56 = .ok (.iload_n 1, 1) := by decide +kernel
theorem dX7_waste_57 : decode cX7_waste 57 = .ok (.ireturn, 1) := by decide +kernel
set_option maxRecDepth 20000 in
theorem ggX7_stock_X7_within : GoodIn wsX7_stock wsX7_within := goodIn_r _ [8] (by decide +kernel) (by decide +kernel)
set_option maxRecDepth 20000 in
theorem gX7_stock_X7_within : GoodIn wsX7_stock (va_wsS RX7 112 yX7_within wsX7_within) := goodIn_app (goodIn_of _ (by decide +kernel)) ggX7_stock_X7_within
theorem dX7_stock_0 : decode cX7_stock 0 = .ok (.iload_n 1, 1) := by decide +kernel
theorem dX7_stock_1 : decode cX7_stock 1 = .ok (.iconst 1, 1) := by decide +kernel
theorem dX7_stock_2 : decode cX7_stock 2 = .ok (.bipush 99, 2) := by decide +kernel
theorem dX7_stock_4 : decode cX7_stock 4 = .ok (.invokestatic 112, 3) := by decide +kernel
theorem dX7_stock_7 : decode cX7_stock 7 = .ok (.ifCond .eq 13, 3) := by decide +kernel
theorem dX7_stock_10 : decode cX7_stock 10 = .ok (.iload_n 2, 1) := by decide +kernel
theorem dX7_stock_11 : decode cX7_stock 11 = .ok (.iconst 1, 1) := by decide +kernel
theorem dX7_stock_12 : decode cX7_stock 12 = .ok (.bipush 100, 2) := by decide +kernel
theorem dX7_stock_14 : decode cX7_stock 14 = .ok (.invokestatic 112, 3) := by decide +kernel
theorem dX7_stock_17 : decode cX7_stock 17 = .ok (.ifCond .ne 6, 3) := by decide +kernel
theorem dX7_stock_20 : decode cX7_stock 20 = .ok (.bipush (-3), 2) := by decide +kernel
theorem dX7_stock_22 : decode cX7_stock 22 = .ok (.ireturn, 1) := by decide +kernel
theorem dX7_stock_23 : decode cX7_stock 23 = .ok (.aload_n 0, 1) := by decide +kernel
theorem dX7_stock_24 : decode cX7_stock 24 = .ok (.getfield 192, 3) := by decide +kernel
theorem dX7_stock_27 : decode cX7_stock 27 = .ok (.iconst 3, 1) := by decide +kernel
theorem dX7_stock_28 : decode cX7_stock 28 = .ok (.if_icmp .ne 6, 3) := by decide +kernel
theorem dX7_stock_31 : decode cX7_stock 31 = .ok (.bipush (-4), 2) := by decide +kernel
theorem dX7_stock_33 : decode cX7_stock 33 = .ok (.ireturn, 1) := by decide +kernel
theorem dX7_stock_34 : decode cX7_stock 34 = .ok (.aload_n 0, 1) := by decide +kernel
theorem dX7_stock_35 : decode cX7_stock 35 = .ok (.getfield 85, 3) := by decide +kernel
theorem dX7_stock_38 : decode cX7_stock 38 = .ok (.aload_n 0, 1) := by decide +kernel
theorem dX7_stock_39 : decode cX7_stock 39 = .ok (.getfield 192, 3) := by decide +kernel
theorem dX7_stock_42 : decode cX7_stock 42 = .ok (.iload_n 1, 1) := by decide +kernel
theorem dX7_stock_43 : decode cX7_stock 43 = .ok (.iastore, 1) := by decide +kernel
theorem dX7_stock_44 : decode cX7_stock 44 = .ok (.aload_n 0, 1) := by decide +kernel
theorem dX7_stock_45 : decode cX7_stock 45 = .ok (.getfield 88, 3) := by decide +kernel
theorem dX7_stock_48 : decode cX7_stock 48 = .ok (.aload_n 0, 1) := by decide +kernel
theorem dX7_stock_49 : decode cX7_stock 49 = .ok (.getfield 192, 3) := by decide +kernel
theorem dX7_stock_52 : decode cX7_stock 52 = .ok (.iload_n 2, 1) := by decide +kernel
theorem dX7_stock_53 : decode cX7_stock 53 = .ok (.iastore, 1) := by decide +kernel
theorem dX7_stock_54 : decode cX7_stock 54 = .ok (.aload_n 0, 1) := by decide +kernel
theorem dX7_stock_55 : decode cX7_stock 55 = .ok (.dup, 1) := by decide +kernel
theorem dX7_stock_56 : decode cX7_stock 56 = .ok (.getfield 192, 3) := by decide +kernel
theorem dX7_stock_59 : decode cX7_stock 59 = .ok (.iconst 1, 1) := by decide +kernel
theorem dX7_stock_60 : decode cX7_stock 60 = .ok (.iadd, 1) := by decide +kernel
theorem dX7_stock_61 : decode cX7_stock 61 = .ok (.putfield 192, 3) := by decide +kernel
theorem dX7_stock_64 : decode cX7_stock 64 = .ok (.aload_n 0, 1) := by decide +kernel
theorem dX7_stock_65 : decode cX7_stock 65 = .ok (.iconst 0, 1) := by decide +kernel
theorem dX7_stock_66 : decode cX7_stock 66 = .ok (.putfield 195, 3) := by decide +kernel
theorem dX7_stock_69 : decode cX7_stock 69 = .ok (.aload_n 0, 1) := by decide +kernel
theorem dX7_stock_70 : decode cX7_stock 70 = .ok (.getfield 192, 3) := by decide +kernel
theorem dX7_stock_73 : decode cX7_stock 73 = .ok (.iconst 1, 1) := by decide +kernel
theorem dX7_stock_74 : decode cX7_stock 74 = .ok (.isub, 1) := by decide +kernel
theorem dX7_stock_75 : decode cX7_stock 75 = .ok (.ireturn, 1) := by decide +kernel
set_option maxRecDepth 20000 in
theorem ggX7_order_X7_within : GoodIn wsX7_order wsX7_within := goodIn_r _ [8] (by decide +kernel) (by decide +kernel)
set_option maxRecDepth 20000 in
theorem gX7_order_X7_within : GoodIn wsX7_order (va_wsS RX7 112 yX7_within wsX7_within) := goodIn_app (goodIn_of _ (by decide +kernel)) ggX7_order_X7_within
theorem dX7_order_0 : decode cX7_order 0 = .ok (.iload_n 1, 1) := by decide +kernel
theorem dX7_order_1 : decode cX7_order 1 = .ok (.iconst 1, 1) := by decide +kernel
theorem dX7_order_2 : decode cX7_order 2 = .ok (.bipush 99, 2) := by decide +kernel
theorem dX7_order_4 : decode cX7_order 4 = .ok (.invokestatic 112, 3) := by decide +kernel
theorem dX7_order_7 : decode cX7_order 7 = .ok (.ifCond .eq 12, 3) := by decide +kernel
theorem dX7_order_10 : decode cX7_order 10 = .ok (.iload_n 2, 1) := by decide +kernel
theorem dX7_order_11 : decode cX7_order 11 = .ok (.iconst 0, 1) := by decide +kernel
theorem dX7_order_12 : decode cX7_order 12 = .ok (.iconst 5, 1) := by decide +kernel
theorem dX7_order_13 : decode cX7_order 13 = .ok (.invokestatic 112, 3) := by decide +kernel
theorem dX7_order_16 : decode cX7_order 16 = .ok (.ifCond .ne 6, 3) := by decide +kernel
theorem dX7_order_19 : decode cX7_order 19 = .ok (.bipush (-3), 2) := by decide +kernel
theorem dX7_order_21 : decode cX7_order 21 = .ok (.ireturn, 1) := by decide +kernel
theorem dX7_order_22 : decode cX7_order 22 = .ok (.aload_n 0, 1) := by decide +kernel
theorem dX7_order_23 : decode cX7_order 23 = .ok (.getfield 198, 3) := by decide +kernel
theorem dX7_order_26 : decode cX7_order 26 = .ok (.iconst 4, 1) := by decide +kernel
theorem dX7_order_27 : decode cX7_order 27 = .ok (.if_icmp .ne 6, 3) := by decide +kernel
theorem dX7_order_30 : decode cX7_order 30 = .ok (.bipush (-4), 2) := by decide +kernel
theorem dX7_order_32 : decode cX7_order 32 = .ok (.ireturn, 1) := by decide +kernel
theorem dX7_order_33 : decode cX7_order 33 = .ok (.aload_n 0, 1) := by decide +kernel
theorem dX7_order_34 : decode cX7_order 34 = .ok (.getfield 91, 3) := by decide +kernel
theorem dX7_order_37 : decode cX7_order 37 = .ok (.aload_n 0, 1) := by decide +kernel
theorem dX7_order_38 : decode cX7_order 38 = .ok (.getfield 198, 3) := by decide +kernel
theorem dX7_order_41 : decode cX7_order 41 = .ok (.iload_n 1, 1) := by decide +kernel
theorem dX7_order_42 : decode cX7_order 42 = .ok (.iastore, 1) := by decide +kernel
theorem dX7_order_43 : decode cX7_order 43 = .ok (.aload_n 0, 1) := by decide +kernel
theorem dX7_order_44 : decode cX7_order 44 = .ok (.getfield 94, 3) := by decide +kernel
theorem dX7_order_47 : decode cX7_order 47 = .ok (.aload_n 0, 1) := by decide +kernel
theorem dX7_order_48 : decode cX7_order 48 = .ok (.getfield 198, 3) := by decide +kernel
theorem dX7_order_51 : decode cX7_order 51 = .ok (.iload_n 2, 1) := by decide +kernel
theorem dX7_order_52 : decode cX7_order 52 = .ok (.iastore, 1) := by decide +kernel
theorem dX7_order_53 : decode cX7_order 53 = .ok (.aload_n 0, 1) := by decide +kernel
theorem dX7_order_54 : decode cX7_order 54 = .ok (.dup, 1) := by decide +kernel
theorem dX7_order_55 : decode cX7_order 55 = .ok (.getfield 198, 3) := by decide +kernel
theorem dX7_order_58 : decode cX7_order 58 = .ok (.iconst 1, 1) := by decide +kernel
theorem dX7_order_59 : decode cX7_order 59 = .ok (.iadd, 1) := by decide +kernel
theorem dX7_order_60 : decode cX7_order 60 = .ok (.putfield 198, 3) := by decide +kernel
theorem dX7_order_63 : decode cX7_order 63 = .ok (.aload_n 0, 1) := by decide +kernel
theorem dX7_order_64 : decode cX7_order 64 = .ok (.iconst 0, 1) := by decide +kernel
theorem dX7_order_65 : decode cX7_order 65 = .ok (.putfield 195, 3) := by decide +kernel
theorem dX7_order_68 : decode cX7_order 68 = .ok (.aload_n 0, 1) := by decide +kernel
theorem dX7_order_69 : decode cX7_order 69 = .ok (.getfield 198, 3) := by decide +kernel
theorem dX7_order_72 : decode cX7_order 72 = .ok (.iconst 1, 1) := by decide +kernel
theorem dX7_order_73 : decode cX7_order 73 = .ok (.isub, 1) := by decide +kernel
theorem dX7_order_74 : decode cX7_order 74 = .ok (.ireturn, 1) := by decide +kernel
set_option maxRecDepth 20000 in
theorem ggX7_demand_X7_within : GoodIn wsX7_demand wsX7_within := goodIn_r _ [7] (by decide +kernel) (by decide +kernel)
set_option maxRecDepth 20000 in
theorem gX7_demand_X7_within : GoodIn wsX7_demand (va_wsS RX7 112 yX7_within wsX7_within) := goodIn_app (goodIn_of _ (by decide +kernel)) ggX7_demand_X7_within
theorem dX7_demand_0 : decode cX7_demand 0 = .ok (.iload_n 1, 1) := by decide +kernel
theorem dX7_demand_1 : decode cX7_demand 1 = .ok (.iconst 0, 1) := by decide +kernel
theorem dX7_demand_2 : decode cX7_demand 2 = .ok (.aload_n 0, 1) := by decide +kernel
theorem dX7_demand_3 : decode cX7_demand 3 = .ok (.getfield 198, 3) := by decide +kernel
theorem dX7_demand_6 : decode cX7_demand 6 = .ok (.iconst 1, 1) := by decide +kernel
theorem dX7_demand_7 : decode cX7_demand 7 = .ok (.isub, 1) := by decide +kernel
theorem dX7_demand_8 : decode cX7_demand 8 = .ok (.invokestatic 112, 3) := by decide +kernel
theorem dX7_demand_11 : decode cX7_demand 11 = .ok (.ifCond .ne 6, 3) := by decide +kernel
theorem dX7_demand_14 : decode cX7_demand 14 = .ok (.bipush (-2), 2) := by decide +kernel
theorem dX7_demand_16 : decode cX7_demand 16 = .ok (.ireturn, 1) := by decide +kernel
theorem dX7_demand_17 : decode cX7_demand 17 = .ok (.iload_n 2, 1) := by decide +kernel
theorem dX7_demand_18 : decode cX7_demand 18 = .ok (.iconst 0, 1) := by decide +kernel
theorem dX7_demand_19 : decode cX7_demand 19 = .ok (.iconst 5, 1) := by decide +kernel
theorem dX7_demand_20 : decode cX7_demand 20 = .ok (.invokestatic 112, 3) := by decide +kernel
theorem dX7_demand_23 : decode cX7_demand 23 = .ok (.ifCond .ne 6, 3) := by decide +kernel
theorem dX7_demand_26 : decode cX7_demand 26 = .ok (.bipush (-3), 2) := by decide +kernel
theorem dX7_demand_28 : decode cX7_demand 28 = .ok (.ireturn, 1) := by decide +kernel
theorem dX7_demand_29 : decode cX7_demand 29 = .ok (.aload_n 0, 1) := by decide +kernel
theorem dX7_demand_30 : decode cX7_demand 30 = .ok (.getfield 94, 3) := by decide +kernel
theorem dX7_demand_33 : decode cX7_demand 33 = .ok (.iload_n 1, 1) := by decide +kernel
theorem dX7_demand_34 : decode cX7_demand 34 = .ok (.iaload, 1) := by decide +kernel
theorem dX7_demand_35 : decode cX7_demand 35 = .ok (.istore_n 3, 1) := by decide +kernel
theorem dX7_demand_36 : decode cX7_demand 36 = .ok (.aload_n 0, 1) := by decide +kernel
theorem dX7_demand_37 : decode cX7_demand 37 = .ok (.getfield 94, 3) := by decide +kernel
theorem dX7_demand_40 : decode cX7_demand 40 = .ok (.iload_n 1, 1) := by decide +kernel
end
section
theorem dX7_demand_41 : decode cX7_demand 41 = .ok (.iload_n 2, 1) := by decide +kernel
theorem dX7_demand_42 : decode cX7_demand 42 = .ok (.iastore, 1) := by decide +kernel
theorem dX7_demand_43 : decode cX7_demand 43 = .ok (.aload_n 0, 1) := by decide +kernel
theorem dX7_demand_44 : decode cX7_demand 44 = .ok (.iconst 0, 1) := by decide +kernel
theorem dX7_demand_45 : decode cX7_demand 45 = .ok (.putfield 195, 3) := by decide +kernel
theorem dX7_demand_48 : decode cX7_demand 48 = .ok (.iload_n 3, 1) := by decide +kernel
theorem dX7_demand_49 : decode cX7_demand 49 = .ok (.ireturn, 1) := by decide +kernel
set_option maxRecDepth 20000 in
theorem ggX7_blade_X7_within : GoodIn wsX7_blade wsX7_within := goodIn_r _ [6] (by decide +kernel) (by decide +kernel)
set_option maxRecDepth 20000 in
theorem gX7_blade_X7_within : GoodIn wsX7_blade (va_wsS RX7 112 yX7_within wsX7_within) := goodIn_app (goodIn_of _ (by decide +kernel)) ggX7_blade_X7_within
theorem dX7_blade_0 : decode cX7_blade 0 = .ok (.iload_n 1, 1) := by decide +kernel
theorem dX7_blade_1 : decode cX7_blade 1 = .ok (.iconst 0, 1) := by decide +kernel
theorem dX7_blade_2 : decode cX7_blade 2 = .ok (.iconst 3, 1) := by decide +kernel
theorem dX7_blade_3 : decode cX7_blade 3 = .ok (.invokestatic 112, 3) := by decide +kernel
theorem dX7_blade_6 : decode cX7_blade 6 = .ok (.ifCond .ne 6, 3) := by decide +kernel
theorem dX7_blade_9 : decode cX7_blade 9 = .ok (.bipush (-3), 2) := by decide +kernel
theorem dX7_blade_11 : decode cX7_blade 11 = .ok (.ireturn, 1) := by decide +kernel
theorem dX7_blade_12 : decode cX7_blade 12 = .ok (.aload_n 0, 1) := by decide +kernel
theorem dX7_blade_13 : decode cX7_blade 13 = .ok (.getfield 201, 3) := by decide +kernel
theorem dX7_blade_16 : decode cX7_blade 16 = .ok (.istore_n 2, 1) := by decide +kernel
theorem dX7_blade_17 : decode cX7_blade 17 = .ok (.aload_n 0, 1) := by decide +kernel
theorem dX7_blade_18 : decode cX7_blade 18 = .ok (.iload_n 1, 1) := by decide +kernel
theorem dX7_blade_19 : decode cX7_blade 19 = .ok (.putfield 201, 3) := by decide +kernel
theorem dX7_blade_22 : decode cX7_blade 22 = .ok (.aload_n 0, 1) := by decide +kernel
theorem dX7_blade_23 : decode cX7_blade 23 = .ok (.iconst 0, 1) := by decide +kernel
theorem dX7_blade_24 : decode cX7_blade 24 = .ok (.putfield 195, 3) := by decide +kernel
theorem dX7_blade_27 : decode cX7_blade 27 = .ok (.iload_n 2, 1) := by decide +kernel
theorem dX7_blade_28 : decode cX7_blade 28 = .ok (.ireturn, 1) := by decide +kernel
theorem dX7_digit_0 : decode cX7_digit 0 = .ok (.iload_n 0, 1) := by decide +kernel
theorem dX7_digit_1 : decode cX7_digit 1 = .ok (.istore_n 2, 1) := by decide +kernel
theorem dX7_digit_2 : decode cX7_digit 2 = .ok (.iload_n 1, 1) := by decide +kernel
theorem dX7_digit_3 : decode cX7_digit 3 = .ok (.istore_n 3, 1) := by decide +kernel
theorem dX7_digit_4 : decode cX7_digit 4 = .ok (.iload_n 3, 1) := by decide +kernel
theorem dX7_digit_5 : decode cX7_digit 5 = .ok (.iconst 3, 1) := by decide +kernel
theorem dX7_digit_6 : decode cX7_digit 6 = .ok (.if_icmp .ge 14, 3) := by decide +kernel
theorem dX7_digit_9 : decode cX7_digit 9 = .ok (.iload_n 2, 1) := by decide +kernel
theorem dX7_digit_10 : decode cX7_digit 10 = .ok (.bipush 6, 2) := by decide +kernel
theorem dX7_digit_12 : decode cX7_digit 12 = .ok (.idiv, 1) := by decide +kernel
theorem dX7_digit_13 : decode cX7_digit 13 = .ok (.istore_n 2, 1) := by decide +kernel
theorem dX7_digit_14 : decode cX7_digit 14 = .ok (.iinc 3 1, 3) := by decide +kernel
theorem dX7_digit_17 : decode cX7_digit 17 = .ok (.goto (-13), 3) := by decide +kernel
theorem dX7_digit_20 : decode cX7_digit 20 = .ok (.iload_n 2, 1) := by decide +kernel
theorem dX7_digit_21 : decode cX7_digit 21 = .ok (.bipush 6, 2) := by decide +kernel
theorem dX7_digit_23 : decode cX7_digit 23 = .ok (.irem, 1) := by decide +kernel
theorem dX7_digit_24 : decode cX7_digit 24 = .ok (.ireturn, 1) := by decide +kernel
theorem dX7_all_0 : decode cX7_all 0 = .ok (.iconst 0, 1) := by decide +kernel
theorem dX7_all_1 : decode cX7_all 1 = .ok (.istore_n 1, 1) := by decide +kernel
theorem dX7_all_2 : decode cX7_all 2 = .ok (.iconst 0, 1) := by decide +kernel
theorem dX7_all_3 : decode cX7_all 3 = .ok (.istore_n 2, 1) := by decide +kernel
theorem dX7_all_4 : decode cX7_all 4 = .ok (.iload_n 2, 1) := by decide +kernel
theorem dX7_all_5 : decode cX7_all 5 = .ok (.iconst 4, 1) := by decide +kernel
theorem dX7_all_6 : decode cX7_all 6 = .ok (.if_icmp .ge 33, 3) := by decide +kernel
theorem dX7_all_9 : decode cX7_all 9 = .ok (.bipush 6, 2) := by decide +kernel
theorem dX7_all_11 : decode cX7_all 11 = .ok (.iload_n 1, 1) := by decide +kernel
theorem dX7_all_12 : decode cX7_all 12 = .ok (.imul, 1) := by decide +kernel
theorem dX7_all_13 : decode cX7_all 13 = .ok (.iload_n 2, 1) := by decide +kernel
theorem dX7_all_14 : decode cX7_all 14 = .ok (.aload_n 0, 1) := by decide +kernel
theorem dX7_all_15 : decode cX7_all 15 = .ok (.getfield 198, 3) := by decide +kernel
theorem dX7_all_18 : decode cX7_all 18 = .ok (.if_icmp .ge 12, 3) := by decide +kernel
theorem dX7_all_21 : decode cX7_all 21 = .ok (.aload_n 0, 1) := by decide +kernel
theorem dX7_all_22 : decode cX7_all 22 = .ok (.getfield 94, 3) := by decide +kernel
theorem dX7_all_25 : decode cX7_all 25 = .ok (.iload_n 2, 1) := by decide +kernel
theorem dX7_all_26 : decode cX7_all 26 = .ok (.iaload, 1) := by decide +kernel
theorem dX7_all_27 : decode cX7_all 27 = .ok (.goto 4, 3) := by decide +kernel
theorem dX7_all_30 : decode cX7_all 30 = .ok (.iconst 0, 1) := by decide +kernel
theorem dX7_all_31 : decode cX7_all 31 = .ok (.iadd, 1) := by decide +kernel
theorem dX7_all_32 : decode cX7_all 32 = .ok (.istore_n 1, 1) := by decide +kernel
theorem dX7_all_33 : decode cX7_all 33 = .ok (.iinc 2 1, 3) := by decide +kernel
theorem dX7_all_36 : decode cX7_all 36 = .ok (.goto (-32), 3) := by decide +kernel
theorem dX7_all_39 : decode cX7_all 39 = .ok (.iload_n 1, 1) := by decide +kernel
theorem dX7_all_40 : decode cX7_all 40 = .ok (.ireturn, 1) := by decide +kernel
set_option maxRecDepth 20000 in
theorem ggX7_isIn_X7_digit : GoodIn wsX7_isIn wsX7_digit := goodIn_r _ [4] (by decide +kernel) (by decide +kernel)
set_option maxRecDepth 20000 in
theorem gX7_isIn_X7_digit : GoodIn wsX7_isIn (va_wsS RX7 204 yX7_digit wsX7_digit) := goodIn_app (goodIn_of _ (by decide +kernel)) ggX7_isIn_X7_digit
theorem dX7_isIn_0 : decode cX7_isIn 0 = .ok (.iconst 1, 1) := by decide +kernel
theorem dX7_isIn_1 : decode cX7_isIn 1 = .ok (.istore_n 2, 1) := by decide +kernel
theorem dX7_isIn_2 : decode cX7_isIn 2 = .ok (.iconst 0, 1) := by decide +kernel
theorem dX7_isIn_3 : decode cX7_isIn 3 = .ok (.istore_n 3, 1) := by decide +kernel
theorem dX7_isIn_4 : decode cX7_isIn 4 = .ok (.iload_n 3, 1) := by decide +kernel
theorem dX7_isIn_5 : decode cX7_isIn 5 = .ok (.iconst 4, 1) := by decide +kernel
theorem dX7_isIn_6 : decode cX7_isIn 6 = .ok (.if_icmp .ge 32, 3) := by decide +kernel
theorem dX7_isIn_9 : decode cX7_isIn 9 = .ok (.iload_n 2, 1) := by decide +kernel
theorem dX7_isIn_10 : decode cX7_isIn 10 = .ok (.ifCond .eq 20, 3) := by decide +kernel
theorem dX7_isIn_13 : decode cX7_isIn 13 = .ok (.iload_n 0, 1) := by decide +kernel
theorem dX7_isIn_14 : decode cX7_isIn 14 = .ok (.iload_n 3, 1) := by decide +kernel
theorem dX7_isIn_15 : decode cX7_isIn 15 = .ok (.invokestatic 204, 3) := by decide +kernel
theorem dX7_isIn_18 : decode cX7_isIn 18 = .ok (.iload_n 1, 1) := by decide +kernel
theorem dX7_isIn_19 : decode cX7_isIn 19 = .ok (.iload_n 3, 1) := by decide +kernel
theorem dX7_isIn_20 : decode cX7_isIn 20 = .ok (.invokestatic 204, 3) := by decide +kernel
theorem dX7_isIn_23 : decode cX7_isIn 23 = .ok (.if_icmp .gt 7, 3) := by decide +kernel
theorem dX7_isIn_26 : decode cX7_isIn 26 = .ok (.iconst 1, 1) := by decide +kernel
theorem dX7_isIn_27 : decode cX7_isIn 27 = .ok (.goto 4, 3) := by decide +kernel
theorem dX7_isIn_30 : decode cX7_isIn 30 = .ok (.iconst 0, 1) := by decide +kernel
theorem dX7_isIn_31 : decode cX7_isIn 31 = .ok (.istore_n 2, 1) := by decide +kernel
theorem dX7_isIn_32 : decode cX7_isIn 32 = .ok (.iinc 3 1, 3) := by decide +kernel
theorem dX7_isIn_35 : decode cX7_isIn 35 = .ok (.goto (-31), 3) := by decide +kernel
theorem dX7_isIn_38 : decode cX7_isIn 38 = .ok (.iload_n 2, 1) := by decide +kernel
theorem dX7_isIn_39 : decode cX7_isIn 39 = .ok (.ireturn, 1) := by decide +kernel
set_option maxRecDepth 20000 in
theorem ggX7_findPattern_X7_digit : GoodIn wsX7_findPattern wsX7_digit := goodIn_r _ [12] (by decide +kernel) (by decide +kernel)
set_option maxRecDepth 20000 in
theorem gX7_findPattern_X7_digit : GoodIn wsX7_findPattern (va_wsS RX7 204 yX7_digit wsX7_digit) := goodIn_app (goodIn_of _ (by decide +kernel)) ggX7_findPattern_X7_digit
theorem dX7_findPattern_0 : decode cX7_findPattern 0 = .ok (.iconst 0, 1) := by decide +kernel
theorem dX7_findPattern_1 : decode cX7_findPattern 1 = .ok (.aload_n 0, 1) := by decide +kernel
theorem dX7_findPattern_2 : decode cX7_findPattern 2 = .ok (.getfield 201, 3) := by decide +kernel
theorem dX7_findPattern_5 : decode cX7_findPattern 5 = .ok (.isub, 1) := by decide +kernel
theorem dX7_findPattern_6 : decode cX7_findPattern 6 = .ok (.istore_n 2, 1) := by decide +kernel
theorem dX7_findPattern_7 : decode cX7_findPattern 7 = .ok (.iconst 0, 1) := by decide +kernel
theorem dX7_findPattern_8 : decode cX7_findPattern 8 = .ok (.istore_n 3, 1) := by decide +kernel
theorem dX7_findPattern_9 : decode cX7_findPattern 9 = .ok (.iload_n 3, 1) := by decide +kernel
theorem dX7_findPattern_10 : decode cX7_findPattern 10 = .ok (.aload_n 0, 1) := by decide +kernel
theorem dX7_findPattern_11 : decode cX7_findPattern 11 = .ok (.getfield 198, 3) := by decide +kernel
theorem dX7_findPattern_14 : decode cX7_findPattern 14 = .ok (.if_icmp .ge 29, 3) := by decide +kernel
theorem dX7_findPattern_17 : decode cX7_findPattern 17 = .ok (.iload_n 2, 1) := by decide +kernel
theorem dX7_findPattern_18 : decode cX7_findPattern 18 = .ok (.iload_n 1, 1) := by decide +kernel
theorem dX7_findPattern_19 : decode cX7_findPattern 19 = .ok (.iload_n 3, 1) := by decide +kernel
theorem dX7_findPattern_20 : decode cX7_findPattern 20 = .ok (.invokestatic 204, 3) := by decide +kernel
theorem dX7_findPattern_23 : decode cX7_findPattern 23 = .ok (.aload_n 0, 1) := by decide +kernel
theorem dX7_findPattern_24 : decode cX7_findPattern 24 = .ok (.getfield 91, 3) := by decide +kernel
theorem dX7_findPattern_27 : decode cX7_findPattern 27 = .ok (.iload_n 3, 1) := by decide +kernel
theorem dX7_findPattern_28 : decode cX7_findPattern 28 = .ok (.iaload, 1) := by decide +kernel
theorem dX7_findPattern_29 : decode cX7_findPattern 29 = .ok (.aload_n 0, 1) := by decide +kernel
theorem dX7_findPattern_30 : decode cX7_findPattern 30 = .ok (.getfield 201, 3) := by decide +kernel
theorem dX7_findPattern_33 : decode cX7_findPattern 33 = .ok (.iadd, 1) := by decide +kernel
theorem dX7_findPattern_34 : decode cX7_findPattern 34 = .ok (.imul, 1) := by decide +kernel
theorem dX7_findPattern_35 : decode cX7_findPattern 35 = .ok (.iadd, 1) := by decide +kernel
theorem dX7_findPattern_36 : decode cX7_findPattern 36 = .ok (.istore_n 2, 1) := by decide +kernel
theorem dX7_findPattern_37 : decode cX7_findPattern 37 = .ok (.iinc 3 1, 3) := by decide +kernel
theorem dX7_findPattern_40 : decode cX7_findPattern 40 = .ok (.goto (-31), 3) := by decide +kernel
theorem dX7_findPattern_43 : decode cX7_findPattern 43 = .ok (.aload_n 0, 1) := by decide +kernel
theorem dX7_findPattern_44 : decode cX7_findPattern 44 = .ok (.getfield 106, 3) := by decide +kernel
theorem dX7_findPattern_47 : decode cX7_findPattern 47 = .ok (.iload_n 1, 1) := by decide +kernel
theorem dX7_findPattern_48 : decode cX7_findPattern 48 = .ok (.iload_n 2, 1) := by decide +kernel
theorem dX7_findPattern_49 : decode cX7_findPattern 49 = .ok (.iastore, 1) := by decide +kernel
theorem dX7_findPattern_50 : decode cX7_findPattern 50 = .ok (.iconst (-1), 1) := by decide +kernel
theorem dX7_findPattern_51 : decode cX7_findPattern 51 = .ok (.istore_n 3, 1) := by decide +kernel
theorem dX7_findPattern_52 : decode cX7_findPattern 52 = .ok (.iconst 0, 1) := by decide +kernel
theorem dX7_findPattern_53 : decode cX7_findPattern 53 = .ok (.istore 4, 2) := by decide +kernel
theorem dX7_findPattern_55 : decode cX7_findPattern 55 = .ok (.iload 4, 2) := by decide +kernel
theorem dX7_findPattern_57 : decode cX7_findPattern 57 = .ok (.aload_n 0, 1) := by decide +kernel
theorem dX7_findPattern_58 : decode cX7_findPattern 58 = .ok (.getfield 192, 3) := by decide +kernel
theorem dX7_findPattern_61 : decode cX7_findPattern 61 = .ok (.if_icmp .ge 44, 3) := by decide +kernel
theorem dX7_findPattern_64 : decode cX7_findPattern 64 = .ok (.aload_n 0, 1) := by decide +kernel
theorem dX7_findPattern_65 : decode cX7_findPattern 65 = .ok (.getfield 85, 3) := by decide +kernel
theorem dX7_findPattern_68 : decode cX7_findPattern 68 = .ok (.iload 4, 2) := by decide +kernel
theorem dX7_findPattern_70 : decode cX7_findPattern 70 = .ok (.iaload, 1) := by decide +kernel
theorem dX7_findPattern_71 : decode cX7_findPattern 71 = .ok (.iload_n 2, 1) := by decide +kernel
theorem dX7_findPattern_72 : decode cX7_findPattern 72 = .ok (.if_icmp .lt 27, 3) := by decide +kernel
theorem dX7_findPattern_75 : decode cX7_findPattern 75 = .ok (.iload_n 3, 1) := by decide +kernel
theorem dX7_findPattern_76 : decode cX7_findPattern 76 = .ok (.iconst (-1), 1) := by decide +kernel
theorem dX7_findPattern_77 : decode cX7_findPattern 77 = .ok (.if_icmp .eq 19, 3) := by decide +kernel
theorem dX7_findPattern_80 : decode cX7_findPattern 80 = .ok (.aload_n 0, 1) := by decide +kernel
theorem dX7_findPattern_81 : decode cX7_findPattern 81 = .ok (.getfield 88, 3) := by decide +kernel
theorem dX7_findPattern_84 : decode cX7_findPattern 84 = .ok (.iload 4, 2) := by decide +kernel
theorem dX7_findPattern_86 : decode cX7_findPattern 86 = .ok (.iaload, 1) := by decide +kernel
theorem dX7_findPattern_87 : decode cX7_findPattern 87 = .ok (.aload_n 0, 1) := by decide +kernel
theorem dX7_findPattern_88 : decode cX7_findPattern 88 = .ok (.getfield 88, 3) := by decide +kernel
theorem dX7_findPattern_91 : decode cX7_findPattern 91 = .ok (.iload_n 3, 1) := by decide +kernel
theorem dX7_findPattern_92 : decode cX7_findPattern 92 = .ok (.iaload, 1) := by decide +kernel
theorem dX7_findPattern_93 : decode cX7_findPattern 93 = .ok (.if_icmp .ge 6, 3) := by decide +kernel
theorem dX7_findPattern_96 : decode cX7_findPattern 96 = .ok (.iload 4, 2) := by decide +kernel
theorem dX7_findPattern_98 : decode cX7_findPattern 98 = .ok (.istore_n 3, 1) := by decide +kernel
theorem dX7_findPattern_99 : decode cX7_findPattern 99 = .ok (.iinc 4 1, 3) := by decide +kernel
theorem dX7_findPattern_102 : decode cX7_findPattern 102 = .ok (.goto (-47), 3) := by decide +kernel
theorem dX7_findPattern_105 : decode cX7_findPattern 105 = .ok (.aload_n 0, 1) := by decide +kernel
theorem dX7_findPattern_106 : decode cX7_findPattern 106 = .ok (.getfield 103, 3) := by decide +kernel
theorem dX7_findPattern_109 : decode cX7_findPattern 109 = .ok (.iload_n 1, 1) := by decide +kernel
theorem dX7_findPattern_110 : decode cX7_findPattern 110 = .ok (.iload_n 3, 1) := by decide +kernel
theorem dX7_findPattern_111 : decode cX7_findPattern 111 = .ok (.iastore, 1) := by decide +kernel
theorem dX7_findPattern_112 : decode cX7_findPattern 112 = .ok (.return_, 1) := by decide +kernel
set_option maxRecDepth 20000 in
theorem ggX7_list_X7_all : GoodIn wsX7_list wsX7_all := goodIn_r _ [13, 14, 15, 39, 40, 41, 42, 43, 44, 45, 46, 47, 48, 49, 50, 51, 52, 53, 54, 55, 56, 57, 58, 59, 60, 61, 62, 63, 64, 65, 66, 67, 68, 69, 70, 71, 72, 73, 74, 75, 76, 77, 78, 79, 80, 81, 82, 83, 84, 85] (by decide +kernel) (by decide +kernel)
set_option maxRecDepth 20000 in
theorem gX7_list_X7_all : GoodIn wsX7_list (wsV RX7 208 RX7 yX7_all wsX7_all) := goodIn_app (goodIn_of _ (by decide +kernel)) ggX7_list_X7_all
set_option maxRecDepth 20000 in
theorem ggX7_list_X7_isIn : GoodIn wsX7_list wsX7_isIn := goodIn_r _ [18, 19, 20, 12, 21] (by decide +kernel) (by decide +kernel)
set_option maxRecDepth 20000 in
theorem gX7_list_X7_isIn : GoodIn wsX7_list (va_wsS RX7 212 yX7_isIn wsX7_isIn) := goodIn_app (goodIn_of _ (by decide +kernel)) ggX7_list_X7_isIn
set_option maxRecDepth 20000 in
theorem ggX7_list_X7_findPattern : GoodIn wsX7_list wsX7_findPattern := goodIn_r _ [25, 26, 14, 27, 28, 29, 30, 5, 4, 19, 20, 12, 21, 39, 40, 41, 42, 43, 44, 45, 46, 47, 48, 49, 50, 51, 52, 53, 54, 55, 56, 57, 58, 59, 60, 61, 62, 63, 64, 65, 66, 67, 68, 69, 70, 71, 72, 73, 74, 75, 76, 77, 78, 79, 80, 81, 82, 83, 84, 85] (by decide +kernel) (by decide +kernel)
set_option maxRecDepth 20000 in
theorem gX7_list_X7_findPattern : GoodIn wsX7_list (wsV RX7 216 RX7 yX7_findPattern wsX7_findPattern) := goodIn_app (goodIn_of _ (by decide +kernel)) ggX7_list_X7_findPattern
set_option maxRecDepth 20000 in
theorem ggX7_list_X7_reach : GoodIn wsX7_list wsX7_reach := goodIn_r _ [34, 2, 3, 39, 40, 41, 42, 43, 44, 45, 46, 47, 48, 49, 50, 51, 52, 53, 54, 55, 56, 57, 58, 59, 60, 61, 62, 63, 64, 65, 66, 67, 68, 69, 70, 71, 72, 73, 74, 75, 76, 77, 78, 79, 80, 81, 82, 83, 84, 85] (by decide +kernel) (by decide +kernel)
set_option maxRecDepth 20000 in
theorem gX7_list_X7_reach : GoodIn wsX7_list (wsV RX7 220 RX7 yX7_reach wsX7_reach) := goodIn_app (goodIn_of _ (by decide +kernel)) ggX7_list_X7_reach
set_option maxRecDepth 20000 in
theorem ggX7_list_X7_isBest : GoodIn wsX7_list wsX7_isBest := goodIn_r _ [38, 4, 2, 5, 3, 16, 17, 12, 18, 19, 20, 21, 39, 40, 41, 42, 43, 44, 45, 46, 47, 48, 49, 50, 51, 52, 53, 54, 55, 56, 57, 58, 59, 60, 61, 62, 63, 64, 65, 66, 67, 68, 69, 70, 71, 72, 73, 74, 75, 76, 77, 78, 79, 80, 81, 82, 83, 84, 85] (by decide +kernel) (by decide +kernel)
set_option maxRecDepth 20000 in
theorem gX7_list_X7_isBest : GoodIn wsX7_list (wsV RX7 230 RX7 yX7_isBest wsX7_isBest) := goodIn_app (goodIn_of _ (by decide +kernel)) ggX7_list_X7_isBest
theorem dX7_list_0 : decode cX7_list 0 = .ok (.aload_n 0, 1) := by decide +kernel
theorem dX7_list_1 : decode cX7_list 1 = .ok (.getfield 195, 3) := by decide +kernel
theorem dX7_list_4 : decode cX7_list 4 = .ok (.ifCond .eq 4, 3) := by decide +kernel
theorem dX7_list_7 : decode cX7_list 7 = .ok (.return_, 1) := by decide +kernel
theorem dX7_list_8 : decode cX7_list 8 = .ok (.aload_n 0, 1) := by decide +kernel
theorem dX7_list_9 : decode cX7_list 9 = .ok (.iconst 1, 1) := by decide +kernel
theorem dX7_list_10 : decode cX7_list 10 = .ok (.putfield 195, 3) := by decide +kernel
theorem dX7_list_13 : decode cX7_list 13 = .ok (.aload_n 0, 1) := by decide +kernel
theorem dX7_list_14 : decode cX7_list 14 = .ok (.invokevirtual 208, 3) := by decide +kernel
theorem dX7_list_17 : decode cX7_list 17 = .ok (.istore_n 1, 1) := by decide +kernel
theorem dX7_list_18 : decode cX7_list 18 = .ok (.iconst 0, 1) := by decide +kernel
theorem dX7_list_19 : decode cX7_list 19 = .ok (.istore_n 2, 1) := by decide +kernel
theorem dX7_list_20 : decode cX7_list 20 = .ok (.iload_n 2, 1) := by decide +kernel
theorem dX7_list_21 : decode cX7_list 21 = .ok (.iload_n 1, 1) := by decide +kernel
theorem dX7_list_22 : decode cX7_list 22 = .ok (.if_icmp .gt 50, 3) := by decide +kernel
theorem dX7_list_25 : decode cX7_list 25 = .ok (.aload_n 0, 1) := by decide +kernel
theorem dX7_list_26 : decode cX7_list 26 = .ok (.getfield 97, 3) := by decide +kernel
theorem dX7_list_29 : decode cX7_list 29 = .ok (.iload_n 2, 1) := by decide +kernel
theorem dX7_list_30 : decode cX7_list 30 = .ok (.iconst (-1), 1) := by decide +kernel
theorem dX7_list_31 : decode cX7_list 31 = .ok (.iastore, 1) := by decide +kernel
theorem dX7_list_32 : decode cX7_list 32 = .ok (.aload_n 0, 1) := by decide +kernel
theorem dX7_list_33 : decode cX7_list 33 = .ok (.getfield 100, 3) := by decide +kernel
theorem dX7_list_36 : decode cX7_list 36 = .ok (.iload_n 2, 1) := by decide +kernel
theorem dX7_list_37 : decode cX7_list 37 = .ok (.iconst (-1), 1) := by decide +kernel
theorem dX7_list_38 : decode cX7_list 38 = .ok (.iastore, 1) := by decide +kernel
theorem dX7_list_39 : decode cX7_list 39 = .ok (.iload_n 2, 1) := by decide +kernel
theorem dX7_list_40 : decode cX7_list 40 = .ok (.ifCond .le 19, 3) := by decide +kernel
theorem dX7_list_43 : decode cX7_list 43 = .ok (.iload_n 2, 1) := by decide +kernel
theorem dX7_list_44 : decode cX7_list 44 = .ok (.iload_n 1, 1) := by decide +kernel
theorem dX7_list_45 : decode cX7_list 45 = .ok (.invokestatic 212, 3) := by decide +kernel
theorem dX7_list_48 : decode cX7_list 48 = .ok (.ifCond .eq 11, 3) := by decide +kernel
theorem dX7_list_51 : decode cX7_list 51 = .ok (.aload_n 0, 1) := by decide +kernel
theorem dX7_list_52 : decode cX7_list 52 = .ok (.iload_n 2, 1) := by decide +kernel
theorem dX7_list_53 : decode cX7_list 53 = .ok (.invokevirtual 216, 3) := by decide +kernel
theorem dX7_list_56 : decode cX7_list 56 = .ok (.goto 10, 3) := by decide +kernel
theorem dX7_list_59 : decode cX7_list 59 = .ok (.aload_n 0, 1) := by decide +kernel
theorem dX7_list_60 : decode cX7_list 60 = .ok (.getfield 103, 3) := by decide +kernel
theorem dX7_list_63 : decode cX7_list 63 = .ok (.iload_n 2, 1) := by decide +kernel
theorem dX7_list_64 : decode cX7_list 64 = .ok (.iconst (-1), 1) := by decide +kernel
theorem dX7_list_65 : decode cX7_list 65 = .ok (.iastore, 1) := by decide +kernel
theorem dX7_list_66 : decode cX7_list 66 = .ok (.iinc 2 1, 3) := by decide +kernel
theorem dX7_list_69 : decode cX7_list 69 = .ok (.goto (-49), 3) := by decide +kernel
theorem dX7_list_72 : decode cX7_list 72 = .ok (.aload_n 0, 1) := by decide +kernel
theorem dX7_list_73 : decode cX7_list 73 = .ok (.getfield 97, 3) := by decide +kernel
theorem dX7_list_76 : decode cX7_list 76 = .ok (.iconst 0, 1) := by decide +kernel
theorem dX7_list_77 : decode cX7_list 77 = .ok (.iconst 0, 1) := by decide +kernel
theorem dX7_list_78 : decode cX7_list 78 = .ok (.iastore, 1) := by decide +kernel
theorem dX7_list_79 : decode cX7_list 79 = .ok (.aload_n 0, 1) := by decide +kernel
theorem dX7_list_80 : decode cX7_list 80 = .ok (.getfield 100, 3) := by decide +kernel
theorem dX7_list_83 : decode cX7_list 83 = .ok (.iconst 0, 1) := by decide +kernel
theorem dX7_list_84 : decode cX7_list 84 = .ok (.iconst 0, 1) := by decide +kernel
theorem dX7_list_85 : decode cX7_list 85 = .ok (.iastore, 1) := by decide +kernel
theorem dX7_list_86 : decode cX7_list 86 = .ok (.iconst 0, 1) := by decide +kernel
theorem dX7_list_87 : decode cX7_list 87 = .ok (.istore_n 2, 1) := by decide +kernel
theorem dX7_list_88 : decode cX7_list 88 = .ok (.iload_n 2, 1) := by decide +kernel
theorem dX7_list_89 : decode cX7_list 89 = .ok (.iload_n 1, 1) := by decide +kernel
theorem dX7_list_90 : decode cX7_list 90 = .ok (.if_icmp .ge 87, 3) := by decide +kernel
theorem dX7_list_93 : decode cX7_list 93 = .ok (.iconst 1, 1) := by decide +kernel
theorem dX7_list_94 : decode cX7_list 94 = .ok (.istore_n 3, 1) := by decide +kernel
theorem dX7_list_95 : decode cX7_list 95 = .ok (.iload_n 3, 1) := by decide +kernel
theorem dX7_list_96 : decode cX7_list 96 = .ok (.iload_n 1, 1) := by decide +kernel
theorem dX7_list_97 : decode cX7_list 97 = .ok (.iload_n 2, 1) := by decide +kernel
theorem dX7_list_98 : decode cX7_list 98 = .ok (.isub, 1) := by decide +kernel
theorem dX7_list_99 : decode cX7_list 99 = .ok (.if_icmp .gt 72, 3) := by decide +kernel
theorem dX7_list_102 : decode cX7_list 102 = .ok (.aload_n 0, 1) := by decide +kernel
theorem dX7_list_103 : decode cX7_list 103 = .ok (.getfield 97, 3) := by decide +kernel
theorem dX7_list_106 : decode cX7_list 106 = .ok (.iload_n 2, 1) := by decide +kernel
theorem dX7_list_107 : decode cX7_list 107 = .ok (.iaload, 1) := by decide +kernel
theorem dX7_list_108 : decode cX7_list 108 = .ok (.iconst (-1), 1) := by decide +kernel
theorem dX7_list_109 : decode cX7_list 109 = .ok (.if_icmp .eq 62, 3) := by decide +kernel
theorem dX7_list_112 : decode cX7_list 112 = .ok (.aload_n 0, 1) := by decide +kernel
theorem dX7_list_113 : decode cX7_list 113 = .ok (.getfield 103, 3) := by decide +kernel
theorem dX7_list_116 : decode cX7_list 116 = .ok (.iload_n 3, 1) := by decide +kernel
theorem dX7_list_117 : decode cX7_list 117 = .ok (.iaload, 1) := by decide +kernel
theorem dX7_list_118 : decode cX7_list 118 = .ok (.iconst (-1), 1) := by decide +kernel
theorem dX7_list_119 : decode cX7_list 119 = .ok (.if_icmp .eq 46, 3) := by decide +kernel
theorem dX7_list_122 : decode cX7_list 122 = .ok (.iload_n 3, 1) := by decide +kernel
theorem dX7_list_123 : decode cX7_list 123 = .ok (.iload_n 1, 1) := by decide +kernel
theorem dX7_list_124 : decode cX7_list 124 = .ok (.iload_n 2, 1) := by decide +kernel
theorem dX7_list_125 : decode cX7_list 125 = .ok (.isub, 1) := by decide +kernel
theorem dX7_list_126 : decode cX7_list 126 = .ok (.invokestatic 212, 3) := by decide +kernel
theorem dX7_list_129 : decode cX7_list 129 = .ok (.ifCond .eq 36, 3) := by decide +kernel
theorem dX7_list_132 : decode cX7_list 132 = .ok (.aload_n 0, 1) := by decide +kernel
theorem dX7_list_133 : decode cX7_list 133 = .ok (.iload_n 2, 1) := by decide +kernel
theorem dX7_list_134 : decode cX7_list 134 = .ok (.iload_n 3, 1) := by decide +kernel
theorem dX7_list_135 : decode cX7_list 135 = .ok (.iadd, 1) := by decide +kernel
theorem dX7_list_136 : decode cX7_list 136 = .ok (.aload_n 0, 1) := by decide +kernel
theorem dX7_list_137 : decode cX7_list 137 = .ok (.getfield 97, 3) := by decide +kernel
theorem dX7_list_140 : decode cX7_list 140 = .ok (.iload_n 2, 1) := by decide +kernel
theorem dX7_list_141 : decode cX7_list 141 = .ok (.iaload, 1) := by decide +kernel
theorem dX7_list_142 : decode cX7_list 142 = .ok (.aload_n 0, 1) := by decide +kernel
theorem dX7_list_143 : decode cX7_list 143 = .ok (.getfield 88, 3) := by decide +kernel
theorem dX7_list_146 : decode cX7_list 146 = .ok (.aload_n 0, 1) := by decide +kernel
theorem dX7_list_147 : decode cX7_list 147 = .ok (.getfield 103, 3) := by decide +kernel
theorem dX7_list_150 : decode cX7_list 150 = .ok (.iload_n 3, 1) := by decide +kernel
theorem dX7_list_151 : decode cX7_list 151 = .ok (.iaload, 1) := by decide +kernel
theorem dX7_list_152 : decode cX7_list 152 = .ok (.iaload, 1) := by decide +kernel
theorem dX7_list_153 : decode cX7_list 153 = .ok (.iadd, 1) := by decide +kernel
theorem dX7_list_154 : decode cX7_list 154 = .ok (.aload_n 0, 1) := by decide +kernel
theorem dX7_list_155 : decode cX7_list 155 = .ok (.getfield 100, 3) := by decide +kernel
theorem dX7_list_158 : decode cX7_list 158 = .ok (.iload_n 2, 1) := by decide +kernel
theorem dX7_list_159 : decode cX7_list 159 = .ok (.iaload, 1) := by decide +kernel
theorem dX7_list_160 : decode cX7_list 160 = .ok (.iconst 1, 1) := by decide +kernel
theorem dX7_list_161 : decode cX7_list 161 = .ok (.iadd, 1) := by decide +kernel
theorem dX7_list_162 : decode cX7_list 162 = .ok (.invokevirtual 220, 3) := by decide +kernel
theorem dX7_list_165 : decode cX7_list 165 = .ok (.iinc 3 1, 3) := by decide +kernel
theorem dX7_list_168 : decode cX7_list 168 = .ok (.goto (-73), 3) := by decide +kernel
theorem dX7_list_171 : decode cX7_list 171 = .ok (.iinc 2 1, 3) := by decide +kernel
theorem dX7_list_174 : decode cX7_list 174 = .ok (.goto (-86), 3) := by decide +kernel
theorem dX7_list_177 : decode cX7_list 177 = .ok (.aload_n 0, 1) := by decide +kernel
theorem dX7_list_178 : decode cX7_list 178 = .ok (.aload_n 0, 1) := by decide +kernel
theorem dX7_list_179 : decode cX7_list 179 = .ok (.getfield 97, 3) := by decide +kernel
theorem dX7_list_182 : decode cX7_list 182 = .ok (.iload_n 1, 1) := by decide +kernel
theorem dX7_list_183 : decode cX7_list 183 = .ok (.iaload, 1) := by decide +kernel
theorem dX7_list_184 : decode cX7_list 184 = .ok (.iconst (-1), 1) := by decide +kernel
theorem dX7_list_185 : decode cX7_list 185 = .ok (.if_icmp .ne 7, 3) := by decide +kernel
theorem dX7_list_188 : decode cX7_list 188 = .ok (.iconst 1, 1) := by decide +kernel
theorem dX7_list_189 : decode cX7_list 189 = .ok (.goto 4, 3) := by decide +kernel
theorem dX7_list_192 : decode cX7_list 192 = .ok (.iconst 0, 1) := by decide +kernel
theorem dX7_list_193 : decode cX7_list 193 = .ok (.putfield 224, 3) := by decide +kernel
theorem dX7_list_196 : decode cX7_list 196 = .ok (.aload_n 0, 1) := by decide +kernel
theorem dX7_list_197 : decode cX7_list 197 = .ok (.iconst 0, 1) := by decide +kernel
theorem dX7_list_198 : decode cX7_list 198 = .ok (.putfield 227, 3) := by decide +kernel
theorem dX7_list_201 : decode cX7_list 201 = .ok (.iload_n 1, 1) := by decide +kernel
theorem dX7_list_202 : decode cX7_list 202 = .ok (.istore_n 2, 1) := by decide +kernel
theorem dX7_list_203 : decode cX7_list 203 = .ok (.iload_n 2, 1) := by decide +kernel
theorem dX7_list_204 : decode cX7_list 204 = .ok (.ifCond .le 54, 3) := by decide +kernel
theorem dX7_list_207 : decode cX7_list 207 = .ok (.aload_n 0, 1) := by decide +kernel
theorem dX7_list_208 : decode cX7_list 208 = .ok (.getfield 224, 3) := by decide +kernel
theorem dX7_list_211 : decode cX7_list 211 = .ok (.ifCond .ne 47, 3) := by decide +kernel
theorem dX7_list_214 : decode cX7_list 214 = .ok (.iload_n 2, 1) := by decide +kernel
theorem dX7_list_215 : decode cX7_list 215 = .ok (.istore_n 3, 1) := by decide +kernel
theorem dX7_list_216 : decode cX7_list 216 = .ok (.aload_n 0, 1) := by decide +kernel
theorem dX7_list_217 : decode cX7_list 217 = .ok (.iload_n 3, 1) := by decide +kernel
theorem dX7_list_218 : decode cX7_list 218 = .ok (.iload_n 2, 1) := by decide +kernel
theorem dX7_list_219 : decode cX7_list 219 = .ok (.invokevirtual 230, 3) := by decide +kernel
theorem dX7_list_222 : decode cX7_list 222 = .ok (.ifCond .ne 9, 3) := by decide +kernel
theorem dX7_list_225 : decode cX7_list 225 = .ok (.iinc 3 (-1), 3) := by decide +kernel
theorem dX7_list_228 : decode cX7_list 228 = .ok (.goto (-12), 3) := by decide +kernel
theorem dX7_list_231 : decode cX7_list 231 = .ok (.aload_n 0, 1) := by decide +kernel
theorem dX7_list_232 : decode cX7_list 232 = .ok (.getfield 109, 3) := by decide +kernel
theorem dX7_list_235 : decode cX7_list 235 = .ok (.aload_n 0, 1) := by decide +kernel
theorem dX7_list_236 : decode cX7_list 236 = .ok (.getfield 227, 3) := by decide +kernel
theorem dX7_list_239 : decode cX7_list 239 = .ok (.iload_n 3, 1) := by decide +kernel
theorem dX7_list_240 : decode cX7_list 240 = .ok (.iastore, 1) := by decide +kernel
theorem dX7_list_241 : decode cX7_list 241 = .ok (.aload_n 0, 1) := by decide +kernel
theorem dX7_list_242 : decode cX7_list 242 = .ok (.dup, 1) := by decide +kernel
theorem dX7_list_243 : decode cX7_list 243 = .ok (.getfield 227, 3) := by decide +kernel
theorem dX7_list_246 : decode cX7_list 246 = .ok (.iconst 1, 1) := by decide +kernel
theorem dX7_list_247 : decode cX7_list 247 = .ok (.iadd, 1) := by decide +kernel
theorem dX7_list_248 : decode cX7_list 248 = .ok (.putfield 227, 3) := by decide +kernel
theorem dX7_list_251 : decode cX7_list 251 = .ok (.iload_n 2, 1) := by decide +kernel
theorem dX7_list_252 : decode cX7_list 252 = .ok (.iload_n 3, 1) := by decide +kernel
theorem dX7_list_253 : decode cX7_list 253 = .ok (.isub, 1) := by decide +kernel
theorem dX7_list_254 : decode cX7_list 254 = .ok (.istore_n 2, 1) := by decide +kernel
theorem dX7_list_255 : decode cX7_list 255 = .ok (.goto (-52), 3) := by decide +kernel
theorem dX7_list_258 : decode cX7_list 258 = .ok (.return_, 1) := by decide +kernel
theorem dX7_reach_0 : decode cX7_reach 0 = .ok (.aload_n 0, 1) := by decide +kernel
theorem dX7_reach_1 : decode cX7_reach 1 = .ok (.getfield 97, 3) := by decide +kernel
theorem dX7_reach_4 : decode cX7_reach 4 = .ok (.iload_n 1, 1) := by decide +kernel
theorem dX7_reach_5 : decode cX7_reach 5 = .ok (.iaload, 1) := by decide +kernel
theorem dX7_reach_6 : decode cX7_reach 6 = .ok (.iconst (-1), 1) := by decide +kernel
theorem dX7_reach_7 : decode cX7_reach 7 = .ok (.if_icmp .eq 33, 3) := by decide +kernel
theorem dX7_reach_10 : decode cX7_reach 10 = .ok (.iload_n 2, 1) := by decide +kernel
theorem dX7_reach_11 : decode cX7_reach 11 = .ok (.aload_n 0, 1) := by decide +kernel
theorem dX7_reach_12 : decode cX7_reach 12 = .ok (.getfield 97, 3) := by decide +kernel
theorem dX7_reach_15 : decode cX7_reach 15 = .ok (.iload_n 1, 1) := by decide +kernel
theorem dX7_reach_16 : decode cX7_reach 16 = .ok (.iaload, 1) := by decide +kernel
theorem dX7_reach_17 : decode cX7_reach 17 = .ok (.if_icmp .lt 23, 3) := by decide +kernel
theorem dX7_reach_20 : decode cX7_reach 20 = .ok (.iload_n 2, 1) := by decide +kernel
theorem dX7_reach_21 : decode cX7_reach 21 = .ok (.aload_n 0, 1) := by decide +kernel
theorem dX7_reach_22 : decode cX7_reach 22 = .ok (.getfield 97, 3) := by decide +kernel
theorem dX7_reach_25 : decode cX7_reach 25 = .ok (.iload_n 1, 1) := by decide +kernel
theorem dX7_reach_26 : decode cX7_reach 26 = .ok (.iaload, 1) := by decide +kernel
theorem dX7_reach_27 : decode cX7_reach 27 = .ok (.if_icmp .ne 27, 3) := by decide +kernel
theorem dX7_reach_30 : decode cX7_reach 30 = .ok (.iload_n 3, 1) := by decide +kernel
theorem dX7_reach_31 : decode cX7_reach 31 = .ok (.aload_n 0, 1) := by decide +kernel
theorem dX7_reach_32 : decode cX7_reach 32 = .ok (.getfield 100, 3) := by decide +kernel
theorem dX7_reach_35 : decode cX7_reach 35 = .ok (.iload_n 1, 1) := by decide +kernel
theorem dX7_reach_36 : decode cX7_reach 36 = .ok (.iaload, 1) := by decide +kernel
theorem dX7_reach_37 : decode cX7_reach 37 = .ok (.if_icmp .ge 17, 3) := by decide +kernel
theorem dX7_reach_40 : decode cX7_reach 40 = .ok (.aload_n 0, 1) := by decide +kernel
theorem dX7_reach_41 : decode cX7_reach 41 = .ok (.getfield 97, 3) := by decide +kernel
theorem dX7_reach_44 : decode cX7_reach 44 = .ok (.iload_n 1, 1) := by decide +kernel
theorem dX7_reach_45 : decode cX7_reach 45 = .ok (.iload_n 2, 1) := by decide +kernel
theorem dX7_reach_46 : decode cX7_reach 46 = .ok (.iastore, 1) := by decide +kernel
theorem dX7_reach_47 : decode cX7_reach 47 = .ok (.aload_n 0, 1) := by decide +kernel
theorem dX7_reach_48 : decode cX7_reach 48 = .ok (.getfield 100, 3) := by decide +kernel
theorem dX7_reach_51 : decode cX7_reach 51 = .ok (.iload_n 1, 1) := by decide +kernel
theorem dX7_reach_52 : decode cX7_reach 52 = .ok (.iload_n 3, 1) := by decide +kernel
theorem dX7_reach_53 : decode cX7_reach 53 = .ok (.iastore, 1) := by decide +kernel
theorem dX7_reach_54 : decode cX7_reach 54 = .ok (.return_, 1) := by decide +kernel
set_option maxRecDepth 20000 in
theorem ggX7_isBest_X7_isIn : GoodIn wsX7_isBest wsX7_isIn := goodIn_r _ [8, 9, 10, 7, 11] (by decide +kernel) (by decide +kernel)
set_option maxRecDepth 20000 in
theorem gX7_isBest_X7_isIn : GoodIn wsX7_isBest (va_wsS RX7 212 yX7_isIn wsX7_isIn) := goodIn_app (goodIn_of _ (by decide +kernel)) ggX7_isBest_X7_isIn
theorem dX7_isBest_0 : decode cX7_isBest 0 = .ok (.aload_n 0, 1) := by decide +kernel
theorem dX7_isBest_1 : decode cX7_isBest 1 = .ok (.getfield 103, 3) := by decide +kernel
theorem dX7_isBest_4 : decode cX7_isBest 4 = .ok (.iload_n 1, 1) := by decide +kernel
theorem dX7_isBest_5 : decode cX7_isBest 5 = .ok (.iaload, 1) := by decide +kernel
theorem dX7_isBest_6 : decode cX7_isBest 6 = .ok (.iconst (-1), 1) := by decide +kernel
theorem dX7_isBest_7 : decode cX7_isBest 7 = .ok (.if_icmp .eq 11, 3) := by decide +kernel
theorem dX7_isBest_10 : decode cX7_isBest 10 = .ok (.iload_n 1, 1) := by decide +kernel
theorem dX7_isBest_11 : decode cX7_isBest 11 = .ok (.iload_n 2, 1) := by decide +kernel
theorem dX7_isBest_12 : decode cX7_isBest 12 = .ok (.invokestatic 212, 3) := by decide +kernel
theorem dX7_isBest_15 : decode cX7_isBest 15 = .ok (.ifCond .ne 5, 3) := by decide +kernel
theorem dX7_isBest_18 : decode cX7_isBest 18 = .ok (.iconst 0, 1) := by decide +kernel
theorem dX7_isBest_19 : decode cX7_isBest 19 = .ok (.ireturn, 1) := by decide +kernel
theorem dX7_isBest_20 : decode cX7_isBest 20 = .ok (.aload_n 0, 1) := by decide +kernel
theorem dX7_isBest_21 : decode cX7_isBest 21 = .ok (.getfield 97, 3) := by decide +kernel
theorem dX7_isBest_24 : decode cX7_isBest 24 = .ok (.iload_n 2, 1) := by decide +kernel
theorem dX7_isBest_25 : decode cX7_isBest 25 = .ok (.iload_n 1, 1) := by decide +kernel
theorem dX7_isBest_26 : decode cX7_isBest 26 = .ok (.isub, 1) := by decide +kernel
theorem dX7_isBest_27 : decode cX7_isBest 27 = .ok (.iaload, 1) := by decide +kernel
theorem dX7_isBest_28 : decode cX7_isBest 28 = .ok (.iconst (-1), 1) := by decide +kernel
theorem dX7_isBest_29 : decode cX7_isBest 29 = .ok (.if_icmp .eq 55, 3) := by decide +kernel
theorem dX7_isBest_32 : decode cX7_isBest 32 = .ok (.aload_n 0, 1) := by decide +kernel
theorem dX7_isBest_33 : decode cX7_isBest 33 = .ok (.getfield 97, 3) := by decide +kernel
theorem dX7_isBest_36 : decode cX7_isBest 36 = .ok (.iload_n 2, 1) := by decide +kernel
theorem dX7_isBest_37 : decode cX7_isBest 37 = .ok (.iaload, 1) := by decide +kernel
theorem dX7_isBest_38 : decode cX7_isBest 38 = .ok (.aload_n 0, 1) := by decide +kernel
theorem dX7_isBest_39 : decode cX7_isBest 39 = .ok (.getfield 97, 3) := by decide +kernel
theorem dX7_isBest_42 : decode cX7_isBest 42 = .ok (.iload_n 2, 1) := by decide +kernel
theorem dX7_isBest_43 : decode cX7_isBest 43 = .ok (.iload_n 1, 1) := by decide +kernel
theorem dX7_isBest_44 : decode cX7_isBest 44 = .ok (.isub, 1) := by decide +kernel
theorem dX7_isBest_45 : decode cX7_isBest 45 = .ok (.iaload, 1) := by decide +kernel
theorem dX7_isBest_46 : decode cX7_isBest 46 = .ok (.aload_n 0, 1) := by decide +kernel
theorem dX7_isBest_47 : decode cX7_isBest 47 = .ok (.getfield 88, 3) := by decide +kernel
theorem dX7_isBest_50 : decode cX7_isBest 50 = .ok (.aload_n 0, 1) := by decide +kernel
theorem dX7_isBest_51 : decode cX7_isBest 51 = .ok (.getfield 103, 3) := by decide +kernel
theorem dX7_isBest_54 : decode cX7_isBest 54 = .ok (.iload_n 1, 1) := by decide +kernel
theorem dX7_isBest_55 : decode cX7_isBest 55 = .ok (.iaload, 1) := by decide +kernel
theorem dX7_isBest_56 : decode cX7_isBest 56 = .ok (.iaload, 1) := by decide +kernel
theorem dX7_isBest_57 : decode cX7_isBest 57 = .ok (.iadd, 1) := by decide +kernel
theorem dX7_isBest_58 : decode cX7_isBest 58 = .ok (.if_icmp .ne 26, 3) := by decide +kernel
theorem dX7_isBest_61 : decode cX7_isBest 61 = .ok (.aload_n 0, 1) := by decide +kernel
theorem dX7_isBest_62 : decode cX7_isBest 62 = .ok (.getfield 100, 3) := by decide +kernel
theorem dX7_isBest_65 : decode cX7_isBest 65 = .ok (.iload_n 2, 1) := by decide +kernel
theorem dX7_isBest_66 : decode cX7_isBest 66 = .ok (.iaload, 1) := by decide +kernel
theorem dX7_isBest_67 : decode cX7_isBest 67 = .ok (.aload_n 0, 1) := by decide +kernel
theorem dX7_isBest_68 : decode cX7_isBest 68 = .ok (.getfield 100, 3) := by decide +kernel
theorem dX7_isBest_71 : decode cX7_isBest 71 = .ok (.iload_n 2, 1) := by decide +kernel
theorem dX7_isBest_72 : decode cX7_isBest 72 = .ok (.iload_n 1, 1) := by decide +kernel
theorem dX7_isBest_73 : decode cX7_isBest 73 = .ok (.isub, 1) := by decide +kernel
theorem dX7_isBest_74 : decode cX7_isBest 74 = .ok (.iaload, 1) := by decide +kernel
theorem dX7_isBest_75 : decode cX7_isBest 75 = .ok (.iconst 1, 1) := by decide +kernel
theorem dX7_isBest_76 : decode cX7_isBest 76 = .ok (.iadd, 1) := by decide +kernel
theorem dX7_isBest_77 : decode cX7_isBest 77 = .ok (.if_icmp .ne 7, 3) := by decide +kernel
theorem dX7_isBest_80 : decode cX7_isBest 80 = .ok (.iconst 1, 1) := by decide +kernel
theorem dX7_isBest_81 : decode cX7_isBest 81 = .ok (.goto 4, 3) := by decide +kernel
theorem dX7_isBest_84 : decode cX7_isBest 84 = .ok (.iconst 0, 1) := by decide +kernel
theorem dX7_isBest_85 : decode cX7_isBest 85 = .ok (.ireturn, 1) := by decide +kernel
set_option maxRecDepth 20000 in
theorem ggX7_price_X7_list : GoodIn wsX7_price wsX7_list := goodIn_r _ [7, 8, 2, 9, 10, 11, 1, 12, 13, 14, 15, 16, 6, 17, 18, 19, 20, 21, 22, 23, 24, 25, 26, 27, 28, 29, 30, 31, 32, 33, 34, 35, 36, 37, 38, 39, 40, 41, 42, 43, 44, 45, 46, 47, 48, 49, 50, 51, 52, 53, 54, 55, 56, 57, 58, 59, 60, 61, 62, 63, 64, 65, 66, 67, 68, 69, 70, 71, 72, 73, 74, 75, 76, 77, 78, 79, 80, 81, 82, 83, 84, 85, 86, 87, 88, 89] (by decide +kernel) (by decide +kernel)
set_option maxRecDepth 20000 in
theorem gX7_price_X7_list : GoodIn wsX7_price (wsV RX7 233 RX7 yX7_list wsX7_list) := goodIn_app (goodIn_of _ (by decide +kernel)) ggX7_price_X7_list
set_option maxRecDepth 20000 in
theorem ggX7_price_X7_all : GoodIn wsX7_price wsX7_all := goodIn_r _ [17, 18, 19, 43, 44, 45, 46, 47, 48, 49, 50, 51, 52, 53, 54, 55, 56, 57, 58, 59, 60, 61, 62, 63, 64, 65, 66, 67, 68, 69, 70, 71, 72, 73, 74, 75, 76, 77, 78, 79, 80, 81, 82, 83, 84, 85, 86, 87, 88, 89] (by decide +kernel) (by decide +kernel)
set_option maxRecDepth 20000 in
theorem gX7_price_X7_all : GoodIn wsX7_price (wsV RX7 208 RX7 yX7_all wsX7_all) := goodIn_app (goodIn_of _ (by decide +kernel)) ggX7_price_X7_all
theorem dX7_price_0 : decode cX7_price 0 = .ok (.aload_n 0, 1) := by decide +kernel
theorem dX7_price_1 : decode cX7_price 1 = .ok (.invokevirtual 233, 3) := by decide +kernel
theorem dX7_price_4 : decode cX7_price 4 = .ok (.aload_n 0, 1) := by decide +kernel
theorem dX7_price_5 : decode cX7_price 5 = .ok (.getfield 224, 3) := by decide +kernel
theorem dX7_price_8 : decode cX7_price 8 = .ok (.ifCond .eq 7, 3) := by decide +kernel
theorem dX7_price_11 : decode cX7_price 11 = .ok (.iconst (-1), 1) := by decide +kernel
theorem dX7_price_12 : decode cX7_price 12 = .ok (.goto 12, 3) := by decide +kernel
theorem dX7_price_15 : decode cX7_price 15 = .ok (.aload_n 0, 1) := by decide +kernel
theorem dX7_price_16 : decode cX7_price 16 = .ok (.getfield 97, 3) := by decide +kernel
theorem dX7_price_19 : decode cX7_price 19 = .ok (.aload_n 0, 1) := by decide +kernel
theorem dX7_price_20 : decode cX7_price 20 = .ok (.invokevirtual 208, 3) := by decide +kernel
theorem dX7_price_23 : decode cX7_price 23 = .ok (.iaload, 1) := by decide +kernel
theorem dX7_price_24 : decode cX7_price 24 = .ok (.ireturn, 1) := by decide +kernel
set_option maxRecDepth 20000 in
theorem ggX7_bars_X7_list : GoodIn wsX7_bars wsX7_list := goodIn_r _ [7, 8, 9, 10, 11, 12, 1, 2, 13, 14, 15, 16, 6, 17, 18, 19, 20, 21, 22, 23, 24, 25, 26, 27, 28, 29, 30, 31, 32, 33, 34, 35, 36, 37, 38, 39, 40, 41, 42, 43, 44, 45, 46, 47, 48, 49, 50, 51, 52, 53, 54, 55, 56, 57, 58, 59, 60, 61, 62, 63, 64, 65, 66, 67, 68, 69, 70, 71, 72, 73, 74, 75, 76, 77, 78, 79, 80, 81, 82, 83, 84, 85, 86, 87, 88, 89] (by decide +kernel) (by decide +kernel)
set_option maxRecDepth 20000 in
theorem gX7_bars_X7_list : GoodIn wsX7_bars (wsV RX7 233 RX7 yX7_list wsX7_list) := goodIn_app (goodIn_of _ (by decide +kernel)) ggX7_bars_X7_list
theorem dX7_bars_0 : decode cX7_bars 0 = .ok (.aload_n 0, 1) := by decide +kernel
theorem dX7_bars_1 : decode cX7_bars 1 = .ok (.invokevirtual 233, 3) := by decide +kernel
theorem dX7_bars_4 : decode cX7_bars 4 = .ok (.aload_n 0, 1) := by decide +kernel
theorem dX7_bars_5 : decode cX7_bars 5 = .ok (.getfield 224, 3) := by decide +kernel
theorem dX7_bars_8 : decode cX7_bars 8 = .ok (.ifCond .eq 7, 3) := by decide +kernel
theorem dX7_bars_11 : decode cX7_bars 11 = .ok (.iconst (-1), 1) := by decide +kernel
theorem dX7_bars_12 : decode cX7_bars 12 = .ok (.goto 7, 3) := by decide +kernel
theorem dX7_bars_15 : decode cX7_bars 15 = .ok (.aload_n 0, 1) := by decide +kernel
theorem dX7_bars_16 : decode cX7_bars 16 = .ok (.getfield 227, 3) := by decide +kernel
theorem dX7_bars_19 : decode cX7_bars 19 = .ok (.ireturn, 1) := by decide +kernel
set_option maxRecDepth 20000 in
theorem ggX7_bar_X7_within : GoodIn wsX7_bar wsX7_within := goodIn_r _ [9] (by decide +kernel) (by decide +kernel)
set_option maxRecDepth 20000 in
theorem gX7_bar_X7_within : GoodIn wsX7_bar (va_wsS RX7 112 yX7_within wsX7_within) := goodIn_app (goodIn_of _ (by decide +kernel)) ggX7_bar_X7_within
set_option maxRecDepth 20000 in
theorem ggX7_bar_X7_list : GoodIn wsX7_bar wsX7_list := goodIn_r _ [13, 14, 15, 16, 3, 17, 18, 1, 2, 19, 20, 21, 8, 22, 23, 24, 25, 26, 27, 28, 29, 30, 31, 32, 33, 34, 35, 36, 5, 37, 4, 38, 39, 40, 41, 42, 43, 44, 45, 46, 47, 48, 49, 50, 51, 52, 53, 54, 55, 56, 57, 58, 59, 60, 61, 62, 63, 64, 65, 66, 67, 68, 69, 70, 71, 72, 73, 74, 75, 76, 77, 78, 79, 80, 81, 82, 83, 84, 85, 86, 87, 88, 89, 90, 91, 92] (by decide +kernel) (by decide +kernel)
set_option maxRecDepth 20000 in
theorem gX7_bar_X7_list : GoodIn wsX7_bar (wsV RX7 233 RX7 yX7_list wsX7_list) := goodIn_app (goodIn_of _ (by decide +kernel)) ggX7_bar_X7_list
set_option maxRecDepth 20000 in
theorem ggX7_bar_X7_digit : GoodIn wsX7_bar wsX7_digit := goodIn_r _ [30] (by decide +kernel) (by decide +kernel)
set_option maxRecDepth 20000 in
theorem gX7_bar_X7_digit : GoodIn wsX7_bar (va_wsS RX7 204 yX7_digit wsX7_digit) := goodIn_app (goodIn_of _ (by decide +kernel)) ggX7_bar_X7_digit
theorem dX7_bar_0 : decode cX7_bar 0 = .ok (.iload_n 2, 1) := by decide +kernel
theorem dX7_bar_1 : decode cX7_bar 1 = .ok (.iconst 0, 1) := by decide +kernel
theorem dX7_bar_2 : decode cX7_bar 2 = .ok (.iconst 5, 1) := by decide +kernel
theorem dX7_bar_3 : decode cX7_bar 3 = .ok (.invokestatic 112, 3) := by decide +kernel
theorem dX7_bar_6 : decode cX7_bar 6 = .ok (.ifCond .ne 6, 3) := by decide +kernel
theorem dX7_bar_9 : decode cX7_bar 9 = .ok (.bipush (-3), 2) := by decide +kernel
theorem dX7_bar_11 : decode cX7_bar 11 = .ok (.ireturn, 1) := by decide +kernel
theorem dX7_bar_12 : decode cX7_bar 12 = .ok (.aload_n 0, 1) := by decide +kernel
theorem dX7_bar_13 : decode cX7_bar 13 = .ok (.invokevirtual 233, 3) := by decide +kernel
theorem dX7_bar_16 : decode cX7_bar 16 = .ok (.iload_n 1, 1) := by decide +kernel
theorem dX7_bar_17 : decode cX7_bar 17 = .ok (.iconst 0, 1) := by decide +kernel
theorem dX7_bar_18 : decode cX7_bar 18 = .ok (.aload_n 0, 1) := by decide +kernel
theorem dX7_bar_19 : decode cX7_bar 19 = .ok (.getfield 227, 3) := by decide +kernel
theorem dX7_bar_22 : decode cX7_bar 22 = .ok (.iconst 1, 1) := by decide +kernel
theorem dX7_bar_23 : decode cX7_bar 23 = .ok (.isub, 1) := by decide +kernel
theorem dX7_bar_24 : decode cX7_bar 24 = .ok (.invokestatic 112, 3) := by decide +kernel
theorem dX7_bar_27 : decode cX7_bar 27 = .ok (.ifCond .ne 5, 3) := by decide +kernel
theorem dX7_bar_30 : decode cX7_bar 30 = .ok (.iconst (-1), 1) := by decide +kernel
theorem dX7_bar_31 : decode cX7_bar 31 = .ok (.ireturn, 1) := by decide +kernel
theorem dX7_bar_32 : decode cX7_bar 32 = .ok (.aload_n 0, 1) := by decide +kernel
theorem dX7_bar_33 : decode cX7_bar 33 = .ok (.getfield 109, 3) := by decide +kernel
theorem dX7_bar_36 : decode cX7_bar 36 = .ok (.iload_n 1, 1) := by decide +kernel
theorem dX7_bar_37 : decode cX7_bar 37 = .ok (.iaload, 1) := by decide +kernel
theorem dX7_bar_38 : decode cX7_bar 38 = .ok (.istore_n 3, 1) := by decide +kernel
theorem dX7_bar_39 : decode cX7_bar 39 = .ok (.iload_n 2, 1) := by decide +kernel
theorem dX7_bar_40 : decode cX7_bar 40 = .ok (.ifCond .ne 10, 3) := by decide +kernel
theorem dX7_bar_43 : decode cX7_bar 43 = .ok (.aload_n 0, 1) := by decide +kernel
theorem dX7_bar_44 : decode cX7_bar 44 = .ok (.getfield 103, 3) := by decide +kernel
theorem dX7_bar_47 : decode cX7_bar 47 = .ok (.iload_n 3, 1) := by decide +kernel
theorem dX7_bar_48 : decode cX7_bar 48 = .ok (.iaload, 1) := by decide +kernel
theorem dX7_bar_49 : decode cX7_bar 49 = .ok (.ireturn, 1) := by decide +kernel
theorem dX7_bar_50 : decode cX7_bar 50 = .ok (.iload_n 2, 1) := by decide +kernel
theorem dX7_bar_51 : decode cX7_bar 51 = .ok (.iconst 1, 1) := by decide +kernel
theorem dX7_bar_52 : decode cX7_bar 52 = .ok (.if_icmp .ne 24, 3) := by decide +kernel
theorem dX7_bar_55 : decode cX7_bar 55 = .ok (.aload_n 0, 1) := by decide +kernel
theorem dX7_bar_56 : decode cX7_bar 56 = .ok (.getfield 85, 3) := by decide +kernel
theorem dX7_bar_59 : decode cX7_bar 59 = .ok (.aload_n 0, 1) := by decide +kernel
theorem dX7_bar_60 : decode cX7_bar 60 = .ok (.getfield 103, 3) := by decide +kernel
theorem dX7_bar_63 : decode cX7_bar 63 = .ok (.iload_n 3, 1) := by decide +kernel
theorem dX7_bar_64 : decode cX7_bar 64 = .ok (.iaload, 1) := by decide +kernel
theorem dX7_bar_65 : decode cX7_bar 65 = .ok (.iaload, 1) := by decide +kernel
theorem dX7_bar_66 : decode cX7_bar 66 = .ok (.aload_n 0, 1) := by decide +kernel
theorem dX7_bar_67 : decode cX7_bar 67 = .ok (.getfield 106, 3) := by decide +kernel
theorem dX7_bar_70 : decode cX7_bar 70 = .ok (.iload_n 3, 1) := by decide +kernel
theorem dX7_bar_71 : decode cX7_bar 71 = .ok (.iaload, 1) := by decide +kernel
theorem dX7_bar_72 : decode cX7_bar 72 = .ok (.isub, 1) := by decide +kernel
theorem dX7_bar_73 : decode cX7_bar 73 = .ok (.goto 10, 3) := by decide +kernel
theorem dX7_bar_76 : decode cX7_bar 76 = .ok (.iload_n 3, 1) := by decide +kernel
theorem dX7_bar_77 : decode cX7_bar 77 = .ok (.iload_n 2, 1) := by decide +kernel
theorem dX7_bar_78 : decode cX7_bar 78 = .ok (.iconst 2, 1) := by decide +kernel
theorem dX7_bar_79 : decode cX7_bar 79 = .ok (.isub, 1) := by decide +kernel
theorem dX7_bar_80 : decode cX7_bar 80 = .ok (.invokestatic 204, 3) := by decide +kernel
theorem dX7_bar_83 : decode cX7_bar 83 = .ok (.ireturn, 1) := by decide +kernel
theorem dX7_told_0 : decode cX7_told 0 = .ok (.iload_n 1, 1) := by decide +kernel
theorem dX7_told_1 : decode cX7_told 1 = .ok (.tableswitch 96 0 8 #[51, 56, 61, 66, 71, 76, 81, 86, 91], 51) := by decide +kernel
theorem dX7_told_52 : decode cX7_told 52 = .ok (.aload_n 0, 1) := by decide +kernel
theorem dX7_told_53 : decode cX7_told 53 = .ok (.getfield 7, 3) := by decide +kernel
theorem dX7_told_56 : decode cX7_told 56 = .ok (.ireturn, 1) := by decide +kernel
theorem dX7_told_57 : decode cX7_told 57 = .ok (.aload_n 0, 1) := by decide +kernel
theorem dX7_told_58 : decode cX7_told 58 = .ok (.getfield 13, 3) := by decide +kernel
theorem dX7_told_61 : decode cX7_told 61 = .ok (.ireturn, 1) := by decide +kernel
theorem dX7_told_62 : decode cX7_told 62 = .ok (.aload_n 0, 1) := by decide +kernel
theorem dX7_told_63 : decode cX7_told 63 = .ok (.getfield 116, 3) := by decide +kernel
theorem dX7_told_66 : decode cX7_told 66 = .ok (.ireturn, 1) := by decide +kernel
theorem dX7_told_67 : decode cX7_told 67 = .ok (.aload_n 0, 1) := by decide +kernel
theorem dX7_told_68 : decode cX7_told 68 = .ok (.getfield 16, 3) := by decide +kernel
theorem dX7_told_71 : decode cX7_told 71 = .ok (.ireturn, 1) := by decide +kernel
theorem dX7_told_72 : decode cX7_told 72 = .ok (.aload_n 0, 1) := by decide +kernel
theorem dX7_told_73 : decode cX7_told 73 = .ok (.getfield 119, 3) := by decide +kernel
theorem dX7_told_76 : decode cX7_told 76 = .ok (.ireturn, 1) := by decide +kernel
theorem dX7_told_77 : decode cX7_told 77 = .ok (.aload_n 0, 1) := by decide +kernel
theorem dX7_told_78 : decode cX7_told 78 = .ok (.getfield 122, 3) := by decide +kernel
theorem dX7_told_81 : decode cX7_told 81 = .ok (.ireturn, 1) := by decide +kernel
theorem dX7_told_82 : decode cX7_told 82 = .ok (.aload_n 0, 1) := by decide +kernel
theorem dX7_told_83 : decode cX7_told 83 = .ok (.getfield 133, 3) := by decide +kernel
theorem dX7_told_86 : decode cX7_told 86 = .ok (.ireturn, 1) := by decide +kernel
theorem dX7_told_87 : decode cX7_told 87 = .ok (.aload_n 0, 1) := by decide +kernel
theorem dX7_told_88 : decode cX7_told 88 = .ok (.getfield 192, 3) := by decide +kernel
theorem dX7_told_91 : decode cX7_told 91 = .ok (.ireturn, 1) := by decide +kernel
theorem dX7_told_92 : decode cX7_told 92 = .ok (.aload_n 0, 1) := by decide +kernel
theorem dX7_told_93 : decode cX7_told 93 = .ok (.getfield 198, 3) := by decide +kernel
theorem dX7_told_96 : decode cX7_told 96 = .ok (.ireturn, 1) := by decide +kernel
theorem dX7_told_97 : decode cX7_told 97 = .ok (.iload_n 1, 1) := by decide +kernel
theorem dX7_told_98 : decode cX7_told 98 = .ok (.bipush 9, 2) := by decide +kernel
theorem dX7_told_100 : decode cX7_told 100 = .ok (.if_icmp .ne 10, 3) := by decide +kernel
theorem dX7_told_103 : decode cX7_told 103 = .ok (.aload_n 0, 1) := by decide +kernel
theorem dX7_told_104 : decode cX7_told 104 = .ok (.getfield 201, 3) := by decide +kernel
theorem dX7_told_107 : decode cX7_told 107 = .ok (.goto 5, 3) := by decide +kernel
theorem dX7_told_110 : decode cX7_told 110 = .ok (.bipush (-3), 2) := by decide +kernel
theorem dX7_told_112 : decode cX7_told 112 = .ok (.ireturn, 1) := by decide +kernel
theorem dX7_noKinds_0 : decode cX7_noKinds 0 = .ok (.aload_n 0, 1) := by decide +kernel
theorem dX7_noKinds_1 : decode cX7_noKinds 1 = .ok (.getfield 133, 3) := by decide +kernel
theorem dX7_noKinds_4 : decode cX7_noKinds 4 = .ok (.istore_n 1, 1) := by decide +kernel
theorem dX7_noKinds_5 : decode cX7_noKinds 5 = .ok (.aload_n 0, 1) := by decide +kernel
theorem dX7_noKinds_6 : decode cX7_noKinds 6 = .ok (.iconst 0, 1) := by decide +kernel
theorem dX7_noKinds_7 : decode cX7_noKinds 7 = .ok (.putfield 133, 3) := by decide +kernel
theorem dX7_noKinds_10 : decode cX7_noKinds 10 = .ok (.aload_n 0, 1) := by decide +kernel
theorem dX7_noKinds_11 : decode cX7_noKinds 11 = .ok (.iconst 0, 1) := by decide +kernel
theorem dX7_noKinds_12 : decode cX7_noKinds 12 = .ok (.putfield 125, 3) := by decide +kernel
theorem dX7_noKinds_15 : decode cX7_noKinds 15 = .ok (.iload_n 1, 1) := by decide +kernel
theorem dX7_noKinds_16 : decode cX7_noKinds 16 = .ok (.ireturn, 1) := by decide +kernel
theorem dX7_noBars_0 : decode cX7_noBars 0 = .ok (.aload_n 0, 1) := by decide +kernel
theorem dX7_noBars_1 : decode cX7_noBars 1 = .ok (.getfield 192, 3) := by decide +kernel
theorem dX7_noBars_4 : decode cX7_noBars 4 = .ok (.aload_n 0, 1) := by decide +kernel
theorem dX7_noBars_5 : decode cX7_noBars 5 = .ok (.getfield 198, 3) := by decide +kernel
theorem dX7_noBars_8 : decode cX7_noBars 8 = .ok (.iadd, 1) := by decide +kernel
theorem dX7_noBars_9 : decode cX7_noBars 9 = .ok (.istore_n 1, 1) := by decide +kernel
theorem dX7_noBars_10 : decode cX7_noBars 10 = .ok (.aload_n 0, 1) := by decide +kernel
theorem dX7_noBars_11 : decode cX7_noBars 11 = .ok (.iconst 0, 1) := by decide +kernel
theorem dX7_noBars_12 : decode cX7_noBars 12 = .ok (.putfield 192, 3) := by decide +kernel
theorem dX7_noBars_15 : decode cX7_noBars 15 = .ok (.aload_n 0, 1) := by decide +kernel
theorem dX7_noBars_16 : decode cX7_noBars 16 = .ok (.iconst 0, 1) := by decide +kernel
theorem dX7_noBars_17 : decode cX7_noBars 17 = .ok (.putfield 198, 3) := by decide +kernel
theorem dX7_noBars_20 : decode cX7_noBars 20 = .ok (.aload_n 0, 1) := by decide +kernel
theorem dX7_noBars_21 : decode cX7_noBars 21 = .ok (.iconst 0, 1) := by decide +kernel
theorem dX7_noBars_22 : decode cX7_noBars 22 = .ok (.putfield 195, 3) := by decide +kernel
theorem dX7_noBars_25 : decode cX7_noBars 25 = .ok (.iload_n 1, 1) := by decide +kernel
theorem dX7_noBars_26 : decode cX7_noBars 26 = .ok (.ireturn, 1) := by decide +kernel
theorem dJ9_max_7cf53_0 : decode cJ9_max_7cf53 0 = .ok (.iload_n 0, 1) := by decide +kernel
theorem dJ9_max_7cf53_1 : decode cJ9_max_7cf53 1 = .ok (.iload_n 1, 1) := by decide +kernel
theorem dJ9_max_7cf53_2 : decode cJ9_max_7cf53 2 = .ok (.if_icmp .lt 7, 3) := by decide +kernel
theorem dJ9_max_7cf53_5 : decode cJ9_max_7cf53 5 = .ok (.iload_n 0, 1) := by decide +kernel
theorem dJ9_max_7cf53_6 : decode cJ9_max_7cf53 6 = .ok (.goto 4, 3) := by decide +kernel
theorem dJ9_max_7cf53_9 : decode cJ9_max_7cf53 9 = .ok (.iload_n 1, 1) := by decide +kernel
theorem dJ9_max_7cf53_10 : decode cJ9_max_7cf53 10 = .ok (.ireturn, 1) := by decide +kernel
theorem dJ7_fill_53178_0 : decode cJ7_fill_53178 0 = .ok (.iconst 0, 1) := by decide +kernel
theorem dJ7_fill_53178_1 : decode cJ7_fill_53178 1 = .ok (.istore_n 2, 1) := by decide +kernel
theorem dJ7_fill_53178_2 : decode cJ7_fill_53178 2 = .ok (.aload_n 0, 1) := by decide +kernel
theorem dJ7_fill_53178_3 : decode cJ7_fill_53178 3 = .ok (.arraylength, 1) := by decide +kernel
theorem dJ7_fill_53178_4 : decode cJ7_fill_53178 4 = .ok (.istore_n 3, 1) := by decide +kernel
theorem dJ7_fill_53178_5 : decode cJ7_fill_53178 5 = .ok (.iload_n 2, 1) := by decide +kernel
theorem dJ7_fill_53178_6 : decode cJ7_fill_53178 6 = .ok (.iload_n 3, 1) := by decide +kernel
theorem dJ7_fill_53178_7 : decode cJ7_fill_53178 7 = .ok (.if_icmp .ge 13, 3) := by decide +kernel
theorem dJ7_fill_53178_10 : decode cJ7_fill_53178 10 = .ok (.aload_n 0, 1) := by decide +kernel
theorem dJ7_fill_53178_11 : decode cJ7_fill_53178 11 = .ok (.iload_n 2, 1) := by decide +kernel
theorem dJ7_fill_53178_12 : decode cJ7_fill_53178 12 = .ok (.iload_n 1, 1) := by decide +kernel
theorem dJ7_fill_53178_13 : decode cJ7_fill_53178 13 = .ok (.iastore, 1) := by decide +kernel
theorem dJ7_fill_53178_14 : decode cJ7_fill_53178 14 = .ok (.iinc 2 1, 3) := by decide +kernel
theorem dJ7_fill_53178_17 : decode cJ7_fill_53178 17 = .ok (.goto (-12), 3) := by decide +kernel
end
section
theorem dJ7_fill_53178_20 : decode cJ7_fill_53178 20 = .ok (.return_, 1) := by decide +kernel
set_option maxRecDepth 20000 in
theorem ggL_law_X6_init : GoodIn wsL_law wsX6_init := goodIn_r _ [8, 9, 10, 11, 12, 13, 14, 15, 16, 17, 18, 19, 20, 21, 22, 23, 24, 25, 26, 27, 28, 29, 30, 31, 32, 33, 34, 35, 36, 37, 38, 39, 40, 41, 42, 43, 44, 45, 46, 47, 48, 49, 50, 51, 52, 53, 54, 55, 56, 57, 58, 59, 60, 61, 62, 63, 64, 65, 66, 67, 68, 69, 70, 71, 72, 73, 74, 75, 76, 77, 78, 79, 80, 81, 82, 83, 84, 85, 86, 87, 88, 89, 90, 91, 92, 93, 94, 95, 96, 97, 98, 99, 100, 101, 102, 693, 694, 695, 696, 697, 698, 699, 700, 701, 702, 703, 704, 705, 706, 707, 708, 709, 710, 711, 712, 713, 714, 715, 716, 640, 641, 642, 643, 644, 645, 717, 718, 719, 720, 721, 722, 723, 724, 725, 726, 727, 728, 729, 730, 731, 732, 733, 734, 735] (by decide +kernel) (by decide +kernel)
set_option maxRecDepth 20000 in
theorem gL_law_X6_init : GoodIn wsL_law (wsX6_init) := ggL_law_X6_init
set_option maxRecDepth 20000 in
theorem ggL_law_X7_init : GoodIn wsL_law wsX7_init := goodIn_r _ [105, 106, 10, 11, 107, 108, 109, 45, 110, 111, 112, 113, 114, 115, 116, 54, 117, 118, 119, 120, 121, 122, 123, 124, 125, 126, 127, 128, 129, 130, 131, 132, 133, 134, 135, 136, 137, 138, 139, 140, 646, 647, 648, 649, 650, 651, 652, 653, 654, 655, 656, 657, 658, 659, 660, 661, 662, 663, 664, 665, 666, 667, 668, 669, 670, 671, 672, 673, 674, 675, 676, 677, 678, 679, 680, 681, 682, 683, 684, 685, 686, 687, 688, 689, 690, 691, 692] (by decide +kernel) (by decide +kernel)
set_option maxRecDepth 20000 in
theorem gL_law_X7_init : GoodIn wsL_law (wsX7_init) := ggL_law_X7_init
set_option maxRecDepth 20000 in
theorem ggL_law_X6_plate : GoodIn wsL_law wsX6_plate := goodIn_r _ [144, 24, 30, 145, 146, 2, 147, 148, 149, 150, 14, 151, 39, 40, 41, 42, 43, 44, 152, 153, 154, 29, 155, 85, 88, 156, 157, 158, 20, 159, 63, 640, 641, 642, 643, 644, 645, 693, 694, 695, 696, 697, 698, 699, 717, 718, 719, 720, 721, 722, 723, 724, 725, 705, 706, 707, 708, 709] (by decide +kernel) (by decide +kernel)
set_option maxRecDepth 20000 in
theorem gL_law_X6_plate : GoodIn wsL_law (wsV RL 13 RX6 yX6_plate wsX6_plate) := goodIn_app (goodIn_of _ (by decide +kernel)) ggL_law_X6_plate
set_option maxRecDepth 20000 in
theorem ggL_law_X7_plate : GoodIn wsL_law wsX7_plate := goodIn_r _ [163, 107, 108, 164, 109, 165, 166, 167, 168, 169, 5, 170, 646, 647, 648, 649, 650, 651, 652, 653, 654, 655, 656, 657, 658, 659, 660, 661, 662, 663, 664, 665, 666, 667, 668, 669, 670, 671, 672, 673, 674, 675, 676, 677, 678, 679, 680, 681, 682, 683, 684, 685, 686, 687, 688, 689, 690, 691, 692] (by decide +kernel) (by decide +kernel)
set_option maxRecDepth 20000 in
theorem gL_law_X7_plate : GoodIn wsL_law (wsV RL 17 RX7 yX7_plate wsX7_plate) := goodIn_app (goodIn_of _ (by decide +kernel)) ggL_law_X7_plate
set_option maxRecDepth 20000 in
theorem ggL_law_X6_defect : GoodIn wsL_law wsX6_defect := goodIn_r _ [174, 24, 30, 175, 176, 177, 178, 14, 179, 39, 40, 146, 2, 147, 180, 181, 182, 183, 44, 46, 152, 153, 154, 29, 155, 85, 88, 156, 157, 158, 20, 159, 63, 640, 641, 642, 643, 644, 645, 693, 694, 695, 696, 697, 698, 699, 717, 718, 719, 720, 721, 722, 723, 724, 725, 705, 706, 707, 708, 709] (by decide +kernel) (by decide +kernel)
set_option maxRecDepth 20000 in
theorem gL_law_X6_defect : GoodIn wsL_law (wsV RL 18 RX6 yX6_defect wsX6_defect) := goodIn_app (goodIn_of _ (by decide +kernel)) ggL_law_X6_defect
set_option maxRecDepth 20000 in
theorem ggL_law_X7_defect : GoodIn wsL_law wsX7_defect := goodIn_r _ [187, 166, 110, 111, 112, 113, 167, 188, 189, 190, 5, 191, 107, 108, 168, 169, 170, 646, 647, 648, 649, 650, 651, 652, 653, 654, 655, 656, 657, 658, 659, 660, 661, 662, 663, 664, 665, 666, 667, 668, 669, 670, 671, 672, 673, 674, 675, 676, 677, 678, 679, 680, 681, 682, 683, 684, 685, 686, 687, 688, 689, 690, 691, 692] (by decide +kernel) (by decide +kernel)
set_option maxRecDepth 20000 in
theorem gL_law_X7_defect : GoodIn wsL_law (wsV RL 22 RX7 yX7_defect wsX7_defect) := goodIn_app (goodIn_of _ (by decide +kernel)) ggL_law_X7_defect
set_option maxRecDepth 20000 in
theorem ggL_law_X6_kind : GoodIn wsL_law wsX6_kind := goodIn_r _ [195, 25, 30, 145, 146, 2, 147, 196, 197, 198, 17, 199, 50, 51, 52, 53, 55, 152, 153, 154, 29, 155, 85, 88, 156, 157, 158, 20, 159, 63, 640, 641, 642, 643, 644, 645, 700, 701, 702, 703, 704, 717, 718, 719, 720, 721, 722, 723, 724, 725, 705, 706, 707, 708, 709] (by decide +kernel) (by decide +kernel)
set_option maxRecDepth 20000 in
theorem gL_law_X6_kind : GoodIn wsL_law (wsV RL 23 RX6 yX6_kind wsX6_kind) := goodIn_app (goodIn_of _ (by decide +kernel)) ggL_law_X6_kind
set_option maxRecDepth 20000 in
theorem ggL_law_X7_kind : GoodIn wsL_law wsX7_kind := goodIn_r _ [203, 204, 114, 115, 116, 117, 167, 168, 169, 5, 170, 646, 647, 648, 649, 650, 651, 652, 653, 654, 655, 656, 657, 658, 659, 660, 661, 662, 663, 664, 665, 666, 667, 668, 669, 670, 671, 672, 673, 674, 675, 676, 677, 678, 679, 680, 681, 682, 683, 684, 685, 686, 687, 688, 689, 690, 691, 692] (by decide +kernel) (by decide +kernel)
set_option maxRecDepth 20000 in
theorem gL_law_X7_kind : GoodIn wsL_law (wsV RL 27 RX7 yX7_kind wsX7_kind) := goodIn_app (goodIn_of _ (by decide +kernel)) ggL_law_X7_kind
set_option maxRecDepth 20000 in
theorem ggL_law_X6_value : GoodIn wsL_law wsX6_value := goodIn_r _ [208, 25, 209, 210, 30, 145, 146, 2, 147, 152, 153, 154, 29, 155, 85, 88, 156, 157, 158, 20, 159, 63, 640, 641, 642, 643, 644, 645, 700, 701, 702, 703, 704, 717, 718, 719, 720, 721, 722, 723, 724, 725, 705, 706, 707, 708, 709] (by decide +kernel) (by decide +kernel)
set_option maxRecDepth 20000 in
theorem gL_law_X6_value : GoodIn wsL_law (wsV RL 28 RX6 yX6_value wsX6_value) := goodIn_app (goodIn_of _ (by decide +kernel)) ggL_law_X6_value
set_option maxRecDepth 20000 in
theorem ggL_law_X7_value : GoodIn wsL_law wsX7_value := goodIn_r _ [214, 204, 116, 167, 168, 169, 5, 170, 646, 647, 648, 649, 650, 651, 652, 653, 654, 655, 656, 657, 658, 659, 660, 661, 662, 663, 664, 665, 666, 667, 668, 669, 670, 671, 672, 673, 674, 675, 676, 677, 678, 679, 680, 681, 682, 683, 684, 685, 686, 687, 688, 689, 690, 691, 692] (by decide +kernel) (by decide +kernel)
set_option maxRecDepth 20000 in
theorem gL_law_X7_value : GoodIn wsL_law (wsV RL 32 RX7 yX7_value wsX7_value) := goodIn_app (goodIn_of _ (by decide +kernel)) ggL_law_X7_value
set_option maxRecDepth 20000 in
theorem ggL_law_X6_worth : GoodIn wsL_law wsX6_worth := goodIn_r _ [218, 24, 219, 26, 176, 177, 178, 14, 179, 39, 40, 146, 2, 147, 145, 220, 221, 222, 20, 223, 63, 64, 224, 225, 226, 227, 228, 229, 230, 231, 60, 232, 233, 234, 235, 236, 237, 238, 65, 239, 240, 241, 242, 243, 244, 245, 246, 17, 247, 50, 53, 248, 249, 250, 251, 252, 51, 52, 253, 254, 255, 256, 55, 257, 258, 259, 260, 261, 262, 263, 264, 41, 265, 266, 267, 268, 43, 269, 270, 271, 272, 273, 274, 275, 276, 277, 62, 278, 279, 280, 281, 44, 46, 282, 283, 284, 285, 286, 287, 288, 289, 290, 291, 292, 293, 294, 295, 640, 641, 642, 643, 644, 645, 693, 694, 695, 696, 697, 698, 699, 705, 706, 707, 708, 709, 700, 701, 702, 703, 704] (by decide +kernel) (by decide +kernel)
set_option maxRecDepth 20000 in
theorem gL_law_X6_worth : GoodIn wsL_law (wsV RL 33 RX6 yX6_worth wsX6_worth) := goodIn_app (goodIn_of _ (by decide +kernel)) ggL_law_X6_worth
set_option maxRecDepth 20000 in
theorem ggL_law_X7_worth : GoodIn wsL_law wsX7_worth := goodIn_r _ [299, 109, 120, 188, 189, 190, 5, 191, 107, 108, 168, 169, 170, 300, 301, 302, 303, 167, 304, 305, 306, 307, 164, 308, 309, 310, 311, 204, 116, 312, 313, 314, 315, 114, 115, 117, 316, 317, 318, 319, 166, 110, 112, 111, 113, 320, 321, 322, 323, 165, 324, 325, 326, 327, 328, 329, 330, 331, 118, 332, 333, 334, 335, 336, 337, 338, 131, 339, 340, 341, 342, 343, 344, 345, 346, 125, 126, 127, 128, 129, 130, 347, 348, 349, 350, 121, 122, 123, 124, 646, 647, 648, 649, 650, 651, 652, 653, 654, 655, 656, 657, 658, 659, 660, 661, 662, 663, 664, 665, 666, 667, 668, 669, 670, 671, 672, 673, 674, 675, 676, 677, 678, 679, 680, 681, 682, 683, 684, 685, 686, 687, 688, 689, 690, 691, 692] (by decide +kernel) (by decide +kernel)
set_option maxRecDepth 20000 in
theorem gL_law_X7_worth : GoodIn wsL_law (wsV RL 36 RX7 yX7_worth wsX7_worth) := goodIn_app (goodIn_of _ (by decide +kernel)) ggL_law_X7_worth
set_option maxRecDepth 20000 in
theorem ggL_law_X6_pieces : GoodIn wsL_law wsX6_pieces := goodIn_r _ [354, 30, 355, 356, 357, 358, 29, 359, 85, 88, 82, 83, 86, 360, 361, 84, 362, 221, 222, 20, 223, 63, 64, 224, 225, 226, 227, 228, 229, 230, 231, 60, 232, 233, 234, 146, 2, 147, 235, 236, 237, 238, 65, 239, 240, 241, 242, 243, 244, 245, 246, 17, 247, 50, 53, 248, 249, 250, 251, 252, 51, 52, 253, 254, 255, 256, 55, 257, 258, 259, 260, 261, 262, 263, 14, 264, 41, 265, 266, 267, 268, 43, 269, 270, 271, 272, 273, 274, 275, 276, 277, 62, 278, 279, 280, 281, 44, 46, 282, 283, 284, 285, 286, 287, 288, 289, 290, 291, 363, 364, 365, 366, 87, 367, 368, 293, 294, 295, 369, 370, 371, 372, 373, 374, 375, 376, 377, 80, 378, 379, 380, 381, 382, 383, 384, 385, 386, 387, 388, 389, 390, 391, 392, 81, 393, 394, 395, 396, 397, 398, 640, 641, 642, 643, 644, 645, 717, 718, 719, 720, 721, 722, 723, 724, 725, 693, 694, 695, 696, 697, 698, 699, 705, 706, 707, 708, 709, 700, 701, 702, 703, 704] (by decide +kernel) (by decide +kernel)
set_option maxRecDepth 20000 in
theorem gL_law_X6_pieces : GoodIn wsL_law (wsV RL 37 RX6 yX6_pieces wsX6_pieces) := goodIn_app (goodIn_of _ (by decide +kernel)) ggL_law_X6_pieces
set_option maxRecDepth 20000 in
theorem ggL_law_X7_pieces : GoodIn wsL_law wsX7_pieces := goodIn_r _ [402, 336, 300, 301, 302, 5, 303, 167, 107, 108, 304, 305, 306, 307, 109, 164, 120, 308, 309, 310, 311, 204, 116, 312, 313, 314, 315, 114, 115, 117, 316, 317, 318, 319, 166, 110, 112, 111, 113, 320, 321, 322, 323, 165, 324, 325, 326, 327, 328, 329, 330, 331, 118, 332, 333, 334, 335, 337, 338, 131, 339, 340, 341, 342, 343, 344, 345, 346, 125, 126, 127, 128, 129, 130, 347, 348, 349, 350, 121, 122, 123, 124, 646, 647, 648, 649, 650, 651, 652, 653, 654, 655, 656, 657, 658, 659, 660, 661, 662, 663, 664, 665, 666, 667, 668, 669, 670, 671, 672, 673, 674, 675, 676, 677, 678, 679, 680, 681, 682, 683, 684, 685, 686, 687, 688, 689, 690, 691, 692] (by decide +kernel) (by decide +kernel)
set_option maxRecDepth 20000 in
theorem gL_law_X7_pieces : GoodIn wsL_law (wsV RL 41 RX7 yX7_pieces wsX7_pieces) := goodIn_app (goodIn_of _ (by decide +kernel)) ggL_law_X7_pieces
set_option maxRecDepth 20000 in
theorem ggL_law_X6_piece : GoodIn wsL_law wsX6_piece := goodIn_r _ [406, 30, 355, 407, 145, 146, 2, 147, 356, 357, 358, 29, 359, 85, 88, 82, 83, 86, 360, 361, 84, 362, 221, 222, 20, 223, 63, 64, 224, 225, 226, 227, 228, 229, 230, 231, 60, 232, 233, 234, 235, 236, 237, 238, 65, 239, 240, 241, 242, 243, 244, 245, 246, 17, 247, 50, 53, 248, 249, 250, 251, 252, 51, 52, 253, 254, 255, 256, 55, 257, 258, 259, 260, 261, 262, 263, 14, 264, 41, 265, 266, 267, 268, 43, 269, 270, 271, 272, 273, 274, 275, 276, 277, 62, 278, 279, 280, 281, 44, 46, 282, 283, 284, 285, 286, 287, 288, 289, 290, 291, 363, 364, 365, 366, 87, 367, 368, 293, 294, 295, 369, 370, 371, 372, 373, 374, 375, 376, 377, 80, 378, 379, 380, 381, 382, 383, 384, 385, 386, 387, 388, 389, 390, 391, 392, 81, 393, 394, 395, 396, 397, 398, 640, 641, 642, 643, 644, 645, 717, 718, 719, 720, 721, 722, 723, 724, 725, 693, 694, 695, 696, 697, 698, 699, 705, 706, 707, 708, 709, 700, 701, 702, 703, 704] (by decide +kernel) (by decide +kernel)
set_option maxRecDepth 20000 in
theorem gL_law_X6_piece : GoodIn wsL_law (wsV RL 42 RX6 yX6_piece wsX6_piece) := goodIn_app (goodIn_of _ (by decide +kernel)) ggL_law_X6_piece
set_option maxRecDepth 20000 in
theorem ggL_law_X7_piece : GoodIn wsL_law wsX7_piece := goodIn_r _ [411, 336, 121, 122, 123, 124, 168, 169, 5, 170, 300, 301, 302, 303, 167, 107, 108, 304, 305, 306, 307, 109, 164, 120, 308, 309, 310, 311, 204, 116, 312, 313, 314, 315, 114, 115, 117, 316, 317, 318, 319, 166, 110, 112, 111, 113, 320, 321, 322, 323, 165, 324, 325, 326, 327, 328, 329, 330, 331, 118, 332, 333, 334, 335, 337, 338, 131, 339, 340, 341, 342, 343, 344, 345, 346, 125, 126, 127, 128, 129, 130, 347, 348, 349, 350, 412, 413, 414, 415, 646, 647, 648, 649, 650, 651, 652, 653, 654, 655, 656, 657, 658, 659, 660, 661, 662, 663, 664, 665, 666, 667, 668, 669, 670, 671, 672, 673, 674, 675, 676, 677, 678, 679, 680, 681, 682, 683, 684, 685, 686, 687, 688, 689, 690, 691, 692] (by decide +kernel) (by decide +kernel)
set_option maxRecDepth 20000 in
theorem gL_law_X7_piece : GoodIn wsL_law (wsV RL 45 RX7 yX7_piece wsX7_piece) := goodIn_app (goodIn_of _ (by decide +kernel)) ggL_law_X7_piece
set_option maxRecDepth 20000 in
theorem ggL_law_X6_cuts : GoodIn wsL_law wsX6_cuts := goodIn_r _ [419, 30, 420, 356, 357, 358, 29, 359, 85, 88, 82, 83, 86, 360, 361, 84, 362, 221, 222, 20, 223, 63, 64, 224, 225, 226, 227, 228, 229, 230, 231, 60, 232, 233, 234, 146, 2, 147, 235, 236, 237, 238, 65, 239, 240, 241, 242, 243, 244, 245, 246, 17, 247, 50, 53, 248, 249, 250, 251, 252, 51, 52, 253, 254, 255, 256, 55, 257, 258, 259, 260, 261, 262, 263, 14, 264, 41, 265, 266, 267, 268, 43, 269, 270, 271, 272, 273, 274, 275, 276, 277, 62, 278, 279, 280, 281, 44, 46, 282, 283, 284, 285, 286, 287, 288, 289, 290, 291, 363, 364, 365, 366, 87, 367, 368, 293, 294, 295, 369, 370, 371, 372, 373, 374, 375, 376, 377, 80, 378, 379, 380, 381, 382, 383, 384, 385, 386, 387, 388, 389, 390, 391, 392, 81, 393, 394, 395, 396, 397, 398, 640, 641, 642, 643, 644, 645, 717, 718, 719, 720, 721, 722, 723, 724, 725, 693, 694, 695, 696, 697, 698, 699, 705, 706, 707, 708, 709, 700, 701, 702, 703, 704] (by decide +kernel) (by decide +kernel)
set_option maxRecDepth 20000 in
theorem gL_law_X6_cuts : GoodIn wsL_law (wsV RL 46 RX6 yX6_cuts wsX6_cuts) := goodIn_app (goodIn_of _ (by decide +kernel)) ggL_law_X6_cuts
set_option maxRecDepth 20000 in
theorem ggL_law_X7_cuts : GoodIn wsL_law wsX7_cuts := goodIn_r _ [424, 337, 300, 301, 302, 5, 303, 167, 107, 108, 304, 305, 306, 307, 109, 164, 120, 308, 309, 310, 311, 204, 116, 312, 313, 314, 315, 114, 115, 117, 316, 317, 318, 319, 166, 110, 112, 111, 113, 320, 321, 322, 323, 165, 324, 325, 326, 327, 328, 329, 330, 331, 118, 332, 333, 334, 335, 336, 338, 131, 339, 340, 341, 342, 343, 344, 345, 346, 125, 126, 127, 128, 129, 130, 347, 348, 349, 350, 121, 122, 123, 124, 646, 647, 648, 649, 650, 651, 652, 653, 654, 655, 656, 657, 658, 659, 660, 661, 662, 663, 664, 665, 666, 667, 668, 669, 670, 671, 672, 673, 674, 675, 676, 677, 678, 679, 680, 681, 682, 683, 684, 685, 686, 687, 688, 689, 690, 691, 692] (by decide +kernel) (by decide +kernel)
set_option maxRecDepth 20000 in
theorem gL_law_X7_cuts : GoodIn wsL_law (wsV RL 49 RX7 yX7_cuts wsX7_cuts) := goodIn_app (goodIn_of _ (by decide +kernel)) ggL_law_X7_cuts
set_option maxRecDepth 20000 in
theorem ggL_law_X6_cut : GoodIn wsL_law wsX6_cut := goodIn_r _ [428, 30, 420, 429, 145, 146, 2, 147, 356, 357, 358, 29, 359, 85, 88, 82, 83, 86, 360, 361, 84, 362, 221, 222, 20, 223, 63, 64, 224, 225, 226, 227, 228, 229, 230, 231, 60, 232, 233, 234, 235, 236, 237, 238, 65, 239, 240, 241, 242, 243, 244, 245, 246, 17, 247, 50, 53, 248, 249, 250, 251, 252, 51, 52, 253, 254, 255, 256, 55, 257, 258, 259, 260, 261, 262, 263, 14, 264, 41, 265, 266, 267, 268, 43, 269, 270, 271, 272, 273, 274, 275, 276, 277, 62, 278, 279, 280, 281, 44, 46, 282, 283, 284, 285, 286, 287, 288, 289, 290, 291, 363, 364, 365, 366, 87, 367, 368, 293, 294, 295, 369, 370, 371, 372, 373, 374, 375, 376, 377, 80, 378, 379, 380, 381, 382, 383, 384, 385, 386, 387, 388, 389, 390, 391, 392, 81, 393, 394, 395, 396, 397, 398, 640, 641, 642, 643, 644, 645, 717, 718, 719, 720, 721, 722, 723, 724, 725, 693, 694, 695, 696, 697, 698, 699, 705, 706, 707, 708, 709, 700, 701, 702, 703, 704] (by decide +kernel) (by decide +kernel)
set_option maxRecDepth 20000 in
theorem gL_law_X6_cut : GoodIn wsL_law (wsV RL 50 RX6 yX6_cut wsX6_cut) := goodIn_app (goodIn_of _ (by decide +kernel)) ggL_law_X6_cut
set_option maxRecDepth 20000 in
theorem ggL_law_X7_cut : GoodIn wsL_law wsX7_cut := goodIn_r _ [433, 337, 125, 126, 127, 128, 129, 130, 168, 169, 5, 170, 300, 301, 302, 303, 167, 107, 108, 304, 305, 306, 307, 109, 164, 120, 308, 309, 310, 311, 204, 116, 312, 313, 314, 315, 114, 115, 117, 316, 317, 318, 319, 166, 110, 112, 111, 113, 320, 321, 322, 323, 165, 324, 325, 326, 327, 328, 329, 330, 331, 118, 332, 333, 334, 335, 336, 338, 131, 339, 340, 341, 342, 343, 344, 345, 346, 347, 348, 349, 350, 121, 122, 123, 124, 646, 647, 648, 649, 650, 651, 652, 653, 654, 655, 656, 657, 658, 659, 660, 661, 662, 663, 664, 665, 666, 667, 668, 669, 670, 671, 672, 673, 674, 675, 676, 677, 678, 679, 680, 681, 682, 683, 684, 685, 686, 687, 688, 689, 690, 691, 692] (by decide +kernel) (by decide +kernel)
set_option maxRecDepth 20000 in
theorem gL_law_X7_cut : GoodIn wsL_law (wsV RL 53 RX7 yX7_cut wsX7_cut) := goodIn_app (goodIn_of _ (by decide +kernel)) ggL_law_X7_cut
set_option maxRecDepth 20000 in
theorem ggL_law_X6_waste : GoodIn wsL_law wsX6_waste := goodIn_r _ [437, 30, 438, 356, 357, 358, 29, 359, 85, 88, 82, 83, 86, 360, 361, 84, 362, 221, 222, 20, 223, 63, 64, 224, 225, 226, 227, 228, 229, 230, 231, 60, 232, 233, 234, 146, 2, 147, 235, 236, 237, 238, 65, 239, 240, 241, 242, 243, 244, 245, 246, 17, 247, 50, 53, 248, 249, 250, 251, 252, 51, 52, 253, 254, 255, 256, 55, 257, 258, 259, 260, 261, 262, 263, 14, 264, 41, 265, 266, 267, 268, 43, 269, 270, 271, 272, 273, 274, 275, 276, 277, 62, 278, 279, 280, 281, 44, 46, 282, 283, 284, 285, 286, 287, 288, 289, 290, 291, 363, 364, 365, 366, 87, 367, 368, 293, 294, 295, 369, 370, 371, 372, 373, 374, 375, 376, 377, 80, 378, 379, 380, 381, 382, 383, 384, 385, 386, 387, 388, 389, 390, 391, 392, 81, 393, 394, 395, 396, 397, 398, 640, 641, 642, 643, 644, 645, 717, 718, 719, 720, 721, 722, 723, 724, 725, 693, 694, 695, 696, 697, 698, 699, 705, 706, 707, 708, 709, 700, 701, 702, 703, 704] (by decide +kernel) (by decide +kernel)
set_option maxRecDepth 20000 in
theorem gL_law_X6_waste : GoodIn wsL_law (wsV RL 54 RX6 yX6_waste wsX6_waste) := goodIn_app (goodIn_of _ (by decide +kernel)) ggL_law_X6_waste
set_option maxRecDepth 20000 in
theorem ggL_law_X7_waste : GoodIn wsL_law wsX7_waste := goodIn_r _ [442, 107, 108, 336, 114, 121, 115, 300, 301, 302, 5, 303, 167, 304, 305, 306, 307, 109, 164, 120, 308, 309, 310, 311, 204, 116, 312, 313, 314, 315, 117, 316, 317, 318, 319, 166, 110, 112, 111, 113, 320, 321, 322, 323, 165, 324, 325, 326, 327, 328, 329, 330, 331, 118, 332, 333, 334, 335, 337, 338, 131, 339, 340, 341, 342, 343, 344, 345, 346, 125, 126, 127, 128, 129, 130, 347, 348, 349, 350, 122, 123, 124, 646, 647, 648, 649, 650, 651, 652, 653, 654, 655, 656, 657, 658, 659, 660, 661, 662, 663, 664, 665, 666, 667, 668, 669, 670, 671, 672, 673, 674, 675, 676, 677, 678, 679, 680, 681, 682, 683, 684, 685, 686, 687, 688, 689, 690, 691, 692] (by decide +kernel) (by decide +kernel)
set_option maxRecDepth 20000 in
theorem gL_law_X7_waste : GoodIn wsL_law (wsV RL 57 RX7 yX7_waste wsX7_waste) := goodIn_app (goodIn_of _ (by decide +kernel)) ggL_law_X7_waste
set_option maxRecDepth 20000 in
theorem ggL_law_X6_stock : GoodIn wsL_law wsX6_stock := goodIn_r _ [446, 31, 35, 145, 146, 2, 147, 447, 448, 449, 23, 450, 69, 72, 73, 451, 452, 453, 34, 454, 100, 101, 640, 641, 642, 643, 644, 645, 710, 711, 712, 713, 714, 715, 716, 726, 727, 728, 729, 730, 731, 732, 733, 734, 735] (by decide +kernel) (by decide +kernel)
set_option maxRecDepth 20000 in
theorem gL_law_X6_stock : GoodIn wsL_law (wsV RL 58 RX6 yX6_stock wsX6_stock) := goodIn_app (goodIn_of _ (by decide +kernel)) ggL_law_X6_stock
set_option maxRecDepth 20000 in
theorem ggL_law_X7_stock : GoodIn wsL_law wsX7_stock := goodIn_r _ [458, 459, 132, 133, 460, 168, 169, 5, 170, 646, 647, 648, 649, 650, 651, 652, 653, 654, 655, 656, 657, 658, 659, 660, 661, 662, 663, 664, 665, 666, 667, 668, 669, 670, 671, 672, 673, 674, 675, 676, 677, 678, 679, 680, 681, 682, 683, 684, 685, 686, 687, 688, 689, 690, 691, 692] (by decide +kernel) (by decide +kernel)
set_option maxRecDepth 20000 in
theorem gL_law_X7_stock : GoodIn wsL_law (wsV RL 61 RX7 yX7_stock wsX7_stock) := goodIn_app (goodIn_of _ (by decide +kernel)) ggL_law_X7_stock
set_option maxRecDepth 20000 in
theorem ggL_law_X6_order : GoodIn wsL_law wsX6_order := goodIn_r _ [464, 31, 35, 145, 146, 2, 147, 465, 466, 467, 23, 468, 70, 74, 75, 451, 452, 453, 34, 454, 100, 101, 640, 641, 642, 643, 644, 645, 710, 711, 712, 713, 714, 715, 716, 726, 727, 728, 729, 730, 731, 732, 733, 734, 735] (by decide +kernel) (by decide +kernel)
set_option maxRecDepth 20000 in
theorem gL_law_X6_order : GoodIn wsL_law (wsV RL 62 RX6 yX6_order wsX6_order) := goodIn_app (goodIn_of _ (by decide +kernel)) ggL_law_X6_order
set_option maxRecDepth 20000 in
theorem ggL_law_X7_order : GoodIn wsL_law wsX7_order := goodIn_r _ [472, 473, 134, 135, 460, 168, 169, 5, 170, 646, 647, 648, 649, 650, 651, 652, 653, 654, 655, 656, 657, 658, 659, 660, 661, 662, 663, 664, 665, 666, 667, 668, 669, 670, 671, 672, 673, 674, 675, 676, 677, 678, 679, 680, 681, 682, 683, 684, 685, 686, 687, 688, 689, 690, 691, 692] (by decide +kernel) (by decide +kernel)
set_option maxRecDepth 20000 in
theorem gL_law_X7_order : GoodIn wsL_law (wsV RL 65 RX7 yX7_order wsX7_order) := goodIn_app (goodIn_of _ (by decide +kernel)) ggL_law_X7_order
set_option maxRecDepth 20000 in
theorem ggL_law_X6_demand : GoodIn wsL_law wsX6_demand := goodIn_r _ [477, 31, 478, 479, 35, 145, 146, 2, 147, 480, 481, 482, 34, 483, 101, 640, 641, 642, 643, 644, 645, 710, 711, 712, 713, 714, 715, 716, 726, 727, 728, 729, 730, 731, 732, 733, 734, 735] (by decide +kernel) (by decide +kernel)
set_option maxRecDepth 20000 in
theorem gL_law_X6_demand : GoodIn wsL_law (wsV RL 66 RX6 yX6_demand wsX6_demand) := goodIn_app (goodIn_of _ (by decide +kernel)) ggL_law_X6_demand
set_option maxRecDepth 20000 in
theorem ggL_law_X7_demand : GoodIn wsL_law wsX7_demand := goodIn_r _ [487, 473, 135, 460, 168, 169, 5, 170, 646, 647, 648, 649, 650, 651, 652, 653, 654, 655, 656, 657, 658, 659, 660, 661, 662, 663, 664, 665, 666, 667, 668, 669, 670, 671, 672, 673, 674, 675, 676, 677, 678, 679, 680, 681, 682, 683, 684, 685, 686, 687, 688, 689, 690, 691, 692] (by decide +kernel) (by decide +kernel)
set_option maxRecDepth 20000 in
theorem gL_law_X7_demand : GoodIn wsL_law (wsV RL 69 RX7 yX7_demand wsX7_demand) := goodIn_app (goodIn_of _ (by decide +kernel)) ggL_law_X7_demand
set_option maxRecDepth 20000 in
theorem ggL_law_X6_blade : GoodIn wsL_law wsX6_blade := goodIn_r _ [491, 31, 492, 35, 145, 146, 2, 147, 451, 452, 453, 34, 454, 100, 101, 640, 641, 642, 643, 644, 645, 710, 711, 712, 713, 714, 715, 716, 726, 727, 728, 729, 730, 731, 732, 733, 734, 735] (by decide +kernel) (by decide +kernel)
set_option maxRecDepth 20000 in
theorem gL_law_X6_blade : GoodIn wsL_law (wsV RL 70 RX6 yX6_blade wsX6_blade) := goodIn_app (goodIn_of _ (by decide +kernel)) ggL_law_X6_blade
set_option maxRecDepth 20000 in
theorem ggL_law_X7_blade : GoodIn wsL_law wsX7_blade := goodIn_r _ [496, 497, 460, 168, 169, 5, 170, 646, 647, 648, 649, 650, 651, 652, 653, 654, 655, 656, 657, 658, 659, 660, 661, 662, 663, 664, 665, 666, 667, 668, 669, 670, 671, 672, 673, 674, 675, 676, 677, 678, 679, 680, 681, 682, 683, 684, 685, 686, 687, 688, 689, 690, 691, 692] (by decide +kernel) (by decide +kernel)
set_option maxRecDepth 20000 in
theorem gL_law_X7_blade : GoodIn wsL_law (wsV RL 74 RX7 yX7_blade wsX7_blade) := goodIn_app (goodIn_of _ (by decide +kernel)) ggL_law_X7_blade
set_option maxRecDepth 20000 in
theorem ggL_law_X6_price : GoodIn wsL_law wsX6_price := goodIn_r _ [501, 35, 502, 503, 504, 505, 506, 34, 507, 101, 100, 94, 102, 508, 509, 510, 511, 512, 513, 514, 515, 516, 517, 518, 23, 519, 70, 75, 520, 521, 522, 523, 93, 524, 525, 526, 527, 146, 2, 147, 528, 529, 530, 531, 532, 533, 534, 535, 536, 537, 538, 539, 540, 541, 542, 543, 544, 545, 546, 69, 72, 73, 547, 548, 549, 550, 551, 240, 241, 242, 95, 552, 553, 554, 555, 97, 98, 99, 96, 640, 641, 642, 643, 644, 645, 726, 727, 728, 729, 730, 731, 732, 733, 734, 735, 710, 711, 712, 713, 714, 715, 716] (by decide +kernel) (by decide +kernel)
set_option maxRecDepth 20000 in
theorem gL_law_X6_price : GoodIn wsL_law (wsV RL 75 RX6 yX6_price wsX6_price) := goodIn_app (goodIn_of _ (by decide +kernel)) ggL_law_X6_price
set_option maxRecDepth 20000 in
theorem ggL_law_X7_price : GoodIn wsL_law wsX7_price := goodIn_r _ [559, 560, 136, 561, 562, 563, 5, 564, 460, 137, 138, 133, 565, 140, 566, 567, 568, 569, 473, 135, 570, 571, 572, 573, 574, 575, 576, 577, 578, 579, 497, 134, 139, 459, 132, 580, 581, 582, 583, 584, 585, 586, 587, 646, 647, 648, 649, 650, 651, 652, 653, 654, 655, 656, 657, 658, 659, 660, 661, 662, 663, 664, 665, 666, 667, 668, 669, 670, 671, 672, 673, 674, 675, 676, 677, 678, 679, 680, 681, 682, 683, 684, 685, 686, 687, 688, 689, 690, 691, 692] (by decide +kernel) (by decide +kernel)
set_option maxRecDepth 20000 in
theorem gL_law_X7_price : GoodIn wsL_law (wsV RL 78 RX7 yX7_price wsX7_price) := goodIn_app (goodIn_of _ (by decide +kernel)) ggL_law_X7_price
set_option maxRecDepth 20000 in
theorem ggL_law_X6_bars : GoodIn wsL_law wsX6_bars := goodIn_r _ [591, 35, 502, 592, 504, 505, 506, 34, 507, 101, 100, 94, 102, 508, 509, 510, 511, 512, 513, 514, 515, 516, 517, 518, 23, 519, 70, 75, 520, 521, 522, 523, 93, 524, 525, 526, 527, 146, 2, 147, 528, 529, 530, 531, 532, 533, 534, 535, 536, 537, 538, 539, 540, 541, 542, 543, 544, 545, 546, 69, 72, 73, 547, 548, 549, 550, 551, 240, 241, 242, 95, 552, 553, 554, 555, 97, 98, 99, 96, 640, 641, 642, 643, 644, 645, 726, 727, 728, 729, 730, 731, 732, 733, 734, 735, 710, 711, 712, 713, 714, 715, 716] (by decide +kernel) (by decide +kernel)
set_option maxRecDepth 20000 in
theorem gL_law_X6_bars : GoodIn wsL_law (wsV RL 79 RX6 yX6_bars wsX6_bars) := goodIn_app (goodIn_of _ (by decide +kernel)) ggL_law_X6_bars
set_option maxRecDepth 20000 in
theorem ggL_law_X7_bars : GoodIn wsL_law wsX7_bars := goodIn_r _ [596, 560, 565, 561, 562, 563, 5, 564, 460, 136, 137, 138, 133, 140, 566, 567, 568, 569, 473, 135, 570, 571, 572, 573, 574, 575, 576, 577, 578, 579, 497, 134, 139, 459, 132, 580, 581, 582, 583, 584, 585, 586, 587, 646, 647, 648, 649, 650, 651, 652, 653, 654, 655, 656, 657, 658, 659, 660, 661, 662, 663, 664, 665, 666, 667, 668, 669, 670, 671, 672, 673, 674, 675, 676, 677, 678, 679, 680, 681, 682, 683, 684, 685, 686, 687, 688, 689, 690, 691, 692] (by decide +kernel) (by decide +kernel)
set_option maxRecDepth 20000 in
theorem gL_law_X7_bars : GoodIn wsL_law (wsV RL 82 RX7 yX7_bars wsX7_bars) := goodIn_app (goodIn_of _ (by decide +kernel)) ggL_law_X7_bars
set_option maxRecDepth 20000 in
theorem ggL_law_X6_bar : GoodIn wsL_law wsX6_bar := goodIn_r _ [600, 35, 592, 601, 145, 146, 2, 147, 504, 505, 506, 34, 507, 101, 100, 94, 102, 508, 509, 510, 511, 512, 513, 514, 515, 516, 517, 518, 23, 519, 70, 75, 520, 521, 522, 523, 93, 524, 525, 526, 527, 528, 529, 530, 531, 532, 533, 534, 535, 536, 537, 538, 539, 540, 541, 542, 543, 544, 545, 546, 69, 72, 73, 547, 548, 549, 550, 551, 240, 241, 242, 95, 552, 553, 554, 555, 97, 98, 99, 96, 602, 603, 604, 605, 606, 640, 641, 642, 643, 644, 645, 726, 727, 728, 729, 730, 731, 732, 733, 734, 735, 710, 711, 712, 713, 714, 715, 716] (by decide +kernel) (by decide +kernel)
set_option maxRecDepth 20000 in
theorem gL_law_X6_bar : GoodIn wsL_law (wsV RL 83 RX6 yX6_bar wsX6_bar) := goodIn_app (goodIn_of _ (by decide +kernel)) ggL_law_X6_bar
set_option maxRecDepth 20000 in
theorem ggL_law_X7_bar : GoodIn wsL_law wsX7_bar := goodIn_r _ [610, 565, 140, 138, 132, 139, 168, 169, 5, 170, 561, 562, 563, 564, 460, 136, 137, 133, 560, 566, 567, 568, 569, 473, 135, 570, 571, 572, 573, 574, 575, 576, 577, 578, 579, 497, 134, 459, 580, 581, 582, 583, 584, 585, 586, 587, 646, 647, 648, 649, 650, 651, 652, 653, 654, 655, 656, 657, 658, 659, 660, 661, 662, 663, 664, 665, 666, 667, 668, 669, 670, 671, 672, 673, 674, 675, 676, 677, 678, 679, 680, 681, 682, 683, 684, 685, 686, 687, 688, 689, 690, 691, 692] (by decide +kernel) (by decide +kernel)
set_option maxRecDepth 20000 in
theorem gL_law_X7_bar : GoodIn wsL_law (wsV RL 86 RX7 yX7_bar wsX7_bar) := goodIn_app (goodIn_of _ (by decide +kernel)) ggL_law_X7_bar
set_option maxRecDepth 20000 in
theorem ggL_law_X6_told : GoodIn wsL_law wsX6_told := goodIn_r _ [614, 24, 615, 616, 617, 219, 618, 175, 25, 209, 31, 619, 478, 492, 640, 641, 642, 643, 644, 645, 693, 694, 695, 696, 697, 698, 699, 700, 701, 702, 703, 704, 710, 711, 712, 713, 714, 715, 716] (by decide +kernel) (by decide +kernel)
set_option maxRecDepth 20000 in
theorem gL_law_X6_told : GoodIn wsL_law (wsV RL 87 RX6 yX6_told wsX6_told) := goodIn_app (goodIn_of _ (by decide +kernel)) ggL_law_X6_told
set_option maxRecDepth 20000 in
theorem ggL_law_X7_told : GoodIn wsL_law wsX7_told := goodIn_r _ [623, 107, 108, 164, 109, 165, 166, 204, 459, 473, 497, 646, 647, 648, 649, 650, 651, 652, 653, 654, 655, 656, 657, 658, 659, 660, 661, 662, 663, 664, 665, 666, 667, 668, 669, 670, 671, 672, 673, 674, 675, 676, 677, 678, 679, 680, 681, 682, 683, 684, 685, 686, 687, 688, 689, 690, 691, 692] (by decide +kernel) (by decide +kernel)
set_option maxRecDepth 20000 in
theorem gL_law_X7_told : GoodIn wsL_law (wsV RL 90 RX7 yX7_told wsX7_told) := goodIn_app (goodIn_of _ (by decide +kernel)) ggL_law_X7_told
set_option maxRecDepth 20000 in
theorem ggL_law_X6_noKinds : GoodIn wsL_law wsX6_noKinds := goodIn_r _ [627, 25, 209, 30, 152, 153, 154, 29, 155, 85, 88, 156, 157, 158, 20, 159, 63, 640, 641, 642, 643, 644, 645, 700, 701, 702, 703, 704, 717, 718, 719, 720, 721, 722, 723, 724, 725, 705, 706, 707, 708, 709] (by decide +kernel) (by decide +kernel)
set_option maxRecDepth 20000 in
theorem gL_law_X6_noKinds : GoodIn wsL_law (wsV RL 91 RX6 yX6_noKinds wsX6_noKinds) := goodIn_app (goodIn_of _ (by decide +kernel)) ggL_law_X6_noKinds
set_option maxRecDepth 20000 in
theorem ggL_law_X7_noKinds : GoodIn wsL_law wsX7_noKinds := goodIn_r _ [631, 204, 167, 646, 647, 648, 649, 650, 651, 652, 653, 654, 655, 656, 657, 658, 659, 660, 661, 662, 663, 664, 665, 666, 667, 668, 669, 670, 671, 672, 673, 674, 675, 676, 677, 678, 679, 680, 681, 682, 683, 684, 685, 686, 687, 688, 689, 690, 691, 692] (by decide +kernel) (by decide +kernel)
set_option maxRecDepth 20000 in
theorem gL_law_X7_noKinds : GoodIn wsL_law (wsV RL 94 RX7 yX7_noKinds wsX7_noKinds) := goodIn_app (goodIn_of _ (by decide +kernel)) ggL_law_X7_noKinds
set_option maxRecDepth 20000 in
theorem ggL_law_X6_noBars : GoodIn wsL_law wsX6_noBars := goodIn_r _ [635, 31, 619, 478, 35, 451, 452, 453, 34, 454, 100, 101, 640, 641, 642, 643, 644, 645, 710, 711, 712, 713, 714, 715, 716, 726, 727, 728, 729, 730, 731, 732, 733, 734, 735] (by decide +kernel) (by decide +kernel)
set_option maxRecDepth 20000 in
theorem gL_law_X6_noBars : GoodIn wsL_law (wsV RL 95 RX6 yX6_noBars wsX6_noBars) := goodIn_app (goodIn_of _ (by decide +kernel)) ggL_law_X6_noBars
set_option maxRecDepth 20000 in
theorem ggL_law_X7_noBars : GoodIn wsL_law wsX7_noBars := goodIn_r _ [639, 459, 473, 460, 646, 647, 648, 649, 650, 651, 652, 653, 654, 655, 656, 657, 658, 659, 660, 661, 662, 663, 664, 665, 666, 667, 668, 669, 670, 671, 672, 673, 674, 675, 676, 677, 678, 679, 680, 681, 682, 683, 684, 685, 686, 687, 688, 689, 690, 691, 692] (by decide +kernel) (by decide +kernel)
set_option maxRecDepth 20000 in
theorem gL_law_X7_noBars : GoodIn wsL_law (wsV RL 98 RX7 yX7_noBars wsX7_noBars) := goodIn_app (goodIn_of _ (by decide +kernel)) ggL_law_X7_noBars
theorem dL_law_0 : decode cL_law 0 = .ok (.new 7, 3) := by decide +kernel
theorem dL_law_3 : decode cL_law 3 = .ok (.dup, 1) := by decide +kernel
theorem dL_law_4 : decode cL_law 4 = .ok (.invokespecial 9, 3) := by decide +kernel
theorem dL_law_7 : decode cL_law 7 = .ok (.astore_n 1, 1) := by decide +kernel
theorem dL_law_8 : decode cL_law 8 = .ok (.new 10, 3) := by decide +kernel
theorem dL_law_11 : decode cL_law 11 = .ok (.dup, 1) := by decide +kernel
theorem dL_law_12 : decode cL_law 12 = .ok (.invokespecial 12, 3) := by decide +kernel
theorem dL_law_15 : decode cL_law 15 = .ok (.astore_n 2, 1) := by decide +kernel
theorem dL_law_16 : decode cL_law 16 = .ok (.iconst 0, 1) := by decide +kernel
theorem dL_law_17 : decode cL_law 17 = .ok (.istore_n 3, 1) := by decide +kernel
theorem dL_law_18 : decode cL_law 18 = .ok (.iload_n 3, 1) := by decide +kernel
theorem dL_law_19 : decode cL_law 19 = .ok (.aload_n 0, 1) := by decide +kernel
theorem dL_law_20 : decode cL_law 20 = .ok (.arraylength, 1) := by decide +kernel
theorem dL_law_21 : decode cL_law 21 = .ok (.bipush 6, 2) := by decide +kernel
theorem dL_law_23 : decode cL_law 23 = .ok (.isub, 1) := by decide +kernel
theorem dL_law_24 : decode cL_law 24 = .ok (.if_icmp .gt 726, 3) := by decide +kernel
theorem dL_law_27 : decode cL_law 27 = .ok (.aload_n 0, 1) := by decide +kernel
theorem dL_law_28 : decode cL_law 28 = .ok (.iload_n 3, 1) := by decide +kernel
theorem dL_law_29 : decode cL_law 29 = .ok (.iaload, 1) := by decide +kernel
theorem dL_law_30 : decode cL_law 30 = .ok (.bipush 31, 2) := by decide +kernel
theorem dL_law_32 : decode cL_law 32 = .ok (.iand, 1) := by decide +kernel
theorem dL_law_33 : decode cL_law 33 = .ok (.tableswitch 711 0 19 #[95, 158, 211, 280, 313, 376, 389, 422, 435, 468, 481, 514, 547, 580, 603, 616, 629, 662, 685, 698], 95) := by decide +kernel
theorem dL_law_128 : decode cL_law 128 = .ok (.aload_n 1, 1) := by decide +kernel
theorem dL_law_129 : decode cL_law 129 = .ok (.aload_n 0, 1) := by decide +kernel
theorem dL_law_130 : decode cL_law 130 = .ok (.iload_n 3, 1) := by decide +kernel
theorem dL_law_131 : decode cL_law 131 = .ok (.iconst 1, 1) := by decide +kernel
theorem dL_law_132 : decode cL_law 132 = .ok (.iadd, 1) := by decide +kernel
theorem dL_law_133 : decode cL_law 133 = .ok (.iaload, 1) := by decide +kernel
theorem dL_law_134 : decode cL_law 134 = .ok (.aload_n 0, 1) := by decide +kernel
theorem dL_law_135 : decode cL_law 135 = .ok (.iload_n 3, 1) := by decide +kernel
theorem dL_law_136 : decode cL_law 136 = .ok (.iconst 2, 1) := by decide +kernel
theorem dL_law_137 : decode cL_law 137 = .ok (.iadd, 1) := by decide +kernel
theorem dL_law_138 : decode cL_law 138 = .ok (.iaload, 1) := by decide +kernel
theorem dL_law_139 : decode cL_law 139 = .ok (.aload_n 0, 1) := by decide +kernel
theorem dL_law_140 : decode cL_law 140 = .ok (.iload_n 3, 1) := by decide +kernel
theorem dL_law_141 : decode cL_law 141 = .ok (.iconst 3, 1) := by decide +kernel
theorem dL_law_142 : decode cL_law 142 = .ok (.iadd, 1) := by decide +kernel
theorem dL_law_143 : decode cL_law 143 = .ok (.iaload, 1) := by decide +kernel
theorem dL_law_144 : decode cL_law 144 = .ok (.aload_n 0, 1) := by decide +kernel
theorem dL_law_145 : decode cL_law 145 = .ok (.iload_n 3, 1) := by decide +kernel
theorem dL_law_146 : decode cL_law 146 = .ok (.iconst 4, 1) := by decide +kernel
theorem dL_law_147 : decode cL_law 147 = .ok (.iadd, 1) := by decide +kernel
theorem dL_law_148 : decode cL_law 148 = .ok (.iaload, 1) := by decide +kernel
theorem dL_law_149 : decode cL_law 149 = .ok (.aload_n 0, 1) := by decide +kernel
theorem dL_law_150 : decode cL_law 150 = .ok (.iload_n 3, 1) := by decide +kernel
theorem dL_law_151 : decode cL_law 151 = .ok (.iconst 5, 1) := by decide +kernel
theorem dL_law_152 : decode cL_law 152 = .ok (.iadd, 1) := by decide +kernel
theorem dL_law_153 : decode cL_law 153 = .ok (.iaload, 1) := by decide +kernel
theorem dL_law_154 : decode cL_law 154 = .ok (.invokevirtual 13, 3) := by decide +kernel
theorem dL_law_157 : decode cL_law 157 = .ok (.aload_n 2, 1) := by decide +kernel
theorem dL_law_158 : decode cL_law 158 = .ok (.aload_n 0, 1) := by decide +kernel
theorem dL_law_159 : decode cL_law 159 = .ok (.iload_n 3, 1) := by decide +kernel
theorem dL_law_160 : decode cL_law 160 = .ok (.iconst 1, 1) := by decide +kernel
theorem dL_law_161 : decode cL_law 161 = .ok (.iadd, 1) := by decide +kernel
theorem dL_law_162 : decode cL_law 162 = .ok (.iaload, 1) := by decide +kernel
theorem dL_law_163 : decode cL_law 163 = .ok (.aload_n 0, 1) := by decide +kernel
theorem dL_law_164 : decode cL_law 164 = .ok (.iload_n 3, 1) := by decide +kernel
theorem dL_law_165 : decode cL_law 165 = .ok (.iconst 2, 1) := by decide +kernel
theorem dL_law_166 : decode cL_law 166 = .ok (.iadd, 1) := by decide +kernel
theorem dL_law_167 : decode cL_law 167 = .ok (.iaload, 1) := by decide +kernel
theorem dL_law_168 : decode cL_law 168 = .ok (.aload_n 0, 1) := by decide +kernel
theorem dL_law_169 : decode cL_law 169 = .ok (.iload_n 3, 1) := by decide +kernel
theorem dL_law_170 : decode cL_law 170 = .ok (.iconst 3, 1) := by decide +kernel
theorem dL_law_171 : decode cL_law 171 = .ok (.iadd, 1) := by decide +kernel
theorem dL_law_172 : decode cL_law 172 = .ok (.iaload, 1) := by decide +kernel
theorem dL_law_173 : decode cL_law 173 = .ok (.aload_n 0, 1) := by decide +kernel
theorem dL_law_174 : decode cL_law 174 = .ok (.iload_n 3, 1) := by decide +kernel
theorem dL_law_175 : decode cL_law 175 = .ok (.iconst 4, 1) := by decide +kernel
theorem dL_law_176 : decode cL_law 176 = .ok (.iadd, 1) := by decide +kernel
theorem dL_law_177 : decode cL_law 177 = .ok (.iaload, 1) := by decide +kernel
theorem dL_law_178 : decode cL_law 178 = .ok (.aload_n 0, 1) := by decide +kernel
theorem dL_law_179 : decode cL_law 179 = .ok (.iload_n 3, 1) := by decide +kernel
theorem dL_law_180 : decode cL_law 180 = .ok (.iconst 5, 1) := by decide +kernel
theorem dL_law_181 : decode cL_law 181 = .ok (.iadd, 1) := by decide +kernel
theorem dL_law_182 : decode cL_law 182 = .ok (.iaload, 1) := by decide +kernel
theorem dL_law_183 : decode cL_law 183 = .ok (.invokevirtual 17, 3) := by decide +kernel
theorem dL_law_186 : decode cL_law 186 = .ok (.if_icmp .eq 558, 3) := by decide +kernel
theorem dL_law_189 : decode cL_law 189 = .ok (.iconst 0, 1) := by decide +kernel
theorem dL_law_190 : decode cL_law 190 = .ok (.ireturn, 1) := by decide +kernel
theorem dL_law_191 : decode cL_law 191 = .ok (.aload_n 1, 1) := by decide +kernel
theorem dL_law_192 : decode cL_law 192 = .ok (.aload_n 0, 1) := by decide +kernel
theorem dL_law_193 : decode cL_law 193 = .ok (.iload_n 3, 1) := by decide +kernel
theorem dL_law_194 : decode cL_law 194 = .ok (.iconst 1, 1) := by decide +kernel
theorem dL_law_195 : decode cL_law 195 = .ok (.iadd, 1) := by decide +kernel
theorem dL_law_196 : decode cL_law 196 = .ok (.iaload, 1) := by decide +kernel
theorem dL_law_197 : decode cL_law 197 = .ok (.aload_n 0, 1) := by decide +kernel
theorem dL_law_198 : decode cL_law 198 = .ok (.iload_n 3, 1) := by decide +kernel
theorem dL_law_199 : decode cL_law 199 = .ok (.iconst 2, 1) := by decide +kernel
theorem dL_law_200 : decode cL_law 200 = .ok (.iadd, 1) := by decide +kernel
theorem dL_law_201 : decode cL_law 201 = .ok (.iaload, 1) := by decide +kernel
theorem dL_law_202 : decode cL_law 202 = .ok (.aload_n 0, 1) := by decide +kernel
theorem dL_law_203 : decode cL_law 203 = .ok (.iload_n 3, 1) := by decide +kernel
theorem dL_law_204 : decode cL_law 204 = .ok (.iconst 3, 1) := by decide +kernel
theorem dL_law_205 : decode cL_law 205 = .ok (.iadd, 1) := by decide +kernel
theorem dL_law_206 : decode cL_law 206 = .ok (.iaload, 1) := by decide +kernel
theorem dL_law_207 : decode cL_law 207 = .ok (.aload_n 0, 1) := by decide +kernel
theorem dL_law_208 : decode cL_law 208 = .ok (.iload_n 3, 1) := by decide +kernel
theorem dL_law_209 : decode cL_law 209 = .ok (.iconst 4, 1) := by decide +kernel
theorem dL_law_210 : decode cL_law 210 = .ok (.iadd, 1) := by decide +kernel
theorem dL_law_211 : decode cL_law 211 = .ok (.iaload, 1) := by decide +kernel
theorem dL_law_212 : decode cL_law 212 = .ok (.invokevirtual 18, 3) := by decide +kernel
theorem dL_law_215 : decode cL_law 215 = .ok (.aload_n 2, 1) := by decide +kernel
theorem dL_law_216 : decode cL_law 216 = .ok (.aload_n 0, 1) := by decide +kernel
theorem dL_law_217 : decode cL_law 217 = .ok (.iload_n 3, 1) := by decide +kernel
theorem dL_law_218 : decode cL_law 218 = .ok (.iconst 1, 1) := by decide +kernel
theorem dL_law_219 : decode cL_law 219 = .ok (.iadd, 1) := by decide +kernel
theorem dL_law_220 : decode cL_law 220 = .ok (.iaload, 1) := by decide +kernel
theorem dL_law_221 : decode cL_law 221 = .ok (.aload_n 0, 1) := by decide +kernel
theorem dL_law_222 : decode cL_law 222 = .ok (.iload_n 3, 1) := by decide +kernel
theorem dL_law_223 : decode cL_law 223 = .ok (.iconst 2, 1) := by decide +kernel
theorem dL_law_224 : decode cL_law 224 = .ok (.iadd, 1) := by decide +kernel
theorem dL_law_225 : decode cL_law 225 = .ok (.iaload, 1) := by decide +kernel
theorem dL_law_226 : decode cL_law 226 = .ok (.aload_n 0, 1) := by decide +kernel
theorem dL_law_227 : decode cL_law 227 = .ok (.iload_n 3, 1) := by decide +kernel
theorem dL_law_228 : decode cL_law 228 = .ok (.iconst 3, 1) := by decide +kernel
theorem dL_law_229 : decode cL_law 229 = .ok (.iadd, 1) := by decide +kernel
theorem dL_law_230 : decode cL_law 230 = .ok (.iaload, 1) := by decide +kernel
theorem dL_law_231 : decode cL_law 231 = .ok (.aload_n 0, 1) := by decide +kernel
theorem dL_law_232 : decode cL_law 232 = .ok (.iload_n 3, 1) := by decide +kernel
theorem dL_law_233 : decode cL_law 233 = .ok (.iconst 4, 1) := by decide +kernel
theorem dL_law_234 : decode cL_law 234 = .ok (.iadd, 1) := by decide +kernel
theorem dL_law_235 : decode cL_law 235 = .ok (.iaload, 1) := by decide +kernel
theorem dL_law_236 : decode cL_law 236 = .ok (.invokevirtual 22, 3) := by decide +kernel
theorem dL_law_239 : decode cL_law 239 = .ok (.if_icmp .eq 505, 3) := by decide +kernel
theorem dL_law_242 : decode cL_law 242 = .ok (.iconst 0, 1) := by decide +kernel
theorem dL_law_243 : decode cL_law 243 = .ok (.ireturn, 1) := by decide +kernel
theorem dL_law_244 : decode cL_law 244 = .ok (.aload_n 1, 1) := by decide +kernel
theorem dL_law_245 : decode cL_law 245 = .ok (.aload_n 0, 1) := by decide +kernel
theorem dL_law_246 : decode cL_law 246 = .ok (.iload_n 3, 1) := by decide +kernel
theorem dL_law_247 : decode cL_law 247 = .ok (.iconst 1, 1) := by decide +kernel
theorem dL_law_248 : decode cL_law 248 = .ok (.iadd, 1) := by decide +kernel
theorem dL_law_249 : decode cL_law 249 = .ok (.iaload, 1) := by decide +kernel
theorem dL_law_250 : decode cL_law 250 = .ok (.aload_n 0, 1) := by decide +kernel
theorem dL_law_251 : decode cL_law 251 = .ok (.iload_n 3, 1) := by decide +kernel
theorem dL_law_252 : decode cL_law 252 = .ok (.iconst 2, 1) := by decide +kernel
theorem dL_law_253 : decode cL_law 253 = .ok (.iadd, 1) := by decide +kernel
theorem dL_law_254 : decode cL_law 254 = .ok (.iaload, 1) := by decide +kernel
theorem dL_law_255 : decode cL_law 255 = .ok (.aload_n 0, 1) := by decide +kernel
theorem dL_law_256 : decode cL_law 256 = .ok (.iload_n 3, 1) := by decide +kernel
theorem dL_law_257 : decode cL_law 257 = .ok (.iconst 3, 1) := by decide +kernel
theorem dL_law_258 : decode cL_law 258 = .ok (.iadd, 1) := by decide +kernel
theorem dL_law_259 : decode cL_law 259 = .ok (.iaload, 1) := by decide +kernel
theorem dL_law_260 : decode cL_law 260 = .ok (.aload_n 0, 1) := by decide +kernel
theorem dL_law_261 : decode cL_law 261 = .ok (.iload_n 3, 1) := by decide +kernel
theorem dL_law_262 : decode cL_law 262 = .ok (.iconst 4, 1) := by decide +kernel
theorem dL_law_263 : decode cL_law 263 = .ok (.iadd, 1) := by decide +kernel
theorem dL_law_264 : decode cL_law 264 = .ok (.iaload, 1) := by decide +kernel
theorem dL_law_265 : decode cL_law 265 = .ok (.ifCond .eq 7, 3) := by decide +kernel
theorem dL_law_268 : decode cL_law 268 = .ok (.iconst 1, 1) := by decide +kernel
theorem dL_law_269 : decode cL_law 269 = .ok (.goto 4, 3) := by decide +kernel
theorem dL_law_272 : decode cL_law 272 = .ok (.iconst 0, 1) := by decide +kernel
theorem dL_law_273 : decode cL_law 273 = .ok (.invokevirtual 23, 3) := by decide +kernel
theorem dL_law_276 : decode cL_law 276 = .ok (.aload_n 2, 1) := by decide +kernel
theorem dL_law_277 : decode cL_law 277 = .ok (.aload_n 0, 1) := by decide +kernel
theorem dL_law_278 : decode cL_law 278 = .ok (.iload_n 3, 1) := by decide +kernel
theorem dL_law_279 : decode cL_law 279 = .ok (.iconst 1, 1) := by decide +kernel
theorem dL_law_280 : decode cL_law 280 = .ok (.iadd, 1) := by decide +kernel
theorem dL_law_281 : decode cL_law 281 = .ok (.iaload, 1) := by decide +kernel
theorem dL_law_282 : decode cL_law 282 = .ok (.aload_n 0, 1) := by decide +kernel
theorem dL_law_283 : decode cL_law 283 = .ok (.iload_n 3, 1) := by decide +kernel
theorem dL_law_284 : decode cL_law 284 = .ok (.iconst 2, 1) := by decide +kernel
theorem dL_law_285 : decode cL_law 285 = .ok (.iadd, 1) := by decide +kernel
theorem dL_law_286 : decode cL_law 286 = .ok (.iaload, 1) := by decide +kernel
theorem dL_law_287 : decode cL_law 287 = .ok (.aload_n 0, 1) := by decide +kernel
theorem dL_law_288 : decode cL_law 288 = .ok (.iload_n 3, 1) := by decide +kernel
theorem dL_law_289 : decode cL_law 289 = .ok (.iconst 3, 1) := by decide +kernel
theorem dL_law_290 : decode cL_law 290 = .ok (.iadd, 1) := by decide +kernel
theorem dL_law_291 : decode cL_law 291 = .ok (.iaload, 1) := by decide +kernel
theorem dL_law_292 : decode cL_law 292 = .ok (.aload_n 0, 1) := by decide +kernel
theorem dL_law_293 : decode cL_law 293 = .ok (.iload_n 3, 1) := by decide +kernel
theorem dL_law_294 : decode cL_law 294 = .ok (.iconst 4, 1) := by decide +kernel
theorem dL_law_295 : decode cL_law 295 = .ok (.iadd, 1) := by decide +kernel
theorem dL_law_296 : decode cL_law 296 = .ok (.iaload, 1) := by decide +kernel
theorem dL_law_297 : decode cL_law 297 = .ok (.ifCond .eq 7, 3) := by decide +kernel
theorem dL_law_300 : decode cL_law 300 = .ok (.iconst 1, 1) := by decide +kernel
theorem dL_law_301 : decode cL_law 301 = .ok (.goto 4, 3) := by decide +kernel
theorem dL_law_304 : decode cL_law 304 = .ok (.iconst 0, 1) := by decide +kernel
theorem dL_law_305 : decode cL_law 305 = .ok (.invokevirtual 27, 3) := by decide +kernel
theorem dL_law_308 : decode cL_law 308 = .ok (.if_icmp .eq 436, 3) := by decide +kernel
theorem dL_law_311 : decode cL_law 311 = .ok (.iconst 0, 1) := by decide +kernel
theorem dL_law_312 : decode cL_law 312 = .ok (.ireturn, 1) := by decide +kernel
theorem dL_law_313 : decode cL_law 313 = .ok (.aload_n 1, 1) := by decide +kernel
theorem dL_law_314 : decode cL_law 314 = .ok (.aload_n 0, 1) := by decide +kernel
theorem dL_law_315 : decode cL_law 315 = .ok (.iload_n 3, 1) := by decide +kernel
theorem dL_law_316 : decode cL_law 316 = .ok (.iconst 1, 1) := by decide +kernel
theorem dL_law_317 : decode cL_law 317 = .ok (.iadd, 1) := by decide +kernel
theorem dL_law_318 : decode cL_law 318 = .ok (.iaload, 1) := by decide +kernel
theorem dL_law_319 : decode cL_law 319 = .ok (.aload_n 0, 1) := by decide +kernel
theorem dL_law_320 : decode cL_law 320 = .ok (.iload_n 3, 1) := by decide +kernel
theorem dL_law_321 : decode cL_law 321 = .ok (.iconst 2, 1) := by decide +kernel
theorem dL_law_322 : decode cL_law 322 = .ok (.iadd, 1) := by decide +kernel
theorem dL_law_323 : decode cL_law 323 = .ok (.iaload, 1) := by decide +kernel
theorem dL_law_324 : decode cL_law 324 = .ok (.invokevirtual 28, 3) := by decide +kernel
theorem dL_law_327 : decode cL_law 327 = .ok (.aload_n 2, 1) := by decide +kernel
theorem dL_law_328 : decode cL_law 328 = .ok (.aload_n 0, 1) := by decide +kernel
theorem dL_law_329 : decode cL_law 329 = .ok (.iload_n 3, 1) := by decide +kernel
theorem dL_law_330 : decode cL_law 330 = .ok (.iconst 1, 1) := by decide +kernel
theorem dL_law_331 : decode cL_law 331 = .ok (.iadd, 1) := by decide +kernel
theorem dL_law_332 : decode cL_law 332 = .ok (.iaload, 1) := by decide +kernel
theorem dL_law_333 : decode cL_law 333 = .ok (.aload_n 0, 1) := by decide +kernel
theorem dL_law_334 : decode cL_law 334 = .ok (.iload_n 3, 1) := by decide +kernel
theorem dL_law_335 : decode cL_law 335 = .ok (.iconst 2, 1) := by decide +kernel
theorem dL_law_336 : decode cL_law 336 = .ok (.iadd, 1) := by decide +kernel
theorem dL_law_337 : decode cL_law 337 = .ok (.iaload, 1) := by decide +kernel
theorem dL_law_338 : decode cL_law 338 = .ok (.invokevirtual 32, 3) := by decide +kernel
theorem dL_law_341 : decode cL_law 341 = .ok (.if_icmp .eq 403, 3) := by decide +kernel
theorem dL_law_344 : decode cL_law 344 = .ok (.iconst 0, 1) := by decide +kernel
theorem dL_law_345 : decode cL_law 345 = .ok (.ireturn, 1) := by decide +kernel
theorem dL_law_346 : decode cL_law 346 = .ok (.aload_n 1, 1) := by decide +kernel
theorem dL_law_347 : decode cL_law 347 = .ok (.aload_n 0, 1) := by decide +kernel
theorem dL_law_348 : decode cL_law 348 = .ok (.iload_n 3, 1) := by decide +kernel
theorem dL_law_349 : decode cL_law 349 = .ok (.iconst 1, 1) := by decide +kernel
theorem dL_law_350 : decode cL_law 350 = .ok (.iadd, 1) := by decide +kernel
theorem dL_law_351 : decode cL_law 351 = .ok (.iaload, 1) := by decide +kernel
theorem dL_law_352 : decode cL_law 352 = .ok (.aload_n 0, 1) := by decide +kernel
theorem dL_law_353 : decode cL_law 353 = .ok (.iload_n 3, 1) := by decide +kernel
theorem dL_law_354 : decode cL_law 354 = .ok (.iconst 2, 1) := by decide +kernel
theorem dL_law_355 : decode cL_law 355 = .ok (.iadd, 1) := by decide +kernel
theorem dL_law_356 : decode cL_law 356 = .ok (.iaload, 1) := by decide +kernel
theorem dL_law_357 : decode cL_law 357 = .ok (.aload_n 0, 1) := by decide +kernel
theorem dL_law_358 : decode cL_law 358 = .ok (.iload_n 3, 1) := by decide +kernel
theorem dL_law_359 : decode cL_law 359 = .ok (.iconst 3, 1) := by decide +kernel
theorem dL_law_360 : decode cL_law 360 = .ok (.iadd, 1) := by decide +kernel
theorem dL_law_361 : decode cL_law 361 = .ok (.iaload, 1) := by decide +kernel
theorem dL_law_362 : decode cL_law 362 = .ok (.aload_n 0, 1) := by decide +kernel
theorem dL_law_363 : decode cL_law 363 = .ok (.iload_n 3, 1) := by decide +kernel
theorem dL_law_364 : decode cL_law 364 = .ok (.iconst 4, 1) := by decide +kernel
theorem dL_law_365 : decode cL_law 365 = .ok (.iadd, 1) := by decide +kernel
theorem dL_law_366 : decode cL_law 366 = .ok (.iaload, 1) := by decide +kernel
theorem dL_law_367 : decode cL_law 367 = .ok (.aload_n 0, 1) := by decide +kernel
theorem dL_law_368 : decode cL_law 368 = .ok (.iload_n 3, 1) := by decide +kernel
theorem dL_law_369 : decode cL_law 369 = .ok (.iconst 5, 1) := by decide +kernel
theorem dL_law_370 : decode cL_law 370 = .ok (.iadd, 1) := by decide +kernel
theorem dL_law_371 : decode cL_law 371 = .ok (.iaload, 1) := by decide +kernel
theorem dL_law_372 : decode cL_law 372 = .ok (.invokevirtual 33, 3) := by decide +kernel
theorem dL_law_375 : decode cL_law 375 = .ok (.aload_n 2, 1) := by decide +kernel
theorem dL_law_376 : decode cL_law 376 = .ok (.aload_n 0, 1) := by decide +kernel
theorem dL_law_377 : decode cL_law 377 = .ok (.iload_n 3, 1) := by decide +kernel
theorem dL_law_378 : decode cL_law 378 = .ok (.iconst 1, 1) := by decide +kernel
theorem dL_law_379 : decode cL_law 379 = .ok (.iadd, 1) := by decide +kernel
theorem dL_law_380 : decode cL_law 380 = .ok (.iaload, 1) := by decide +kernel
theorem dL_law_381 : decode cL_law 381 = .ok (.aload_n 0, 1) := by decide +kernel
theorem dL_law_382 : decode cL_law 382 = .ok (.iload_n 3, 1) := by decide +kernel
theorem dL_law_383 : decode cL_law 383 = .ok (.iconst 2, 1) := by decide +kernel
theorem dL_law_384 : decode cL_law 384 = .ok (.iadd, 1) := by decide +kernel
theorem dL_law_385 : decode cL_law 385 = .ok (.iaload, 1) := by decide +kernel
theorem dL_law_386 : decode cL_law 386 = .ok (.aload_n 0, 1) := by decide +kernel
theorem dL_law_387 : decode cL_law 387 = .ok (.iload_n 3, 1) := by decide +kernel
theorem dL_law_388 : decode cL_law 388 = .ok (.iconst 3, 1) := by decide +kernel
theorem dL_law_389 : decode cL_law 389 = .ok (.iadd, 1) := by decide +kernel
theorem dL_law_390 : decode cL_law 390 = .ok (.iaload, 1) := by decide +kernel
theorem dL_law_391 : decode cL_law 391 = .ok (.aload_n 0, 1) := by decide +kernel
theorem dL_law_392 : decode cL_law 392 = .ok (.iload_n 3, 1) := by decide +kernel
theorem dL_law_393 : decode cL_law 393 = .ok (.iconst 4, 1) := by decide +kernel
theorem dL_law_394 : decode cL_law 394 = .ok (.iadd, 1) := by decide +kernel
theorem dL_law_395 : decode cL_law 395 = .ok (.iaload, 1) := by decide +kernel
theorem dL_law_396 : decode cL_law 396 = .ok (.aload_n 0, 1) := by decide +kernel
theorem dL_law_397 : decode cL_law 397 = .ok (.iload_n 3, 1) := by decide +kernel
theorem dL_law_398 : decode cL_law 398 = .ok (.iconst 5, 1) := by decide +kernel
theorem dL_law_399 : decode cL_law 399 = .ok (.iadd, 1) := by decide +kernel
theorem dL_law_400 : decode cL_law 400 = .ok (.iaload, 1) := by decide +kernel
theorem dL_law_401 : decode cL_law 401 = .ok (.invokevirtual 36, 3) := by decide +kernel
theorem dL_law_404 : decode cL_law 404 = .ok (.if_icmp .eq 340, 3) := by decide +kernel
theorem dL_law_407 : decode cL_law 407 = .ok (.iconst 0, 1) := by decide +kernel
theorem dL_law_408 : decode cL_law 408 = .ok (.ireturn, 1) := by decide +kernel
theorem dL_law_409 : decode cL_law 409 = .ok (.aload_n 1, 1) := by decide +kernel
theorem dL_law_410 : decode cL_law 410 = .ok (.invokevirtual 37, 3) := by decide +kernel
theorem dL_law_413 : decode cL_law 413 = .ok (.aload_n 2, 1) := by decide +kernel
theorem dL_law_414 : decode cL_law 414 = .ok (.invokevirtual 41, 3) := by decide +kernel
theorem dL_law_417 : decode cL_law 417 = .ok (.if_icmp .eq 327, 3) := by decide +kernel
theorem dL_law_420 : decode cL_law 420 = .ok (.iconst 0, 1) := by decide +kernel
theorem dL_law_421 : decode cL_law 421 = .ok (.ireturn, 1) := by decide +kernel
theorem dL_law_422 : decode cL_law 422 = .ok (.aload_n 1, 1) := by decide +kernel
theorem dL_law_423 : decode cL_law 423 = .ok (.aload_n 0, 1) := by decide +kernel
theorem dL_law_424 : decode cL_law 424 = .ok (.iload_n 3, 1) := by decide +kernel
theorem dL_law_425 : decode cL_law 425 = .ok (.iconst 1, 1) := by decide +kernel
theorem dL_law_426 : decode cL_law 426 = .ok (.iadd, 1) := by decide +kernel
theorem dL_law_427 : decode cL_law 427 = .ok (.iaload, 1) := by decide +kernel
theorem dL_law_428 : decode cL_law 428 = .ok (.aload_n 0, 1) := by decide +kernel
theorem dL_law_429 : decode cL_law 429 = .ok (.iload_n 3, 1) := by decide +kernel
theorem dL_law_430 : decode cL_law 430 = .ok (.iconst 2, 1) := by decide +kernel
theorem dL_law_431 : decode cL_law 431 = .ok (.iadd, 1) := by decide +kernel
theorem dL_law_432 : decode cL_law 432 = .ok (.iaload, 1) := by decide +kernel
theorem dL_law_433 : decode cL_law 433 = .ok (.invokevirtual 42, 3) := by decide +kernel
theorem dL_law_436 : decode cL_law 436 = .ok (.aload_n 2, 1) := by decide +kernel
theorem dL_law_437 : decode cL_law 437 = .ok (.aload_n 0, 1) := by decide +kernel
theorem dL_law_438 : decode cL_law 438 = .ok (.iload_n 3, 1) := by decide +kernel
theorem dL_law_439 : decode cL_law 439 = .ok (.iconst 1, 1) := by decide +kernel
theorem dL_law_440 : decode cL_law 440 = .ok (.iadd, 1) := by decide +kernel
theorem dL_law_441 : decode cL_law 441 = .ok (.iaload, 1) := by decide +kernel
theorem dL_law_442 : decode cL_law 442 = .ok (.aload_n 0, 1) := by decide +kernel
theorem dL_law_443 : decode cL_law 443 = .ok (.iload_n 3, 1) := by decide +kernel
theorem dL_law_444 : decode cL_law 444 = .ok (.iconst 2, 1) := by decide +kernel
theorem dL_law_445 : decode cL_law 445 = .ok (.iadd, 1) := by decide +kernel
theorem dL_law_446 : decode cL_law 446 = .ok (.iaload, 1) := by decide +kernel
theorem dL_law_447 : decode cL_law 447 = .ok (.invokevirtual 45, 3) := by decide +kernel
theorem dL_law_450 : decode cL_law 450 = .ok (.if_icmp .eq 294, 3) := by decide +kernel
theorem dL_law_453 : decode cL_law 453 = .ok (.iconst 0, 1) := by decide +kernel
theorem dL_law_454 : decode cL_law 454 = .ok (.ireturn, 1) := by decide +kernel
theorem dL_law_455 : decode cL_law 455 = .ok (.aload_n 1, 1) := by decide +kernel
theorem dL_law_456 : decode cL_law 456 = .ok (.invokevirtual 46, 3) := by decide +kernel
theorem dL_law_459 : decode cL_law 459 = .ok (.aload_n 2, 1) := by decide +kernel
theorem dL_law_460 : decode cL_law 460 = .ok (.invokevirtual 49, 3) := by decide +kernel
theorem dL_law_463 : decode cL_law 463 = .ok (.if_icmp .eq 281, 3) := by decide +kernel
theorem dL_law_466 : decode cL_law 466 = .ok (.iconst 0, 1) := by decide +kernel
theorem dL_law_467 : decode cL_law 467 = .ok (.ireturn, 1) := by decide +kernel
theorem dL_law_468 : decode cL_law 468 = .ok (.aload_n 1, 1) := by decide +kernel
theorem dL_law_469 : decode cL_law 469 = .ok (.aload_n 0, 1) := by decide +kernel
theorem dL_law_470 : decode cL_law 470 = .ok (.iload_n 3, 1) := by decide +kernel
theorem dL_law_471 : decode cL_law 471 = .ok (.iconst 1, 1) := by decide +kernel
theorem dL_law_472 : decode cL_law 472 = .ok (.iadd, 1) := by decide +kernel
theorem dL_law_473 : decode cL_law 473 = .ok (.iaload, 1) := by decide +kernel
theorem dL_law_474 : decode cL_law 474 = .ok (.aload_n 0, 1) := by decide +kernel
theorem dL_law_475 : decode cL_law 475 = .ok (.iload_n 3, 1) := by decide +kernel
theorem dL_law_476 : decode cL_law 476 = .ok (.iconst 2, 1) := by decide +kernel
theorem dL_law_477 : decode cL_law 477 = .ok (.iadd, 1) := by decide +kernel
theorem dL_law_478 : decode cL_law 478 = .ok (.iaload, 1) := by decide +kernel
theorem dL_law_479 : decode cL_law 479 = .ok (.invokevirtual 50, 3) := by decide +kernel
theorem dL_law_482 : decode cL_law 482 = .ok (.aload_n 2, 1) := by decide +kernel
theorem dL_law_483 : decode cL_law 483 = .ok (.aload_n 0, 1) := by decide +kernel
theorem dL_law_484 : decode cL_law 484 = .ok (.iload_n 3, 1) := by decide +kernel
theorem dL_law_485 : decode cL_law 485 = .ok (.iconst 1, 1) := by decide +kernel
theorem dL_law_486 : decode cL_law 486 = .ok (.iadd, 1) := by decide +kernel
theorem dL_law_487 : decode cL_law 487 = .ok (.iaload, 1) := by decide +kernel
theorem dL_law_488 : decode cL_law 488 = .ok (.aload_n 0, 1) := by decide +kernel
theorem dL_law_489 : decode cL_law 489 = .ok (.iload_n 3, 1) := by decide +kernel
theorem dL_law_490 : decode cL_law 490 = .ok (.iconst 2, 1) := by decide +kernel
theorem dL_law_491 : decode cL_law 491 = .ok (.iadd, 1) := by decide +kernel
theorem dL_law_492 : decode cL_law 492 = .ok (.iaload, 1) := by decide +kernel
theorem dL_law_493 : decode cL_law 493 = .ok (.invokevirtual 53, 3) := by decide +kernel
theorem dL_law_496 : decode cL_law 496 = .ok (.if_icmp .eq 248, 3) := by decide +kernel
theorem dL_law_499 : decode cL_law 499 = .ok (.iconst 0, 1) := by decide +kernel
theorem dL_law_500 : decode cL_law 500 = .ok (.ireturn, 1) := by decide +kernel
theorem dL_law_501 : decode cL_law 501 = .ok (.aload_n 1, 1) := by decide +kernel
theorem dL_law_502 : decode cL_law 502 = .ok (.invokevirtual 54, 3) := by decide +kernel
theorem dL_law_505 : decode cL_law 505 = .ok (.aload_n 2, 1) := by decide +kernel
theorem dL_law_506 : decode cL_law 506 = .ok (.invokevirtual 57, 3) := by decide +kernel
theorem dL_law_509 : decode cL_law 509 = .ok (.if_icmp .eq 235, 3) := by decide +kernel
theorem dL_law_512 : decode cL_law 512 = .ok (.iconst 0, 1) := by decide +kernel
theorem dL_law_513 : decode cL_law 513 = .ok (.ireturn, 1) := by decide +kernel
theorem dL_law_514 : decode cL_law 514 = .ok (.aload_n 1, 1) := by decide +kernel
theorem dL_law_515 : decode cL_law 515 = .ok (.aload_n 0, 1) := by decide +kernel
theorem dL_law_516 : decode cL_law 516 = .ok (.iload_n 3, 1) := by decide +kernel
theorem dL_law_517 : decode cL_law 517 = .ok (.iconst 1, 1) := by decide +kernel
theorem dL_law_518 : decode cL_law 518 = .ok (.iadd, 1) := by decide +kernel
theorem dL_law_519 : decode cL_law 519 = .ok (.iaload, 1) := by decide +kernel
theorem dL_law_520 : decode cL_law 520 = .ok (.aload_n 0, 1) := by decide +kernel
theorem dL_law_521 : decode cL_law 521 = .ok (.iload_n 3, 1) := by decide +kernel
theorem dL_law_522 : decode cL_law 522 = .ok (.iconst 2, 1) := by decide +kernel
theorem dL_law_523 : decode cL_law 523 = .ok (.iadd, 1) := by decide +kernel
theorem dL_law_524 : decode cL_law 524 = .ok (.iaload, 1) := by decide +kernel
theorem dL_law_525 : decode cL_law 525 = .ok (.invokevirtual 58, 3) := by decide +kernel
theorem dL_law_528 : decode cL_law 528 = .ok (.aload_n 2, 1) := by decide +kernel
theorem dL_law_529 : decode cL_law 529 = .ok (.aload_n 0, 1) := by decide +kernel
theorem dL_law_530 : decode cL_law 530 = .ok (.iload_n 3, 1) := by decide +kernel
theorem dL_law_531 : decode cL_law 531 = .ok (.iconst 1, 1) := by decide +kernel
theorem dL_law_532 : decode cL_law 532 = .ok (.iadd, 1) := by decide +kernel
theorem dL_law_533 : decode cL_law 533 = .ok (.iaload, 1) := by decide +kernel
theorem dL_law_534 : decode cL_law 534 = .ok (.aload_n 0, 1) := by decide +kernel
theorem dL_law_535 : decode cL_law 535 = .ok (.iload_n 3, 1) := by decide +kernel
theorem dL_law_536 : decode cL_law 536 = .ok (.iconst 2, 1) := by decide +kernel
theorem dL_law_537 : decode cL_law 537 = .ok (.iadd, 1) := by decide +kernel
theorem dL_law_538 : decode cL_law 538 = .ok (.iaload, 1) := by decide +kernel
theorem dL_law_539 : decode cL_law 539 = .ok (.invokevirtual 61, 3) := by decide +kernel
theorem dL_law_542 : decode cL_law 542 = .ok (.if_icmp .eq 202, 3) := by decide +kernel
theorem dL_law_545 : decode cL_law 545 = .ok (.iconst 0, 1) := by decide +kernel
theorem dL_law_546 : decode cL_law 546 = .ok (.ireturn, 1) := by decide +kernel
theorem dL_law_547 : decode cL_law 547 = .ok (.aload_n 1, 1) := by decide +kernel
theorem dL_law_548 : decode cL_law 548 = .ok (.aload_n 0, 1) := by decide +kernel
theorem dL_law_549 : decode cL_law 549 = .ok (.iload_n 3, 1) := by decide +kernel
theorem dL_law_550 : decode cL_law 550 = .ok (.iconst 1, 1) := by decide +kernel
theorem dL_law_551 : decode cL_law 551 = .ok (.iadd, 1) := by decide +kernel
theorem dL_law_552 : decode cL_law 552 = .ok (.iaload, 1) := by decide +kernel
theorem dL_law_553 : decode cL_law 553 = .ok (.aload_n 0, 1) := by decide +kernel
theorem dL_law_554 : decode cL_law 554 = .ok (.iload_n 3, 1) := by decide +kernel
theorem dL_law_555 : decode cL_law 555 = .ok (.iconst 2, 1) := by decide +kernel
theorem dL_law_556 : decode cL_law 556 = .ok (.iadd, 1) := by decide +kernel
theorem dL_law_557 : decode cL_law 557 = .ok (.iaload, 1) := by decide +kernel
theorem dL_law_558 : decode cL_law 558 = .ok (.invokevirtual 62, 3) := by decide +kernel
theorem dL_law_561 : decode cL_law 561 = .ok (.aload_n 2, 1) := by decide +kernel
theorem dL_law_562 : decode cL_law 562 = .ok (.aload_n 0, 1) := by decide +kernel
theorem dL_law_563 : decode cL_law 563 = .ok (.iload_n 3, 1) := by decide +kernel
theorem dL_law_564 : decode cL_law 564 = .ok (.iconst 1, 1) := by decide +kernel
theorem dL_law_565 : decode cL_law 565 = .ok (.iadd, 1) := by decide +kernel
theorem dL_law_566 : decode cL_law 566 = .ok (.iaload, 1) := by decide +kernel
theorem dL_law_567 : decode cL_law 567 = .ok (.aload_n 0, 1) := by decide +kernel
theorem dL_law_568 : decode cL_law 568 = .ok (.iload_n 3, 1) := by decide +kernel
theorem dL_law_569 : decode cL_law 569 = .ok (.iconst 2, 1) := by decide +kernel
theorem dL_law_570 : decode cL_law 570 = .ok (.iadd, 1) := by decide +kernel
theorem dL_law_571 : decode cL_law 571 = .ok (.iaload, 1) := by decide +kernel
theorem dL_law_572 : decode cL_law 572 = .ok (.invokevirtual 65, 3) := by decide +kernel
theorem dL_law_575 : decode cL_law 575 = .ok (.if_icmp .eq 169, 3) := by decide +kernel
theorem dL_law_578 : decode cL_law 578 = .ok (.iconst 0, 1) := by decide +kernel
theorem dL_law_579 : decode cL_law 579 = .ok (.ireturn, 1) := by decide +kernel
theorem dL_law_580 : decode cL_law 580 = .ok (.aload_n 1, 1) := by decide +kernel
theorem dL_law_581 : decode cL_law 581 = .ok (.aload_n 0, 1) := by decide +kernel
theorem dL_law_582 : decode cL_law 582 = .ok (.iload_n 3, 1) := by decide +kernel
theorem dL_law_583 : decode cL_law 583 = .ok (.iconst 1, 1) := by decide +kernel
theorem dL_law_584 : decode cL_law 584 = .ok (.iadd, 1) := by decide +kernel
theorem dL_law_585 : decode cL_law 585 = .ok (.iaload, 1) := by decide +kernel
theorem dL_law_586 : decode cL_law 586 = .ok (.aload_n 0, 1) := by decide +kernel
theorem dL_law_587 : decode cL_law 587 = .ok (.iload_n 3, 1) := by decide +kernel
theorem dL_law_588 : decode cL_law 588 = .ok (.iconst 2, 1) := by decide +kernel
theorem dL_law_589 : decode cL_law 589 = .ok (.iadd, 1) := by decide +kernel
theorem dL_law_590 : decode cL_law 590 = .ok (.iaload, 1) := by decide +kernel
theorem dL_law_591 : decode cL_law 591 = .ok (.invokevirtual 66, 3) := by decide +kernel
theorem dL_law_594 : decode cL_law 594 = .ok (.aload_n 2, 1) := by decide +kernel
theorem dL_law_595 : decode cL_law 595 = .ok (.aload_n 0, 1) := by decide +kernel
theorem dL_law_596 : decode cL_law 596 = .ok (.iload_n 3, 1) := by decide +kernel
theorem dL_law_597 : decode cL_law 597 = .ok (.iconst 1, 1) := by decide +kernel
theorem dL_law_598 : decode cL_law 598 = .ok (.iadd, 1) := by decide +kernel
theorem dL_law_599 : decode cL_law 599 = .ok (.iaload, 1) := by decide +kernel
theorem dL_law_600 : decode cL_law 600 = .ok (.aload_n 0, 1) := by decide +kernel
theorem dL_law_601 : decode cL_law 601 = .ok (.iload_n 3, 1) := by decide +kernel
theorem dL_law_602 : decode cL_law 602 = .ok (.iconst 2, 1) := by decide +kernel
theorem dL_law_603 : decode cL_law 603 = .ok (.iadd, 1) := by decide +kernel
theorem dL_law_604 : decode cL_law 604 = .ok (.iaload, 1) := by decide +kernel
theorem dL_law_605 : decode cL_law 605 = .ok (.invokevirtual 69, 3) := by decide +kernel
theorem dL_law_608 : decode cL_law 608 = .ok (.if_icmp .eq 136, 3) := by decide +kernel
theorem dL_law_611 : decode cL_law 611 = .ok (.iconst 0, 1) := by decide +kernel
theorem dL_law_612 : decode cL_law 612 = .ok (.ireturn, 1) := by decide +kernel
theorem dL_law_613 : decode cL_law 613 = .ok (.aload_n 1, 1) := by decide +kernel
theorem dL_law_614 : decode cL_law 614 = .ok (.aload_n 0, 1) := by decide +kernel
theorem dL_law_615 : decode cL_law 615 = .ok (.iload_n 3, 1) := by decide +kernel
theorem dL_law_616 : decode cL_law 616 = .ok (.iconst 1, 1) := by decide +kernel
theorem dL_law_617 : decode cL_law 617 = .ok (.iadd, 1) := by decide +kernel
theorem dL_law_618 : decode cL_law 618 = .ok (.iaload, 1) := by decide +kernel
theorem dL_law_619 : decode cL_law 619 = .ok (.invokevirtual 70, 3) := by decide +kernel
theorem dL_law_622 : decode cL_law 622 = .ok (.aload_n 2, 1) := by decide +kernel
theorem dL_law_623 : decode cL_law 623 = .ok (.aload_n 0, 1) := by decide +kernel
theorem dL_law_624 : decode cL_law 624 = .ok (.iload_n 3, 1) := by decide +kernel
theorem dL_law_625 : decode cL_law 625 = .ok (.iconst 1, 1) := by decide +kernel
theorem dL_law_626 : decode cL_law 626 = .ok (.iadd, 1) := by decide +kernel
theorem dL_law_627 : decode cL_law 627 = .ok (.iaload, 1) := by decide +kernel
theorem dL_law_628 : decode cL_law 628 = .ok (.invokevirtual 74, 3) := by decide +kernel
theorem dL_law_631 : decode cL_law 631 = .ok (.if_icmp .eq 113, 3) := by decide +kernel
theorem dL_law_634 : decode cL_law 634 = .ok (.iconst 0, 1) := by decide +kernel
theorem dL_law_635 : decode cL_law 635 = .ok (.ireturn, 1) := by decide +kernel
theorem dL_law_636 : decode cL_law 636 = .ok (.aload_n 1, 1) := by decide +kernel
theorem dL_law_637 : decode cL_law 637 = .ok (.invokevirtual 75, 3) := by decide +kernel
theorem dL_law_640 : decode cL_law 640 = .ok (.aload_n 2, 1) := by decide +kernel
theorem dL_law_641 : decode cL_law 641 = .ok (.invokevirtual 78, 3) := by decide +kernel
theorem dL_law_644 : decode cL_law 644 = .ok (.if_icmp .eq 100, 3) := by decide +kernel
theorem dL_law_647 : decode cL_law 647 = .ok (.iconst 0, 1) := by decide +kernel
theorem dL_law_648 : decode cL_law 648 = .ok (.ireturn, 1) := by decide +kernel
theorem dL_law_649 : decode cL_law 649 = .ok (.aload_n 1, 1) := by decide +kernel
theorem dL_law_650 : decode cL_law 650 = .ok (.invokevirtual 79, 3) := by decide +kernel
theorem dL_law_653 : decode cL_law 653 = .ok (.aload_n 2, 1) := by decide +kernel
theorem dL_law_654 : decode cL_law 654 = .ok (.invokevirtual 82, 3) := by decide +kernel
theorem dL_law_657 : decode cL_law 657 = .ok (.if_icmp .eq 87, 3) := by decide +kernel
theorem dL_law_660 : decode cL_law 660 = .ok (.iconst 0, 1) := by decide +kernel
theorem dL_law_661 : decode cL_law 661 = .ok (.ireturn, 1) := by decide +kernel
theorem dL_law_662 : decode cL_law 662 = .ok (.aload_n 1, 1) := by decide +kernel
theorem dL_law_663 : decode cL_law 663 = .ok (.aload_n 0, 1) := by decide +kernel
theorem dL_law_664 : decode cL_law 664 = .ok (.iload_n 3, 1) := by decide +kernel
theorem dL_law_665 : decode cL_law 665 = .ok (.iconst 1, 1) := by decide +kernel
theorem dL_law_666 : decode cL_law 666 = .ok (.iadd, 1) := by decide +kernel
theorem dL_law_667 : decode cL_law 667 = .ok (.iaload, 1) := by decide +kernel
theorem dL_law_668 : decode cL_law 668 = .ok (.aload_n 0, 1) := by decide +kernel
theorem dL_law_669 : decode cL_law 669 = .ok (.iload_n 3, 1) := by decide +kernel
theorem dL_law_670 : decode cL_law 670 = .ok (.iconst 2, 1) := by decide +kernel
theorem dL_law_671 : decode cL_law 671 = .ok (.iadd, 1) := by decide +kernel
theorem dL_law_672 : decode cL_law 672 = .ok (.iaload, 1) := by decide +kernel
theorem dL_law_673 : decode cL_law 673 = .ok (.invokevirtual 83, 3) := by decide +kernel
theorem dL_law_676 : decode cL_law 676 = .ok (.aload_n 2, 1) := by decide +kernel
theorem dL_law_677 : decode cL_law 677 = .ok (.aload_n 0, 1) := by decide +kernel
theorem dL_law_678 : decode cL_law 678 = .ok (.iload_n 3, 1) := by decide +kernel
theorem dL_law_679 : decode cL_law 679 = .ok (.iconst 1, 1) := by decide +kernel
theorem dL_law_680 : decode cL_law 680 = .ok (.iadd, 1) := by decide +kernel
theorem dL_law_681 : decode cL_law 681 = .ok (.iaload, 1) := by decide +kernel
theorem dL_law_682 : decode cL_law 682 = .ok (.aload_n 0, 1) := by decide +kernel
theorem dL_law_683 : decode cL_law 683 = .ok (.iload_n 3, 1) := by decide +kernel
theorem dL_law_684 : decode cL_law 684 = .ok (.iconst 2, 1) := by decide +kernel
theorem dL_law_685 : decode cL_law 685 = .ok (.iadd, 1) := by decide +kernel
theorem dL_law_686 : decode cL_law 686 = .ok (.iaload, 1) := by decide +kernel
theorem dL_law_687 : decode cL_law 687 = .ok (.invokevirtual 86, 3) := by decide +kernel
theorem dL_law_690 : decode cL_law 690 = .ok (.if_icmp .eq 54, 3) := by decide +kernel
theorem dL_law_693 : decode cL_law 693 = .ok (.iconst 0, 1) := by decide +kernel
theorem dL_law_694 : decode cL_law 694 = .ok (.ireturn, 1) := by decide +kernel
theorem dL_law_695 : decode cL_law 695 = .ok (.aload_n 1, 1) := by decide +kernel
theorem dL_law_696 : decode cL_law 696 = .ok (.aload_n 0, 1) := by decide +kernel
theorem dL_law_697 : decode cL_law 697 = .ok (.iload_n 3, 1) := by decide +kernel
theorem dL_law_698 : decode cL_law 698 = .ok (.iconst 1, 1) := by decide +kernel
theorem dL_law_699 : decode cL_law 699 = .ok (.iadd, 1) := by decide +kernel
theorem dL_law_700 : decode cL_law 700 = .ok (.iaload, 1) := by decide +kernel
theorem dL_law_701 : decode cL_law 701 = .ok (.invokevirtual 87, 3) := by decide +kernel
theorem dL_law_704 : decode cL_law 704 = .ok (.aload_n 2, 1) := by decide +kernel
theorem dL_law_705 : decode cL_law 705 = .ok (.aload_n 0, 1) := by decide +kernel
theorem dL_law_706 : decode cL_law 706 = .ok (.iload_n 3, 1) := by decide +kernel
theorem dL_law_707 : decode cL_law 707 = .ok (.iconst 1, 1) := by decide +kernel
theorem dL_law_708 : decode cL_law 708 = .ok (.iadd, 1) := by decide +kernel
theorem dL_law_709 : decode cL_law 709 = .ok (.iaload, 1) := by decide +kernel
theorem dL_law_710 : decode cL_law 710 = .ok (.invokevirtual 90, 3) := by decide +kernel
theorem dL_law_713 : decode cL_law 713 = .ok (.if_icmp .eq 31, 3) := by decide +kernel
theorem dL_law_716 : decode cL_law 716 = .ok (.iconst 0, 1) := by decide +kernel
theorem dL_law_717 : decode cL_law 717 = .ok (.ireturn, 1) := by decide +kernel
theorem dL_law_718 : decode cL_law 718 = .ok (.aload_n 1, 1) := by decide +kernel
theorem dL_law_719 : decode cL_law 719 = .ok (.invokevirtual 91, 3) := by decide +kernel
theorem dL_law_722 : decode cL_law 722 = .ok (.aload_n 2, 1) := by decide +kernel
theorem dL_law_723 : decode cL_law 723 = .ok (.invokevirtual 94, 3) := by decide +kernel
theorem dL_law_726 : decode cL_law 726 = .ok (.if_icmp .eq 18, 3) := by decide +kernel
theorem dL_law_729 : decode cL_law 729 = .ok (.iconst 0, 1) := by decide +kernel
theorem dL_law_730 : decode cL_law 730 = .ok (.ireturn, 1) := by decide +kernel
theorem dL_law_731 : decode cL_law 731 = .ok (.aload_n 1, 1) := by decide +kernel
theorem dL_law_732 : decode cL_law 732 = .ok (.invokevirtual 95, 3) := by decide +kernel
theorem dL_law_735 : decode cL_law 735 = .ok (.aload_n 2, 1) := by decide +kernel
theorem dL_law_736 : decode cL_law 736 = .ok (.invokevirtual 98, 3) := by decide +kernel
theorem dL_law_739 : decode cL_law 739 = .ok (.if_icmp .eq 5, 3) := by decide +kernel
theorem dL_law_742 : decode cL_law 742 = .ok (.iconst 0, 1) := by decide +kernel
theorem dL_law_743 : decode cL_law 743 = .ok (.ireturn, 1) := by decide +kernel
theorem dL_law_744 : decode cL_law 744 = .ok (.iinc 3 6, 3) := by decide +kernel
theorem dL_law_747 : decode cL_law 747 = .ok (.goto (-729), 3) := by decide +kernel
theorem dL_law_750 : decode cL_law 750 = .ok (.iconst 1, 1) := by decide +kernel
theorem dL_law_751 : decode cL_law 751 = .ok (.ireturn, 1) := by decide +kernel
end
section
/-! BASE: the mirrors' words, the context of a walk, and rows for calls. My own. -/
abbrev ST : Type := (Nat → Int32) × (Nat → Nat → Int32)
def sI (S : ST) (k : Nat) (v : Int32) : ST := (va_up S.1 k v, S.2)
def sG (S : ST) (k : Nat) (j : Int32) (v : Int32) : ST := (S.1, va_up S.2 k (upd (S.2 k) j.toNatClampNeg v))
def inB (i : Int32) (n : Nat) : Bool := decide (¬ (i < 0 ∨ n ≤ i.toNatClampNeg))
theorem inB_ok {i : Int32} {n : Nat} (h : inB i n = true) : vp_in i n := of_decide_eq_true h
def gd {α : Type} (b : Bool) (x : Option α) : Option α := match b with
  | true => x
  | false => none
theorem gd_ok {α : Type} {b : Bool} {x : Option α} {r : α} (h : gd b x = some r) : b = true ∧ x = some r := by
  cases b with
  | true => exact ⟨rfl, h⟩
  | false => exact Option.noConfusion (show (none : Option α) = some r from h)
theorem bd_ok {α β : Type} {x : Option α} {f : α → Option β} {r : β} (h : x.bind f = some r) : ∃ a, x = some a ∧ f a = some r := by
  cases x with
  | none => exact Option.noConfusion (show (none : Option β) = some r from h)
  | some a => exact ⟨a, rfl, h⟩
/-- a loop: n turns of F at the most -/
def LP {κ : Type} (z : κ) (F : κ → κ) : Nat → κ
  | 0 => z
  | n + 1 => F (LP z F n)
def FU : Nat := 100000
/-- a boolean that fits -/
def zB (v : Int32) : Bool := decide (v = 0 ∨ v = 1)
theorem zB_ok {v : Int32} (h : zB v = true) : narrow .boolean (.int v) = .int v ∧ fits .boolean (.int v) = true := by
  rcases of_decide_eq_true h with rfl | rfl <;> exact ⟨rfl, rfl⟩
abbrev TYS (cI cZ : ClassId) : List (ClassId × FieldType) := [(cI, .int), (cZ, .boolean)]
def AC (n : Nat) (a : Nat → Nat) (sz : Nat) : Nat → Prop := fun q => (∃ k, k < n ∧ q = a k) ∨ sz ≤ q
def AP (n : Nat) (a : Nat → Nat) : Prop := ∀ i j, i < n → j < n → a i = a j → i = j
theorem AC_mono {n : Nat} {a : Nat → Nat} {s1 s2 : Nat} (h : s1 ≤ s2) {q : Nat} (hq : AC n a s2 q) : AC n a s1 q := hq.elim Or.inl (fun g => Or.inr (Nat.le_trans h g))
def NW (U : State) : Prop := va_Nw (.methodLinkNest "CuttingRules$BarList" 72 yX6_within "CuttingRules") U ∧ va_Nw (.methodLinkNest "CuttingRules$Sheet" 34 yX6_within "CuttingRules") U ∧ va_Nw (.methodLinkNest "CuttingRules$Worths" 54 yX6_within "CuttingRules") U
theorem NW_same {u U : State} (h : u.vm = U.vm) (q : NW u) : NW U := ⟨va_Nw.same rfl h q.1, va_Nw.same rfl h q.2.1, va_Nw.same rfl h q.2.2⟩
theorem NW_warm {s U : State} (hW : s.WarmedH U.vm) (q : NW s) : NW U := ⟨va_Nw.warmM hW q.1, va_Nw.warmM hW q.2.1, va_Nw.warmM hW q.2.2⟩
/-- what holds all along a walk -/
def CX (p : Program) (m : MethodId) (c : Code) (cc : ByteArray) (s : State) (args : Array Value) (Ts : List Cond) (own : String) : Prop :=
  p.tables.exec = Jvm.exec ∧ c.code = cc ∧ (∀ w ∈ Ts, w.before args s = true) ∧ s.vm.findClass own = some m.cls
def PreR (wf : va_W) (D : va_G) (cI cZ : ClassId) (U : State) : Prop := va_P D vwCl wf U.heap ∧ va_K D vwCl (TYS cI cZ) U ∧ NW U
def PreW (wf : va_W) (D : va_G) (cI cZ : ClassId) (sz : Nat) (U : State) : Prop := U.heap.size = sz ∧ va_P D vwCl wf U.heap ∧ va_K D vwCl (TYS cI cZ) U ∧ NW U
def PostW (wf : ST → va_W) (D : va_G) (cI cZ : ClassId) (T : ST) (t : State) : Prop := va_P D vwCl (wf T) t.heap ∧ va_K D vwCl (TYS cI cZ) t
theorem FB_T (av : List Value) : FrameBlind (va_Pc av (fun _ => True)) := fun _ _ _ _ q => q
theorem FB_R (av : List Value) (wf : va_W) (D : va_G) (cI cZ : ClassId) : FrameBlind (va_Pc av (PreR wf D cI cZ)) := fun a U g mk q => ⟨q.1, q.2.1, va_K.moved (u := U) (U := U.calling g mk a) (Vm.Alike.refl U.vm) q.2.2.1, NW_same (u := U) (U := U.calling g mk a) rfl q.2.2.2⟩
theorem FB_W (av : List Value) (wf : va_W) (D : va_G) (cI cZ : ClassId) (sz : Nat) : FrameBlind (va_Pc av (PreW wf D cI cZ sz)) := fun a U g mk q => ⟨q.1, q.2.1, q.2.2.1, va_K.moved (u := U) (U := U.calling g mk a) (Vm.Alike.refl U.vm) q.2.2.2.1, NW_same (u := U) (U := U.calling g mk a) rfl q.2.2.2.2⟩
/-- a method's walk from its entry -/
theorem metB {l : Launch} {y : MethodName} {ws ws' : List Cond} {rm : Room} {av : List Value} {Bq : State → Prop} {Qc : Array Value → State → Outcome → State → Prop} {mc ms : Nat} {free : Addr → Prop} {cc : ByteArray} {maxL : Nat} {ret : Option FieldType} (hy : plainName y.cls = true) (hw : ws = Cond.code y cc maxL ret :: ws') (hle : (lg_sl av).length ≤ maxL)
    (body : ∀ p e s m below meth c ls, CX p m c cc s av.toArray ws y.cls → c.maxLocals = maxL → meth.sig.returnType = ret → meth.locks = false → (y.name = "<init>" → meth.name = "<init>") → Bq s → lv_has ls maxL (lv_args 0 av) →
      W p l e rm s m av.toArray below meth c s.heap [] 0 0 (MQ below Qc av.toArray s mc ms free) (F0 m 0 ls [])) : Met l y ws rm (va_Pc av Bq) Qc mc ms free := by
  refine Met.ofW (cc := cc) (maxL := maxL) (ret := ret) hy hw ?_
  intro p e s m args below meth c s₁ B hml hv
  obtain ⟨rfl, hv⟩ := hv
  have hl := lv_entry av (n := maxL) hle
  rw [lg_entry_eq]
  exact body p e s m below meth c _ ⟨B.exec, B.bytes, atoms_spec (ws := ws) B.pre, findClass_of_methodNamed B.named⟩ hml B.returns B.notSynchronized (fun h => by rw [← h]; exact (name_of_methodNamed B.named B.method).1) hv hl
section CALLS
variable {p : Program} {l : Launch} {e : Env} {R : Room} {s : State} {m : MethodId} {args : Array Value} {below : List Frame} {meth : Method} {c : Code} {H : Heap} {locs : List Loc} {cells slots : Nat} {Q : State → Prop}
variable {Ts ws : List Cond} {cc bytes : ByteArray} {nL maxL index n pc : Nat} {own C host : String} {y : MethodName} {ret : Option FieldType} {rm : Room} {b : Addr} {As rest st0 : List Value} {ls : Array Slot} {D : va_G} {cI cZ : ClassId}
theorem callRV {wf : va_W} {res : Int32} (X : CX p m c cc s args Ts own) (hK : va_K D vwCl (TYS cI cZ) s) (hN : NW s) (hml : c.maxLocals = nL) (hP : va_P D vwCl wf H) (hsz : ls.size = nL)
    (hM : Met l y ws rm (va_Pc (Value.ref b :: As) (PreR wf D cI cZ)) (vp_Si (fun r => r = res)) 0 0 (fun _ => False)) (cw : CallW R s args own C index y bytes maxL ret ws rm 0 0 n) (hrec : ∃ cell : Cell, H[b]? = some cell ∧ cell.vm.isStatics = false ∧ s.vm.findClass C = some cell.cls)
    (hn : As.length = n) (hst : st0 = As.reverse ++ .ref b :: rest) (hroom : (rest.map fun v => v.category).sum ≤ 8) (hdg : decode cc pc = .ok (.invokevirtual index, 3)) (hf : cells ≤ R.cells ∧ slots ≤ R.slots)
    (kk : W p l e R s m args below meth c H locs cells slots Q (F0 m (pc + 3) ls (.int res :: rest))) : W p l e R s m args below meth c H locs cells slots Q (F0 m pc ls st0) := by
  subst hst
  refine vp_callSi (W.runV (As := As) (rest := rest) ⟨X.1, X.2.1, hml, X.2.2.2, X.2.2.1⟩ hM cw ⟨FB_R _ wf D cI cZ, hrec, fun U hU hW => ⟨rfl, by rw [hU]; exact hP, va_K.moved hW.alike hK, NW_warm hW hN⟩⟩ rfl hn hsz rfl (lv_room hroom) hdg ⟨hf.1, hf.2⟩) (fun r er => ?_)
  rw [er]
  exact kk
theorem callRS {res : Int32} (X : CX p m c cc s args Ts own) (hml : c.maxLocals = nL) (hsz : ls.size = nL)
    (hM : Met l y ws rm (va_Pc As (fun _ => True)) (vp_Si (fun r => r = res)) 0 0 (fun _ => False)) (cw : CallB R s args own index y bytes maxL ret ws rm 0 0 n ∧ (Cond.static y).before args s = true)
    (hn : As.length = n) (hst : st0 = As.reverse ++ rest) (hroom : (rest.map fun v => v.category).sum ≤ 8) (hdg : decode cc pc = .ok (.invokestatic index, 3)) (hf : cells ≤ R.cells ∧ slots ≤ R.slots)
    (kk : W p l e R s m args below meth c H locs cells slots Q (F0 m (pc + 3) ls (.int res :: rest))) : W p l e R s m args below meth c H locs cells slots Q (F0 m pc ls st0) := by
  subst hst
  refine vp_callSi (W.runS (As := As) (rest := rest) ⟨X.1, X.2.1, hml, X.2.2.2, X.2.2.1⟩ hM cw ⟨FB_T _, fun U hU hW => ⟨rfl, trivial⟩⟩ rfl hn hsz rfl (lv_room hroom) hdg ⟨hf.1, hf.2⟩) (fun r er => ?_)
  rw [er]
  exact kk
theorem callRN {res : Int32} (X : CX p m c cc s args Ts own) (hml : c.maxLocals = nL) (hsz : ls.size = nL)
    (hM : Met l y ws rm (va_Pc As (fun _ => True)) (vp_Si (fun r => r = res)) 0 0 (fun _ => False)) (cw : va_CN R s args own index y host bytes maxL ret ws rm 0 0 n ∧ (Cond.static y).before args s = true ∧ True)
    (hn : As.length = n) (hst : st0 = As.reverse ++ rest) (hroom : (rest.map fun v => v.category).sum ≤ 8) (hdg : decode cc pc = .ok (.invokestatic index, 3)) (hf : cells ≤ R.cells ∧ slots ≤ R.slots)
    (kk : W p l e R s m args below meth c H locs cells slots Q (F0 m (pc + 3) ls (.int res :: rest))) : W p l e R s m args below meth c H locs cells slots Q (F0 m pc ls st0) := by
  subst hst
  refine vp_callSi (va_Run.run (va_runSN (As := As) (rest := rest) ⟨X.1, X.2.1, hml, X.2.2.2, X.2.2.1⟩ hM cw ⟨FB_T _, fun U hU hW => ⟨rfl, trivial⟩⟩ rfl hn hsz rfl (lv_room hroom) hdg ⟨hf.1, hf.2⟩)) (fun r er => ?_)
  rw [er]
  exact kk
theorem callWV {wf : ST → va_W} {S res : ST} {N : Nat} {a : Nat → Nat} {H0 : Heap} (X : CX p m c cc s args Ts own) (hK : va_K D vwCl (TYS cI cZ) s) (hN : NW s) (hml : c.maxLocals = nL) (hP : va_P D vwCl (wf S) H) (hS : va_S (AC N a H0.size) H0 H locs) (hsz : ls.size = nL)
    (hM : Met l y ws rm (va_Pc (Value.ref b :: As) (PreW (wf S) D cI cZ H.size)) (va_Qv (fun T : ST => T = res) (PostW wf D cI cZ) (AC N a H.size)) 0 0 (AC N a H.size)) (cw : CallW R s args own C index y bytes maxL ret ws rm 0 0 n) (hrec : ∃ cell : Cell, H[b]? = some cell ∧ cell.vm.isStatics = false ∧ s.vm.findClass C = some cell.cls)
    (hn : As.length = n) (hst : st0 = As.reverse ++ .ref b :: rest) (hroom : (rest.map fun v => v.category).sum ≤ 8) (hdg : decode cc pc = .ok (.invokevirtual index, 3)) (hf : cells ≤ R.cells ∧ slots ≤ R.slots)
    (kk : ∀ (H1 : Heap) (locs1 : List Loc), va_P D vwCl (wf res) H1 → va_S (AC N a H0.size) H0 H1 locs1 → W p l e R s m args below meth c H1 locs1 cells slots Q (F0 m (pc + 3) ls rest)) : W p l e R s m args below meth c H locs cells slots Q (F0 m pc ls st0) := by
  subst hst
  refine va_callv (va_runV (As := As) (rest := rest) ⟨X.1, X.2.1, hml, X.2.2.2, X.2.2.1⟩ hM cw ⟨FB_W _ (wf S) D cI cZ H.size, hrec, fun U hU hW => ⟨rfl, by rw [hU], by rw [hU]; exact hP, va_K.moved hW.alike hK, NW_warm hW hN⟩⟩ rfl hn hsz rfl (lv_room hroom) hdg ⟨hf.1, hf.2⟩) hS (fun q _ h => AC_mono hS.1 h) (fun q h => AC_mono hS.1 h) (fun u t H1 locs1 ht hvm hw hB hz1 hk1 hS1 => ?_)
  subst hw
  exact kk H1 locs1 (by rw [← ht]; exact hB.1) hS1
theorem callWI {wf : ST → va_W} {S : ST} {res : Int32 × ST} {N : Nat} {a : Nat → Nat} {H0 : Heap} (X : CX p m c cc s args Ts own) (hK : va_K D vwCl (TYS cI cZ) s) (hN : NW s) (hml : c.maxLocals = nL) (hP : va_P D vwCl (wf S) H) (hS : va_S (AC N a H0.size) H0 H locs) (hsz : ls.size = nL)
    (hM : Met l y ws rm (va_Pc (Value.ref b :: As) (PreW (wf S) D cI cZ H.size)) (va_Qi (fun (r : Int32) (T : ST) => (r, T) = res) (PostW wf D cI cZ) (AC N a H.size)) 0 0 (AC N a H.size)) (cw : CallW R s args own C index y bytes maxL ret ws rm 0 0 n) (hrec : ∃ cell : Cell, H[b]? = some cell ∧ cell.vm.isStatics = false ∧ s.vm.findClass C = some cell.cls)
    (hn : As.length = n) (hst : st0 = As.reverse ++ .ref b :: rest) (hroom : (rest.map fun v => v.category).sum ≤ 8) (hdg : decode cc pc = .ok (.invokevirtual index, 3)) (hf : cells ≤ R.cells ∧ slots ≤ R.slots)
    (kk : ∀ (H1 : Heap) (locs1 : List Loc), va_P D vwCl (wf res.2) H1 → va_S (AC N a H0.size) H0 H1 locs1 → W p l e R s m args below meth c H1 locs1 cells slots Q (F0 m (pc + 3) ls (.int res.1 :: rest))) : W p l e R s m args below meth c H locs cells slots Q (F0 m pc ls st0) := by
  subst hst
  refine va_calli (va_runV (As := As) (rest := rest) ⟨X.1, X.2.1, hml, X.2.2.2, X.2.2.1⟩ hM cw ⟨FB_W _ (wf S) D cI cZ H.size, hrec, fun U hU hW => ⟨rfl, by rw [hU], by rw [hU]; exact hP, va_K.moved hW.alike hK, NW_warm hW hN⟩⟩ rfl hn hsz rfl (lv_room hroom) hdg ⟨hf.1, hf.2⟩) hS (fun q _ h => AC_mono hS.1 h) (fun q h => AC_mono hS.1 h) (fun r u t H1 locs1 ht hvm hw hB hz1 hk1 hS1 => ?_)
  subst hw
  exact kk H1 locs1 (by rw [← ht]; exact hB.1) hS1
theorem callWS {wf : ST → va_W} {S res : ST} {N : Nat} {a : Nat → Nat} {H0 : Heap} (X : CX p m c cc s args Ts own) (hK : va_K D vwCl (TYS cI cZ) s) (hN : NW s) (hml : c.maxLocals = nL) (hP : va_P D vwCl (wf S) H) (hS : va_S (AC N a H0.size) H0 H locs) (hsz : ls.size = nL)
    (hM : Met l y ws rm (va_Pc As (PreW (wf S) D cI cZ H.size)) (va_Qv (fun T : ST => T = res) (PostW wf D cI cZ) (AC N a H.size)) 0 0 (AC N a H.size)) (cw : CallB R s args own index y bytes maxL ret ws rm 0 0 n ∧ (Cond.static y).before args s = true)
    (hn : As.length = n) (hst : st0 = As.reverse ++ rest) (hroom : (rest.map fun v => v.category).sum ≤ 8) (hdg : decode cc pc = .ok (.invokestatic index, 3)) (hf : cells ≤ R.cells ∧ slots ≤ R.slots)
    (kk : ∀ (H1 : Heap) (locs1 : List Loc), va_P D vwCl (wf res) H1 → va_S (AC N a H0.size) H0 H1 locs1 → W p l e R s m args below meth c H1 locs1 cells slots Q (F0 m (pc + 3) ls rest)) : W p l e R s m args below meth c H locs cells slots Q (F0 m pc ls st0) := by
  subst hst
  refine va_callv (va_runS (As := As) (rest := rest) ⟨X.1, X.2.1, hml, X.2.2.2, X.2.2.1⟩ hM cw ⟨FB_W _ (wf S) D cI cZ H.size, fun U hU hW => ⟨rfl, by rw [hU], by rw [hU]; exact hP, va_K.moved hW.alike hK, NW_warm hW hN⟩⟩ rfl hn hsz rfl (lv_room hroom) hdg ⟨hf.1, hf.2⟩) hS (fun q _ h => AC_mono hS.1 h) (fun q h => AC_mono hS.1 h) (fun u t H1 locs1 ht hvm hw hB hz1 hk1 hS1 => ?_)
  subst hw
  exact kk H1 locs1 (by rw [← ht]; exact hB.1) hS1
/-- the ends of a walk -/
theorem endR {v res : Int32} {ty : FieldType} (X : CX p m c cc s args Ts own) (hr : meth.sig.returnType = some ty) (hn : narrow ty (.int v) = .int v) (hlocks : meth.locks = false) (hm : some v = some res) (hdg : decode cc pc = .ok (.ireturn, 1)) : W p l e R s m args below meth c s.heap [] cells slots (MQ below (vp_Si (fun r => r = res)) args s cells slots (fun _ => False)) (F0 m pc ls [.int v]) :=
  W.zret X.1 X.2.1 hr hn (fun t ht hW => ⟨v, rfl, Option.some.inj hm, ht⟩) (fun _ h => absurd h List.not_mem_nil) hdg hlocks
theorem endI {v : Int32} {S : ST} {res : Int32 × ST} {ty : FieldType} {wf : ST → va_W} {A : Nat → Prop} (X : CX p m c cc s args Ts own) (hK : va_K D vwCl (TYS cI cZ) s) (hr : meth.sig.returnType = some ty) (hn : narrow ty (.int v) = .int v) (hlocks : meth.locks = false) (hm : some (v, S) = some res) (hP : va_P D vwCl (wf S) H) (hS : va_S A s.heap H locs) (hdg : decode cc pc = .ok (.ireturn, 1)) : W p l e R s m args below meth c H locs cells slots (MQ below (va_Qi (fun (r : Int32) (T : ST) => (r, T) = res) (PostW wf D cI cZ) A) args s cells slots A) (F0 m pc ls [.int v]) :=
  W.zret X.1 X.2.1 hr hn (fun t ht hW => ⟨⟨v, S, rfl, Option.some.inj hm, by rw [ht]; exact hP, va_K.moved hW.alike hK⟩, hS.F ht⟩) hS.2.2 hdg hlocks
theorem endV {S res : ST} {wf : ST → va_W} {A : Nat → Prop} (X : CX p m c cc s args Ts own) (hK : va_K D vwCl (TYS cI cZ) s) (hr : meth.sig.returnType = none) (hlocks : meth.locks = false) (hm : some S = some res) (hP : va_P D vwCl (wf S) H) (hS : va_S A s.heap H locs) (hdg : decode cc pc = .ok (.return_, 1)) : W p l e R s m args below meth c H locs cells slots (MQ below (va_Qv (fun T : ST => T = res) (PostW wf D cI cZ) A) args s cells slots A) (F0 m pc ls []) :=
  W.vret X.1 X.2.1 hr (fun t ht hW => ⟨⟨S, rfl, Option.some.inj hm, by rw [ht]; exact hP, va_K.moved hW.alike hK⟩, hS.F ht⟩) hS.2.2 hdg hlocks
end CALLS
end
section
theorem zz_last : True := trivial
end
