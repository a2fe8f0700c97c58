/-! MIRRORS: what each method does, as a function. By walk.py. -/
def mX6_within (p0 : Int32) (p1 : Int32) (p2 : Int32) : Option (Int32) :=
  (if p0 < p1 then some (0 : Int32) else (if p2 < p0 then some (0 : Int32) else some (1 : Int32)))
def mX4_partsWidth (S : ST) (p1 : Int32) : Option (Int32) :=
  (if ((((S.1 4) + p1) - (1 : Int32)) &&& (1 : Int32)) = 0 then some (1 : Int32) else some (0 : Int32))
def mX4_lastCut_J13 (S : ST) (p1 : Int32) (p2 : Int32) (p3 : Int32) (t0_13 : Int32) : Option (Int32) :=
  some ((t0_13 - (S.1 2)) - (1 : Int32))
def mX4_lastCut (S : ST) (p1 : Int32) (p2 : Int32) (p3 : Int32) : Option (Int32) :=
  (mX4_partsWidth S p3).bind (fun r1 => (if r1 = 0 then mX4_lastCut_J13  S p1 p2 p3 p2 else mX4_lastCut_J13  S p1 p2 p3 p1))
def mX4_isClean_X3  (S : ST) (p1 : Int32) (p2 : Int32) (p3 : Int32) (p4 : Int32) (v5_3 : Int32) : Option (Int32) :=
  some (1 : Int32)
def mX4_isClean_B3 (k x : Int32 → Option (Int32)) (S : ST) (p1 : Int32) (p2 : Int32) (p3 : Int32) (p4 : Int32) (v5_3 : Int32) : Option (Int32) :=
  (if (S.1 5) ≤ v5_3 then x v5_3 else (if (6 : Int32) ≤ v5_3 then x v5_3 else gd (inB ((v5_3 * (4 : Int32)) + (2 : Int32)) 24) ((if (S.2 0 ((v5_3 * (4 : Int32)) + (2 : Int32)).toNatClampNeg) ≤ p1 then k (v5_3 + (1 : Int32)) else gd (inB (v5_3 * (4 : Int32)) 24) ((if (p1 + p3) ≤ (S.2 0 (v5_3 * (4 : Int32)).toNatClampNeg) then k (v5_3 + (1 : Int32)) else gd (inB ((v5_3 * (4 : Int32)) + (3 : Int32)) 24) ((if (S.2 0 ((v5_3 * (4 : Int32)) + (3 : Int32)).toNatClampNeg) ≤ p2 then k (v5_3 + (1 : Int32)) else gd (inB ((v5_3 * (4 : Int32)) + (1 : Int32)) 24) ((if (p2 + p4) ≤ (S.2 0 ((v5_3 * (4 : Int32)) + (1 : Int32)).toNatClampNeg) then k (v5_3 + (1 : Int32)) else some (0 : Int32)))))))))))
def mX4_isClean (S : ST) (p1 : Int32) (p2 : Int32) (p3 : Int32) (p4 : Int32) : Option (Int32) :=
  LPf (κ := Int32 → Option (Int32)) (fun _ => none) (fun kk => mX4_isClean_B3 kk (mX4_isClean_X3  S p1 p2 p3 p4) S p1 p2 p3 p4) FU (0 : Int32)
def mX4_become (S : ST) (p1 : Int32) (p2 : Int32) (p3 : Int32) (p4 : Int32) (p5 : Int32) : Option (ST) :=
  some (sI (sI (sI (sI (sI (sI S 0 p1) 1 p2) 2 p3) 3 p4) 4 p5) 5 (0 : Int32))
def mX4_holds (S : ST) (p1 : Int32) (p2 : Int32) (p3 : Int32) (p4 : Int32) : Option (Int32) :=
  (mX6_within p1 (0 : Int32) ((S.1 0) - (1 : Int32))).bind (fun r1 => (if r1 = 0 then some (0 : Int32) else (mX6_within p2 (0 : Int32) ((S.1 1) - (1 : Int32))).bind (fun r2 => (if r2 = 0 then some (0 : Int32) else (mX6_within p3 (1 : Int32) ((S.1 0) - p1)).bind (fun r3 => (if r3 = 0 then some (0 : Int32) else (mX6_within p4 (1 : Int32) ((S.1 1) - p2)).bind (fun r4 => (if r4 = 0 then some (0 : Int32) else some (1 : Int32)))))))))
def mX4_spoil (S : ST) (p1 : Int32) (p2 : Int32) (p3 : Int32) (p4 : Int32) : Option (Int32 × ST) :=
  (if (S.1 5) < (6 : Int32) then gd (inB ((S.1 5) * (4 : Int32)) 24) (gd (inB (((S.1 5) * (4 : Int32)) + (1 : Int32)) 24) (gd (inB (((S.1 5) * (4 : Int32)) + (2 : Int32)) 24) (gd (inB (((S.1 5) * (4 : Int32)) + (3 : Int32)) 24) (some ((1 : Int32), (sI (sG (sG (sG (sG S 0 ((S.1 5) * (4 : Int32)) p1) 0 (((S.1 5) * (4 : Int32)) + (1 : Int32)) p2) 0 (((S.1 5) * (4 : Int32)) + (2 : Int32)) (p1 + p3)) 0 (((S.1 5) * (4 : Int32)) + (3 : Int32)) (p2 + p4)) 5 ((S.1 5) + (1 : Int32)))))))) else some ((0 : Int32), S))
def mX1_add (S : ST) (p1 : Int32) (p2 : Int32) (p3 : Int32) (p4 : Int32) : Option (Int32 × ST) :=
  (if (S.1 6) < (8 : Int32) then gd (inB (S.1 6) 8) (gd (inB (S.1 6) 8) (gd (inB (S.1 6) 8) (gd (inB (S.1 6) 8) (some ((((S.1 6) + (1 : Int32)) - (1 : Int32)), (sI (sG (sG (sG (sG S 1 (S.1 6) p1) 2 (S.1 6) p2) 3 (S.1 6) p3) 4 (S.1 6) (vp_nar .boolean p4)) 6 ((S.1 6) + (1 : Int32)))))))) else some ((-4 : Int32), S))
def mX1_lies (S : ST) (p1 : Int32) (p2 : Int32) (p3 : Int32) : Option (Int32) :=
  gd (inB p1 8) ((if (S.2 1 p1.toNatClampNeg) = p2 then gd (inB p1 8) ((if (S.2 2 p1.toNatClampNeg) = p3 then some (1 : Int32) else some (0 : Int32))) else some (0 : Int32)))
def mX1_liesTurned (S : ST) (p1 : Int32) (p2 : Int32) (p3 : Int32) : Option (Int32) :=
  gd (inB p1 8) ((if (S.2 4 p1.toNatClampNeg) = 0 then some (0 : Int32) else gd (inB p1 8) ((if (S.2 1 p1.toNatClampNeg) = p3 then gd (inB p1 8) ((if (S.2 2 p1.toNatClampNeg) = p2 then some (1 : Int32) else some (0 : Int32))) else some (0 : Int32)))))
def mX1_mostValue_X5  (S : ST) (p1 : Int32) (p2 : Int32) (v3_5 : Int32) (v4_5 : Int32) : Option (Int32) :=
  some v3_5
def mX1_mostValue_B5 (k x : Int32 → Int32 → Option (Int32)) (S : ST) (p1 : Int32) (p2 : Int32) (v3_5 : Int32) (v4_5 : Int32) : Option (Int32) :=
  (if (S.1 6) ≤ v4_5 then x v3_5 v4_5 else (if (8 : Int32) ≤ v4_5 then x v3_5 v4_5 else (mX1_lies S v4_5 p1 p2).bind (fun r1 => (if r1 = 0 then (mX1_liesTurned S v4_5 p1 p2).bind (fun r2 => (if r2 = 0 then k v3_5 (v4_5 + (1 : Int32)) else gd (inB v4_5 8) (k (if v3_5 < (S.2 3 v4_5.toNatClampNeg) then (S.2 3 v4_5.toNatClampNeg) else v3_5) (v4_5 + (1 : Int32))))) else gd (inB v4_5 8) (k (if v3_5 < (S.2 3 v4_5.toNatClampNeg) then (S.2 3 v4_5.toNatClampNeg) else v3_5) (v4_5 + (1 : Int32)))))))
def mX1_mostValue (S : ST) (p1 : Int32) (p2 : Int32) : Option (Int32) :=
  LPf (κ := Int32 → Int32 → Option (Int32)) (fun _ _ => none) (fun kk => mX1_mostValue_B5 kk (mX1_mostValue_X5  S p1 p2) S p1 p2) FU (0 : Int32) (0 : Int32)
def mX1_firstOfValue_X3  (S : ST) (p1 : Int32) (p2 : Int32) (p3 : Int32) (v4_3 : Int32) : Option (Int32) :=
  some (-1 : Int32)
def mX1_firstOfValue_B3 (k x : Int32 → Option (Int32)) (S : ST) (p1 : Int32) (p2 : Int32) (p3 : Int32) (v4_3 : Int32) : Option (Int32) :=
  (if (S.1 6) ≤ v4_3 then x v4_3 else (if (8 : Int32) ≤ v4_3 then x v4_3 else gd (inB v4_3 8) ((if (S.2 3 v4_3.toNatClampNeg) = p3 then (mX1_lies S v4_3 p1 p2).bind (fun r1 => (if r1 = 0 then (mX1_liesTurned S v4_3 p1 p2).bind (fun r2 => (if r2 = 0 then k (v4_3 + (1 : Int32)) else some v4_3)) else some v4_3)) else k (v4_3 + (1 : Int32))))))
def mX1_firstOfValue (S : ST) (p1 : Int32) (p2 : Int32) (p3 : Int32) : Option (Int32) :=
  LPf (κ := Int32 → Option (Int32)) (fun _ => none) (fun kk => mX1_firstOfValue_B3 kk (mX1_firstOfValue_X3  S p1 p2 p3) S p1 p2 p3) FU (0 : Int32)
def mX5_forget (S : ST)  : Option (ST) :=
  some (sI S 7 (1 : Int32))
def mX5_sizeSlot (p0 : Int32) (p1 : Int32) (p2 : Int32) : Option (Int32) :=
  some (((((((p2 - (1 : Int32)) * (16 : Int32)) + p0) - (1 : Int32)) * (16 : Int32)) + p1) - (1 : Int32))
def mX5_ofSize (S : ST) (p1 : Int32) (p2 : Int32) (p3 : Int32) : Option (Int32) :=
  (mX5_sizeSlot p1 p2 p3).bind (fun r1 => (if (S.1 3) < p3 then some (0 : Int32) else (mX6_within r1 (0 : Int32) ((1024 : Int32) - (1 : Int32))).bind (fun r2 => (if r2 = 0 then some (0 : Int32) else gd (inB r1 1024) (some (S.2 5 r1.toNatClampNeg))))))
def mX5_mostOfSize_X48  (S : ST) (p1 : Int32) (p2 : Int32) (p3 : Int32) (r3 : Int32) (r4 : Int32) (v4_48 : Int32) (v7_48 : Int32) : Option (Int32) :=
  some v4_48
def mX5_mostOfSize_J113 (k : Int32 → Int32 → Option (Int32)) (x : Int32 → Int32 → Option (Int32)) (S : ST) (p1 : Int32) (p2 : Int32) (p3 : Int32) (v4_48 : Int32) (r3 : Int32) (r4 : Int32) (v7_48 : Int32) (v8_113 : Int32) (t0_113 : Int32) : Option (Int32) :=
  k (if v4_48 < t0_113 then t0_113 else v4_48) (v7_48 + (1 : Int32))
def mX5_mostOfSize_B48 (k x : Int32 → Int32 → Option (Int32)) (S : ST) (p1 : Int32) (p2 : Int32) (p3 : Int32) (r3 : Int32) (r4 : Int32) (v4_48 : Int32) (v7_48 : Int32) : Option (Int32) :=
  (if r3 < v7_48 then x v4_48 v7_48 else (if r4 = 0 then (mX5_ofSize S p1 v7_48 p3).bind (fun r5 => (mX5_ofSize S p1 (p2 - (v7_48 + (S.1 2))) p3).bind (fun r6 => mX5_mostOfSize_J113 k x S p1 p2 p3 v4_48 r3 r4 v7_48 (v7_48 + (S.1 2)) (r5 + r6))) else (mX5_ofSize S v7_48 p2 p3).bind (fun r7 => (mX5_ofSize S (p1 - (v7_48 + (S.1 2))) p2 p3).bind (fun r8 => mX5_mostOfSize_J113 k x S p1 p2 p3 v4_48 r3 r4 v7_48 (v7_48 + (S.1 2)) (r7 + r8)))))
def mX5_mostOfSize (S : ST) (p1 : Int32) (p2 : Int32) (p3 : Int32) : Option (Int32) :=
  (mX1_mostValue S p1 p2).bind (fun r1 => (mX5_ofSize S p1 p2 (p3 + (1 : Int32))).bind (fun r2 => (mX4_lastCut S p1 p2 p3).bind (fun r3 => (mX4_partsWidth S p3).bind (fun r4 => LPf (κ := Int32 → Int32 → Option (Int32)) (fun _ _ => none) (fun kk => mX5_mostOfSize_B48 kk (mX5_mostOfSize_X48  S p1 p2 p3 r3 r4) S p1 p2 p3 r3 r4) FU (if r1 < r2 then r2 else r1) (1 : Int32)))))
def mX5_fillSizes_X8   (S_8 : ST) (v1_8 : Int32) : Option (ST) :=
  some S_8
def mX5_fillSizes_X15 (k : ST → Int32 → Option (ST)) (x : ST → Int32 → Option (ST)) (v1_8 : Int32) (S_15 : ST) (v2_15 : Int32) : Option (ST) :=
  k S_15 (v1_8 + (-1 : Int32))
def mX5_fillSizes_X28 (k : ST → Int32 → Option (ST)) (x : ST → Int32 → Option (ST)) (v1_8 : Int32) (v2_15 : Int32) (S_28 : ST) (v3_28 : Int32) : Option (ST) :=
  k S_28 (v2_15 + (1 : Int32))
def mX5_fillSizes_B28 (k x : ST → Int32 → Option (ST)) (v1_8 : Int32) (v2_15 : Int32) (S_28 : ST) (v3_28 : Int32) : Option (ST) :=
  (if (S_28.1 1) < v3_28 then x S_28 v3_28 else (mX5_sizeSlot v2_15 v3_28 v1_8).bind (fun r1 => (mX6_within r1 (0 : Int32) ((1024 : Int32) - (1 : Int32))).bind (fun r2 => (if r2 = 0 then k S_28 (v3_28 + (1 : Int32)) else (mX5_mostOfSize S_28 v2_15 v3_28 v1_8).bind (fun r3 => gd (inB r1 1024) (k (sG S_28 5 r1 r3) (v3_28 + (1 : Int32))))))))
def mX5_fillSizes_B15 (k x : ST → Int32 → Option (ST)) (v1_8 : Int32) (S_15 : ST) (v2_15 : Int32) : Option (ST) :=
  (if (S_15.1 0) < v2_15 then x S_15 v2_15 else LPf (κ := ST → Int32 → Option (ST)) (fun _ _ => none) (fun kk => mX5_fillSizes_B28 kk (mX5_fillSizes_X28 k x v1_8 v2_15) v1_8 v2_15) FU S_15 (1 : Int32))
def mX5_fillSizes_B8 (k x : ST → Int32 → Option (ST))  (S_8 : ST) (v1_8 : Int32) : Option (ST) :=
  (if v1_8 < (1 : Int32) then x S_8 v1_8 else LPf (κ := ST → Int32 → Option (ST)) (fun _ _ => none) (fun kk => mX5_fillSizes_B15 kk (mX5_fillSizes_X15 k x v1_8) v1_8) FU S_8 (1 : Int32))
def mX5_fillSizes (S : ST)  : Option (ST) :=
  LPf (κ := ST → Int32 → Option (ST)) (fun _ _ => none) (fun kk => mX5_fillSizes_B8 kk (mX5_fillSizes_X8  ) ) FU S (S.1 3)
def mX5_span (p0 : Int32) (p1 : Int32) : Option (Int32) :=
  some (((p1 * (p1 - (1 : Int32))) / (2 : Int32)) + p0)
def mX5_partSlot (p0 : Int32) (p1 : Int32) (p2 : Int32) : Option (Int32) :=
  some (((((p0 - (1 : Int32)) * (136 : Int32)) + p1) * (136 : Int32)) + p2)
def mX5_mostOfCuts_X70  (S : ST) (p1 : Int32) (p2 : Int32) (p3 : Int32) (p4 : Int32) (p5 : Int32) (v6_70 : Int32) (v7_70 : Int32) (v8_70 : Int32) (v9_70 : Int32) : Option (Int32) :=
  some v8_70
def mX5_mostOfCuts_J120 (k : Int32 → Int32 → Int32 → Int32 → Option (Int32)) (x : Int32 → Int32 → Int32 → Int32 → Option (Int32)) (S : ST) (p1 : Int32) (p2 : Int32) (p3 : Int32) (p4 : Int32) (p5 : Int32) (v6_70 : Int32) (v7_70 : Int32) (v8_120 : Int32) (v9_70 : Int32) (v10_120 : Int32) : Option (Int32) :=
  k (v6_70 + (p2 * v9_70)) (v7_70 + p2) v8_120 (v9_70 + (1 : Int32))
def mX5_mostOfCuts_B70 (k x : Int32 → Int32 → Int32 → Int32 → Option (Int32)) (S : ST) (p1 : Int32) (p2 : Int32) (p3 : Int32) (p4 : Int32) (p5 : Int32) (v6_70 : Int32) (v7_70 : Int32) (v8_70 : Int32) (v9_70 : Int32) : Option (Int32) :=
  (if p4 ≤ (v9_70 + (S.1 2)) then x v6_70 v7_70 v8_70 v9_70 else (if p5 ≤ v8_70 then x v6_70 v7_70 v8_70 v9_70 else gd (inB v6_70 73984) (gd (inB v7_70 73984) ((if ((S.2 6 v6_70.toNatClampNeg) + (S.2 6 v7_70.toNatClampNeg)) ≤ v8_70 then mX5_mostOfCuts_J120 k x S p1 p2 p3 p4 p5 v6_70 v7_70 v8_70 v9_70 ((S.2 6 v6_70.toNatClampNeg) + (S.2 6 v7_70.toNatClampNeg)) else mX5_mostOfCuts_J120 k x S p1 p2 p3 p4 p5 v6_70 v7_70 ((S.2 6 v6_70.toNatClampNeg) + (S.2 6 v7_70.toNatClampNeg)) v9_70 ((S.2 6 v6_70.toNatClampNeg) + (S.2 6 v7_70.toNatClampNeg)))))))
def mX5_mostOfCuts (S : ST) (p1 : Int32) (p2 : Int32) (p3 : Int32) (p4 : Int32) (p5 : Int32) : Option (Int32) :=
  (if p1 < 0 then some (0 : Int32) else (mX5_span (p4 - (1 : Int32)) p4).bind (fun r1 => (if (p1 + (p2 * r1)) < (73984 : Int32) then (mX5_span p3 (p3 + (1 : Int32))).bind (fun r2 => (mX5_span ((p3 + (1 : Int32)) + (S.1 2)) p4).bind (fun r3 => LPf (κ := Int32 → Int32 → Int32 → Int32 → Option (Int32)) (fun _ _ _ _ => none) (fun kk => mX5_mostOfCuts_B70 kk (mX5_mostOfCuts_X70  S p1 p2 p3 p4 p5) S p1 p2 p3 p4 p5) FU (p1 + (p2 * r2)) (p1 + (p2 * r3)) (0 : Int32) (p3 + (1 : Int32)))) else some (0 : Int32))))
def mX5_fillPart_X45  (p1 : Int32) (p2 : Int32) (p3 : Int32) (p4 : Int32) (r1 : Int32) (r2 : Int32) (r3 : Int32) (S_45 : ST) (v8_45 : Int32) (v9_45 : Int32) : Option (ST) :=
  some S_45
def mX5_fillPart_J141 (k : ST → Int32 → Int32 → Option (ST)) (x : ST → Int32 → Int32 → Option (ST)) (S_45 : ST) (p1 : Int32) (p2 : Int32) (p3 : Int32) (p4 : Int32) (r1 : Int32) (r2 : Int32) (r3 : Int32) (v8_45 : Int32) (v9_45 : Int32) (v10_141 : Int32) : Option (ST) :=
  (mX5_partSlot v9_45 r2 r3).bind (fun r5 => (mX6_within r5 (0 : Int32) ((73984 : Int32) - (1 : Int32))).bind (fun r6 => (if r6 = 0 then k S_45 v10_141 (v9_45 + (-1 : Int32)) else gd (inB r5 73984) (k (sG S_45 6 r5 v10_141) v10_141 (v9_45 + (-1 : Int32))))))
def mX5_fillPart_J130 (k : ST → Int32 → Int32 → Option (ST)) (x : ST → Int32 → Int32 → Option (ST)) (S_45 : ST) (p1 : Int32) (p2 : Int32) (p3 : Int32) (p4 : Int32) (r1 : Int32) (r2 : Int32) (r3 : Int32) (v8_45 : Int32) (v9_45 : Int32) (r4 : Int32) (t0_130 : Int32) : Option (ST) :=
  mX5_fillPart_J141 k x S_45 p1 p2 p3 p4 r1 r2 r3 v8_45 v9_45 (if v8_45 < t0_130 then t0_130 else v8_45)
def mX5_fillPart_B45 (k x : ST → Int32 → Int32 → Option (ST)) (p1 : Int32) (p2 : Int32) (p3 : Int32) (p4 : Int32) (r1 : Int32) (r2 : Int32) (r3 : Int32) (S_45 : ST) (v8_45 : Int32) (v9_45 : Int32) : Option (ST) :=
  (if v9_45 < (1 : Int32) then x S_45 v8_45 v9_45 else (mX5_ofSize S_45 p3 p4 v9_45).bind (fun r4 => (if r1 = 0 then (if r4 ≤ v8_45 then mX5_fillPart_J141 k x S_45 p1 p2 p3 p4 r1 r2 r3 v8_45 v9_45 r4 else (mX4_partsWidth S_45 v9_45).bind (fun r7 => (if r7 = 0 then (mX5_partSlot v9_45 r2 (0 : Int32)).bind (fun r8 => (mX5_mostOfCuts S_45 r8 (1 : Int32) p2 (p2 + p4) r4).bind (fun r9 => mX5_fillPart_J130 k x S_45 p1 p2 p3 p4 r1 r2 r3 v8_45 v9_45 r4 r9)) else (mX5_partSlot v9_45 (0 : Int32) r3).bind (fun r10 => (mX5_mostOfCuts S_45 r10 (136 : Int32) p1 (p1 + p3) r4).bind (fun r11 => mX5_fillPart_J130 k x S_45 p1 p2 p3 p4 r1 r2 r3 v8_45 v9_45 r4 r11))))) else mX5_fillPart_J141 k x S_45 p1 p2 p3 p4 r1 r2 r3 v8_45 v9_45 r4)))
def mX5_fillPart (S : ST) (p1 : Int32) (p2 : Int32) (p3 : Int32) (p4 : Int32) : Option (ST) :=
  (mX4_isClean S p1 p2 p3 p4).bind (fun r1 => (mX5_span p1 (p1 + p3)).bind (fun r2 => (mX5_span p2 (p2 + p4)).bind (fun r3 => LPf (κ := ST → Int32 → Int32 → Option (ST)) (fun _ _ _ => none) (fun kk => mX5_fillPart_B45 kk (mX5_fillPart_X45  p1 p2 p3 p4 r1 r2 r3) p1 p2 p3 p4 r1 r2 r3) FU S (0 : Int32) (S.1 3))))
def mX5_fillParts_X2   (S_2 : ST) (v1_2 : Int32) : Option (ST) :=
  some S_2
def mX5_fillParts_X17 (k : ST → Int32 → Option (ST)) (x : ST → Int32 → Option (ST)) (v1_2 : Int32) (S_17 : ST) (v2_17 : Int32) : Option (ST) :=
  k S_17 (v1_2 + (1 : Int32))
def mX5_fillParts_X23 (k : ST → Int32 → Option (ST)) (x : ST → Int32 → Option (ST)) (v1_2 : Int32) (v2_17 : Int32) (S_23 : ST) (v3_23 : Int32) : Option (ST) :=
  k S_23 (v2_17 + (-1 : Int32))
def mX5_fillParts_X39 (k : ST → Int32 → Option (ST)) (x : ST → Int32 → Option (ST)) (v1_2 : Int32) (v2_17 : Int32) (v3_23 : Int32) (S_39 : ST) (v4_39 : Int32) : Option (ST) :=
  k S_39 (v3_23 + (1 : Int32))
def mX5_fillParts_B39 (k x : ST → Int32 → Option (ST)) (v1_2 : Int32) (v2_17 : Int32) (v3_23 : Int32) (S_39 : ST) (v4_39 : Int32) : Option (ST) :=
  (if v4_39 < 0 then x S_39 v4_39 else (mX5_fillPart S_39 v2_17 v4_39 (v1_2 - v2_17) (v3_23 - v4_39)).bind (fun r1 => k r1 (v4_39 + (-1 : Int32))))
def mX5_fillParts_B23 (k x : ST → Int32 → Option (ST)) (v1_2 : Int32) (v2_17 : Int32) (S_23 : ST) (v3_23 : Int32) : Option (ST) :=
  (if (S_23.1 1) < v3_23 then x S_23 v3_23 else LPf (κ := ST → Int32 → Option (ST)) (fun _ _ => none) (fun kk => mX5_fillParts_B39 kk (mX5_fillParts_X39 k x v1_2 v2_17 v3_23) v1_2 v2_17 v3_23) FU S_23 (v3_23 - (1 : Int32)))
def mX5_fillParts_B17 (k x : ST → Int32 → Option (ST)) (v1_2 : Int32) (S_17 : ST) (v2_17 : Int32) : Option (ST) :=
  (if v2_17 < 0 then x S_17 v2_17 else LPf (κ := ST → Int32 → Option (ST)) (fun _ _ => none) (fun kk => mX5_fillParts_B23 kk (mX5_fillParts_X23 k x v1_2 v2_17) v1_2 v2_17) FU S_17 (1 : Int32))
def mX5_fillParts_B2 (k x : ST → Int32 → Option (ST))  (S_2 : ST) (v1_2 : Int32) : Option (ST) :=
  (if (S_2.1 0) < v1_2 then x S_2 v1_2 else LPf (κ := ST → Int32 → Option (ST)) (fun _ _ => none) (fun kk => mX5_fillParts_B17 kk (mX5_fillParts_X17 k x v1_2) v1_2) FU S_2 (v1_2 - (1 : Int32)))
def mX5_fillParts (S : ST)  : Option (ST) :=
  LPf (κ := ST → Int32 → Option (ST)) (fun _ _ => none) (fun kk => mX5_fillParts_B2 kk (mX5_fillParts_X2  ) ) FU S (1 : Int32)
def mX5_makeReady_J26 (S_26 : ST)  : Option (ST) :=
  some (sI S_26 7 (0 : Int32))
def mX5_makeReady (S : ST)  : Option (ST) :=
  (if (S.1 7) = 0 then some S else (mX5_fillSizes S).bind (fun r1 => (if (r1.1 5) ≤ 0 then mX5_makeReady_J26  r1 else (mX5_fillParts r1).bind (fun r2 => mX5_makeReady_J26  r2))))
def mX5_of (S : ST) (p1 : Int32) (p2 : Int32) (p3 : Int32) (p4 : Int32) (p5 : Int32) : Option (Int32) :=
  (if (S.1 5) = 0 then (mX5_ofSize S p3 p4 p5).bind (fun r5 => some r5) else (mX5_span p1 (p1 + p3)).bind (fun r1 => (mX5_span p2 (p2 + p4)).bind (fun r2 => (mX5_partSlot p5 r1 r2).bind (fun r3 => (mX6_within r3 (0 : Int32) ((73984 : Int32) - (1 : Int32))).bind (fun r4 => (if r4 = 0 then some (0 : Int32) else gd (inB r3 73984) (some (S.2 6 r3.toNatClampNeg))))))))
def mX2_forget (S : ST)  : Option (ST) :=
  (mX5_forget (sI S 11 (1 : Int32))).bind (fun r1 => some r1)
def mX2_firstCut_X28  (S : ST) (p1 : Int32) (p2 : Int32) (p3 : Int32) (p4 : Int32) (p5 : Int32) (p6 : Int32) (r1 : Int32) (r2 : Int32) (v9_28 : Int32) : Option (Int32) :=
  some (-1 : Int32)
def mX2_firstCut_J126 (k : Int32 → Option (Int32)) (x : Int32 → Option (Int32)) (S : ST) (p1 : Int32) (p2 : Int32) (p3 : Int32) (p4 : Int32) (p5 : Int32) (p6 : Int32) (r1 : Int32) (r2 : Int32) (v9_28 : Int32) (v10_126 : Int32) (t0_126 : Int32) : Option (Int32) :=
  (if t0_126 = p6 then some v9_28 else k (v9_28 + (1 : Int32)))
def mX2_firstCut_B28 (k x : Int32 → Option (Int32)) (S : ST) (p1 : Int32) (p2 : Int32) (p3 : Int32) (p4 : Int32) (p5 : Int32) (p6 : Int32) (r1 : Int32) (r2 : Int32) (v9_28 : Int32) : Option (Int32) :=
  (if r1 < v9_28 then x v9_28 else (if r2 = 0 then (mX5_of S p1 p2 p3 v9_28 p5).bind (fun r3 => (mX5_of S p1 (p2 + (v9_28 + (S.1 2))) p3 (p4 - (v9_28 + (S.1 2))) p5).bind (fun r4 => mX2_firstCut_J126 k x S p1 p2 p3 p4 p5 p6 r1 r2 v9_28 (v9_28 + (S.1 2)) (r3 + r4))) else (mX5_of S p1 p2 v9_28 p4 p5).bind (fun r5 => (mX5_of S (p1 + (v9_28 + (S.1 2))) p2 (p3 - (v9_28 + (S.1 2))) p4 p5).bind (fun r6 => mX2_firstCut_J126 k x S p1 p2 p3 p4 p5 p6 r1 r2 v9_28 (v9_28 + (S.1 2)) (r5 + r6)))))
def mX2_firstCut (S : ST) (p1 : Int32) (p2 : Int32) (p3 : Int32) (p4 : Int32) (p5 : Int32) (p6 : Int32) : Option (Int32) :=
  (mX4_lastCut S p3 p4 p5).bind (fun r1 => (mX4_partsWidth S p5).bind (fun r2 => LPf (κ := Int32 → Option (Int32)) (fun _ => none) (fun kk => mX2_firstCut_B28 kk (mX2_firstCut_X28  S p1 p2 p3 p4 p5 p6 r1 r2) S p1 p2 p3 p4 p5 p6 r1 r2) FU (1 : Int32)))
def mX2_addPiece_J98 (S_98 : ST) (p1 : Int32) (p2 : Int32) (p3 : Int32) (p4 : Int32) (p5 : Int32) (v6_98 : Int32) (t0_98 : Int32) (t1_98 : Int32) : Option (ST) :=
  gd (inB t1_98 1536) (some (sI (sI (sG S_98 7 t1_98 t0_98) 8 ((S_98.1 8) + (1 : Int32))) 10 ((S_98.1 10) - (p4 * p5))))
def mX2_addPiece (S : ST) (p1 : Int32) (p2 : Int32) (p3 : Int32) (p4 : Int32) (p5 : Int32) : Option (ST) :=
  (if (S.1 8) < (256 : Int32) then gd (inB ((S.1 8) * (6 : Int32)) 1536) (gd (inB (((S.1 8) * (6 : Int32)) + (1 : Int32)) 1536) (gd (inB (((S.1 8) * (6 : Int32)) + (2 : Int32)) 1536) (gd (inB (((S.1 8) * (6 : Int32)) + (3 : Int32)) 1536) (gd (inB (((S.1 8) * (6 : Int32)) + (4 : Int32)) 1536) ((mX1_lies (sG (sG (sG (sG (sG S 7 ((S.1 8) * (6 : Int32)) p1) 7 (((S.1 8) * (6 : Int32)) + (1 : Int32)) p2) 7 (((S.1 8) * (6 : Int32)) + (2 : Int32)) p3) 7 (((S.1 8) * (6 : Int32)) + (3 : Int32)) p4) 7 (((S.1 8) * (6 : Int32)) + (4 : Int32)) p5) p1 p4 p5).bind (fun r1 => (if r1 = 0 then mX2_addPiece_J98  (sG (sG (sG (sG (sG S 7 ((S.1 8) * (6 : Int32)) p1) 7 (((S.1 8) * (6 : Int32)) + (1 : Int32)) p2) 7 (((S.1 8) * (6 : Int32)) + (2 : Int32)) p3) 7 (((S.1 8) * (6 : Int32)) + (3 : Int32)) p4) 7 (((S.1 8) * (6 : Int32)) + (4 : Int32)) p5) p1 p2 p3 p4 p5 ((S.1 8) * (6 : Int32)) (1 : Int32) (((S.1 8) * (6 : Int32)) + (5 : Int32)) else mX2_addPiece_J98  (sG (sG (sG (sG (sG S 7 ((S.1 8) * (6 : Int32)) p1) 7 (((S.1 8) * (6 : Int32)) + (1 : Int32)) p2) 7 (((S.1 8) * (6 : Int32)) + (2 : Int32)) p3) 7 (((S.1 8) * (6 : Int32)) + (3 : Int32)) p4) 7 (((S.1 8) * (6 : Int32)) + (4 : Int32)) p5) p1 p2 p3 p4 p5 ((S.1 8) * (6 : Int32)) (0 : Int32) (((S.1 8) * (6 : Int32)) + (5 : Int32))))))))) else some S)
def mX2_addCut_J77 (S_77 : ST) (p1 : Int32) (p2 : Int32) (p3 : Int32) (p4 : Int32) (p5 : Int32) (p6 : Int32) (r1 : Int32) (v8_58 : Int32) (t0_77 : Int32) (t1_77 : Int32) : Option (ST) :=
  gd (inB t1_77 1785) (gd (inB (v8_58 + (3 : Int32)) 1785) (gd (inB (v8_58 + (4 : Int32)) 1785) (gd (inB (v8_58 + (5 : Int32)) 1785) (gd (inB (v8_58 + (6 : Int32)) 1785) (some (sI (sG (sG (sG (sG (sG S_77 8 t1_77 (t0_77 + p6)) 8 (v8_58 + (3 : Int32)) p1) 8 (v8_58 + (4 : Int32)) p2) 8 (v8_58 + (5 : Int32)) p3) 8 (v8_58 + (6 : Int32)) p4) 9 ((S_77.1 9) + (1 : Int32))))))))
def mX2_addCut_J58 (S_58 : ST) (p1 : Int32) (p2 : Int32) (p3 : Int32) (p4 : Int32) (p5 : Int32) (p6 : Int32) (r1 : Int32) (v8_58 : Int32) (t0_58 : Int32) (t1_58 : Int32) : Option (ST) :=
  gd (inB t1_58 1785) ((if r1 = 0 then mX2_addCut_J77  (sG S_58 8 t1_58 t0_58) p1 p2 p3 p4 p5 p6 r1 v8_58 p2 (v8_58 + (2 : Int32)) else mX2_addCut_J77  (sG S_58 8 t1_58 t0_58) p1 p2 p3 p4 p5 p6 r1 v8_58 p1 (v8_58 + (2 : Int32))))
def mX2_addCut (S : ST) (p1 : Int32) (p2 : Int32) (p3 : Int32) (p4 : Int32) (p5 : Int32) (p6 : Int32) : Option (ST) :=
  (if (S.1 9) < (255 : Int32) then (mX4_partsWidth S p5).bind (fun r1 => gd (inB ((S.1 9) * (7 : Int32)) 1785) ((if r1 = 0 then mX2_addCut_J58  (sG S 8 ((S.1 9) * (7 : Int32)) p5) p1 p2 p3 p4 p5 p6 r1 ((S.1 9) * (7 : Int32)) (1 : Int32) (((S.1 9) * (7 : Int32)) + (1 : Int32)) else mX2_addCut_J58  (sG S 8 ((S.1 9) * (7 : Int32)) p5) p1 p2 p3 p4 p5 p6 r1 ((S.1 9) * (7 : Int32)) (0 : Int32) (((S.1 9) * (7 : Int32)) + (1 : Int32))))) else some S)
def mX2_layBoth (self : ST → Int32 → Int32 → Int32 → Int32 → Int32 → Int32 → Option ST) (S : ST) (p1 : Int32) (p2 : Int32) (p3 : Int32) (p4 : Int32) (p5 : Int32) (p6 : Int32) (p7 : Int32) : Option (ST) :=
  (mX4_partsWidth S p5).bind (fun r1 => (if r1 = 0 then (self S p1 p2 p3 p6 p5 p7).bind (fun r2 => (self r2 p1 (p2 + (p6 + (S.1 2))) p3 (p4 - (p6 + (S.1 2))) p5 p7).bind (fun r3 => some r3)) else (self S p1 p2 p6 p4 p5 p7).bind (fun r4 => (self r4 (p1 + (p6 + (S.1 2))) p2 (p3 - (p6 + (S.1 2))) p4 p5 p7).bind (fun r5 => some r5))))
def mX2_lay_J60 (self : ST → Int32 → Int32 → Int32 → Int32 → Int32 → Int32 → Option ST) (S : ST) (p1 : Int32) (p2 : Int32) (p3 : Int32) (p4 : Int32) (p5 : Int32) (p6 : Int32) (r1 : Int32) (t0_60 : Int32) : Option (ST) :=
  (if t0_60 = (-1 : Int32) then (mX2_firstCut S p1 p2 p3 p4 p5 r1).bind (fun r3 => (if r3 = (-1 : Int32) then (if (S.1 3) ≤ p5 then some S else (self S p1 p2 p3 p4 (p5 + (1 : Int32)) (p6 + (1 : Int32))).bind (fun r4 => some r4)) else (mX2_addCut S p1 p2 p3 p4 p5 r3).bind (fun r5 => (mX2_layBoth self r5 p1 p2 p3 p4 p5 r3 (p6 + (1 : Int32))).bind (fun r6 => some r6)))) else (mX2_addPiece S t0_60 p1 p2 p3 p4).bind (fun r7 => some r7))
def mX2_layF (self : ST → Int32 → Int32 → Int32 → Int32 → Int32 → Int32 → Option ST) (S : ST) (p1 : Int32) (p2 : Int32) (p3 : Int32) (p4 : Int32) (p5 : Int32) (p6 : Int32) : Option (ST) :=
  (mX5_of S p1 p2 p3 p4 p5).bind (fun r1 => (if r1 = 0 then some S else (if p6 ≤ (34 : Int32) then (mX4_isClean S p1 p2 p3 p4).bind (fun r2 => (if r2 = 0 then mX2_lay_J60 self  S p1 p2 p3 p4 p5 p6 r1 (-1 : Int32) else (mX1_firstOfValue S p3 p4 r1).bind (fun r8 => mX2_lay_J60 self  S p1 p2 p3 p4 p5 p6 r1 r8))) else some S)))
def mX2_lay (d : Nat) : ST → Int32 → Int32 → Int32 → Int32 → Int32 → Int32 → Option ST := LPf (κ := ST → Int32 → Int32 → Int32 → Int32 → Int32 → Int32 → Option ST) (fun _ _ _ _ _ _ _ => none) (fun self => mX2_layF self) d
def mX2_makeReady (S : ST)  : Option (ST) :=
  (if (S.1 11) = 0 then some S else (mX5_makeReady S).bind (fun r1 => (mX2_lay 40 (sI (sI (sI r1 8 (0 : Int32)) 9 (0 : Int32)) 10 ((r1.1 0) * (r1.1 1))) (0 : Int32) (0 : Int32) (r1.1 0) (r1.1 1) (1 : Int32) (1 : Int32)).bind (fun r2 => some (sI r2 11 (0 : Int32)))))
def mX3_wantedOf (S : ST) (p1 : Int32) : Option (Int32) :=
  (if (S.1 13) ≤ p1 then some (0 : Int32) else (if (4 : Int32) ≤ p1 then some (0 : Int32) else gd (inB p1 4) (some (S.2 12 p1.toNatClampNeg))))
def mX3_stockFor_X4  (S : ST) (p1 : Int32) (v2_4 : Int32) (v3_4 : Int32) : Option (Int32) :=
  some v2_4
def mX3_stockFor_B4 (k x : Int32 → Int32 → Option (Int32)) (S : ST) (p1 : Int32) (v2_4 : Int32) (v3_4 : Int32) : Option (Int32) :=
  (if (S.1 12) ≤ v3_4 then x v2_4 v3_4 else (if (3 : Int32) ≤ v3_4 then x v2_4 v3_4 else gd (inB v3_4 3) ((if (S.2 9 v3_4.toNatClampNeg) < p1 then k v2_4 (v3_4 + (1 : Int32)) else (if v2_4 = (-1 : Int32) then k v3_4 (v3_4 + (1 : Int32)) else gd (inB v3_4 3) (gd (inB v2_4 3) ((if (S.2 10 v2_4.toNatClampNeg) ≤ (S.2 10 v3_4.toNatClampNeg) then k v2_4 (v3_4 + (1 : Int32)) else k v3_4 (v3_4 + (1 : Int32))))))))))
def mX3_stockFor (S : ST) (p1 : Int32) : Option (Int32) :=
  LPf (κ := Int32 → Int32 → Option (Int32)) (fun _ _ => none) (fun kk => mX3_stockFor_B4 kk (mX3_stockFor_X4  S p1) S p1) FU (-1 : Int32) (0 : Int32)
def mX3_addStock (S : ST) (p1 : Int32) (p2 : Int32) : Option (Int32 × ST) :=
  (if (S.1 12) < (3 : Int32) then gd (inB (S.1 12) 3) (gd (inB (S.1 12) 3) (some ((((S.1 12) + (1 : Int32)) - (1 : Int32)), (sI (sG (sG S 9 (S.1 12) p1) 10 (S.1 12) p2) 12 ((S.1 12) + (1 : Int32)))))) else some ((-4 : Int32), S))
def mX3_addOrder (S : ST) (p1 : Int32) (p2 : Int32) : Option (Int32 × ST) :=
  (if (S.1 13) < (4 : Int32) then gd (inB (S.1 13) 4) (gd (inB (S.1 13) 4) (some ((((S.1 13) + (1 : Int32)) - (1 : Int32)), (sI (sG (sG S 11 (S.1 13) p1) 12 (S.1 13) p2) 13 ((S.1 13) + (1 : Int32)))))) else some ((-4 : Int32), S))
def mX0_forgetCosts (S : ST)  : Option (ST) :=
  some (sI (sI S 18 (1 : Int32)) 19 (1 : Int32))
def mX0_forgetBars (S : ST)  : Option (ST) :=
  some (sI S 19 (1 : Int32))
def mJ7_fill_53178_X5  (p1 : Int32) (v3_5 : Int32) (S_5 : ST) (v2_5 : Int32) : Option (ST) :=
  some S_5
def mJ7_fill_53178_B5 (k x : ST → Int32 → Option (ST)) (p1 : Int32) (v3_5 : Int32) (S_5 : ST) (v2_5 : Int32) : Option (ST) :=
  (if v3_5 ≤ v2_5 then x S_5 v2_5 else gd (inB v2_5 4096) (k (sG S_5 14 v2_5 p1) (v2_5 + (1 : Int32))))
def mJ7_fill_53178 (S : ST) (p1 : Int32) : Option (ST) :=
  LPf (κ := ST → Int32 → Option (ST)) (fun _ _ => none) (fun kk => mJ7_fill_53178_B5 kk (mJ7_fill_53178_X5  p1 (4096 : Int32)) p1 (4096 : Int32)) FU S (0 : Int32)
def mX0_code (p0 : Int32) (p1 : Int32) (p2 : Int32) (p3 : Int32) : Option (Int32) :=
  some ((((((p0 <<< ((3 : Int32) &&& 31)) ||| p1) <<< ((3 : Int32) &&& 31)) ||| p2) <<< ((3 : Int32) &&& 31)) ||| p3)
def mX0_numberOf (p0 : Int32) (p1 : Int32) : Option (Int32) :=
  some ((p0 >>> ((((3 : Int32) - p1) * (3 : Int32)) &&& 31)) &&& (7 : Int32))
def mX0_lengthWanted_X11  (S : ST) (p1 : Int32) (v2_11 : Int32) (v3_11 : Int32) : Option (Int32) :=
  some v2_11
def mX0_lengthWanted_B11 (k x : Int32 → Int32 → Option (Int32)) (S : ST) (p1 : Int32) (v2_11 : Int32) (v3_11 : Int32) : Option (Int32) :=
  (if (S.1 13) ≤ v3_11 then x v2_11 v3_11 else (if (4 : Int32) ≤ v3_11 then x v2_11 v3_11 else (mX0_numberOf p1 v3_11).bind (fun r1 => gd (inB v3_11 4) (k (v2_11 + (r1 * ((S.2 11 v3_11.toNatClampNeg) + (S.1 14)))) (v3_11 + (1 : Int32))))))
def mX0_lengthWanted (S : ST) (p1 : Int32) : Option (Int32) :=
  LPf (κ := Int32 → Int32 → Option (Int32)) (fun _ _ => none) (fun kk => mX0_lengthWanted_B11 kk (mX0_lengthWanted_X11  S p1) S p1) FU (-(S.1 14)) (0 : Int32)
def mX0_barCost (S : ST) (p1 : Int32) : Option (Int32) :=
  (mX0_lengthWanted S p1).bind (fun r1 => (mX3_stockFor S r1).bind (fun r2 => (if r2 = (-1 : Int32) then some (1048576 : Int32) else gd (inB r2 3) (some (((S.2 10 r2.toNatClampNeg) * (21 : Int32)) + (1 : Int32))))))
def mX0_tryFirstBars_X30  (p1 : Int32) (p2 : Int32) (p3 : Int32) (v4_30 : Int32) (S_30 : ST) (v5_30 : Int32) : Option (ST) :=
  some S_30
def mX0_tryFirstBars_B30 (k x : ST → Int32 → Option (ST)) (p1 : Int32) (p2 : Int32) (p3 : Int32) (v4_30 : Int32) (S_30 : ST) (v5_30 : Int32) : Option (ST) :=
  (if v4_30 < v5_30 then x S_30 v5_30 else gd (inB v5_30 4096) ((if (1048576 : Int32) ≤ (S_30.2 13 v5_30.toNatClampNeg) then x S_30 v5_30 else gd (inB v5_30 4096) (gd (inB (p1 - v5_30) 4096) (gd (inB p1 4096) ((if (S_30.2 14 p1.toNatClampNeg) < ((S_30.2 13 v5_30.toNatClampNeg) + (S_30.2 14 (p1 - v5_30).toNatClampNeg)) then k S_30 (v5_30 + (1 : Int32)) else gd (inB p1 4096) (gd (inB p1 4096) (k (sG (sG S_30 14 p1 ((S_30.2 13 v5_30.toNatClampNeg) + (S_30.2 14 (p1 - v5_30).toNatClampNeg))) 15 p1 v5_30) (v5_30 + (1 : Int32)))))))))))
def mX0_tryFirstBars (S : ST) (p1 : Int32) (p2 : Int32) (p3 : Int32) : Option (ST) :=
  (if p2 < 0 then some S else (if p1 < (p2 + p3) then some S else (if p1 < (4096 : Int32) then LPf (κ := ST → Int32 → Option (ST)) (fun _ _ => none) (fun kk => mX0_tryFirstBars_B30 kk (mX0_tryFirstBars_X30  p1 p2 p3 (p2 + p3)) p1 p2 p3 (p2 + p3)) FU S (if p2 < (1 : Int32) then (1 : Int32) else p2) else some S)))
def mX0_findLeastCost_X58  (p1 : Int32) (p2 : Int32) (p3 : Int32) (p4 : Int32) (r1 : Int32) (S_58 : ST) (v6_58 : Int32) : Option (ST) :=
  some S_58
def mX0_findLeastCost_X67 (k : ST → Int32 → Option (ST)) (x : ST → Int32 → Option (ST)) (p1 : Int32) (p2 : Int32) (p3 : Int32) (p4 : Int32) (r1 : Int32) (v6_58 : Int32) (S_67 : ST) (v7_67 : Int32) : Option (ST) :=
  k S_67 (v6_58 + (1 : Int32))
def mX0_findLeastCost_X76 (k : ST → Int32 → Option (ST)) (x : ST → Int32 → Option (ST)) (p1 : Int32) (p2 : Int32) (p3 : Int32) (p4 : Int32) (r1 : Int32) (v6_58 : Int32) (v7_67 : Int32) (S_76 : ST) (v8_76 : Int32) : Option (ST) :=
  k S_76 (v7_67 + (1 : Int32))
def mX0_findLeastCost_B76 (k x : ST → Int32 → Option (ST)) (p1 : Int32) (p2 : Int32) (p3 : Int32) (p4 : Int32) (r1 : Int32) (v6_58 : Int32) (v7_67 : Int32) (S_76 : ST) (v8_76 : Int32) : Option (ST) :=
  (if p3 < v8_76 then x S_76 v8_76 else (mX0_code v6_58 v7_67 v8_76 (0 : Int32)).bind (fun r4 => (mX0_tryFirstBars S_76 r1 r4 p4).bind (fun r5 => k r5 (v8_76 + (1 : Int32)))))
def mX0_findLeastCost_B67 (k x : ST → Int32 → Option (ST)) (p1 : Int32) (p2 : Int32) (p3 : Int32) (p4 : Int32) (r1 : Int32) (v6_58 : Int32) (S_67 : ST) (v7_67 : Int32) : Option (ST) :=
  (if p2 < v7_67 then x S_67 v7_67 else LPf (κ := ST → Int32 → Option (ST)) (fun _ _ => none) (fun kk => mX0_findLeastCost_B76 kk (mX0_findLeastCost_X76 k x p1 p2 p3 p4 r1 v6_58 v7_67) p1 p2 p3 p4 r1 v6_58 v7_67) FU S_67 (0 : Int32))
def mX0_findLeastCost_B58 (k x : ST → Int32 → Option (ST)) (p1 : Int32) (p2 : Int32) (p3 : Int32) (p4 : Int32) (r1 : Int32) (S_58 : ST) (v6_58 : Int32) : Option (ST) :=
  (if p1 < v6_58 then x S_58 v6_58 else LPf (κ := ST → Int32 → Option (ST)) (fun _ _ => none) (fun kk => mX0_findLeastCost_B67 kk (mX0_findLeastCost_X67 k x p1 p2 p3 p4 r1 v6_58) p1 p2 p3 p4 r1 v6_58) FU S_58 (0 : Int32))
def mX0_findLeastCost (S : ST) (p1 : Int32) (p2 : Int32) (p3 : Int32) (p4 : Int32) : Option (ST) :=
  (mX0_code p1 p2 p3 p4).bind (fun r1 => (mX6_within r1 (1 : Int32) (4095 : Int32)).bind (fun r2 => (if r2 = 0 then some S else gd (inB r1 4096) ((if (S.2 14 r1.toNatClampNeg) = 0 then (mX0_barCost S r1).bind (fun r3 => gd (inB r1 4096) (gd (inB r1 4096) (LPf (κ := ST → Int32 → Option (ST)) (fun _ _ => none) (fun kk => mX0_findLeastCost_B58 kk (mX0_findLeastCost_X58  p1 p2 p3 p4 r1) p1 p2 p3 p4 r1) FU (sG (sG S 13 r1 r3) 14 r1 (1048576 : Int32)) (0 : Int32)))) else some S)))))
def mX0_findLeastCosts_X2   (S_2 : ST) (v1_2 : Int32) : Option (ST) :=
  some S_2
def mX0_findLeastCosts_X16 (k : ST → Int32 → Option (ST)) (x : ST → Int32 → Option (ST)) (v1_2 : Int32) (S_16 : ST) (v2_16 : Int32) : Option (ST) :=
  k S_16 (v1_2 + (1 : Int32))
def mX0_findLeastCosts_X30 (k : ST → Int32 → Option (ST)) (x : ST → Int32 → Option (ST)) (v1_2 : Int32) (v2_16 : Int32) (S_30 : ST) (v3_30 : Int32) : Option (ST) :=
  k S_30 (v2_16 + (1 : Int32))
def mX0_findLeastCosts_X45 (k : ST → Int32 → Option (ST)) (x : ST → Int32 → Option (ST)) (v1_2 : Int32) (v2_16 : Int32) (v3_30 : Int32) (S_45 : ST) (v4_45 : Int32) : Option (ST) :=
  k S_45 (v3_30 + (1 : Int32))
def mX0_findLeastCosts_B45 (k x : ST → Int32 → Option (ST)) (v1_2 : Int32) (v2_16 : Int32) (v3_30 : Int32) (S_45 : ST) (v4_45 : Int32) : Option (ST) :=
  (mX3_wantedOf S_45 (3 : Int32)).bind (fun r4 => (if r4 < v4_45 then x S_45 v4_45 else (mX0_findLeastCost S_45 v1_2 v2_16 v3_30 v4_45).bind (fun r5 => k r5 (v4_45 + (1 : Int32)))))
def mX0_findLeastCosts_B30 (k x : ST → Int32 → Option (ST)) (v1_2 : Int32) (v2_16 : Int32) (S_30 : ST) (v3_30 : Int32) : Option (ST) :=
  (mX3_wantedOf S_30 (2 : Int32)).bind (fun r3 => (if r3 < v3_30 then x S_30 v3_30 else LPf (κ := ST → Int32 → Option (ST)) (fun _ _ => none) (fun kk => mX0_findLeastCosts_B45 kk (mX0_findLeastCosts_X45 k x v1_2 v2_16 v3_30) v1_2 v2_16 v3_30) FU S_30 (0 : Int32)))
def mX0_findLeastCosts_B16 (k x : ST → Int32 → Option (ST)) (v1_2 : Int32) (S_16 : ST) (v2_16 : Int32) : Option (ST) :=
  (mX3_wantedOf S_16 (1 : Int32)).bind (fun r2 => (if r2 < v2_16 then x S_16 v2_16 else LPf (κ := ST → Int32 → Option (ST)) (fun _ _ => none) (fun kk => mX0_findLeastCosts_B30 kk (mX0_findLeastCosts_X30 k x v1_2 v2_16) v1_2 v2_16) FU S_16 (0 : Int32)))
def mX0_findLeastCosts_B2 (k x : ST → Int32 → Option (ST))  (S_2 : ST) (v1_2 : Int32) : Option (ST) :=
  (mX3_wantedOf S_2 (0 : Int32)).bind (fun r1 => (if r1 < v1_2 then x S_2 v1_2 else LPf (κ := ST → Int32 → Option (ST)) (fun _ _ => none) (fun kk => mX0_findLeastCosts_B16 kk (mX0_findLeastCosts_X16 k x v1_2) v1_2) FU S_2 (0 : Int32)))
def mX0_findLeastCosts (S : ST)  : Option (ST) :=
  LPf (κ := ST → Int32 → Option (ST)) (fun _ _ => none) (fun kk => mX0_findLeastCosts_B2 kk (mX0_findLeastCosts_X2  ) ) FU S (0 : Int32)
def mX0_takeBars_X64  (p1 : Int32) (S_64 : ST) (v2_64 : Int32) : Option (ST) :=
  some S_64
def mX0_takeBars_B64 (k x : ST → Int32 → Option (ST)) (p1 : Int32) (S_64 : ST) (v2_64 : Int32) : Option (ST) :=
  (if (20 : Int32) ≤ (S_64.1 15) then x S_64 v2_64 else (mX6_within v2_64 (1 : Int32) (4095 : Int32)).bind (fun r2 => (if r2 = 0 then x S_64 v2_64 else gd (inB v2_64 4096) (gd (inB (S_64.1 15) 20) (gd (inB v2_64 4096) (k (sI (sG S_64 16 (S_64.1 15) (S_64.2 15 v2_64.toNatClampNeg)) 15 ((S_64.1 15) + (1 : Int32))) (v2_64 - (S_64.2 15 v2_64.toNatClampNeg))))))))
def mX0_takeBars_J38 (S_38 : ST) (p1 : Int32) (t0_38 : Int32) : Option (ST) :=
  gd (zB t0_38) ((if t0_38 = 0 then gd (inB p1 4096) (LPf (κ := ST → Int32 → Option (ST)) (fun _ _ => none) (fun kk => mX0_takeBars_B64 kk (mX0_takeBars_X64  p1) p1) FU (sI (sI S_38 17 t0_38) 16 ((S_38.2 14 p1.toNatClampNeg) / (21 : Int32))) p1) else some (sI S_38 17 t0_38)))
def mX0_takeBars (S : ST) (p1 : Int32) : Option (ST) :=
  (mX6_within p1 (0 : Int32) (4095 : Int32)).bind (fun r1 => (if r1 = 0 then mX0_takeBars_J38  (sI (sI S 15 (0 : Int32)) 16 (0 : Int32)) p1 (1 : Int32) else gd (inB p1 4096) ((if (S.2 14 p1.toNatClampNeg) < (1048576 : Int32) then mX0_takeBars_J38  (sI (sI S 15 (0 : Int32)) 16 (0 : Int32)) p1 (0 : Int32) else mX0_takeBars_J38  (sI (sI S 15 (0 : Int32)) 16 (0 : Int32)) p1 (1 : Int32)))))
def mX0_makeReady_J28 (S_28 : ST)  : Option (ST) :=
  (mX0_findLeastCosts S_28).bind (fun r1 => (mX3_wantedOf r1 (0 : Int32)).bind (fun r2 => (mX3_wantedOf r1 (1 : Int32)).bind (fun r3 => (mX3_wantedOf r1 (2 : Int32)).bind (fun r4 => (mX3_wantedOf r1 (3 : Int32)).bind (fun r5 => (mX0_code r2 r3 r4 r5).bind (fun r6 => (mX0_takeBars r1 r6).bind (fun r7 => some (sI r7 19 (0 : Int32)))))))))
def mX0_makeReady (S : ST)  : Option (ST) :=
  (if (S.1 19) = 0 then some S else (if (S.1 18) = 0 then mX0_makeReady_J28  S else (mJ7_fill_53178 S (0 : Int32)).bind (fun r8 => mX0_makeReady_J28  (sI r8 18 (0 : Int32)))))
def mX0_fact (S : ST) (p1 : Int32) (p2 : Int32) : Option (Int32) :=
  (if p2 < (2 : Int32) then (mX0_lengthWanted S p1).bind (fun r1 => (mX3_stockFor S r1).bind (fun r2 => (if r2 = (-1 : Int32) then some r2 else (if p2 = 0 then some r2 else gd (inB r2 3) (some ((S.2 9 r2.toNatClampNeg) - r1)))))) else (mX0_numberOf p1 (p2 - (2 : Int32))).bind (fun r3 => some r3))
def mX6_plate (S : ST) (p1 : Int32) (p2 : Int32) (p3 : Int32) (p4 : Int32) (p5 : Int32) : Option (Int32 × ST) :=
  (mX6_within p1 (1 : Int32) (16 : Int32)).bind (fun r1 => (if r1 = 0 then some ((-3 : Int32), S) else (mX6_within p2 (1 : Int32) (16 : Int32)).bind (fun r2 => (if r2 = 0 then some ((-3 : Int32), S) else (mX6_within p3 (0 : Int32) (2 : Int32)).bind (fun r3 => (if r3 = 0 then some ((-3 : Int32), S) else (mX6_within p4 (1 : Int32) (4 : Int32)).bind (fun r4 => (if r4 = 0 then some ((-3 : Int32), S) else (mX6_within p5 (0 : Int32) (1 : Int32)).bind (fun r5 => (if r5 = 0 then some ((-3 : Int32), S) else (mX4_become S p1 p2 p3 p4 p5).bind (fun r6 => (mX2_forget r6).bind (fun r7 => some ((1 : Int32), r7)))))))))))))
def mX6_defect (S : ST) (p1 : Int32) (p2 : Int32) (p3 : Int32) (p4 : Int32) : Option (Int32 × ST) :=
  (mX4_holds S p1 p2 p3 p4).bind (fun r1 => (if r1 = 0 then some ((-3 : Int32), S) else (mX4_spoil S p1 p2 p3 p4).bind (fun r2 => (if r2.1 = 0 then some ((-4 : Int32), r2.2) else (mX2_forget r2.2).bind (fun r3 => some ((r3.1 5), r3))))))
def mX6_kind (S : ST) (p1 : Int32) (p2 : Int32) (p3 : Int32) (p4 : Int32) : Option (Int32 × ST) :=
  (mX6_within p1 (1 : Int32) (16 : Int32)).bind (fun r1 => (if r1 = 0 then some ((-3 : Int32), S) else (mX6_within p2 (1 : Int32) (16 : Int32)).bind (fun r2 => (if r2 = 0 then some ((-3 : Int32), S) else (mX6_within p3 (1 : Int32) (1000 : Int32)).bind (fun r3 => (if r3 = 0 then some ((-3 : Int32), S) else (mX1_add S p1 p2 p3 p4).bind (fun r4 => (if r4.1 = (-4 : Int32) then some (r4.1, r4.2) else (mX2_forget r4.2).bind (fun r5 => some (r4.1, r5))))))))))
def mX6_value (S : ST) (p1 : Int32) (p2 : Int32) : Option (Int32 × ST) :=
  (mX6_within p1 (0 : Int32) ((S.1 6) - (1 : Int32))).bind (fun r1 => (if r1 = 0 then some ((-2 : Int32), S) else (mX6_within p2 (1 : Int32) (1000 : Int32)).bind (fun r2 => (if r2 = 0 then some ((-3 : Int32), S) else gd (inB p1 8) (gd (inB p1 8) ((mX2_forget (sG S 3 p1 p2)).bind (fun r3 => some ((S.2 3 p1.toNatClampNeg), r3))))))))
def mX6_worth (S : ST) (p1 : Int32) (p2 : Int32) (p3 : Int32) (p4 : Int32) (p5 : Int32) : Option (Int32 × ST) :=
  (mX4_holds S p1 p2 p3 p4).bind (fun r1 => (if r1 = 0 then some ((-3 : Int32), S) else (mX6_within p5 (1 : Int32) (S.1 3)).bind (fun r2 => (if r2 = 0 then some ((-3 : Int32), S) else (mX5_makeReady S).bind (fun r3 => (mX5_of r3 p1 p2 p3 p4 p5).bind (fun r4 => some (r4, r3)))))))
def mX6_pieces (S : ST)  : Option (Int32 × ST) :=
  (mX2_makeReady S).bind (fun r1 => some ((r1.1 8), r1))
def mX6_piece (S : ST) (p1 : Int32) (p2 : Int32) : Option (Int32 × ST) :=
  (mX6_within p2 (0 : Int32) (5 : Int32)).bind (fun r1 => (if r1 = 0 then some ((-3 : Int32), S) else (mX2_makeReady S).bind (fun r2 => (mX6_within p1 (0 : Int32) ((r2.1 8) - (1 : Int32))).bind (fun r3 => (if r3 = 0 then some ((-1 : Int32), r2) else gd (inB ((p1 * (6 : Int32)) + p2) 1536) (some ((r2.2 7 ((p1 * (6 : Int32)) + p2).toNatClampNeg), r2)))))))
def mX6_cuts (S : ST)  : Option (Int32 × ST) :=
  (mX2_makeReady S).bind (fun r1 => some ((r1.1 9), r1))
def mX6_cut (S : ST) (p1 : Int32) (p2 : Int32) : Option (Int32 × ST) :=
  (mX6_within p2 (0 : Int32) (6 : Int32)).bind (fun r1 => (if r1 = 0 then some ((-3 : Int32), S) else (mX2_makeReady S).bind (fun r2 => (mX6_within p1 (0 : Int32) ((r2.1 9) - (1 : Int32))).bind (fun r3 => (if r3 = 0 then some ((-1 : Int32), r2) else gd (inB ((p1 * (7 : Int32)) + p2) 1785) (some ((r2.2 8 ((p1 * (7 : Int32)) + p2).toNatClampNeg), r2)))))))
def mX6_waste (S : ST)  : Option (Int32 × ST) :=
  (mX2_makeReady S).bind (fun r1 => some ((r1.1 10), r1))
def mX6_stock (S : ST) (p1 : Int32) (p2 : Int32) : Option (Int32 × ST) :=
  (mX6_within p1 (1 : Int32) (99 : Int32)).bind (fun r1 => (if r1 = 0 then some ((-3 : Int32), S) else (mX6_within p2 (1 : Int32) (100 : Int32)).bind (fun r2 => (if r2 = 0 then some ((-3 : Int32), S) else (mX3_addStock S p1 p2).bind (fun r3 => (if r3.1 = (-4 : Int32) then some (r3.1, r3.2) else (mX0_forgetCosts r3.2).bind (fun r4 => some (r3.1, r4))))))))
def mX6_order (S : ST) (p1 : Int32) (p2 : Int32) : Option (Int32 × ST) :=
  (mX6_within p1 (1 : Int32) (99 : Int32)).bind (fun r1 => (if r1 = 0 then some ((-3 : Int32), S) else (mX6_within p2 (0 : Int32) (5 : Int32)).bind (fun r2 => (if r2 = 0 then some ((-3 : Int32), S) else (mX3_addOrder S p1 p2).bind (fun r3 => (if r3.1 = (-4 : Int32) then some (r3.1, r3.2) else (mX0_forgetCosts r3.2).bind (fun r4 => some (r3.1, r4))))))))
def mX6_demand (S : ST) (p1 : Int32) (p2 : Int32) : Option (Int32 × ST) :=
  (mX6_within p1 (0 : Int32) ((S.1 13) - (1 : Int32))).bind (fun r1 => (if r1 = 0 then some ((-2 : Int32), S) else (mX6_within p2 (0 : Int32) (5 : Int32)).bind (fun r2 => (if r2 = 0 then some ((-3 : Int32), S) else gd (inB p1 4) (gd (inB p1 4) ((mX0_forgetBars (sG S 12 p1 p2)).bind (fun r3 => some ((S.2 12 p1.toNatClampNeg), r3))))))))
def mX6_blade (S : ST) (p1 : Int32) : Option (Int32 × ST) :=
  (mX6_within p1 (0 : Int32) (3 : Int32)).bind (fun r1 => (if r1 = 0 then some ((-3 : Int32), S) else (mX0_forgetCosts (sI S 14 p1)).bind (fun r2 => some ((S.1 14), r2))))
def mX6_price (S : ST)  : Option (Int32 × ST) :=
  (mX0_makeReady S).bind (fun r1 => (if (r1.1 17) = 0 then some ((r1.1 16), r1) else some ((-1 : Int32), r1)))
def mX6_bars (S : ST)  : Option (Int32 × ST) :=
  (mX0_makeReady S).bind (fun r1 => (if (r1.1 17) = 0 then some ((r1.1 15), r1) else some ((-1 : Int32), r1)))
def mX6_bar (S : ST) (p1 : Int32) (p2 : Int32) : Option (Int32 × ST) :=
  (mX6_within p2 (0 : Int32) (5 : Int32)).bind (fun r1 => (if r1 = 0 then some ((-3 : Int32), S) else (mX0_makeReady S).bind (fun r2 => (mX6_within p1 (0 : Int32) ((r2.1 15) - (1 : Int32))).bind (fun r3 => (if r3 = 0 then some ((-1 : Int32), r2) else gd (inB p1 20) ((mX0_fact r2 (r2.2 16 p1.toNatClampNeg) p2).bind (fun r4 => some (r4, r2))))))))
def mX6_told (S : ST) (p1 : Int32) : Option (Int32) :=
  (if p1 = (0 : Int32) then some (S.1 0) else (if p1 = (1 : Int32) then some (S.1 1) else (if p1 = (2 : Int32) then some (S.1 2) else (if p1 = (3 : Int32) then some (S.1 3) else (if p1 = (4 : Int32) then some (S.1 4) else (if p1 = (5 : Int32) then some (S.1 5) else (if p1 = (6 : Int32) then some (S.1 6) else (if p1 = (7 : Int32) then some (S.1 12) else (if p1 = (8 : Int32) then some (S.1 13) else (if p1 = (9 : Int32) then some (S.1 14) else some (-3 : Int32)))))))))))
def mX6_noKinds (S : ST)  : Option (Int32 × ST) :=
  (mX2_forget (sI S 6 (0 : Int32))).bind (fun r1 => some ((S.1 6), r1))
def mX6_noBars (S : ST)  : Option (Int32 × ST) :=
  (mX0_forgetCosts (sI (sI S 12 (0 : Int32)) 13 (0 : Int32))).bind (fun r1 => some (((S.1 12) + (S.1 13)), r1))
def mX7_within (p0 : Int32) (p1 : Int32) (p2 : Int32) : Option (Int32) :=
  (if p0 < p1 then some (0 : Int32) else (if p2 < p0 then some (0 : Int32) else some (1 : Int32)))
def mX7_plate (S : ST) (p1 : Int32) (p2 : Int32) (p3 : Int32) (p4 : Int32) (p5 : Int32) : Option (Int32 × ST) :=
  (mX7_within p1 (1 : Int32) (16 : Int32)).bind (fun r1 => (if r1 = 0 then some ((-3 : Int32), S) else (mX7_within p2 (1 : Int32) (16 : Int32)).bind (fun r2 => (if r2 = 0 then some ((-3 : Int32), S) else (mX7_within p3 (0 : Int32) (2 : Int32)).bind (fun r3 => (if r3 = 0 then some ((-3 : Int32), S) else (mX7_within p4 (1 : Int32) (4 : Int32)).bind (fun r4 => (if r4 = 0 then some ((-3 : Int32), S) else (mX7_within p5 (0 : Int32) (1 : Int32)).bind (fun r5 => (if r5 = 0 then some ((-3 : Int32), S) else some ((1 : Int32), (sI (sI (sI (sI (sI (sI (sI S 0 p1) 1 p2) 2 p3) 3 p4) 4 p5) 5 (0 : Int32)) 7 (0 : Int32)))))))))))))
def mX7_lies (S : ST) (p1 : Int32) (p2 : Int32) (p3 : Int32) (p4 : Int32) : Option (Int32) :=
  (mX7_within p1 (0 : Int32) ((S.1 0) - (1 : Int32))).bind (fun r1 => (if r1 = 0 then some (0 : Int32) else (mX7_within p2 (0 : Int32) ((S.1 1) - (1 : Int32))).bind (fun r2 => (if r2 = 0 then some (0 : Int32) else (mX7_within p3 (1 : Int32) ((S.1 0) - p1)).bind (fun r3 => (if r3 = 0 then some (0 : Int32) else (mX7_within p4 (1 : Int32) ((S.1 1) - p2)).bind (fun r4 => (if r4 = 0 then some (0 : Int32) else some (1 : Int32)))))))))
def mX7_defect (S : ST) (p1 : Int32) (p2 : Int32) (p3 : Int32) (p4 : Int32) : Option (Int32 × ST) :=
  (mX7_lies S p1 p2 p3 p4).bind (fun r1 => (if r1 = 0 then some ((-3 : Int32), S) else (if (S.1 5) = (6 : Int32) then some ((-4 : Int32), S) else gd (inB (S.1 5) 6) (gd (inB (S.1 5) 6) (gd (inB (S.1 5) 6) (gd (inB (S.1 5) 6) (some (((S.1 5) + (1 : Int32)), (sI (sI (sG (sG (sG (sG S 0 (S.1 5) p1) 1 (S.1 5) p2) 2 (S.1 5) p3) 3 (S.1 5) p4) 5 ((S.1 5) + (1 : Int32))) 7 (0 : Int32))))))))))
def mX7_kind (S : ST) (p1 : Int32) (p2 : Int32) (p3 : Int32) (p4 : Int32) : Option (Int32 × ST) :=
  (mX7_within p1 (1 : Int32) (16 : Int32)).bind (fun r1 => (if r1 = 0 then some ((-3 : Int32), S) else (mX7_within p2 (1 : Int32) (16 : Int32)).bind (fun r2 => (if r2 = 0 then some ((-3 : Int32), S) else (mX7_within p3 (1 : Int32) (1000 : Int32)).bind (fun r3 => (if r3 = 0 then some ((-3 : Int32), S) else (if (S.1 6) = (8 : Int32) then some ((-4 : Int32), S) else gd (inB (S.1 6) 8) (gd (inB (S.1 6) 8) (gd (inB (S.1 6) 8) (gd (inB (S.1 6) 8) (some ((((S.1 6) + (1 : Int32)) - (1 : Int32)), (sI (sI (sG (sG (sG (sG S 4 (S.1 6) p1) 5 (S.1 6) p2) 6 (S.1 6) p3) 7 (S.1 6) (vp_nar .boolean p4)) 6 ((S.1 6) + (1 : Int32))) 7 (0 : Int32))))))))))))))
def mX7_value (S : ST) (p1 : Int32) (p2 : Int32) : Option (Int32 × ST) :=
  (mX7_within p1 (0 : Int32) ((S.1 6) - (1 : Int32))).bind (fun r1 => (if r1 = 0 then some ((-2 : Int32), S) else (mX7_within p2 (1 : Int32) (1000 : Int32)).bind (fun r2 => (if r2 = 0 then some ((-3 : Int32), S) else gd (inB p1 8) (gd (inB p1 8) (some ((S.2 6 p1.toNatClampNeg), (sI (sG S 6 p1 p2) 7 (0 : Int32)))))))))
def mX7_at (S : ST) (p1 : Int32) (p2 : Int32) (p3 : Int32) (p4 : Int32) (p5 : Int32) : Option (Int32) :=
  gd (inB ((((16 : Int32) * p2) + p4) - (1 : Int32)) 256) (gd (inB ((((16 : Int32) * p3) + p5) - (1 : Int32)) 256) (some (((((136 : Int32) * (p1 - (1 : Int32))) + (S.2 8 ((((16 : Int32) * p2) + p4) - (1 : Int32)).toNatClampNeg)) * (136 : Int32)) + (S.2 8 ((((16 : Int32) * p3) + p5) - (1 : Int32)).toNatClampNeg))))
def mX7_isSpoiled_X6  (S : ST) (p1 : Int32) (p2 : Int32) (p3 : Int32) (p4 : Int32) (v5_6 : Int32) (v6_6 : Int32) : Option (Int32) :=
  gd (zB v5_6) (some v5_6)
def mX7_isSpoiled_J85 (k : Int32 → Int32 → Option (Int32)) (x : Int32 → Int32 → Option (Int32)) (S : ST) (p1 : Int32) (p2 : Int32) (p3 : Int32) (p4 : Int32) (v5_6 : Int32) (v6_6 : Int32) (t0_85 : Int32) : Option (Int32) :=
  (if v5_6 = 0 then (if t0_85 = 0 then k (1 : Int32) (v6_6 + (1 : Int32)) else k (0 : Int32) (v6_6 + (1 : Int32))) else k (1 : Int32) (v6_6 + (1 : Int32)))
def mX7_isSpoiled_B6 (k x : Int32 → Int32 → Option (Int32)) (S : ST) (p1 : Int32) (p2 : Int32) (p3 : Int32) (p4 : Int32) (v5_6 : Int32) (v6_6 : Int32) : Option (Int32) :=
  (if (S.1 5) ≤ v6_6 then x v5_6 v6_6 else gd (inB v6_6 6) ((if (p1 + p3) ≤ (S.2 0 v6_6.toNatClampNeg) then mX7_isSpoiled_J85 k x S p1 p2 p3 p4 v5_6 v6_6 (1 : Int32) else gd (inB v6_6 6) (gd (inB v6_6 6) ((if ((S.2 0 v6_6.toNatClampNeg) + (S.2 2 v6_6.toNatClampNeg)) ≤ p1 then mX7_isSpoiled_J85 k x S p1 p2 p3 p4 v5_6 v6_6 (1 : Int32) else gd (inB v6_6 6) ((if (p2 + p4) ≤ (S.2 1 v6_6.toNatClampNeg) then mX7_isSpoiled_J85 k x S p1 p2 p3 p4 v5_6 v6_6 (1 : Int32) else gd (inB v6_6 6) (gd (inB v6_6 6) ((if p2 < ((S.2 1 v6_6.toNatClampNeg) + (S.2 3 v6_6.toNatClampNeg)) then mX7_isSpoiled_J85 k x S p1 p2 p3 p4 v5_6 v6_6 (0 : Int32) else mX7_isSpoiled_J85 k x S p1 p2 p3 p4 v5_6 v6_6 (1 : Int32))))))))))))
def mX7_isSpoiled (S : ST) (p1 : Int32) (p2 : Int32) (p3 : Int32) (p4 : Int32) : Option (Int32) :=
  LPf (κ := Int32 → Int32 → Option (Int32)) (fun _ _ => none) (fun kk => mX7_isSpoiled_B6 kk (mX7_isSpoiled_X6  S p1 p2 p3 p4) S p1 p2 p3 p4) FU (0 : Int32) (0 : Int32)
def mX7_isLike (S : ST) (p1 : Int32) (p2 : Int32) (p3 : Int32) (p4 : Int32) : Option (Int32) :=
  (if p2 = 0 then gd (inB p1 8) ((if (S.2 4 p1.toNatClampNeg) = p3 then gd (inB p1 8) ((if (S.2 5 p1.toNatClampNeg) = p4 then some (1 : Int32) else some (0 : Int32))) else some (0 : Int32))) else gd (inB p1 8) ((if (S.2 7 p1.toNatClampNeg) = 0 then some (0 : Int32) else gd (inB p1 8) ((if (S.2 5 p1.toNatClampNeg) = p3 then gd (inB p1 8) ((if (S.2 4 p1.toNatClampNeg) = p4 then some (1 : Int32) else some (0 : Int32))) else some (0 : Int32))))))
def mX7_bestPiece_X6  (S : ST) (p1 : Int32) (p2 : Int32) (p3 : Int32) (p4 : Int32) (v5_6 : Int32) (v6_6 : Int32) : Option (Int32) :=
  (if v5_6 ≤ 0 then some v5_6 else (mX7_isSpoiled S p1 p2 p3 p4).bind (fun r1 => (if r1 = 0 then some v5_6 else some (0 : Int32))))
def mX7_bestPiece_B6 (k x : Int32 → Int32 → Option (Int32)) (S : ST) (p1 : Int32) (p2 : Int32) (p3 : Int32) (p4 : Int32) (v5_6 : Int32) (v6_6 : Int32) : Option (Int32) :=
  (if (S.1 6) ≤ v6_6 then x v5_6 v6_6 else (mX7_isLike S v6_6 (0 : Int32) p3 p4).bind (fun r2 => (if r2 = 0 then (mX7_isLike S v6_6 (1 : Int32) p3 p4).bind (fun r3 => (if r3 = 0 then k v5_6 (v6_6 + (1 : Int32)) else gd (inB v6_6 8) ((if (S.2 6 v6_6.toNatClampNeg) ≤ v5_6 then k v5_6 (v6_6 + (1 : Int32)) else gd (inB v6_6 8) (k (S.2 6 v6_6.toNatClampNeg) (v6_6 + (1 : Int32))))))) else gd (inB v6_6 8) ((if (S.2 6 v6_6.toNatClampNeg) ≤ v5_6 then k v5_6 (v6_6 + (1 : Int32)) else gd (inB v6_6 8) (k (S.2 6 v6_6.toNatClampNeg) (v6_6 + (1 : Int32))))))))
def mX7_bestPiece (S : ST) (p1 : Int32) (p2 : Int32) (p3 : Int32) (p4 : Int32) : Option (Int32) :=
  LPf (κ := Int32 → Int32 → Option (Int32)) (fun _ _ => none) (fun kk => mX7_bestPiece_B6 kk (mX7_bestPiece_X6  S p1 p2 p3 p4) S p1 p2 p3 p4) FU (0 : Int32) (0 : Int32)
def mX7_wayOf (S : ST) (p1 : Int32) : Option (Int32) :=
  (if (p1 - p1 / (2 : Int32) * (2 : Int32)) = (1 : Int32) then some (S.1 4) else some ((1 : Int32) - (S.1 4)))
def mX7_both (S : ST) (p1 : Int32) (p2 : Int32) (p3 : Int32) (p4 : Int32) (p5 : Int32) (p6 : Int32) : Option (Int32) :=
  (mX7_wayOf S p1).bind (fun r1 => (if r1 = 0 then (mX7_at S p1 p2 p3 p6 p5).bind (fun r4 => gd (inB r4 73984) ((mX7_at S p1 ((p2 + p6) + (S.1 2)) p3 ((p4 - p6) - (S.1 2)) p5).bind (fun r5 => gd (inB r5 73984) (some ((S.2 9 r4.toNatClampNeg) + (S.2 9 r5.toNatClampNeg)))))) else (mX7_at S p1 p2 p3 p4 p6).bind (fun r2 => gd (inB r2 73984) ((mX7_at S p1 p2 ((p3 + p6) + (S.1 2)) p4 ((p5 - p6) - (S.1 2))).bind (fun r3 => gd (inB r3 73984) (some ((S.2 9 r2.toNatClampNeg) + (S.2 9 r3.toNatClampNeg))))))))
def mX7_workPart_X17  (p1 : Int32) (p2 : Int32) (p3 : Int32) (p4 : Int32) (r1 : Int32) (S_17 : ST) (v6_17 : Int32) : Option (ST) :=
  some S_17
def mX7_workPart_J140 (k : ST → Int32 → Option (ST)) (x : ST → Int32 → Option (ST)) (S_17 : ST) (p1 : Int32) (p2 : Int32) (p3 : Int32) (p4 : Int32) (r1 : Int32) (v6_17 : Int32) (v7_140 : Int32) (t0_41 : Int32) (v9_140 : Int32) : Option (ST) :=
  (mX7_at S_17 v6_17 p1 p2 p3 p4).bind (fun r3 => gd (inB r3 73984) (k (sG S_17 9 r3 v7_140) (v6_17 + (-1 : Int32))))
def mX7_workPart_X46 (k : ST → Int32 → Option (ST)) (x : ST → Int32 → Option (ST)) (S_17 : ST) (p1 : Int32) (p2 : Int32) (p3 : Int32) (p4 : Int32) (r1 : Int32) (v6_17 : Int32) (t0_41 : Int32) (v7_46 : Int32) (v9_46 : Int32) : Option (ST) :=
  (if (S_17.1 3) ≤ v6_17 then mX7_workPart_J140 k x S_17 p1 p2 p3 p4 r1 v6_17 v7_46 t0_41 v9_46 else (mX7_at S_17 (v6_17 + (1 : Int32)) p1 p2 p3 p4).bind (fun r4 => gd (inB r4 73984) ((if (S_17.2 9 r4.toNatClampNeg) ≤ v7_46 then mX7_workPart_J140 k x S_17 p1 p2 p3 p4 r1 v6_17 v7_46 t0_41 (S_17.2 9 r4.toNatClampNeg) else mX7_workPart_J140 k x S_17 p1 p2 p3 p4 r1 v6_17 (S_17.2 9 r4.toNatClampNeg) t0_41 (S_17.2 9 r4.toNatClampNeg)))))
def mX7_workPart_B46 (k x : Int32 → Int32 → Option (ST)) (S_17 : ST) (p1 : Int32) (p2 : Int32) (p3 : Int32) (p4 : Int32) (r1 : Int32) (v6_17 : Int32) (t0_41 : Int32) (v7_46 : Int32) (v9_46 : Int32) : Option (ST) :=
  (if t0_41 ≤ (v9_46 + (S_17.1 2)) then x v7_46 v9_46 else (mX7_both S_17 v6_17 p1 p2 p3 p4 v9_46).bind (fun r5 => (if r5 ≤ v7_46 then k v7_46 (v9_46 + (1 : Int32)) else k r5 (v9_46 + (1 : Int32)))))
def mX7_workPart_J41 (k : ST → Int32 → Option (ST)) (x : ST → Int32 → Option (ST)) (S_17 : ST) (p1 : Int32) (p2 : Int32) (p3 : Int32) (p4 : Int32) (r1 : Int32) (v6_17 : Int32) (r1 : Int32) (t0_41 : Int32) : Option (ST) :=
  LPf (κ := Int32 → Int32 → Option (ST)) (fun _ _ => none) (fun kk => mX7_workPart_B46 kk (mX7_workPart_X46 k x S_17 p1 p2 p3 p4 r1 v6_17 t0_41) S_17 p1 p2 p3 p4 r1 v6_17 t0_41) FU r1 (1 : Int32)
def mX7_workPart_B17 (k x : ST → Int32 → Option (ST)) (p1 : Int32) (p2 : Int32) (p3 : Int32) (p4 : Int32) (r1 : Int32) (S_17 : ST) (v6_17 : Int32) : Option (ST) :=
  (if v6_17 ≤ 0 then x S_17 v6_17 else (mX7_wayOf S_17 v6_17).bind (fun r2 => (if r2 = 0 then mX7_workPart_J41 k x S_17 p1 p2 p3 p4 r1 v6_17 r1 p3 else mX7_workPart_J41 k x S_17 p1 p2 p3 p4 r1 v6_17 r1 p4)))
def mX7_workPart (S : ST) (p1 : Int32) (p2 : Int32) (p3 : Int32) (p4 : Int32) : Option (ST) :=
  (mX7_bestPiece S p1 p2 p3 p4).bind (fun r1 => LPf (κ := ST → Int32 → Option (ST)) (fun _ _ => none) (fun kk => mX7_workPart_B17 kk (mX7_workPart_X17  p1 p2 p3 p4 r1) p1 p2 p3 p4 r1) FU S (S.1 3))
def mX7_lay (S : ST) (p1 : Int32) (p2 : Int32) (p3 : Int32) (p4 : Int32) (p5 : Int32) : Option (ST) :=
  gd (inB (S.1 10) 1300) (gd (inB ((S.1 10) + (1 : Int32)) 1300) (gd (inB ((S.1 10) + (2 : Int32)) 1300) (gd (inB ((S.1 10) + (3 : Int32)) 1300) (gd (inB ((S.1 10) + (4 : Int32)) 1300) (some (sI (sG (sG (sG (sG (sG S 20 (S.1 10) p1) 20 ((S.1 10) + (1 : Int32)) p2) 20 ((S.1 10) + (2 : Int32)) p3) 20 ((S.1 10) + (3 : Int32)) p4) 20 ((S.1 10) + (4 : Int32)) p5) 10 ((S.1 10) + (5 : Int32))))))))
def mX7_isPiece_X17  (S : ST) (p1 : Int32) (p2 : Int32) (p3 : Int32) (p4 : Int32) (p5 : Int32) (v6_17 : Int32) : Option (Int32 × ST) :=
  some ((0 : Int32), S)
def mX7_isPiece_X29 (k : Int32 → Option (Int32 × ST)) (x : Int32 → Option (Int32 × ST)) (S : ST) (p1 : Int32) (p2 : Int32) (p3 : Int32) (p4 : Int32) (p5 : Int32) (v6_17 : Int32) (v7_29 : Int32) : Option (Int32 × ST) :=
  k (v6_17 + (1 : Int32))
def mX7_isPiece_B29 (k x : Int32 → Option (Int32 × ST)) (S : ST) (p1 : Int32) (p2 : Int32) (p3 : Int32) (p4 : Int32) (p5 : Int32) (v6_17 : Int32) (v7_29 : Int32) : Option (Int32 × ST) :=
  (if (2 : Int32) ≤ v7_29 then x v7_29 else gd (inB v6_17 8) ((if (S.2 6 v6_17.toNatClampNeg) = p5 then (mX7_isLike S v6_17 v7_29 p3 p4).bind (fun r2 => (if r2 = 0 then k (v7_29 + (1 : Int32)) else gd (inB (S.1 8) 256) (gd (inB (S.1 8) 256) (gd (inB (S.1 8) 256) (gd (inB (S.1 8) 256) (some ((1 : Int32), (sI (sG (sG (sG (sG S 10 (S.1 8) v6_17) 11 (S.1 8) p1) 12 (S.1 8) p2) 13 (S.1 8) v7_29) 8 ((S.1 8) + (1 : Int32)))))))))) else k (v7_29 + (1 : Int32)))))
def mX7_isPiece_B17 (k x : Int32 → Option (Int32 × ST)) (S : ST) (p1 : Int32) (p2 : Int32) (p3 : Int32) (p4 : Int32) (p5 : Int32) (v6_17 : Int32) : Option (Int32 × ST) :=
  (if (S.1 6) ≤ v6_17 then x v6_17 else LPf (κ := Int32 → Option (Int32 × ST)) (fun _ => none) (fun kk => mX7_isPiece_B29 kk (mX7_isPiece_X29 k x S p1 p2 p3 p4 p5 v6_17) S p1 p2 p3 p4 p5 v6_17) FU (0 : Int32))
def mX7_isPiece (S : ST) (p1 : Int32) (p2 : Int32) (p3 : Int32) (p4 : Int32) (p5 : Int32) : Option (Int32 × ST) :=
  (mX7_isSpoiled S p1 p2 p3 p4).bind (fun r1 => (if r1 = 0 then LPf (κ := Int32 → Option (Int32 × ST)) (fun _ => none) (fun kk => mX7_isPiece_B17 kk (mX7_isPiece_X17  S p1 p2 p3 p4 p5) S p1 p2 p3 p4 p5) FU (0 : Int32) else some ((0 : Int32), S)))
def mX7_layPart_X63  (S_58 : ST) (p1 : Int32) (p2 : Int32) (p3 : Int32) (p4 : Int32) (p5 : Int32) (v6_58 : Int32) (r3 : Int32) (t0_58 : Int32) (v9_63 : Int32) : Option (ST) :=
  (mX7_lay S_58 (p1 + (1 : Int32)) p2 p3 p4 p5).bind (fun r4 => some r4)
def mX7_layPart_J127 (k : Int32 → Option (ST)) (x : Int32 → Option (ST)) (S_127 : ST) (p1 : Int32) (p2 : Int32) (p3 : Int32) (p4 : Int32) (p5 : Int32) (v6_58 : Int32) (r3 : Int32) (t0_58 : Int32) (v9_63 : Int32) (t0_127 : Int32) (t1_127 : Int32) : Option (ST) :=
  gd (inB t1_127 256) (gd (inB (S_127.1 9) 256) (gd (inB (S_127.1 9) 256) (gd (inB (S_127.1 9) 256) (gd (inB (S_127.1 9) 256) ((if r3 = 0 then (mX7_lay (sI (sG (sG (sG (sG (sG S_127 15 t1_127 t0_127) 16 (S_127.1 9) p2) 17 (S_127.1 9) p3) 18 (S_127.1 9) p4) 19 (S_127.1 9) p5) 9 ((S_127.1 9) + (1 : Int32))) p1 ((p2 + v9_63) + (S_127.1 2)) p3 ((p4 - v9_63) - (S_127.1 2)) p5).bind (fun r8 => (mX7_lay r8 p1 p2 p3 v9_63 p5).bind (fun r9 => some r9)) else (mX7_lay (sI (sG (sG (sG (sG (sG S_127 15 t1_127 t0_127) 16 (S_127.1 9) p2) 17 (S_127.1 9) p3) 18 (S_127.1 9) p4) 19 (S_127.1 9) p5) 9 ((S_127.1 9) + (1 : Int32))) p1 p2 ((p3 + v9_63) + (S_127.1 2)) p4 ((p5 - v9_63) - (S_127.1 2))).bind (fun r6 => (mX7_lay r6 p1 p2 p3 p4 v9_63).bind (fun r7 => some r7))))))))
def mX7_layPart_B63 (k x : Int32 → Option (ST)) (S_58 : ST) (p1 : Int32) (p2 : Int32) (p3 : Int32) (p4 : Int32) (p5 : Int32) (v6_58 : Int32) (r3 : Int32) (t0_58 : Int32) (v9_63 : Int32) : Option (ST) :=
  (if t0_58 ≤ (v9_63 + (S_58.1 2)) then x v9_63 else (mX7_both S_58 p1 p2 p3 p4 p5 v9_63).bind (fun r5 => (if r5 = v6_58 then gd (inB (S_58.1 9) 256) ((if r3 = 0 then mX7_layPart_J127 k x (sG S_58 14 (S_58.1 9) p1) p1 p2 p3 p4 p5 v6_58 r3 t0_58 v9_63 (p2 + v9_63) (S_58.1 9) else mX7_layPart_J127 k x (sG S_58 14 (S_58.1 9) p1) p1 p2 p3 p4 p5 v6_58 r3 t0_58 v9_63 (p3 + v9_63) (S_58.1 9))) else k (v9_63 + (1 : Int32)))))
def mX7_layPart_J58 (S_58 : ST) (p1 : Int32) (p2 : Int32) (p3 : Int32) (p4 : Int32) (p5 : Int32) (v6_58 : Int32) (r3 : Int32) (t0_58 : Int32) : Option (ST) :=
  LPf (κ := Int32 → Option (ST)) (fun _ => none) (fun kk => mX7_layPart_B63 kk (mX7_layPart_X63  S_58 p1 p2 p3 p4 p5 v6_58 r3 t0_58) S_58 p1 p2 p3 p4 p5 v6_58 r3 t0_58) FU (1 : Int32)
def mX7_layPart (S : ST) (p1 : Int32) (p2 : Int32) (p3 : Int32) (p4 : Int32) (p5 : Int32) : Option (ST) :=
  (mX7_at S p1 p2 p3 p4 p5).bind (fun r1 => gd (inB r1 73984) ((if (S.2 9 r1.toNatClampNeg) = 0 then some S else (mX7_isPiece S p2 p3 p4 p5 (S.2 9 r1.toNatClampNeg)).bind (fun r2 => (if r2.1 = 0 then (mX7_wayOf r2.2 p1).bind (fun r3 => (if r3 = 0 then mX7_layPart_J58  r2.2 p1 p2 p3 p4 p5 (S.2 9 r1.toNatClampNeg) r3 p4 else mX7_layPart_J58  r2.2 p1 p2 p3 p4 p5 (S.2 9 r1.toNatClampNeg) r3 p5)) else some r2.2)))))
def mX7_layPlan_X30   (S_30 : ST)  : Option (ST) :=
  some S_30
def mX7_layPlan_B30 (k x : ST → Option (ST))  (S_30 : ST)  : Option (ST) :=
  (if (S_30.1 10) ≤ 0 then x S_30 else gd (inB ((S_30.1 10) - (5 : Int32)) 1300) (gd (inB (((S_30.1 10) - (5 : Int32)) + (1 : Int32)) 1300) (gd (inB (((S_30.1 10) - (5 : Int32)) + (2 : Int32)) 1300) (gd (inB (((S_30.1 10) - (5 : Int32)) + (3 : Int32)) 1300) (gd (inB (((S_30.1 10) - (5 : Int32)) + (4 : Int32)) 1300) ((mX7_layPart (sI S_30 10 ((S_30.1 10) - (5 : Int32))) (S_30.2 20 ((S_30.1 10) - (5 : Int32)).toNatClampNeg) (S_30.2 20 (((S_30.1 10) - (5 : Int32)) + (1 : Int32)).toNatClampNeg) (S_30.2 20 (((S_30.1 10) - (5 : Int32)) + (2 : Int32)).toNatClampNeg) (S_30.2 20 (((S_30.1 10) - (5 : Int32)) + (3 : Int32)).toNatClampNeg) (S_30.2 20 (((S_30.1 10) - (5 : Int32)) + (4 : Int32)).toNatClampNeg)).bind (fun r2 => k r2)))))))
def mX7_layPlan (S : ST)  : Option (ST) :=
  (mX7_lay (sI (sI (sI S 8 (0 : Int32)) 9 (0 : Int32)) 10 (0 : Int32)) (1 : Int32) (0 : Int32) (0 : Int32) (S.1 0) (S.1 1)).bind (fun r1 => LPf (κ := ST → Option (ST)) (fun _ => none) (fun kk => mX7_layPlan_B30 kk (mX7_layPlan_X30  ) ) FU r1)
def mX7_work_X15   (S_15 : ST) (v1_15 : Int32) : Option (ST) :=
  (mX7_layPlan S_15).bind (fun r1 => some r1)
def mX7_work_X25 (k : ST → Int32 → Option (ST)) (x : ST → Int32 → Option (ST)) (v1_15 : Int32) (S_25 : ST) (v2_25 : Int32) : Option (ST) :=
  k S_25 (v1_15 + (1 : Int32))
def mX7_work_X35 (k : ST → Int32 → Option (ST)) (x : ST → Int32 → Option (ST)) (v1_15 : Int32) (v2_25 : Int32) (S_35 : ST) (v3_35 : Int32) : Option (ST) :=
  k S_35 (v2_25 + (1 : Int32))
def mX7_work_X48 (k : ST → Int32 → Option (ST)) (x : ST → Int32 → Option (ST)) (v1_15 : Int32) (v2_25 : Int32) (v3_35 : Int32) (S_48 : ST) (v4_48 : Int32) : Option (ST) :=
  k S_48 (v3_35 + (1 : Int32))
def mX7_work_B48 (k x : ST → Int32 → Option (ST)) (v1_15 : Int32) (v2_25 : Int32) (v3_35 : Int32) (S_48 : ST) (v4_48 : Int32) : Option (ST) :=
  (if (S_48.1 1) < (v4_48 + v2_25) then x S_48 v4_48 else (mX7_workPart S_48 v3_35 v4_48 v1_15 v2_25).bind (fun r2 => k r2 (v4_48 + (1 : Int32))))
def mX7_work_B35 (k x : ST → Int32 → Option (ST)) (v1_15 : Int32) (v2_25 : Int32) (S_35 : ST) (v3_35 : Int32) : Option (ST) :=
  (if (S_35.1 0) < (v3_35 + v1_15) then x S_35 v3_35 else LPf (κ := ST → Int32 → Option (ST)) (fun _ _ => none) (fun kk => mX7_work_B48 kk (mX7_work_X48 k x v1_15 v2_25 v3_35) v1_15 v2_25 v3_35) FU S_35 (0 : Int32))
def mX7_work_B25 (k x : ST → Int32 → Option (ST)) (v1_15 : Int32) (S_25 : ST) (v2_25 : Int32) : Option (ST) :=
  (if (S_25.1 1) < v2_25 then x S_25 v2_25 else LPf (κ := ST → Int32 → Option (ST)) (fun _ _ => none) (fun kk => mX7_work_B35 kk (mX7_work_X35 k x v1_15 v2_25) v1_15 v2_25) FU S_25 (0 : Int32))
def mX7_work_B15 (k x : ST → Int32 → Option (ST))  (S_15 : ST) (v1_15 : Int32) : Option (ST) :=
  (if (S_15.1 0) < v1_15 then x S_15 v1_15 else LPf (κ := ST → Int32 → Option (ST)) (fun _ _ => none) (fun kk => mX7_work_B25 kk (mX7_work_X25 k x v1_15) v1_15) FU S_15 (1 : Int32))
def mX7_work (S : ST)  : Option (ST) :=
  (if (S.1 7) = 0 then LPf (κ := ST → Int32 → Option (ST)) (fun _ _ => none) (fun kk => mX7_work_B15 kk (mX7_work_X15  ) ) FU (sI S 7 (1 : Int32)) (1 : Int32) else some S)
def mX7_worth (S : ST) (p1 : Int32) (p2 : Int32) (p3 : Int32) (p4 : Int32) (p5 : Int32) : Option (Int32 × ST) :=
  (mX7_lies S p1 p2 p3 p4).bind (fun r1 => (if r1 = 0 then some ((-3 : Int32), S) else (mX7_within p5 (1 : Int32) (S.1 3)).bind (fun r2 => (if r2 = 0 then some ((-3 : Int32), S) else (mX7_work S).bind (fun r3 => (mX7_at r3 p5 p1 p2 p3 p4).bind (fun r4 => gd (inB r4 73984) (some ((r3.2 9 r4.toNatClampNeg), r3))))))))
def mX7_pieces (S : ST)  : Option (Int32 × ST) :=
  (mX7_work S).bind (fun r1 => some ((r1.1 8), r1))
def mX7_pieceSide_J22 (S : ST) (p1 : Int32) (p2 : Int32) (v3_22 : Int32) (t0_22 : Int32) (p2 : Int32) : Option (Int32) :=
  (if p2 = t0_22 then gd (inB v3_22 8) (some (S.2 4 v3_22.toNatClampNeg)) else gd (inB v3_22 8) (some (S.2 5 v3_22.toNatClampNeg)))
def mX7_pieceSide (S : ST) (p1 : Int32) (p2 : Int32) : Option (Int32) :=
  gd (inB p1 256) (gd (inB p1 256) ((if (S.2 13 p1.toNatClampNeg) = 0 then mX7_pieceSide_J22  S p1 p2 (S.2 10 p1.toNatClampNeg) (1 : Int32) p2 else mX7_pieceSide_J22  S p1 p2 (S.2 10 p1.toNatClampNeg) (0 : Int32) p2)))
def mX7_piece (S : ST) (p1 : Int32) (p2 : Int32) : Option (Int32 × ST) :=
  (mX7_within p2 (0 : Int32) (5 : Int32)).bind (fun r1 => (if r1 = 0 then some ((-3 : Int32), S) else (mX7_work S).bind (fun r2 => (mX7_within p1 (0 : Int32) ((r2.1 8) - (1 : Int32))).bind (fun r3 => (if r3 = 0 then some ((-1 : Int32), r2) else (if p2 = (0 : Int32) then gd (inB p1 256) (some ((r2.2 10 p1.toNatClampNeg), r2)) else (if p2 = (1 : Int32) then gd (inB p1 256) (some ((r2.2 11 p1.toNatClampNeg), r2)) else (if p2 = (2 : Int32) then gd (inB p1 256) (some ((r2.2 12 p1.toNatClampNeg), r2)) else (if p2 = (3 : Int32) then (mX7_pieceSide r2 p1 (1 : Int32)).bind (fun r5 => some (r5, r2)) else (if p2 = (4 : Int32) then (mX7_pieceSide r2 p1 (0 : Int32)).bind (fun r4 => some (r4, r2)) else gd (inB p1 256) (some ((r2.2 13 p1.toNatClampNeg), r2))))))))))))
def mX7_cuts (S : ST)  : Option (Int32 × ST) :=
  (mX7_work S).bind (fun r1 => some ((r1.1 9), r1))
def mX7_cut (S : ST) (p1 : Int32) (p2 : Int32) : Option (Int32 × ST) :=
  (mX7_within p2 (0 : Int32) (6 : Int32)).bind (fun r1 => (if r1 = 0 then some ((-3 : Int32), S) else (mX7_work S).bind (fun r2 => (mX7_within p1 (0 : Int32) ((r2.1 9) - (1 : Int32))).bind (fun r3 => (if r3 = 0 then some ((-1 : Int32), r2) else (if p2 = (0 : Int32) then gd (inB p1 256) (some ((r2.2 14 p1.toNatClampNeg), r2)) else (if p2 = (1 : Int32) then gd (inB p1 256) ((mX7_wayOf r2 (r2.2 14 p1.toNatClampNeg)).bind (fun r4 => some (r4, r2))) else (if p2 = (2 : Int32) then gd (inB p1 256) (some ((r2.2 15 p1.toNatClampNeg), r2)) else (if p2 = (3 : Int32) then gd (inB p1 256) (some ((r2.2 16 p1.toNatClampNeg), r2)) else (if p2 = (4 : Int32) then gd (inB p1 256) (some ((r2.2 17 p1.toNatClampNeg), r2)) else (if p2 = (5 : Int32) then gd (inB p1 256) (some ((r2.2 18 p1.toNatClampNeg), r2)) else gd (inB p1 256) (some ((r2.2 19 p1.toNatClampNeg), r2)))))))))))))
def mX7_waste_X16  (r1 : ST)  (v1_16 : Int32) (v2_16 : Int32) : Option (Int32 × ST) :=
  some (v1_16, r1)
def mX7_waste_B16 (k x : Int32 → Int32 → Option (Int32 × ST)) (r1 : ST)  (v1_16 : Int32) (v2_16 : Int32) : Option (Int32 × ST) :=
  (if (r1.1 8) ≤ v2_16 then x v1_16 v2_16 else gd (inB v2_16 256) (gd (inB (r1.2 10 v2_16.toNatClampNeg) 8) (gd (inB v2_16 256) (gd (inB (r1.2 10 v2_16.toNatClampNeg) 8) (k (v1_16 - ((r1.2 4 (r1.2 10 v2_16.toNatClampNeg).toNatClampNeg) * (r1.2 5 (r1.2 10 v2_16.toNatClampNeg).toNatClampNeg))) (v2_16 + (1 : Int32)))))))
def mX7_waste (S : ST)  : Option (Int32 × ST) :=
  (mX7_work S).bind (fun r1 => LPf (κ := Int32 → Int32 → Option (Int32 × ST)) (fun _ _ => none) (fun kk => mX7_waste_B16 kk (mX7_waste_X16  r1 ) r1 ) FU ((r1.1 0) * (r1.1 1)) (0 : Int32))
def mX7_stock (S : ST) (p1 : Int32) (p2 : Int32) : Option (Int32 × ST) :=
  (mX7_within p1 (1 : Int32) (99 : Int32)).bind (fun r1 => (if r1 = 0 then some ((-3 : Int32), S) else (mX7_within p2 (1 : Int32) (100 : Int32)).bind (fun r2 => (if r2 = 0 then some ((-3 : Int32), S) else (if (S.1 11) = (3 : Int32) then some ((-4 : Int32), S) else gd (inB (S.1 11) 3) (gd (inB (S.1 11) 3) (some ((((S.1 11) + (1 : Int32)) - (1 : Int32)), (sI (sI (sG (sG S 21 (S.1 11) p1) 22 (S.1 11) p2) 11 ((S.1 11) + (1 : Int32))) 14 (0 : Int32))))))))))
def mX7_order (S : ST) (p1 : Int32) (p2 : Int32) : Option (Int32 × ST) :=
  (mX7_within p1 (1 : Int32) (99 : Int32)).bind (fun r1 => (if r1 = 0 then some ((-3 : Int32), S) else (mX7_within p2 (0 : Int32) (5 : Int32)).bind (fun r2 => (if r2 = 0 then some ((-3 : Int32), S) else (if (S.1 12) = (4 : Int32) then some ((-4 : Int32), S) else gd (inB (S.1 12) 4) (gd (inB (S.1 12) 4) (some ((((S.1 12) + (1 : Int32)) - (1 : Int32)), (sI (sI (sG (sG S 23 (S.1 12) p1) 24 (S.1 12) p2) 12 ((S.1 12) + (1 : Int32))) 14 (0 : Int32))))))))))
def mX7_demand (S : ST) (p1 : Int32) (p2 : Int32) : Option (Int32 × ST) :=
  (mX7_within p1 (0 : Int32) ((S.1 12) - (1 : Int32))).bind (fun r1 => (if r1 = 0 then some ((-2 : Int32), S) else (mX7_within p2 (0 : Int32) (5 : Int32)).bind (fun r2 => (if r2 = 0 then some ((-3 : Int32), S) else gd (inB p1 4) (gd (inB p1 4) (some ((S.2 24 p1.toNatClampNeg), (sI (sG S 24 p1 p2) 14 (0 : Int32)))))))))
def mX7_blade (S : ST) (p1 : Int32) : Option (Int32 × ST) :=
  (mX7_within p1 (0 : Int32) (3 : Int32)).bind (fun r1 => (if r1 = 0 then some ((-3 : Int32), S) else some ((S.1 13), (sI (sI S 13 p1) 14 (0 : Int32)))))
def mX7_digit_X4  (p0 : Int32) (p1 : Int32) (v2_4 : Int32) (v3_4 : Int32) : Option (Int32) :=
  some (v2_4 - v2_4 / (6 : Int32) * (6 : Int32))
def mX7_digit_B4 (k x : Int32 → Int32 → Option (Int32)) (p0 : Int32) (p1 : Int32) (v2_4 : Int32) (v3_4 : Int32) : Option (Int32) :=
  (if (3 : Int32) ≤ v3_4 then x v2_4 v3_4 else k (v2_4 / (6 : Int32)) (v3_4 + (1 : Int32)))
def mX7_digit (p0 : Int32) (p1 : Int32) : Option (Int32) :=
  LPf (κ := Int32 → Int32 → Option (Int32)) (fun _ _ => none) (fun kk => mX7_digit_B4 kk (mX7_digit_X4  p0 p1) p0 p1) FU p0 p1
def mX7_all_X4  (S : ST)  (v1_4 : Int32) (v2_4 : Int32) : Option (Int32) :=
  some v1_4
def mX7_all_B4 (k x : Int32 → Int32 → Option (Int32)) (S : ST)  (v1_4 : Int32) (v2_4 : Int32) : Option (Int32) :=
  (if (4 : Int32) ≤ v2_4 then x v1_4 v2_4 else (if (S.1 12) ≤ v2_4 then k (((6 : Int32) * v1_4) + (0 : Int32)) (v2_4 + (1 : Int32)) else gd (inB v2_4 4) (k (((6 : Int32) * v1_4) + (S.2 24 v2_4.toNatClampNeg)) (v2_4 + (1 : Int32)))))
def mX7_all (S : ST)  : Option (Int32) :=
  LPf (κ := Int32 → Int32 → Option (Int32)) (fun _ _ => none) (fun kk => mX7_all_B4 kk (mX7_all_X4  S ) S ) FU (0 : Int32) (0 : Int32)
def mX7_isIn_X4  (p0 : Int32) (p1 : Int32) (v2_4 : Int32) (v3_4 : Int32) : Option (Int32) :=
  gd (zB v2_4) (some v2_4)
def mX7_isIn_B4 (k x : Int32 → Int32 → Option (Int32)) (p0 : Int32) (p1 : Int32) (v2_4 : Int32) (v3_4 : Int32) : Option (Int32) :=
  (if (4 : Int32) ≤ v3_4 then x v2_4 v3_4 else (if v2_4 = 0 then k (0 : Int32) (v3_4 + (1 : Int32)) else (mX7_digit p0 v3_4).bind (fun r1 => (mX7_digit p1 v3_4).bind (fun r2 => (if r2 < r1 then k (0 : Int32) (v3_4 + (1 : Int32)) else k (1 : Int32) (v3_4 + (1 : Int32)))))))
def mX7_isIn (p0 : Int32) (p1 : Int32) : Option (Int32) :=
  LPf (κ := Int32 → Int32 → Option (Int32)) (fun _ _ => none) (fun kk => mX7_isIn_B4 kk (mX7_isIn_X4  p0 p1) p0 p1) FU (1 : Int32) (0 : Int32)
def mX7_findPattern_X55  (S_55 : ST) (p1 : Int32) (v2_9 : Int32) (v3_55 : Int32) (v4_55 : Int32) : Option (ST) :=
  gd (inB p1 1296) (some (sG S_55 27 p1 v3_55))
def mX7_findPattern_B55 (k x : Int32 → Int32 → Option (ST)) (S_55 : ST) (p1 : Int32) (v2_9 : Int32) (v3_55 : Int32) (v4_55 : Int32) : Option (ST) :=
  (if (S_55.1 11) ≤ v4_55 then x v3_55 v4_55 else gd (inB v4_55 3) ((if (S_55.2 21 v4_55.toNatClampNeg) < v2_9 then k v3_55 (v4_55 + (1 : Int32)) else (if v3_55 = (-1 : Int32) then k v4_55 (v4_55 + (1 : Int32)) else gd (inB v4_55 3) (gd (inB v3_55 3) ((if (S_55.2 22 v3_55.toNatClampNeg) ≤ (S_55.2 22 v4_55.toNatClampNeg) then k v3_55 (v4_55 + (1 : Int32)) else k v4_55 (v4_55 + (1 : Int32)))))))))
def mX7_findPattern_X9  (S : ST) (p1 : Int32) (v2_9 : Int32) (v3_9 : Int32) : Option (ST) :=
  gd (inB p1 1296) (LPf (κ := Int32 → Int32 → Option (ST)) (fun _ _ => none) (fun kk => mX7_findPattern_B55 kk (mX7_findPattern_X55  (sG S 28 p1 v2_9) p1 v2_9) (sG S 28 p1 v2_9) p1 v2_9) FU (-1 : Int32) (0 : Int32))
def mX7_findPattern_B9 (k x : Int32 → Int32 → Option (ST)) (S : ST) (p1 : Int32) (v2_9 : Int32) (v3_9 : Int32) : Option (ST) :=
  (if (S.1 12) ≤ v3_9 then x v2_9 v3_9 else (mX7_digit p1 v3_9).bind (fun r1 => gd (inB v3_9 4) (k (v2_9 + (r1 * ((S.2 23 v3_9.toNatClampNeg) + (S.1 13)))) (v3_9 + (1 : Int32)))))
def mX7_findPattern (S : ST) (p1 : Int32) : Option (ST) :=
  LPf (κ := Int32 → Int32 → Option (ST)) (fun _ _ => none) (fun kk => mX7_findPattern_B9 kk (mX7_findPattern_X9  S p1) S p1) FU ((0 : Int32) - (S.1 13)) (0 : Int32)
def mX7_reach_J40 (S : ST) (p1 : Int32) (p2 : Int32) (p3 : Int32) : Option (ST) :=
  gd (inB p1 1296) (gd (inB p1 1296) (some (sG (sG S 25 p1 p2) 26 p1 p3)))
def mX7_reach (S : ST) (p1 : Int32) (p2 : Int32) (p3 : Int32) : Option (ST) :=
  gd (inB p1 1296) ((if (S.2 25 p1.toNatClampNeg) = (-1 : Int32) then mX7_reach_J40  S p1 p2 p3 else gd (inB p1 1296) ((if p2 < (S.2 25 p1.toNatClampNeg) then mX7_reach_J40  S p1 p2 p3 else gd (inB p1 1296) ((if p2 = (S.2 25 p1.toNatClampNeg) then gd (inB p1 1296) ((if (S.2 26 p1.toNatClampNeg) ≤ p3 then some S else mX7_reach_J40  S p1 p2 p3)) else some S))))))
def mX7_isBest (S : ST) (p1 : Int32) (p2 : Int32) : Option (Int32) :=
  gd (inB p1 1296) ((if (S.2 27 p1.toNatClampNeg) = (-1 : Int32) then some (0 : Int32) else (mX7_isIn p1 p2).bind (fun r1 => (if r1 = 0 then some (0 : Int32) else gd (inB (p2 - p1) 1296) ((if (S.2 25 (p2 - p1).toNatClampNeg) = (-1 : Int32) then some (0 : Int32) else gd (inB p2 1296) (gd (inB (p2 - p1) 1296) (gd (inB p1 1296) (gd (inB (S.2 27 p1.toNatClampNeg) 3) ((if (S.2 25 p2.toNatClampNeg) = ((S.2 25 (p2 - p1).toNatClampNeg) + (S.2 22 (S.2 27 p1.toNatClampNeg).toNatClampNeg)) then gd (inB p2 1296) (gd (inB (p2 - p1) 1296) ((if (S.2 26 p2.toNatClampNeg) = ((S.2 26 (p2 - p1).toNatClampNeg) + (1 : Int32)) then some (1 : Int32) else some (0 : Int32)))) else some (0 : Int32))))))))))))
def mX7_list_X203  (r1 : Int32) (S_203 : ST) (v2_203 : Int32) : Option (ST) :=
  some S_203
def mX7_list_X216 (k : ST → Int32 → Option (ST)) (x : ST → Int32 → Option (ST)) (S_203 : ST) (r1 : Int32) (v2_203 : Int32) (v3_216 : Int32) : Option (ST) :=
  gd (inB (S_203.1 16) 20) (k (sI (sG S_203 29 (S_203.1 16) v3_216) 16 ((S_203.1 16) + (1 : Int32))) (v2_203 - v3_216))
def mX7_list_B216 (k x : Int32 → Option (ST)) (S_203 : ST) (r1 : Int32) (v2_203 : Int32) (v3_216 : Int32) : Option (ST) :=
  (mX7_isBest S_203 v3_216 v2_203).bind (fun r2 => (if r2 = 0 then k (v3_216 + (-1 : Int32)) else x v3_216))
def mX7_list_B203 (k x : ST → Int32 → Option (ST)) (r1 : Int32) (S_203 : ST) (v2_203 : Int32) : Option (ST) :=
  (if v2_203 ≤ 0 then x S_203 v2_203 else (if (S_203.1 15) = 0 then LPf (κ := Int32 → Option (ST)) (fun _ => none) (fun kk => mX7_list_B216 kk (mX7_list_X216 k x S_203 r1 v2_203) S_203 r1 v2_203) FU v2_203 else x S_203 v2_203))
def mX7_list_J193 (S_88 : ST) (r1 : Int32) (v2_88 : Int32) (t0_193 : Int32) : Option (ST) :=
  gd (zB t0_193) (LPf (κ := ST → Int32 → Option (ST)) (fun _ _ => none) (fun kk => mX7_list_B203 kk (mX7_list_X203  r1) r1) FU (sI (sI S_88 15 t0_193) 16 (0 : Int32)) r1)
def mX7_list_X88  (r1 : Int32) (S_88 : ST) (v2_88 : Int32) : Option (ST) :=
  gd (inB r1 1296) ((if (S_88.2 25 r1.toNatClampNeg) = (-1 : Int32) then mX7_list_J193  S_88 r1 v2_88 (1 : Int32) else mX7_list_J193  S_88 r1 v2_88 (0 : Int32)))
def mX7_list_X95 (k : ST → Int32 → Option (ST)) (x : ST → Int32 → Option (ST)) (r1 : Int32) (v2_88 : Int32) (S_95 : ST) (v3_95 : Int32) : Option (ST) :=
  k S_95 (v2_88 + (1 : Int32))
def mX7_list_B95 (k x : ST → Int32 → Option (ST)) (r1 : Int32) (v2_88 : Int32) (S_95 : ST) (v3_95 : Int32) : Option (ST) :=
  (if (r1 - v2_88) < v3_95 then x S_95 v3_95 else gd (inB v2_88 1296) ((if (S_95.2 25 v2_88.toNatClampNeg) = (-1 : Int32) then x S_95 v3_95 else gd (inB v3_95 1296) ((if (S_95.2 27 v3_95.toNatClampNeg) = (-1 : Int32) then k S_95 (v3_95 + (1 : Int32)) else (mX7_isIn v3_95 (r1 - v2_88)).bind (fun r3 => (if r3 = 0 then k S_95 (v3_95 + (1 : Int32)) else gd (inB v2_88 1296) (gd (inB v3_95 1296) (gd (inB (S_95.2 27 v3_95.toNatClampNeg) 3) (gd (inB v2_88 1296) ((mX7_reach S_95 (v2_88 + v3_95) ((S_95.2 25 v2_88.toNatClampNeg) + (S_95.2 22 (S_95.2 27 v3_95.toNatClampNeg).toNatClampNeg)) ((S_95.2 26 v2_88.toNatClampNeg) + (1 : Int32))).bind (fun r4 => k r4 (v3_95 + (1 : Int32))))))))))))))
def mX7_list_B88 (k x : ST → Int32 → Option (ST)) (r1 : Int32) (S_88 : ST) (v2_88 : Int32) : Option (ST) :=
  (if r1 ≤ v2_88 then x S_88 v2_88 else LPf (κ := ST → Int32 → Option (ST)) (fun _ _ => none) (fun kk => mX7_list_B95 kk (mX7_list_X95 k x r1 v2_88) r1 v2_88) FU S_88 (1 : Int32))
def mX7_list_X20  (r1 : Int32) (S_20 : ST) (v2_20 : Int32) : Option (ST) :=
  gd (inB (0 : Int32) 1296) (gd (inB (0 : Int32) 1296) (LPf (κ := ST → Int32 → Option (ST)) (fun _ _ => none) (fun kk => mX7_list_B88 kk (mX7_list_X88  r1) r1) FU (sG (sG S_20 25 (0 : Int32) (0 : Int32)) 26 (0 : Int32) (0 : Int32)) (0 : Int32)))
def mX7_list_B20 (k x : ST → Int32 → Option (ST)) (r1 : Int32) (S_20 : ST) (v2_20 : Int32) : Option (ST) :=
  (if r1 < v2_20 then x S_20 v2_20 else gd (inB v2_20 1296) (gd (inB v2_20 1296) ((if v2_20 ≤ 0 then gd (inB v2_20 1296) (k (sG (sG (sG S_20 25 v2_20 (-1 : Int32)) 26 v2_20 (-1 : Int32)) 27 v2_20 (-1 : Int32)) (v2_20 + (1 : Int32))) else (mX7_isIn v2_20 r1).bind (fun r5 => (if r5 = 0 then gd (inB v2_20 1296) (k (sG (sG (sG S_20 25 v2_20 (-1 : Int32)) 26 v2_20 (-1 : Int32)) 27 v2_20 (-1 : Int32)) (v2_20 + (1 : Int32))) else (mX7_findPattern (sG (sG S_20 25 v2_20 (-1 : Int32)) 26 v2_20 (-1 : Int32)) v2_20).bind (fun r6 => k r6 (v2_20 + (1 : Int32)))))))))
def mX7_list (S : ST)  : Option (ST) :=
  (if (S.1 14) = 0 then (mX7_all (sI S 14 (1 : Int32))).bind (fun r1 => LPf (κ := ST → Int32 → Option (ST)) (fun _ _ => none) (fun kk => mX7_list_B20 kk (mX7_list_X20  r1) r1) FU (sI S 14 (1 : Int32)) (0 : Int32)) else some S)
def mX7_price (S : ST)  : Option (Int32 × ST) :=
  (mX7_list S).bind (fun r1 => (if (r1.1 15) = 0 then (mX7_all r1).bind (fun r2 => gd (inB r2 1296) (some ((r1.2 25 r2.toNatClampNeg), r1))) else some ((-1 : Int32), r1)))
def mX7_bars (S : ST)  : Option (Int32 × ST) :=
  (mX7_list S).bind (fun r1 => (if (r1.1 15) = 0 then some ((r1.1 16), r1) else some ((-1 : Int32), r1)))
def mX7_bar (S : ST) (p1 : Int32) (p2 : Int32) : Option (Int32 × ST) :=
  (mX7_within p2 (0 : Int32) (5 : Int32)).bind (fun r1 => (if r1 = 0 then some ((-3 : Int32), S) else (mX7_list S).bind (fun r2 => (mX7_within p1 (0 : Int32) ((r2.1 16) - (1 : Int32))).bind (fun r3 => (if r3 = 0 then some ((-1 : Int32), r2) else gd (inB p1 20) ((if p2 = 0 then gd (inB (r2.2 29 p1.toNatClampNeg) 1296) (some ((r2.2 27 (r2.2 29 p1.toNatClampNeg).toNatClampNeg), r2)) else (if p2 = (1 : Int32) then gd (inB (r2.2 29 p1.toNatClampNeg) 1296) (gd (inB (r2.2 27 (r2.2 29 p1.toNatClampNeg).toNatClampNeg) 3) (gd (inB (r2.2 29 p1.toNatClampNeg) 1296) (some (((r2.2 21 (r2.2 27 (r2.2 29 p1.toNatClampNeg).toNatClampNeg).toNatClampNeg) - (r2.2 28 (r2.2 29 p1.toNatClampNeg).toNatClampNeg)), r2)))) else (mX7_digit (r2.2 29 p1.toNatClampNeg) (p2 - (2 : Int32))).bind (fun r4 => some (r4, r2))))))))))
def mX7_told (S : ST) (p1 : Int32) : Option (Int32) :=
  (if p1 = (0 : Int32) then some (S.1 0) else (if p1 = (1 : Int32) then some (S.1 1) else (if p1 = (2 : Int32) then some (S.1 2) else (if p1 = (3 : Int32) then some (S.1 3) else (if p1 = (4 : Int32) then some (S.1 4) else (if p1 = (5 : Int32) then some (S.1 5) else (if p1 = (6 : Int32) then some (S.1 6) else (if p1 = (7 : Int32) then some (S.1 11) else (if p1 = (8 : Int32) then some (S.1 12) else (if p1 = (9 : Int32) then some (S.1 13) else some (-3 : Int32)))))))))))
def mX7_noKinds (S : ST)  : Option (Int32 × ST) :=
  some ((S.1 6), (sI (sI S 6 (0 : Int32)) 7 (0 : Int32)))
def mX7_noBars (S : ST)  : Option (Int32 × ST) :=
  some (((S.1 11) + (S.1 12)), (sI (sI (sI S 11 (0 : Int32)) 12 (0 : Int32)) 14 (0 : Int32)))
