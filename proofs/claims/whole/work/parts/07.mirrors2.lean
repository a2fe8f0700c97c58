/-! MIRRORS of the constructors. By ctor.py. -/
def S0C : ST := (fun k => ([1, 1, 0, 1, 0, 0, 0, 1, 0, 0, 0, 1, 0, 0, 0, 0, 0, 0, 1, 1] : List Int32).getD k 0, fun _ _ => 0)
def mX7_init_X275   (S_275 : ST) (v1_275 : Int32) (v2_275 : Int32) : Option (ST) :=
  some S_275
def mX7_init_X283 (k : ST → Int32 → Int32 → Option (ST)) (x : ST → Int32 → Int32 → Option (ST)) (v2_275 : Int32) (S_283 : ST) (v1_283 : Int32) (v3_283 : Int32) : Option (ST) :=
  k S_283 v1_283 (v2_275 + (1 : Int32))
def mX7_init_B283 (k x : ST → Int32 → Int32 → Option (ST)) (v2_275 : Int32) (S_283 : ST) (v1_283 : Int32) (v3_283 : Int32) : Option (ST) :=
  (if (16 : Int32) < (v3_283 + v2_275) then x S_283 v1_283 v3_283 else gd (inB ((((16 : Int32) * v3_283) + v2_275) - (1 : Int32)) 256) (k (sG S_283 8 ((((16 : Int32) * v3_283) + v2_275) - (1 : Int32)) v1_283) (v1_283 + (1 : Int32)) (v3_283 + (1 : Int32))))
def mX7_init_B275 (k x : ST → Int32 → Int32 → Option (ST))  (S_275 : ST) (v1_275 : Int32) (v2_275 : Int32) : Option (ST) :=
  (if (16 : Int32) < v2_275 then x S_275 v1_275 v2_275 else LPf (κ := ST → Int32 → Int32 → Option (ST)) (fun _ _ _ => none) (fun kk => mX7_init_B283 kk (mX7_init_X283 k x v2_275) v2_275) FU S_275 v1_275 (0 : Int32))
def mX7_tail (S : ST) : Option ST :=
  LPf (κ := ST → Int32 → Int32 → Option (ST)) (fun _ _ _ => none) (fun kk => mX7_init_B275 kk (mX7_init_X275  ) ) FU S (0 : Int32) (1 : Int32)
def S0M : ST := (fun k => ([1, 1, 0, 1, 0, 0, 0, 0, 0, 0, 0, 0, 0, 0, 0, 0, 0] : List Int32).getD k 0, fun _ _ => 0)
