/-! ===== shares ===== -/
def okD (x : UInt64) : Bool := decide (x &&& 0x7fffffffffffffff ≤ 0x7ff0000000000000)
def oneD : UInt64 := 4607182418800017408
def lt1 (x : UInt64) : Bool := decide ((Op.cmpValue (FP.dcmp x oneD) .g).toInt < 0)
def dblD (x : UInt64) : UInt64 := FP.dmul x 4611686018427387904
def btD : Nat → UInt64 → Int64 → Option (UInt64 × Int64)
  | 0, _, _ => none
  | n + 1, x, e => if lt1 x = true then (if okD (dblD x) = true then btD n (dblD x) (e - 1) else none) else some (x, e)
def shD (v l : Nat) : UInt64 := FP.ddiv (FP.i2d (Int32.ofInt (v : Int))) (FP.i2d (Int32.ofInt (l : Int)))
def chk (v l : Nat) : Bool :=
  let s := shD v l
  okD s && decide ((Op.cmpValue (FP.dcmp s s) .l).toInt = 0) && (if v = 0 then decide (s = 0) else
    decide (0 < (Op.cmpValue (FP.dcmp s 0) .l).toInt) && decide ((Op.cmpValue (FP.dcmp s 4611686018427387904) .l).toInt < 0) &&
    (match btD 12 s 1023 with
     | some (x, _) => okD (FP.dsub x oneD) && okD (FP.dmul (FP.dsub x oneD) 4841369599423283200)
     | none => false))
theorem chk_t : ((List.range 200).all fun l => (List.range (l + 2)).all fun v => chk v (l + 1)) = true := sorry
theorem chk_ok {v l : Nat} (hl : 0 < l) (hl2 : l ≤ 200) (hv : v ≤ l) : chk v l = true := by
  have h1 := List.all_eq_true.mp chk_t (l - 1) (List.mem_range.mpr (by omega))
  have h2 := List.all_eq_true.mp h1 v (List.mem_range.mpr (by omega))
  rw [show l - 1 + 1 = l by omega] at h2
  exact h2
