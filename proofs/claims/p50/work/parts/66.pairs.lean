/-! ===== shares: all pairs ===== -/
def okD (x : UInt64) : Bool := decide (x &&& 0x7fffffffffffffff ≤ 0x7ff0000000000000)
def oneD : UInt64 := 4607182418800017408
def shD (v l : Nat) : UInt64 := FP.ddiv (FP.i2d (Int32.ofInt (v : Int))) (FP.i2d (Int32.ofInt (l : Int)))
def chk (v l : Nat) : Bool :=
  let s := shD v l
  okD s && decide ((Op.cmpValue (FP.dcmp s s) .l).toInt = 0)
def chm (v : Nat) : Bool :=
  let s := FP.i2d (Int32.ofInt (v : Int))
  decide (FP.dmul s FP.dconst1 = s) && okD s
theorem chm_ok : ((List.range 201).all fun v => chm v) = true := by decide +kernel
theorem chk_0 : ((List.range 40).all fun l => (List.range (l + 2)).all fun v => chk v (l + 1)) = true := by decide +kernel
theorem chk_40 : ((List.range 17).all fun l => (List.range (l + 42)).all fun v => chk v (l + 41)) = true := by decide +kernel
theorem chk_57 : ((List.range 13).all fun l => (List.range (l + 59)).all fun v => chk v (l + 58)) = true := by decide +kernel
theorem chk_70 : ((List.range 11).all fun l => (List.range (l + 72)).all fun v => chk v (l + 71)) = true := by decide +kernel
theorem chk_81 : ((List.range 10).all fun l => (List.range (l + 83)).all fun v => chk v (l + 82)) = true := by decide +kernel
theorem chk_91 : ((List.range 9).all fun l => (List.range (l + 93)).all fun v => chk v (l + 92)) = true := by decide +kernel
theorem chk_100 : ((List.range 8).all fun l => (List.range (l + 102)).all fun v => chk v (l + 101)) = true := by decide +kernel
theorem chk_108 : ((List.range 7).all fun l => (List.range (l + 110)).all fun v => chk v (l + 109)) = true := by decide +kernel
theorem chk_115 : ((List.range 7).all fun l => (List.range (l + 117)).all fun v => chk v (l + 116)) = true := by decide +kernel
theorem chk_122 : ((List.range 7).all fun l => (List.range (l + 124)).all fun v => chk v (l + 123)) = true := by decide +kernel
theorem chk_129 : ((List.range 6).all fun l => (List.range (l + 131)).all fun v => chk v (l + 130)) = true := by decide +kernel
theorem chk_135 : ((List.range 6).all fun l => (List.range (l + 137)).all fun v => chk v (l + 136)) = true := by decide +kernel
theorem chk_141 : ((List.range 6).all fun l => (List.range (l + 143)).all fun v => chk v (l + 142)) = true := by decide +kernel
theorem chk_147 : ((List.range 5).all fun l => (List.range (l + 149)).all fun v => chk v (l + 148)) = true := by decide +kernel
theorem chk_152 : ((List.range 5).all fun l => (List.range (l + 154)).all fun v => chk v (l + 153)) = true := by decide +kernel
theorem chk_157 : ((List.range 5).all fun l => (List.range (l + 159)).all fun v => chk v (l + 158)) = true := by decide +kernel
theorem chk_162 : ((List.range 5).all fun l => (List.range (l + 164)).all fun v => chk v (l + 163)) = true := by decide +kernel
theorem chk_167 : ((List.range 5).all fun l => (List.range (l + 169)).all fun v => chk v (l + 168)) = true := by decide +kernel
theorem chk_172 : ((List.range 5).all fun l => (List.range (l + 174)).all fun v => chk v (l + 173)) = true := by decide +kernel
theorem chk_177 : ((List.range 4).all fun l => (List.range (l + 179)).all fun v => chk v (l + 178)) = true := by decide +kernel
theorem chk_181 : ((List.range 4).all fun l => (List.range (l + 183)).all fun v => chk v (l + 182)) = true := by decide +kernel
theorem chk_185 : ((List.range 4).all fun l => (List.range (l + 187)).all fun v => chk v (l + 186)) = true := by decide +kernel
theorem chk_189 : ((List.range 4).all fun l => (List.range (l + 191)).all fun v => chk v (l + 190)) = true := by decide +kernel
theorem chk_193 : ((List.range 4).all fun l => (List.range (l + 195)).all fun v => chk v (l + 194)) = true := by decide +kernel
theorem chk_197 : ((List.range 3).all fun l => (List.range (l + 199)).all fun v => chk v (l + 198)) = true := by decide +kernel
theorem chk_r {a n v l : Nat} (h : ((List.range n).all fun l => (List.range (l + (a + 2))).all fun v => chk v (l + (a + 1))) = true) (h1 : a + 1 ≤ l) (h2 : l ≤ a + n) (hv : v ≤ l) : chk v l = true := by
  have h3 := List.all_eq_true.mp h (l - (a + 1)) (List.mem_range.mpr (by omega))
  have h4 := List.all_eq_true.mp h3 v (List.mem_range.mpr (by omega))
  rw [show l - (a + 1) + (a + 1) = l by omega] at h4
  exact h4
theorem chk_ok {v l : Nat} (h1 : 0 < l) (h2 : l ≤ 200) (hv : v ≤ l) : chk v l = true := by
  by_cases h0 : l ≤ 40
  · exact chk_r (a := 0) (n := 40) chk_0 (by omega) (by omega) hv
  by_cases h40 : l ≤ 57
  · exact chk_r (a := 40) (n := 17) chk_40 (by omega) (by omega) hv
  by_cases h57 : l ≤ 70
  · exact chk_r (a := 57) (n := 13) chk_57 (by omega) (by omega) hv
  by_cases h70 : l ≤ 81
  · exact chk_r (a := 70) (n := 11) chk_70 (by omega) (by omega) hv
  by_cases h81 : l ≤ 91
  · exact chk_r (a := 81) (n := 10) chk_81 (by omega) (by omega) hv
  by_cases h91 : l ≤ 100
  · exact chk_r (a := 91) (n := 9) chk_91 (by omega) (by omega) hv
  by_cases h100 : l ≤ 108
  · exact chk_r (a := 100) (n := 8) chk_100 (by omega) (by omega) hv
  by_cases h108 : l ≤ 115
  · exact chk_r (a := 108) (n := 7) chk_108 (by omega) (by omega) hv
  by_cases h115 : l ≤ 122
  · exact chk_r (a := 115) (n := 7) chk_115 (by omega) (by omega) hv
  by_cases h122 : l ≤ 129
  · exact chk_r (a := 122) (n := 7) chk_122 (by omega) (by omega) hv
  by_cases h129 : l ≤ 135
  · exact chk_r (a := 129) (n := 6) chk_129 (by omega) (by omega) hv
  by_cases h135 : l ≤ 141
  · exact chk_r (a := 135) (n := 6) chk_135 (by omega) (by omega) hv
  by_cases h141 : l ≤ 147
  · exact chk_r (a := 141) (n := 6) chk_141 (by omega) (by omega) hv
  by_cases h147 : l ≤ 152
  · exact chk_r (a := 147) (n := 5) chk_147 (by omega) (by omega) hv
  by_cases h152 : l ≤ 157
  · exact chk_r (a := 152) (n := 5) chk_152 (by omega) (by omega) hv
  by_cases h157 : l ≤ 162
  · exact chk_r (a := 157) (n := 5) chk_157 (by omega) (by omega) hv
  by_cases h162 : l ≤ 167
  · exact chk_r (a := 162) (n := 5) chk_162 (by omega) (by omega) hv
  by_cases h167 : l ≤ 172
  · exact chk_r (a := 167) (n := 5) chk_167 (by omega) (by omega) hv
  by_cases h172 : l ≤ 177
  · exact chk_r (a := 172) (n := 5) chk_172 (by omega) (by omega) hv
  by_cases h177 : l ≤ 181
  · exact chk_r (a := 177) (n := 4) chk_177 (by omega) (by omega) hv
  by_cases h181 : l ≤ 185
  · exact chk_r (a := 181) (n := 4) chk_181 (by omega) (by omega) hv
  by_cases h185 : l ≤ 189
  · exact chk_r (a := 185) (n := 4) chk_185 (by omega) (by omega) hv
  by_cases h189 : l ≤ 193
  · exact chk_r (a := 189) (n := 4) chk_189 (by omega) (by omega) hv
  by_cases h193 : l ≤ 197
  · exact chk_r (a := 193) (n := 4) chk_193 (by omega) (by omega) hv
  exact chk_r (a := 197) (n := 3) chk_197 (by omega) (by omega) hv
