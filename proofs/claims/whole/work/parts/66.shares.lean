/-! ===== shares ===== -/
def okD (x : UInt64) : Bool := decide (x &&& 0x7fffffffffffffff ≤ 0x7ff0000000000000)
def oneD : UInt64 := 4607182418800017408
def lt1 (x : UInt64) : Bool := decide ((Op.cmpValue (FP.dcmp x oneD) .g).toInt < 0)
def dblD (x : UInt64) : UInt64 := FP.dmul x 4611686018427387904
def btD : Nat → UInt64 → Int64 → Option (UInt64 × Int64)
  | 0, _, _ => none
  | n + 1, x, e => if lt1 x = true then (if okD (dblD x) = true then btD n (dblD x) (e - 1) else none) else some (x, e)
def shD (v l : Nat) : UInt64 := FP.ddiv (FP.i2d (Int32.ofInt (v : Int))) (FP.i2d (Int32.ofInt (l : Int)))
def chk (v l : Nat) : Bool :=
  let s := shD v l
  okD s && decide ((Op.cmpValue (FP.dcmp s s) .l).toInt = 0) && (if v = 0 then decide (s = 0) else
    decide (0 < (Op.cmpValue (FP.dcmp s 0) .l).toInt) && decide ((Op.cmpValue (FP.dcmp s 4611686018427387904) .l).toInt < 0) &&
    (match btD 12 s 1023 with
     | some (x, _) => okD (FP.dsub x oneD) && okD (FP.dmul (FP.dsub x oneD) 4841369599423283200)
     | none => false))
theorem chk_0 : ((List.range 31).all fun l => (List.range (l + 2)).all fun v => chk v (l + 1)) = true := by decide +kernel
theorem chk_31 : ((List.range 13).all fun l => (List.range (l + 33)).all fun v => chk v (l + 32)) = true := by decide +kernel
theorem chk_44 : ((List.range 10).all fun l => (List.range (l + 46)).all fun v => chk v (l + 45)) = true := by decide +kernel
theorem chk_54 : ((List.range 9).all fun l => (List.range (l + 56)).all fun v => chk v (l + 55)) = true := by decide +kernel
theorem chk_63 : ((List.range 8).all fun l => (List.range (l + 65)).all fun v => chk v (l + 64)) = true := by decide +kernel
theorem chk_71 : ((List.range 7).all fun l => (List.range (l + 73)).all fun v => chk v (l + 72)) = true := by decide +kernel
theorem chk_78 : ((List.range 6).all fun l => (List.range (l + 80)).all fun v => chk v (l + 79)) = true := by decide +kernel
theorem chk_84 : ((List.range 6).all fun l => (List.range (l + 86)).all fun v => chk v (l + 85)) = true := by decide +kernel
theorem chk_90 : ((List.range 5).all fun l => (List.range (l + 92)).all fun v => chk v (l + 91)) = true := by decide +kernel
theorem chk_95 : ((List.range 5).all fun l => (List.range (l + 97)).all fun v => chk v (l + 96)) = true := by decide +kernel
theorem chk_100 : ((List.range 5).all fun l => (List.range (l + 102)).all fun v => chk v (l + 101)) = true := by decide +kernel
theorem chk_105 : ((List.range 5).all fun l => (List.range (l + 107)).all fun v => chk v (l + 106)) = true := by decide +kernel
theorem chk_110 : ((List.range 4).all fun l => (List.range (l + 112)).all fun v => chk v (l + 111)) = true := by decide +kernel
theorem chk_114 : ((List.range 4).all fun l => (List.range (l + 116)).all fun v => chk v (l + 115)) = true := by decide +kernel
theorem chk_118 : ((List.range 4).all fun l => (List.range (l + 120)).all fun v => chk v (l + 119)) = true := by decide +kernel
theorem chk_122 : ((List.range 4).all fun l => (List.range (l + 124)).all fun v => chk v (l + 123)) = true := by decide +kernel
theorem chk_126 : ((List.range 4).all fun l => (List.range (l + 128)).all fun v => chk v (l + 127)) = true := by decide +kernel
theorem chk_130 : ((List.range 4).all fun l => (List.range (l + 132)).all fun v => chk v (l + 131)) = true := by decide +kernel
theorem chk_134 : ((List.range 4).all fun l => (List.range (l + 136)).all fun v => chk v (l + 135)) = true := by decide +kernel
theorem chk_138 : ((List.range 3).all fun l => (List.range (l + 140)).all fun v => chk v (l + 139)) = true := by decide +kernel
theorem chk_141 : ((List.range 3).all fun l => (List.range (l + 143)).all fun v => chk v (l + 142)) = true := by decide +kernel
theorem chk_144 : ((List.range 3).all fun l => (List.range (l + 146)).all fun v => chk v (l + 145)) = true := by decide +kernel
theorem chk_147 : ((List.range 3).all fun l => (List.range (l + 149)).all fun v => chk v (l + 148)) = true := by decide +kernel
theorem chk_150 : ((List.range 3).all fun l => (List.range (l + 152)).all fun v => chk v (l + 151)) = true := by decide +kernel
theorem chk_153 : ((List.range 3).all fun l => (List.range (l + 155)).all fun v => chk v (l + 154)) = true := by decide +kernel
theorem chk_156 : ((List.range 3).all fun l => (List.range (l + 158)).all fun v => chk v (l + 157)) = true := by decide +kernel
theorem chk_159 : ((List.range 3).all fun l => (List.range (l + 161)).all fun v => chk v (l + 160)) = true := by decide +kernel
theorem chk_162 : ((List.range 3).all fun l => (List.range (l + 164)).all fun v => chk v (l + 163)) = true := by decide +kernel
theorem chk_165 : ((List.range 3).all fun l => (List.range (l + 167)).all fun v => chk v (l + 166)) = true := by decide +kernel
theorem chk_168 : ((List.range 3).all fun l => (List.range (l + 170)).all fun v => chk v (l + 169)) = true := by decide +kernel
theorem chk_171 : ((List.range 3).all fun l => (List.range (l + 173)).all fun v => chk v (l + 172)) = true := by decide +kernel
theorem chk_174 : ((List.range 3).all fun l => (List.range (l + 176)).all fun v => chk v (l + 175)) = true := by decide +kernel
theorem chk_177 : ((List.range 3).all fun l => (List.range (l + 179)).all fun v => chk v (l + 178)) = true := by decide +kernel
theorem chk_180 : ((List.range 3).all fun l => (List.range (l + 182)).all fun v => chk v (l + 181)) = true := by decide +kernel
theorem chk_183 : ((List.range 2).all fun l => (List.range (l + 185)).all fun v => chk v (l + 184)) = true := by decide +kernel
theorem chk_185 : ((List.range 2).all fun l => (List.range (l + 187)).all fun v => chk v (l + 186)) = true := by decide +kernel
theorem chk_187 : ((List.range 2).all fun l => (List.range (l + 189)).all fun v => chk v (l + 188)) = true := by decide +kernel
theorem chk_189 : ((List.range 2).all fun l => (List.range (l + 191)).all fun v => chk v (l + 190)) = true := by decide +kernel
theorem chk_191 : ((List.range 2).all fun l => (List.range (l + 193)).all fun v => chk v (l + 192)) = true := by decide +kernel
theorem chk_193 : ((List.range 2).all fun l => (List.range (l + 195)).all fun v => chk v (l + 194)) = true := by decide +kernel
theorem chk_195 : ((List.range 2).all fun l => (List.range (l + 197)).all fun v => chk v (l + 196)) = true := by decide +kernel
theorem chk_197 : ((List.range 2).all fun l => (List.range (l + 199)).all fun v => chk v (l + 198)) = true := by decide +kernel
theorem chk_199 : ((List.range 1).all fun l => (List.range (l + 201)).all fun v => chk v (l + 200)) = true := by decide +kernel
theorem chk_r {v l a n : Nat} (h : ((List.range n).all fun l => (List.range (l + (a + 2))).all fun v => chk v (l + (a + 1))) = true) (h1 : a < l) (h2 : l ≤ a + n) (hv : v ≤ l) : chk v l = true := by
  have q1 := List.all_eq_true.mp h (l - (a + 1)) (List.mem_range.mpr (by omega))
  have q2 := List.all_eq_true.mp q1 v (List.mem_range.mpr (by omega))
  rw [show l - (a + 1) + (a + 1) = l by omega] at q2
  exact q2
theorem chk_ok {v l : Nat} (hl : 0 < l) (hl2 : l ≤ 200) (hv : v ≤ l) : chk v l = true := by
  by_cases h0 : l ≤ 31
  · exact chk_r (a := 0) (n := 31) chk_0 (by omega) (by omega) hv
  by_cases h31 : l ≤ 44
  · exact chk_r (a := 31) (n := 13) chk_31 (by omega) (by omega) hv
  by_cases h44 : l ≤ 54
  · exact chk_r (a := 44) (n := 10) chk_44 (by omega) (by omega) hv
  by_cases h54 : l ≤ 63
  · exact chk_r (a := 54) (n := 9) chk_54 (by omega) (by omega) hv
  by_cases h63 : l ≤ 71
  · exact chk_r (a := 63) (n := 8) chk_63 (by omega) (by omega) hv
  by_cases h71 : l ≤ 78
  · exact chk_r (a := 71) (n := 7) chk_71 (by omega) (by omega) hv
  by_cases h78 : l ≤ 84
  · exact chk_r (a := 78) (n := 6) chk_78 (by omega) (by omega) hv
  by_cases h84 : l ≤ 90
  · exact chk_r (a := 84) (n := 6) chk_84 (by omega) (by omega) hv
  by_cases h90 : l ≤ 95
  · exact chk_r (a := 90) (n := 5) chk_90 (by omega) (by omega) hv
  by_cases h95 : l ≤ 100
  · exact chk_r (a := 95) (n := 5) chk_95 (by omega) (by omega) hv
  by_cases h100 : l ≤ 105
  · exact chk_r (a := 100) (n := 5) chk_100 (by omega) (by omega) hv
  by_cases h105 : l ≤ 110
  · exact chk_r (a := 105) (n := 5) chk_105 (by omega) (by omega) hv
  by_cases h110 : l ≤ 114
  · exact chk_r (a := 110) (n := 4) chk_110 (by omega) (by omega) hv
  by_cases h114 : l ≤ 118
  · exact chk_r (a := 114) (n := 4) chk_114 (by omega) (by omega) hv
  by_cases h118 : l ≤ 122
  · exact chk_r (a := 118) (n := 4) chk_118 (by omega) (by omega) hv
  by_cases h122 : l ≤ 126
  · exact chk_r (a := 122) (n := 4) chk_122 (by omega) (by omega) hv
  by_cases h126 : l ≤ 130
  · exact chk_r (a := 126) (n := 4) chk_126 (by omega) (by omega) hv
  by_cases h130 : l ≤ 134
  · exact chk_r (a := 130) (n := 4) chk_130 (by omega) (by omega) hv
  by_cases h134 : l ≤ 138
  · exact chk_r (a := 134) (n := 4) chk_134 (by omega) (by omega) hv
  by_cases h138 : l ≤ 141
  · exact chk_r (a := 138) (n := 3) chk_138 (by omega) (by omega) hv
  by_cases h141 : l ≤ 144
  · exact chk_r (a := 141) (n := 3) chk_141 (by omega) (by omega) hv
  by_cases h144 : l ≤ 147
  · exact chk_r (a := 144) (n := 3) chk_144 (by omega) (by omega) hv
  by_cases h147 : l ≤ 150
  · exact chk_r (a := 147) (n := 3) chk_147 (by omega) (by omega) hv
  by_cases h150 : l ≤ 153
  · exact chk_r (a := 150) (n := 3) chk_150 (by omega) (by omega) hv
  by_cases h153 : l ≤ 156
  · exact chk_r (a := 153) (n := 3) chk_153 (by omega) (by omega) hv
  by_cases h156 : l ≤ 159
  · exact chk_r (a := 156) (n := 3) chk_156 (by omega) (by omega) hv
  by_cases h159 : l ≤ 162
  · exact chk_r (a := 159) (n := 3) chk_159 (by omega) (by omega) hv
  by_cases h162 : l ≤ 165
  · exact chk_r (a := 162) (n := 3) chk_162 (by omega) (by omega) hv
  by_cases h165 : l ≤ 168
  · exact chk_r (a := 165) (n := 3) chk_165 (by omega) (by omega) hv
  by_cases h168 : l ≤ 171
  · exact chk_r (a := 168) (n := 3) chk_168 (by omega) (by omega) hv
  by_cases h171 : l ≤ 174
  · exact chk_r (a := 171) (n := 3) chk_171 (by omega) (by omega) hv
  by_cases h174 : l ≤ 177
  · exact chk_r (a := 174) (n := 3) chk_174 (by omega) (by omega) hv
  by_cases h177 : l ≤ 180
  · exact chk_r (a := 177) (n := 3) chk_177 (by omega) (by omega) hv
  by_cases h180 : l ≤ 183
  · exact chk_r (a := 180) (n := 3) chk_180 (by omega) (by omega) hv
  by_cases h183 : l ≤ 185
  · exact chk_r (a := 183) (n := 2) chk_183 (by omega) (by omega) hv
  by_cases h185 : l ≤ 187
  · exact chk_r (a := 185) (n := 2) chk_185 (by omega) (by omega) hv
  by_cases h187 : l ≤ 189
  · exact chk_r (a := 187) (n := 2) chk_187 (by omega) (by omega) hv
  by_cases h189 : l ≤ 191
  · exact chk_r (a := 189) (n := 2) chk_189 (by omega) (by omega) hv
  by_cases h191 : l ≤ 193
  · exact chk_r (a := 191) (n := 2) chk_191 (by omega) (by omega) hv
  by_cases h193 : l ≤ 195
  · exact chk_r (a := 193) (n := 2) chk_193 (by omega) (by omega) hv
  by_cases h195 : l ≤ 197
  · exact chk_r (a := 195) (n := 2) chk_195 (by omega) (by omega) hv
  by_cases h197 : l ≤ 199
  · exact chk_r (a := 197) (n := 2) chk_197 (by omega) (by omega) hv
  exact chk_r (a := 199) (n := 1) chk_199 (by omega) (by omega) hv
