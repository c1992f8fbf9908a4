/-! ===== numbers: the machine's and those of the small one ===== -/
theorem xi_b {n : Int} (h1 : -128 ≤ n) (h2 : n ≤ 127) : (Int8.ofInt n).toInt32 = Int32.ofInt n := by
  apply Int32.toInt_inj.mp
  rw [Int8.toInt_toInt32, Int8.toInt_ofInt_of_le (by omega) (by omega), Int32.toInt_ofInt_of_le (by omega) (by omega)]
theorem xi_s {n : Int} (h1 : -32768 ≤ n) (h2 : n ≤ 32767) : (Int16.ofInt n).toInt32 = Int32.ofInt n := by
  apply Int32.toInt_inj.mp
  rw [Int16.toInt_toInt32, Int16.toInt_ofInt_of_le (by omega) (by omega), Int32.toInt_ofInt_of_le (by omega) (by omega)]
theorem xi_l {x : Int} (h : xin x) : (Int32.ofInt x).toInt64 = Int64.ofInt x := by
  have h1 := h.1
  have h2 := h.2
  apply Int64.toInt_inj.mp
  rw [Int32.toInt_toInt64, xi_toInt h, Int64.toInt_ofInt_of_le (by omega) (by omega)]
theorem xi_c {x : Int} (h1 : 0 ≤ x) (h2 : x ≤ 65535) : ((Int32.ofInt x).toUInt32 % 65536).toInt32 = Int32.ofInt x := by
  obtain ⟨n, rfl⟩ := Int.eq_ofNat_of_zero_le h1
  have hn : n ≤ 65535 := by omega
  have e : (Int32.ofInt (n : Int)).toUInt32 = UInt32.ofNat n := rfl
  rw [e]
  have e2 : UInt32.ofNat n % 65536 = UInt32.ofNat n := by
    apply UInt32.toNat_inj.mp
    simp
    omega
  rw [e2]
  apply Int32.toInt_inj.mp
  rw [Int32.toInt_ofInt_of_le (by omega) (by omega)]
  simp [Int.bmod]
  omega
theorem xi_div {x y : Int} (h1 : 0 ≤ x) (h2 : 0 < y) (hx : xin x) (hy : xin y) : Int32.ofInt x / Int32.ofInt y = Int32.ofInt (x / y) := by
  have hle : x / y ≤ x := Int.ediv_le_self y h1
  have hge : 0 ≤ x / y := Int.ediv_nonneg h1 (Int.le_of_lt h2)
  have hq : xin (x / y) := ⟨by omega, by have := hx.2; omega⟩
  apply Int32.toInt_inj.mp
  rw [Int32.toInt_div, xi_toInt hx, xi_toInt hy, xi_toInt hq, Int.tdiv_eq_ediv_of_nonneg h1]
  have h3 := hx.2
  exact Int.bmod_eq_of_le (by omega) (by omega)
theorem xi_rem {x y : Int} (h1 : 0 ≤ x) (h2 : 0 < y) (hx : xin x) (hy : xin y) : Int32.ofInt x - Int32.ofInt x / Int32.ofInt y * Int32.ofInt y = Int32.ofInt (x % y) := by
  rw [xi_div h1 h2 hx hy, xi_mul, xi_sub]
  congr 1
  have := Int.emod_def x y
  rw [this, Int.mul_comm]
theorem xi_ne0 {y : Int} (h : 0 < y) (hy : xin y) : ¬ Int32.ofInt y = 0 := by
  intro hq
  rw [xi_zero, xi_eq hy xin0] at hq
  omega
theorem xpc_ok {pc : Nat} {off : Int} (h : 0 ≤ (pc : Int) + off) : (pc : Int) + off = (xpc pc off : Int) := (Int.toNat_of_nonneg h).symm
theorem xz_eq {x : Int} (h : xin x) : Int32.ofInt x = 0 ↔ x = 0 := xi_eq h xin0
theorem xz_lt {x : Int} (h : xin x) : Int32.ofInt x < 0 ↔ x < 0 := xi_lt h xin0
theorem xz_gt {x : Int} (h : xin x) : 0 < Int32.ofInt x ↔ 0 < x := xi_lt xin0 h
theorem xz_ge {x : Int} (h : xin x) : 0 ≤ Int32.ofInt x ↔ 0 ≤ x := xi_le xin0 h
theorem xz_le {x : Int} (h : xin x) : Int32.ofInt x ≤ 0 ↔ x ≤ 0 := xi_le h xin0
theorem xi_max {x y : Int} (hx : xin x) (hy : xin y) : (if Int32.ofInt x < Int32.ofInt y then Int32.ofInt y else Int32.ofInt x) = Int32.ofInt (if x < y then y else x) := by
  by_cases h : x < y
  · rw [if_pos h, if_pos ((xi_lt hx hy).mpr h)]
  · rw [if_neg h, if_neg (fun q => h ((xi_lt hx hy).mp q))]
theorem xi_min {x y : Int} (hx : xin x) (hy : xin y) : (if Int32.ofInt y < Int32.ofInt x then Int32.ofInt y else Int32.ofInt x) = Int32.ofInt (if y < x then y else x) := by
  by_cases h : y < x
  · rw [if_pos h, if_pos ((xi_lt hy hx).mpr h)]
  · rw [if_neg h, if_neg (fun q => h ((xi_lt hy hx).mp q))]
theorem xvp_in {i : Int} {n : Nat} (h0 : 0 ≤ i) (h1 : i < n) (hi : xin i) : vp_in (Int32.ofInt i) n := by
  unfold vp_in
  rw [xz_lt hi, xi_nat hi]
  omega
theorem xmI_some {vs : List xV} {k : Nat} {x : Int} (h : vs[k]? = some (.inl x)) : xmI vs[k]? = Int32.ofInt x := by rw [h]; rfl
theorem xi_size {n : Nat} (h : (n : Int) ≤ 2147483647) : Int32.ofNat n = Int32.ofInt (n : Int) := rfl
