/-! ===== the law's loop ===== -/
theorem and63 (w : Int) : ∃ k : Nat, k < 64 ∧ (Int32.ofInt w &&& Int32.ofInt 63).toInt = (k : Int) := by
  have h : ((Int32.ofInt w).toBitVec &&& 63#32).toNat < 64 := by
    rw [BitVec.toNat_and]
    exact Nat.lt_of_le_of_lt Nat.and_le_right (by decide)
  refine ⟨((Int32.ofInt w).toBitVec &&& 63#32).toNat, h, ?_⟩
  show ((Int32.ofInt w).toBitVec &&& (Int32.ofInt 63).toBitVec).toInt = _
  rw [show (Int32.ofInt 63).toBitVec = 63#32 by decide]
  rw [BitVec.toInt_eq_toNat_of_lt (by omega)]
theorem scr_at {zs : List xV} (hzi : ∀ v ∈ zs, ∃ x : Int, v = .inl x ∧ xin x) {j : Nat} (h : j < zs.length) : ∃ x : Int, zs[j]? = some (.inl x) := by
  obtain ⟨x, hx, -⟩ := hzi _ (List.getElem_mem h)
  exact ⟨x, by rw [List.getElem?_eq_getElem h, hx]⟩
section TSD
variable {mi pc g : Nat} {lv : xL} {st : List xV} {ph : xH} {x : Int}
theorem hTsD {df : Int} {lo hi : Int} {of : Array Int} (h : hi < x) (K : Nat → xL → List xV → xH → Prop) (C : Nat → List xV → List xV → Prop) (Rt : Option xV → Prop) (Th : Nat → Prop) (z : Prop) : xop mi pc (.tableswitch df lo hi of) lv (.inl x :: st) ph g K C Rt Th z = K (xpc pc df) lv st ph := by
  simp only [xop]
  rw [if_pos (Or.inr h)]
end TSD
set_option maxRecDepth 20000 in
theorem law_loop {zs : List xV} {d : Nat} {Q : xR → Prop} (hzi : ∀ v ∈ zs, ∃ x : Int, v = .inl x ∧ xin x) (hz : zs.length ≤ 1536) (hQ : ∀ (ph2 : xH) (g2 : Nat), hSh zs ph2 → g2 ≤ 512 → Q (.inl (some (.inl 1)), ph2, g2)) : ∀ (m B : Nat) (ph : xH) (c : KS) (g : Nat) (x5 x6 x7 x8 : Option xV), zs.length ≤ 3 * B + 3 * m + 2 → 3 * B ≤ zs.length → hKl zs ph c → hMm zs ph c → okKS B c → g ≤ B → xT (d + 1240) 261 23 (xlo [some (.inr (.inl (some 0))), some (.inr (.inl (some 1))), some (.inr (.inl (some 147))), some (.inr (.inl (some 168))), some (.inl ((3 * B : Nat) : Int)), x5, x6, x7, x8]) [] ph g Q := by
  have hzl : (zs.length : Int) ≤ 2147483647 := by omega
  have out : ∀ (B : Nat) (ph : xH) (c : KS) (g : Nat) (x5 x6 x7 x8 : Option xV), zs.length ≤ 3 * B + 2 → 3 * B ≤ zs.length → hKl zs ph c → g ≤ B → xT (d + 1240) 261 23 (xlo [some (.inr (.inl (some 0))), some (.inr (.inl (some 1))), some (.inr (.inl (some 147))), some (.inr (.inl (some 168))), some (.inl ((3 * B : Nat) : Int)), x5, x6, x7, x8]) [] ph g Q := by
    intro B ph c g x5 x6 x7 x8 hlen hle k0 hg
    have hs := k0.1
    refine tK (l := xk_261) rfl rfl (fun _ _ _ _ _ => rfl) ?_
    refine tK (l := xk_261) rfl rfl (fun _ _ _ _ _ => rfl) ?_
    refine tK (l := xk_261) rfl rfl (hSlen hs hzl) ?_
    refine tK (l := xk_261) rfl rfl (fun _ _ _ _ _ => rfl) ?_
    refine tK (l := xk_261) rfl rfl (hSub ⟨by omega, by omega⟩) ?_
    refine tIc_gt (l := xk_261) (pc' := 2039) rfl rfl rfl (fun hc => ?_) (fun hc => ?_)
    · refine tK (l := xk_261) rfl rfl (fun _ _ _ _ _ => rfl) ?_
      refine tRt (l := xk_261) rfl rfl (fun _ _ _ _ _ => rfl) ?_
      exact hQ ph g hs (by omega)
    · exfalso; omega
  intro m
  induction m with
  | zero => intro B ph c g x5 x6 x7 x8 hlen hle k0 m0 ho hg; exact out B ph c g x5 x6 x7 x8 (by omega) hle k0 hg
  | succ m ih =>
    intro B ph c g x5 x6 x7 x8 hlen hle k0 m0 ho hg
    by_cases hlt : zs.length ≤ 3 * B + 2
    · exact out B ph c g x5 x6 x7 x8 hlt hle k0 hg
    · have hi : 3 * B + 2 < zs.length := by omega
      have hB : B ≤ 512 := by omega
      have hs := k0.1
      obtain ⟨w, hw0⟩ := scr_at hzi (show 3 * B < zs.length by omega)
      obtain ⟨a, hw1⟩ := scr_at hzi (show 3 * B + 1 < zs.length by omega)
      obtain ⟨b, hw2⟩ := scr_at hzi (show 3 * B + 2 < zs.length by omega)
      have ha0 : zs[((3 * B : Nat) : Int).toNat]? = some (.inl w) := by rw [Int.toNat_natCast]; exact hw0
      have ha1 : zs[(((3 * B : Nat) : Int) + 1).toNat]? = some (.inl a) := by rw [show (((3 * B : Nat) : Int) + 1).toNat = 3 * B + 1 by omega]; exact hw1
      have ha2 : zs[(((3 * B : Nat) : Int) + 2).toNat]? = some (.inl b) := by rw [show (((3 * B : Nat) : Int) + 2).toNat = 3 * B + 2 by omega]; exact hw2
      have hN : ∀ (ph2 : xH) (c2 : KS) (g2 : Nat) (y5 y6 y7 y8 : Option xV), hKl zs ph2 c2 → hMm zs ph2 c2 → okKS (B + 1) c2 → g2 ≤ g + 1 → xT (d + 1240) 261 2033 (xlo [some (.inr (.inl (some 0))), some (.inr (.inl (some 1))), some (.inr (.inl (some 147))), some (.inr (.inl (some 168))), some (.inl ((3 * B : Nat) : Int)), y5, y6, y7, y8]) [] ph2 g2 Q := by
        intro ph2 c2 g2 y5 y6 y7 y8 k2 m2 o2 hg2
        have hs := k2.1
        refine tSt (l := xk_261) rfl rfl (hIinc rfl (Nat.le_of_ble_eq_true rfl) ⟨by omega, by omega⟩) (Nat.le_of_ble_eq_true rfl) ?_
        refine tK (l := xk_261) rfl rfl (fun _ _ _ _ _ => rfl) ?_
        rw [show ((3 * B : Nat) : Int) + 3 = ((3 * (B + 1) : Nat) : Int) by omega]
        exact ih (B + 1) ph2 c2 g2 _ _ _ _ (by omega) (by omega) k2 m2 o2 (by omega)
      obtain ⟨k, hk, ek⟩ := and63 w
      refine tK (l := xk_261) rfl rfl (fun _ _ _ _ _ => rfl) ?_
      refine tK (l := xk_261) rfl rfl (fun _ _ _ _ _ => rfl) ?_
      refine tK (l := xk_261) rfl rfl (hSlen hs hzl) ?_
      refine tK (l := xk_261) rfl rfl (fun _ _ _ _ _ => rfl) ?_
      refine tK (l := xk_261) rfl rfl (hSub ⟨by omega, by omega⟩) ?_
      refine tIc_gt (l := xk_261) (pc' := 2039) rfl rfl rfl (fun hc => ?_) (fun hc => ?_)
      · exfalso; omega
      · refine tK (l := xk_261) rfl rfl (fun _ _ _ _ _ => rfl) ?_
        refine tK (l := xk_261) rfl rfl (fun _ _ _ _ _ => rfl) ?_
        refine tK (l := xk_261) rfl rfl (hSald hs (by omega) ha0) ?_
        refine tK (l := xk_261) rfl rfl (fun _ _ _ _ _ => rfl) ?_
        refine tK (l := xk_261) rfl rfl (fun _ _ _ _ _ => rfl) ?_
        rw [ek]
        match k, hk with
        | 0, _ =>
          refine tK (l := xk_261) rfl rfl (fun _ _ _ _ _ => rfl) ?_
          exact op_0 hz hi k0 m0 ho hB ha1 hN
        | 1, _ =>
          refine tK (l := xk_261) rfl rfl (fun _ _ _ _ _ => rfl) ?_
          exact op_1 hz hi k0 m0 ho hB hN
        | 2, _ =>
          refine tK (l := xk_261) rfl rfl (fun _ _ _ _ _ => rfl) ?_
          exact op_2 hz hi k0 m0 ho hB hN
        | 3, _ =>
          refine tK (l := xk_261) rfl rfl (fun _ _ _ _ _ => rfl) ?_
          exact op_3 hz hi k0 m0 ho hB hN
        | 4, _ =>
          refine tK (l := xk_261) rfl rfl (fun _ _ _ _ _ => rfl) ?_
          exact op_4 hz hi k0 m0 ho hB hN
        | 5, _ =>
          refine tK (l := xk_261) rfl rfl (fun _ _ _ _ _ => rfl) ?_
          exact op_5 hz hi k0 m0 ho hB hN
        | 6, _ =>
          refine tK (l := xk_261) rfl rfl (fun _ _ _ _ _ => rfl) ?_
          exact op_6 hz hi k0 m0 ho hB hN
        | 7, _ =>
          refine tK (l := xk_261) rfl rfl (fun _ _ _ _ _ => rfl) ?_
          exact op_7 hz hi k0 m0 ho hB hN
        | 8, _ =>
          refine tK (l := xk_261) rfl rfl (fun _ _ _ _ _ => rfl) ?_
          exact op_8 hz hi k0 m0 ho hB hN
        | 9, _ =>
          refine tK (l := xk_261) rfl rfl (fun _ _ _ _ _ => rfl) ?_
          exact op_9 hz hi k0 m0 ho hB hN
        | 10, _ =>
          refine tK (l := xk_261) rfl rfl (fun _ _ _ _ _ => rfl) ?_
          exact op_10 hz hi k0 m0 ho hB ha1 ha2 hN
        | 11, _ =>
          refine tK (l := xk_261) rfl rfl (fun _ _ _ _ _ => rfl) ?_
          exact op_11 hz hi k0 m0 ho hB ha1 hN
        | 12, _ =>
          refine tK (l := xk_261) rfl rfl (fun _ _ _ _ _ => rfl) ?_
          exact op_12 hz hi k0 m0 ho hB ha1 hN
        | 13, _ =>
          refine tK (l := xk_261) rfl rfl (fun _ _ _ _ _ => rfl) ?_
          exact op_13 hz hi k0 m0 ho hB ha1 ha2 hN
        | 14, _ =>
          refine tK (l := xk_261) rfl rfl (fun _ _ _ _ _ => rfl) ?_
          exact op_14 hz hi k0 m0 ho hB ha1 hN
        | 15, _ =>
          refine tK (l := xk_261) rfl rfl (fun _ _ _ _ _ => rfl) ?_
          exact op_15 hz hi k0 m0 ho hB ha1 hN
        | 16, _ =>
          refine tK (l := xk_261) rfl rfl (fun _ _ _ _ _ => rfl) ?_
          exact op_16 hz hi k0 m0 ho hB ha1 hN
        | 17, _ =>
          refine tK (l := xk_261) rfl rfl (fun _ _ _ _ _ => rfl) ?_
          exact op_17 hz hi k0 m0 ho hB ha1 hN
        | 18, _ =>
          refine tK (l := xk_261) rfl rfl (fun _ _ _ _ _ => rfl) ?_
          exact op_18 hz hi k0 m0 ho hB ha1 hN
        | 19, _ =>
          refine tK (l := xk_261) rfl rfl (fun _ _ _ _ _ => rfl) ?_
          exact op_19 hz hi k0 m0 ho hB ha1 ha2 hN
        | 20, _ =>
          refine tK (l := xk_261) rfl rfl (fun _ _ _ _ _ => rfl) ?_
          exact op_20 hz hi k0 m0 ho hB ha1 hN
        | 21, _ =>
          refine tK (l := xk_261) rfl rfl (fun _ _ _ _ _ => rfl) ?_
          exact op_21 hz hi k0 m0 ho hB ha1 hN
        | 22, _ =>
          refine tK (l := xk_261) rfl rfl (fun _ _ _ _ _ => rfl) ?_
          exact op_22 hz hi k0 m0 ho hB ha1 hN
        | 23, _ =>
          refine tK (l := xk_261) rfl rfl (fun _ _ _ _ _ => rfl) ?_
          exact op_23 hz hi k0 m0 ho hB hN
        | 24, _ =>
          refine tK (l := xk_261) rfl rfl (fun _ _ _ _ _ => rfl) ?_
          exact op_24 hz hi k0 m0 ho hB hN
        | 25, _ =>
          refine tK (l := xk_261) rfl rfl (fun _ _ _ _ _ => rfl) ?_
          exact op_25 hz hi k0 m0 ho hB ha1 hN
        | 26, _ =>
          refine tK (l := xk_261) rfl rfl (fun _ _ _ _ _ => rfl) ?_
          exact op_26 hz hi k0 m0 ho hB hN
        | 27, _ =>
          refine tK (l := xk_261) rfl rfl (fun _ _ _ _ _ => rfl) ?_
          exact op_27 hz hi k0 m0 ho hB hN
        | 28, _ =>
          refine tK (l := xk_261) rfl rfl (fun _ _ _ _ _ => rfl) ?_
          exact op_28 hz hi k0 m0 ho hB hN
        | 29, _ =>
          refine tK (l := xk_261) rfl rfl (fun _ _ _ _ _ => rfl) ?_
          exact op_29 hz hi k0 m0 ho hB ha1 hN
        | 30, _ =>
          refine tK (l := xk_261) rfl rfl (fun _ _ _ _ _ => rfl) ?_
          exact op_30 hz hi k0 m0 ho hB hN
        | 31, _ =>
          refine tK (l := xk_261) rfl rfl (fun _ _ _ _ _ => rfl) ?_
          exact op_31 hz hi k0 m0 ho hB hN
        | 32, _ =>
          refine tK (l := xk_261) rfl rfl (fun _ _ _ _ _ => rfl) ?_
          exact op_32 hz hi k0 m0 ho hB hN
        | 33, _ =>
          refine tK (l := xk_261) rfl rfl (fun _ _ _ _ _ => rfl) ?_
          exact op_33 hz hi k0 m0 ho hB hN
        | 34, _ =>
          refine tK (l := xk_261) rfl rfl (fun _ _ _ _ _ => rfl) ?_
          exact op_34 hz hi k0 m0 ho hB hN
        | 35, _ =>
          refine tK (l := xk_261) rfl rfl (fun _ _ _ _ _ => rfl) ?_
          exact op_35 hz hi k0 m0 ho hB hN
        | 36, _ =>
          refine tK (l := xk_261) rfl rfl (fun _ _ _ _ _ => rfl) ?_
          exact op_36 hz hi k0 m0 ho hB hN
        | 37, _ =>
          refine tK (l := xk_261) rfl rfl (fun _ _ _ _ _ => rfl) ?_
          exact op_37 hz hi k0 m0 ho hB hN
        | 38, _ =>
          refine tK (l := xk_261) rfl rfl (fun _ _ _ _ _ => rfl) ?_
          exact op_38 hz hi k0 m0 ho hB hN
        | 39, _ =>
          refine tK (l := xk_261) rfl rfl (fun _ _ _ _ _ => rfl) ?_
          exact op_39 hz hi k0 m0 ho hB hN
        | 40, _ =>
          refine tK (l := xk_261) rfl rfl (fun _ _ _ _ _ => rfl) ?_
          exact op_40 hz hi k0 m0 ho hB ha1 hN
        | 41, _ =>
          refine tK (l := xk_261) rfl rfl (fun _ _ _ _ _ => rfl) ?_
          exact op_41 hz hi k0 m0 ho hB hN
        | 42, _ =>
          refine tK (l := xk_261) rfl rfl (fun _ _ _ _ _ => rfl) ?_
          exact op_42 hz hi k0 m0 ho hB hN
        | 43, _ =>
          refine tK (l := xk_261) rfl rfl (fun _ _ _ _ _ => rfl) ?_
          exact op_43 hz hi k0 m0 ho hB hN
        | 44, _ =>
          refine tK (l := xk_261) rfl rfl (fun _ _ _ _ _ => rfl) ?_
          exact op_44 hz hi k0 m0 ho hB hN
        | 45, _ =>
          refine tK (l := xk_261) rfl rfl (fun _ _ _ _ _ => rfl) ?_
          exact op_45 hz hi k0 m0 ho hB hN
        | 46, _ =>
          refine tK (l := xk_261) rfl rfl (fun _ _ _ _ _ => rfl) ?_
          exact op_46 hz hi k0 m0 ho hB hN
        | k + 47, _ =>
          refine tK (l := xk_261) rfl rfl (hTsD (show (46 : Int) < ((k + 47 : Nat) : Int) by omega)) ?_
          exact hN ph c g _ _ _ _ k0 m0 ho.up (by omega)
