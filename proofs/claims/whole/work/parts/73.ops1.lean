/-! ===== the law's calls (1) ===== -/
theorem lc_rfl (x : Int64) : (lg_cmp x x).toInt = 0 := by
  unfold lg_cmp
  simp
set_option maxRecDepth 20000 in
theorem op_1 {zs : List xV} {ph : xH} {g d B i : Nat} {Q : xR → Prop} {c : KS} {x5 x6 x7 x8 : Option xV} (hz : zs.length ≤ 1536) (hi : i + 2 < zs.length) (k0 : hKl zs ph c) (m0 : hMm zs ph c) (ho : okKS B c) (hB : B ≤ 512) (hN : ∀ (ph2 : xH) (c2 : KS) (g2 : Nat) (y5 y6 y7 y8 : Option xV), hKl zs ph2 c2 → hMm zs ph2 c2 → okKS (B + 1) c2 → g2 ≤ g + 1 → xT (d + 1240) 261 2033 (xlo [some (.inr (.inl (some 0))), some (.inr (.inl (some 1))), some (.inr (.inl (some 147))), some (.inr (.inl (some 168))), some (.inl (i : Int)), y5, y6, y7, y8]) [] ph2 g2 Q) : xT (d + 1240) 261 296 (xlo [some (.inr (.inl (some 0))), some (.inr (.inl (some 1))), some (.inr (.inl (some 147))), some (.inr (.inl (some 168))), some (.inl (i : Int)), x5, x6, x7, x8]) [] ph g Q := by
  have hs := k0.1
  have hz168 := hK168.2
  refine tK (l := xk_261) rfl rfl (fun _ _ _ _ _ => rfl) ?_
  refine tCa (l := xk_261) rfl rfl (hInvV (c := 9) hs rfl rfl rfl rfl rfl (Nat.le_of_ble_eq_true rfl) (Nat.le_of_ble_eq_true rfl)) ?_
  refine c82 k0 (fun ph1 k1 f1 => ?_)
  refine tKv ?_
  have m1 := m0.fw2 k1.1 f1.fw clP_m
  refine tK (l := xk_261) rfl rfl (fun _ _ _ _ _ => rfl) ?_
  refine tCa (l := xk_261) rfl rfl (hInvV (c := 10) k1.1 rfl rfl rfl rfl rfl (Nat.le_of_ble_eq_true rfl) (Nat.le_of_ble_eq_true rfl)) ?_
  refine m148 m1 (fun ph2 m2 z2 f2 => ?_)
  refine tKv ?_
  have k2 := k1.fw m2.1 f2.fw moP_k
  refine tIc_eq (l := xk_261) (pc' := 2033) rfl rfl rfl (fun hc => ?_) (fun hc => ?_)
  · exact hN ph2 _ _ _ _ _ _ k2 m2 (ho.clr) (by omega)
  · exact absurd rfl hc
set_option maxRecDepth 20000 in
theorem op_2 {zs : List xV} {ph : xH} {g d B i : Nat} {Q : xR → Prop} {c : KS} {x5 x6 x7 x8 : Option xV} (hz : zs.length ≤ 1536) (hi : i + 2 < zs.length) (k0 : hKl zs ph c) (m0 : hMm zs ph c) (ho : okKS B c) (hB : B ≤ 512) (hN : ∀ (ph2 : xH) (c2 : KS) (g2 : Nat) (y5 y6 y7 y8 : Option xV), hKl zs ph2 c2 → hMm zs ph2 c2 → okKS (B + 1) c2 → g2 ≤ g + 1 → xT (d + 1240) 261 2033 (xlo [some (.inr (.inl (some 0))), some (.inr (.inl (some 1))), some (.inr (.inl (some 147))), some (.inr (.inl (some 168))), some (.inl (i : Int)), y5, y6, y7, y8]) [] ph2 g2 Q) : xT (d + 1240) 261 309 (xlo [some (.inr (.inl (some 0))), some (.inr (.inl (some 1))), some (.inr (.inl (some 147))), some (.inr (.inl (some 168))), some (.inl (i : Int)), x5, x6, x7, x8]) [] ph g Q := by
  have hs := k0.1
  have hz168 := hK168.2
  refine tK (l := xk_261) rfl rfl (fun _ _ _ _ _ => rfl) ?_
  refine tCa (l := xk_261) rfl rfl (hInvV (c := 9) hs rfl rfl rfl rfl rfl (Nat.le_of_ble_eq_true rfl) (Nat.le_of_ble_eq_true rfl)) ?_
  refine c83 k0 ?_
  refine tKv ?_
  have m1 := m0
  have k1 := k0
  refine tK (l := xk_261) rfl rfl (fun _ _ _ _ _ => rfl) ?_
  refine tCa (l := xk_261) rfl rfl (hInvV (c := 10) k1.1 rfl rfl rfl rfl rfl (Nat.le_of_ble_eq_true rfl) (Nat.le_of_ble_eq_true rfl)) ?_
  refine m149 m1 (fun ph2 m2 z2 f2 => ?_)
  refine tKv ?_
  have k2 := k1.fw m2.1 f2.fw moP_k
  refine tIc_eq (l := xk_261) (pc' := 2033) rfl rfl rfl (fun hc => ?_) (fun hc => ?_)
  · exact hN ph2 _ _ _ _ _ _ k2 m2 (ho.up) (by omega)
  · exact absurd rfl hc
set_option maxRecDepth 20000 in
theorem op_3 {zs : List xV} {ph : xH} {g d B i : Nat} {Q : xR → Prop} {c : KS} {x5 x6 x7 x8 : Option xV} (hz : zs.length ≤ 1536) (hi : i + 2 < zs.length) (k0 : hKl zs ph c) (m0 : hMm zs ph c) (ho : okKS B c) (hB : B ≤ 512) (hN : ∀ (ph2 : xH) (c2 : KS) (g2 : Nat) (y5 y6 y7 y8 : Option xV), hKl zs ph2 c2 → hMm zs ph2 c2 → okKS (B + 1) c2 → g2 ≤ g + 1 → xT (d + 1240) 261 2033 (xlo [some (.inr (.inl (some 0))), some (.inr (.inl (some 1))), some (.inr (.inl (some 147))), some (.inr (.inl (some 168))), some (.inl (i : Int)), y5, y6, y7, y8]) [] ph2 g2 Q) : xT (d + 1240) 261 322 (xlo [some (.inr (.inl (some 0))), some (.inr (.inl (some 1))), some (.inr (.inl (some 147))), some (.inr (.inl (some 168))), some (.inl (i : Int)), x5, x6, x7, x8]) [] ph g Q := by
  have hs := k0.1
  have hz168 := hK168.2
  refine tK (l := xk_261) rfl rfl (fun _ _ _ _ _ => rfl) ?_
  refine tCa (l := xk_261) rfl rfl (hInvV (c := 9) hs rfl rfl rfl rfl rfl (Nat.le_of_ble_eq_true rfl) (Nat.le_of_ble_eq_true rfl)) ?_
  refine c84 k0 ho.1.2 (fun ph1 k1 f1 => ?_)
  refine tKv ?_
  have m1 := m0.fw2 k1.1 f1.fw clP_m
  refine tK (l := xk_261) rfl rfl (fun _ _ _ _ _ => rfl) ?_
  refine tCa (l := xk_261) rfl rfl (hInvV (c := 10) k1.1 rfl rfl rfl rfl rfl (Nat.le_of_ble_eq_true rfl) (Nat.le_of_ble_eq_true rfl)) ?_
  refine m150 m1 ho.1.1 (fun ph2 m2 z2 f2 => ?_)
  refine tKv ?_
  have k2 := k1.fw m2.1 f2.fw moP_k
  refine tIc_eq (l := xk_261) (pc' := 2033) rfl rfl rfl (fun hc => ?_) (fun hc => ?_)
  · exact hN ph2 _ _ _ _ _ _ k2 m2 (ho.up) (by omega)
  · exact absurd rfl hc
set_option maxRecDepth 20000 in
theorem op_4 {zs : List xV} {ph : xH} {g d B i : Nat} {Q : xR → Prop} {c : KS} {x5 x6 x7 x8 : Option xV} (hz : zs.length ≤ 1536) (hi : i + 2 < zs.length) (k0 : hKl zs ph c) (m0 : hMm zs ph c) (ho : okKS B c) (hB : B ≤ 512) (hN : ∀ (ph2 : xH) (c2 : KS) (g2 : Nat) (y5 y6 y7 y8 : Option xV), hKl zs ph2 c2 → hMm zs ph2 c2 → okKS (B + 1) c2 → g2 ≤ g + 1 → xT (d + 1240) 261 2033 (xlo [some (.inr (.inl (some 0))), some (.inr (.inl (some 1))), some (.inr (.inl (some 147))), some (.inr (.inl (some 168))), some (.inl (i : Int)), y5, y6, y7, y8]) [] ph2 g2 Q) : xT (d + 1240) 261 335 (xlo [some (.inr (.inl (some 0))), some (.inr (.inl (some 1))), some (.inr (.inl (some 147))), some (.inr (.inl (some 168))), some (.inl (i : Int)), x5, x6, x7, x8]) [] ph g Q := by
  have hs := k0.1
  have hz168 := hK168.2
  refine tK (l := xk_261) rfl rfl (fun _ _ _ _ _ => rfl) ?_
  refine tCa (l := xk_261) rfl rfl (hInvV (c := 9) hs rfl rfl rfl rfl rfl (Nat.le_of_ble_eq_true rfl) (Nat.le_of_ble_eq_true rfl)) ?_
  refine c86 k0 ho.1.2 (fun ph1 k1 f1 => ?_)
  refine tKv ?_
  have m1 := m0.fw2 k1.1 f1.fw clP_m
  refine tK (l := xk_261) rfl rfl (fun _ _ _ _ _ => rfl) ?_
  refine tCa (l := xk_261) rfl rfl (hInvV (c := 10) k1.1 rfl rfl rfl rfl rfl (Nat.le_of_ble_eq_true rfl) (Nat.le_of_ble_eq_true rfl)) ?_
  refine m156 m1 ho.1.1 (fun ph2 m2 z2 f2 => ?_)
  refine tKv ?_
  have k2 := k1.fw m2.1 f2.fw moP_k
  refine tIc_eq (l := xk_261) (pc' := 2033) rfl rfl rfl (fun hc => ?_) (fun hc => ?_)
  · exact hN ph2 _ _ _ _ _ _ k2 m2 (ho.up) (by omega)
  · exact absurd rfl hc
set_option maxRecDepth 20000 in
theorem op_24 {zs : List xV} {ph : xH} {g d B i : Nat} {Q : xR → Prop} {c : KS} {x5 x6 x7 x8 : Option xV} (hz : zs.length ≤ 1536) (hi : i + 2 < zs.length) (k0 : hKl zs ph c) (m0 : hMm zs ph c) (ho : okKS B c) (hB : B ≤ 512) (hN : ∀ (ph2 : xH) (c2 : KS) (g2 : Nat) (y5 y6 y7 y8 : Option xV), hKl zs ph2 c2 → hMm zs ph2 c2 → okKS (B + 1) c2 → g2 ≤ g + 1 → xT (d + 1240) 261 2033 (xlo [some (.inr (.inl (some 0))), some (.inr (.inl (some 1))), some (.inr (.inl (some 147))), some (.inr (.inl (some 168))), some (.inl (i : Int)), y5, y6, y7, y8]) [] ph2 g2 Q) : xT (d + 1240) 261 1390 (xlo [some (.inr (.inl (some 0))), some (.inr (.inl (some 1))), some (.inr (.inl (some 147))), some (.inr (.inl (some 168))), some (.inl (i : Int)), x5, x6, x7, x8]) [] ph g Q := by
  have hs := k0.1
  have hz168 := hK168.2
  refine tK (l := xk_261) rfl rfl (fun _ _ _ _ _ => rfl) ?_
  refine tCa (l := xk_261) rfl rfl (hInvV (c := 9) hs rfl rfl rfl rfl rfl (Nat.le_of_ble_eq_true rfl) (Nat.le_of_ble_eq_true rfl)) ?_
  refine c87 k0 ?_
  refine tKv ?_
  have m1 := m0
  have k1 := k0
  refine tK (l := xk_261) rfl rfl (fun _ _ _ _ _ => rfl) ?_
  refine tCa (l := xk_261) rfl rfl (hInvV (c := 10) k1.1 rfl rfl rfl rfl rfl (Nat.le_of_ble_eq_true rfl) (Nat.le_of_ble_eq_true rfl)) ?_
  refine m202 m1 (fun ph2 m2 z2 f2 => ?_)
  refine tKv ?_
  have k2 := k1.fw m2.1 f2.fw moP_k
  refine tIc_eq (l := xk_261) (pc' := 2033) rfl rfl rfl (fun hc => ?_) (fun hc => ?_)
  · exact hN ph2 _ _ _ _ _ _ k2 m2 (ho.up) (by omega)
  · exact absurd rfl hc
set_option maxRecDepth 20000 in
theorem op_26 {zs : List xV} {ph : xH} {g d B i : Nat} {Q : xR → Prop} {c : KS} {x5 x6 x7 x8 : Option xV} (hz : zs.length ≤ 1536) (hi : i + 2 < zs.length) (k0 : hKl zs ph c) (m0 : hMm zs ph c) (ho : okKS B c) (hB : B ≤ 512) (hN : ∀ (ph2 : xH) (c2 : KS) (g2 : Nat) (y5 y6 y7 y8 : Option xV), hKl zs ph2 c2 → hMm zs ph2 c2 → okKS (B + 1) c2 → g2 ≤ g + 1 → xT (d + 1240) 261 2033 (xlo [some (.inr (.inl (some 0))), some (.inr (.inl (some 1))), some (.inr (.inl (some 147))), some (.inr (.inl (some 168))), some (.inl (i : Int)), y5, y6, y7, y8]) [] ph2 g2 Q) : xT (d + 1240) 261 1459 (xlo [some (.inr (.inl (some 0))), some (.inr (.inl (some 1))), some (.inr (.inl (some 147))), some (.inr (.inl (some 168))), some (.inl (i : Int)), x5, x6, x7, x8]) [] ph g Q := by
  have hs := k0.1
  have hz168 := hK168.2
  refine tK (l := xk_261) rfl rfl (fun _ _ _ _ _ => rfl) ?_
  refine tCa (l := xk_261) rfl rfl (hInvV (c := 9) hs rfl rfl rfl rfl rfl (Nat.le_of_ble_eq_true rfl) (Nat.le_of_ble_eq_true rfl)) ?_
  refine c88 k0 ?_
  refine tKv ?_
  have m1 := m0
  have k1 := k0
  refine tK (l := xk_261) rfl rfl (fun _ _ _ _ _ => rfl) ?_
  refine tCa (l := xk_261) rfl rfl (hInvV (c := 10) k1.1 rfl rfl rfl rfl rfl (Nat.le_of_ble_eq_true rfl) (Nat.le_of_ble_eq_true rfl)) ?_
  refine m204 m1 (fun ph2 m2 z2 f2 => ?_)
  refine tKv ?_
  have k2 := k1.fw m2.1 f2.fw moP_k
  refine tIc_eq (l := xk_261) (pc' := 2033) rfl rfl rfl (fun hc => ?_) (fun hc => ?_)
  · exact hN ph2 _ _ _ _ _ _ k2 m2 (ho.up) (by omega)
  · exact absurd rfl hc
set_option maxRecDepth 20000 in
theorem op_28 {zs : List xV} {ph : xH} {g d B i : Nat} {Q : xR → Prop} {c : KS} {x5 x6 x7 x8 : Option xV} (hz : zs.length ≤ 1536) (hi : i + 2 < zs.length) (k0 : hKl zs ph c) (m0 : hMm zs ph c) (ho : okKS B c) (hB : B ≤ 512) (hN : ∀ (ph2 : xH) (c2 : KS) (g2 : Nat) (y5 y6 y7 y8 : Option xV), hKl zs ph2 c2 → hMm zs ph2 c2 → okKS (B + 1) c2 → g2 ≤ g + 1 → xT (d + 1240) 261 2033 (xlo [some (.inr (.inl (some 0))), some (.inr (.inl (some 1))), some (.inr (.inl (some 147))), some (.inr (.inl (some 168))), some (.inl (i : Int)), y5, y6, y7, y8]) [] ph2 g2 Q) : xT (d + 1240) 261 1516 (xlo [some (.inr (.inl (some 0))), some (.inr (.inl (some 1))), some (.inr (.inl (some 147))), some (.inr (.inl (some 168))), some (.inl (i : Int)), x5, x6, x7, x8]) [] ph g Q := by
  have hs := k0.1
  have hz168 := hK168.2
  refine tK (l := xk_261) rfl rfl (fun _ _ _ _ _ => rfl) ?_
  refine tCa (l := xk_261) rfl rfl (hInvV (c := 9) hs rfl rfl rfl rfl rfl (Nat.le_of_ble_eq_true rfl) (Nat.le_of_ble_eq_true rfl)) ?_
  refine c89 k0 ?_
  refine tKv ?_
  have m1 := m0
  have k1 := k0
  refine tK (l := xk_261) rfl rfl (fun _ _ _ _ _ => rfl) ?_
  refine tCa (l := xk_261) rfl rfl (hInvV (c := 10) k1.1 rfl rfl rfl rfl rfl (Nat.le_of_ble_eq_true rfl) (Nat.le_of_ble_eq_true rfl)) ?_
  refine m206 m1 (fun ph2 m2 z2 f2 => ?_)
  refine tKv ?_
  have k2 := k1.fw m2.1 f2.fw moP_k
  refine tIc_eq (l := xk_261) (pc' := 2033) rfl rfl rfl (fun hc => ?_) (fun hc => ?_)
  · exact hN ph2 _ _ _ _ _ _ k2 m2 (ho.up) (by omega)
  · exact absurd rfl hc
set_option maxRecDepth 20000 in
theorem op_30 {zs : List xV} {ph : xH} {g d B i : Nat} {Q : xR → Prop} {c : KS} {x5 x6 x7 x8 : Option xV} (hz : zs.length ≤ 1536) (hi : i + 2 < zs.length) (k0 : hKl zs ph c) (m0 : hMm zs ph c) (ho : okKS B c) (hB : B ≤ 512) (hN : ∀ (ph2 : xH) (c2 : KS) (g2 : Nat) (y5 y6 y7 y8 : Option xV), hKl zs ph2 c2 → hMm zs ph2 c2 → okKS (B + 1) c2 → g2 ≤ g + 1 → xT (d + 1240) 261 2033 (xlo [some (.inr (.inl (some 0))), some (.inr (.inl (some 1))), some (.inr (.inl (some 147))), some (.inr (.inl (some 168))), some (.inl (i : Int)), y5, y6, y7, y8]) [] ph2 g2 Q) : xT (d + 1240) 261 1585 (xlo [some (.inr (.inl (some 0))), some (.inr (.inl (some 1))), some (.inr (.inl (some 147))), some (.inr (.inl (some 168))), some (.inl (i : Int)), x5, x6, x7, x8]) [] ph g Q := by
  have hs := k0.1
  have hz168 := hK168.2
  refine tK (l := xk_261) rfl rfl (fun _ _ _ _ _ => rfl) ?_
  refine tCa (l := xk_261) rfl rfl (hInvV (c := 9) hs rfl rfl rfl rfl rfl (Nat.le_of_ble_eq_true rfl) (Nat.le_of_ble_eq_true rfl)) ?_
  refine c90 k0 ?_
  refine tKv ?_
  have m1 := m0
  have k1 := k0
  refine tK (l := xk_261) rfl rfl (fun _ _ _ _ _ => rfl) ?_
  refine tCa (l := xk_261) rfl rfl (hInvV (c := 10) k1.1 rfl rfl rfl rfl rfl (Nat.le_of_ble_eq_true rfl) (Nat.le_of_ble_eq_true rfl)) ?_
  refine m208 m1 (fun ph2 m2 z2 f2 => ?_)
  refine tKv ?_
  have k2 := k1.fw m2.1 f2.fw moP_k
  refine tIc_eq (l := xk_261) (pc' := 2033) rfl rfl rfl (fun hc => ?_) (fun hc => ?_)
  · exact hN ph2 _ _ _ _ _ _ k2 m2 (ho.up) (by omega)
  · exact absurd rfl hc
set_option maxRecDepth 20000 in
theorem op_31 {zs : List xV} {ph : xH} {g d B i : Nat} {Q : xR → Prop} {c : KS} {x5 x6 x7 x8 : Option xV} (hz : zs.length ≤ 1536) (hi : i + 2 < zs.length) (k0 : hKl zs ph c) (m0 : hMm zs ph c) (ho : okKS B c) (hB : B ≤ 512) (hN : ∀ (ph2 : xH) (c2 : KS) (g2 : Nat) (y5 y6 y7 y8 : Option xV), hKl zs ph2 c2 → hMm zs ph2 c2 → okKS (B + 1) c2 → g2 ≤ g + 1 → xT (d + 1240) 261 2033 (xlo [some (.inr (.inl (some 0))), some (.inr (.inl (some 1))), some (.inr (.inl (some 147))), some (.inr (.inl (some 168))), some (.inl (i : Int)), y5, y6, y7, y8]) [] ph2 g2 Q) : xT (d + 1240) 261 1598 (xlo [some (.inr (.inl (some 0))), some (.inr (.inl (some 1))), some (.inr (.inl (some 147))), some (.inr (.inl (some 168))), some (.inl (i : Int)), x5, x6, x7, x8]) [] ph g Q := by
  have hs := k0.1
  have hz168 := hK168.2
  refine tK (l := xk_261) rfl rfl (fun _ _ _ _ _ => rfl) ?_
  refine tCa (l := xk_261) rfl rfl (hInvV (c := 9) hs rfl rfl rfl rfl rfl (Nat.le_of_ble_eq_true rfl) (Nat.le_of_ble_eq_true rfl)) ?_
  refine c91 k0 ?_
  refine tKv ?_
  have m1 := m0
  have k1 := k0
  refine tK (l := xk_261) rfl rfl (fun _ _ _ _ _ => rfl) ?_
  refine tCa (l := xk_261) rfl rfl (hInvV (c := 10) k1.1 rfl rfl rfl rfl rfl (Nat.le_of_ble_eq_true rfl) (Nat.le_of_ble_eq_true rfl)) ?_
  refine m209 m1 (fun ph2 m2 z2 f2 => ?_)
  refine tKv ?_
  have k2 := k1.fw m2.1 f2.fw moP_k
  refine tIc_eq (l := xk_261) (pc' := 2033) rfl rfl rfl (fun hc => ?_) (fun hc => ?_)
  · exact hN ph2 _ _ _ _ _ _ k2 m2 (ho.up) (by omega)
  · exact absurd rfl hc
set_option maxRecDepth 20000 in
theorem op_32 {zs : List xV} {ph : xH} {g d B i : Nat} {Q : xR → Prop} {c : KS} {x5 x6 x7 x8 : Option xV} (hz : zs.length ≤ 1536) (hi : i + 2 < zs.length) (k0 : hKl zs ph c) (m0 : hMm zs ph c) (ho : okKS B c) (hB : B ≤ 512) (hN : ∀ (ph2 : xH) (c2 : KS) (g2 : Nat) (y5 y6 y7 y8 : Option xV), hKl zs ph2 c2 → hMm zs ph2 c2 → okKS (B + 1) c2 → g2 ≤ g + 1 → xT (d + 1240) 261 2033 (xlo [some (.inr (.inl (some 0))), some (.inr (.inl (some 1))), some (.inr (.inl (some 147))), some (.inr (.inl (some 168))), some (.inl (i : Int)), y5, y6, y7, y8]) [] ph2 g2 Q) : xT (d + 1240) 261 1611 (xlo [some (.inr (.inl (some 0))), some (.inr (.inl (some 1))), some (.inr (.inl (some 147))), some (.inr (.inl (some 168))), some (.inl (i : Int)), x5, x6, x7, x8]) [] ph g Q := by
  have hs := k0.1
  have hz168 := hK168.2
  refine tK (l := xk_261) rfl rfl (fun _ _ _ _ _ => rfl) ?_
  refine tCa (l := xk_261) rfl rfl (hInvV (c := 9) hs rfl rfl rfl rfl rfl (Nat.le_of_ble_eq_true rfl) (Nat.le_of_ble_eq_true rfl)) ?_
  refine c92 k0 ?_
  refine tKv ?_
  have m1 := m0
  have k1 := k0
  refine tK (l := xk_261) rfl rfl (fun _ _ _ _ _ => rfl) ?_
  refine tCa (l := xk_261) rfl rfl (hInvV (c := 10) k1.1 rfl rfl rfl rfl rfl (Nat.le_of_ble_eq_true rfl) (Nat.le_of_ble_eq_true rfl)) ?_
  refine m210 m1 (fun ph2 m2 z2 f2 => ?_)
  refine tKv ?_
  have k2 := k1.fw m2.1 f2.fw moP_k
  refine tIc_eq (l := xk_261) (pc' := 2033) rfl rfl rfl (fun hc => ?_) (fun hc => ?_)
  · exact hN ph2 _ _ _ _ _ _ k2 m2 (ho.up) (by omega)
  · exact absurd rfl hc
set_option maxRecDepth 20000 in
theorem op_33 {zs : List xV} {ph : xH} {g d B i : Nat} {Q : xR → Prop} {c : KS} {x5 x6 x7 x8 : Option xV} (hz : zs.length ≤ 1536) (hi : i + 2 < zs.length) (k0 : hKl zs ph c) (m0 : hMm zs ph c) (ho : okKS B c) (hB : B ≤ 512) (hN : ∀ (ph2 : xH) (c2 : KS) (g2 : Nat) (y5 y6 y7 y8 : Option xV), hKl zs ph2 c2 → hMm zs ph2 c2 → okKS (B + 1) c2 → g2 ≤ g + 1 → xT (d + 1240) 261 2033 (xlo [some (.inr (.inl (some 0))), some (.inr (.inl (some 1))), some (.inr (.inl (some 147))), some (.inr (.inl (some 168))), some (.inl (i : Int)), y5, y6, y7, y8]) [] ph2 g2 Q) : xT (d + 1240) 261 1624 (xlo [some (.inr (.inl (some 0))), some (.inr (.inl (some 1))), some (.inr (.inl (some 147))), some (.inr (.inl (some 168))), some (.inl (i : Int)), x5, x6, x7, x8]) [] ph g Q := by
  have hs := k0.1
  have hz168 := hK168.2
  refine tK (l := xk_261) rfl rfl (fun _ _ _ _ _ => rfl) ?_
  refine tCa (l := xk_261) rfl rfl (hInvV (c := 9) hs rfl rfl rfl rfl rfl (Nat.le_of_ble_eq_true rfl) (Nat.le_of_ble_eq_true rfl)) ?_
  refine c93 k0 ?_
  refine tKv ?_
  have m1 := m0
  have k1 := k0
  refine tK (l := xk_261) rfl rfl (fun _ _ _ _ _ => rfl) ?_
  refine tCa (l := xk_261) rfl rfl (hInvV (c := 10) k1.1 rfl rfl rfl rfl rfl (Nat.le_of_ble_eq_true rfl) (Nat.le_of_ble_eq_true rfl)) ?_
  refine m211 m1 (fun ph2 m2 z2 f2 => ?_)
  refine tKv ?_
  have k2 := k1.fw m2.1 f2.fw moP_k
  refine tIc_eq (l := xk_261) (pc' := 2033) rfl rfl rfl (fun hc => ?_) (fun hc => ?_)
  · exact hN ph2 _ _ _ _ _ _ k2 m2 (ho.up) (by omega)
  · exact absurd rfl hc
set_option maxRecDepth 20000 in
theorem op_34 {zs : List xV} {ph : xH} {g d B i : Nat} {Q : xR → Prop} {c : KS} {x5 x6 x7 x8 : Option xV} (hz : zs.length ≤ 1536) (hi : i + 2 < zs.length) (k0 : hKl zs ph c) (m0 : hMm zs ph c) (ho : okKS B c) (hB : B ≤ 512) (hN : ∀ (ph2 : xH) (c2 : KS) (g2 : Nat) (y5 y6 y7 y8 : Option xV), hKl zs ph2 c2 → hMm zs ph2 c2 → okKS (B + 1) c2 → g2 ≤ g + 1 → xT (d + 1240) 261 2033 (xlo [some (.inr (.inl (some 0))), some (.inr (.inl (some 1))), some (.inr (.inl (some 147))), some (.inr (.inl (some 168))), some (.inl (i : Int)), y5, y6, y7, y8]) [] ph2 g2 Q) : xT (d + 1240) 261 1637 (xlo [some (.inr (.inl (some 0))), some (.inr (.inl (some 1))), some (.inr (.inl (some 147))), some (.inr (.inl (some 168))), some (.inl (i : Int)), x5, x6, x7, x8]) [] ph g Q := by
  have hs := k0.1
  have hz168 := hK168.2
  refine tK (l := xk_261) rfl rfl (fun _ _ _ _ _ => rfl) ?_
  refine tCa (l := xk_261) rfl rfl (hInvV (c := 9) hs rfl rfl rfl rfl rfl (Nat.le_of_ble_eq_true rfl) (Nat.le_of_ble_eq_true rfl)) ?_
  refine c94 k0 ?_
  refine tKv ?_
  have m1 := m0
  have k1 := k0
  refine tK (l := xk_261) rfl rfl (fun _ _ _ _ _ => rfl) ?_
  refine tCa (l := xk_261) rfl rfl (hInvV (c := 10) k1.1 rfl rfl rfl rfl rfl (Nat.le_of_ble_eq_true rfl) (Nat.le_of_ble_eq_true rfl)) ?_
  refine m212 m1 (fun ph2 m2 z2 f2 => ?_)
  refine tKv ?_
  have k2 := k1.fw m2.1 f2.fw moP_k
  refine tIc_eq (l := xk_261) (pc' := 2033) rfl rfl rfl (fun hc => ?_) (fun hc => ?_)
  · exact hN ph2 _ _ _ _ _ _ k2 m2 (ho.up) (by omega)
  · exact absurd rfl hc
set_option maxRecDepth 20000 in
theorem op_35 {zs : List xV} {ph : xH} {g d B i : Nat} {Q : xR → Prop} {c : KS} {x5 x6 x7 x8 : Option xV} (hz : zs.length ≤ 1536) (hi : i + 2 < zs.length) (k0 : hKl zs ph c) (m0 : hMm zs ph c) (ho : okKS B c) (hB : B ≤ 512) (hN : ∀ (ph2 : xH) (c2 : KS) (g2 : Nat) (y5 y6 y7 y8 : Option xV), hKl zs ph2 c2 → hMm zs ph2 c2 → okKS (B + 1) c2 → g2 ≤ g + 1 → xT (d + 1240) 261 2033 (xlo [some (.inr (.inl (some 0))), some (.inr (.inl (some 1))), some (.inr (.inl (some 147))), some (.inr (.inl (some 168))), some (.inl (i : Int)), y5, y6, y7, y8]) [] ph2 g2 Q) : xT (d + 1240) 261 1650 (xlo [some (.inr (.inl (some 0))), some (.inr (.inl (some 1))), some (.inr (.inl (some 147))), some (.inr (.inl (some 168))), some (.inl (i : Int)), x5, x6, x7, x8]) [] ph g Q := by
  have hs := k0.1
  have hz168 := hK168.2
  refine tK (l := xk_261) rfl rfl (fun _ _ _ _ _ => rfl) ?_
  refine tCa (l := xk_261) rfl rfl (hInvV (c := 9) hs rfl rfl rfl rfl rfl (Nat.le_of_ble_eq_true rfl) (Nat.le_of_ble_eq_true rfl)) ?_
  refine c95 k0 ?_
  refine tKv ?_
  have m1 := m0
  have k1 := k0
  refine tK (l := xk_261) rfl rfl (fun _ _ _ _ _ => rfl) ?_
  refine tCa (l := xk_261) rfl rfl (hInvV (c := 10) k1.1 rfl rfl rfl rfl rfl (Nat.le_of_ble_eq_true rfl) (Nat.le_of_ble_eq_true rfl)) ?_
  refine m213 m1 (fun ph2 m2 z2 f2 => ?_)
  refine tKv ?_
  have k2 := k1.fw m2.1 f2.fw moP_k
  refine tIc_eq (l := xk_261) (pc' := 2033) rfl rfl rfl (fun hc => ?_) (fun hc => ?_)
  · exact hN ph2 _ _ _ _ _ _ k2 m2 (ho.up) (by omega)
  · exact absurd rfl hc
set_option maxRecDepth 20000 in
theorem op_36 {zs : List xV} {ph : xH} {g d B i : Nat} {Q : xR → Prop} {c : KS} {x5 x6 x7 x8 : Option xV} (hz : zs.length ≤ 1536) (hi : i + 2 < zs.length) (k0 : hKl zs ph c) (m0 : hMm zs ph c) (ho : okKS B c) (hB : B ≤ 512) (hN : ∀ (ph2 : xH) (c2 : KS) (g2 : Nat) (y5 y6 y7 y8 : Option xV), hKl zs ph2 c2 → hMm zs ph2 c2 → okKS (B + 1) c2 → g2 ≤ g + 1 → xT (d + 1240) 261 2033 (xlo [some (.inr (.inl (some 0))), some (.inr (.inl (some 1))), some (.inr (.inl (some 147))), some (.inr (.inl (some 168))), some (.inl (i : Int)), y5, y6, y7, y8]) [] ph2 g2 Q) : xT (d + 1240) 261 1663 (xlo [some (.inr (.inl (some 0))), some (.inr (.inl (some 1))), some (.inr (.inl (some 147))), some (.inr (.inl (some 168))), some (.inl (i : Int)), x5, x6, x7, x8]) [] ph g Q := by
  have hs := k0.1
  have hz168 := hK168.2
  refine tK (l := xk_261) rfl rfl (fun _ _ _ _ _ => rfl) ?_
  refine tCa (l := xk_261) rfl rfl (hInvV (c := 9) hs rfl rfl rfl rfl rfl (Nat.le_of_ble_eq_true rfl) (Nat.le_of_ble_eq_true rfl)) ?_
  refine c96 k0 ?_
  refine tKv ?_
  have m1 := m0
  have k1 := k0
  refine tK (l := xk_261) rfl rfl (fun _ _ _ _ _ => rfl) ?_
  refine tCa (l := xk_261) rfl rfl (hInvV (c := 10) k1.1 rfl rfl rfl rfl rfl (Nat.le_of_ble_eq_true rfl) (Nat.le_of_ble_eq_true rfl)) ?_
  refine m214 m1 (fun ph2 m2 z2 f2 => ?_)
  refine tKv ?_
  have k2 := k1.fw m2.1 f2.fw moP_k
  refine tIc_eq (l := xk_261) (pc' := 2033) rfl rfl rfl (fun hc => ?_) (fun hc => ?_)
  · exact hN ph2 _ _ _ _ _ _ k2 m2 (ho.up) (by omega)
  · exact absurd rfl hc
set_option maxRecDepth 20000 in
theorem op_42 {zs : List xV} {ph : xH} {g d B i : Nat} {Q : xR → Prop} {c : KS} {x5 x6 x7 x8 : Option xV} (hz : zs.length ≤ 1536) (hi : i + 2 < zs.length) (k0 : hKl zs ph c) (m0 : hMm zs ph c) (ho : okKS B c) (hB : B ≤ 512) (hN : ∀ (ph2 : xH) (c2 : KS) (g2 : Nat) (y5 y6 y7 y8 : Option xV), hKl zs ph2 c2 → hMm zs ph2 c2 → okKS (B + 1) c2 → g2 ≤ g + 1 → xT (d + 1240) 261 2033 (xlo [some (.inr (.inl (some 0))), some (.inr (.inl (some 1))), some (.inr (.inl (some 147))), some (.inr (.inl (some 168))), some (.inl (i : Int)), y5, y6, y7, y8]) [] ph2 g2 Q) : xT (d + 1240) 261 1908 (xlo [some (.inr (.inl (some 0))), some (.inr (.inl (some 1))), some (.inr (.inl (some 147))), some (.inr (.inl (some 168))), some (.inl (i : Int)), x5, x6, x7, x8]) [] ph g Q := by
  have hs := k0.1
  have hz168 := hK168.2
  refine tK (l := xk_261) rfl rfl (fun _ _ _ _ _ => rfl) ?_
  refine tCa (l := xk_261) rfl rfl (hInvV (c := 9) hs rfl rfl rfl rfl rfl (Nat.le_of_ble_eq_true rfl) (Nat.le_of_ble_eq_true rfl)) ?_
  refine c97 k0 (fun ph1 k1 f1 => ?_)
  refine tKv ?_
  have m1 := m0.fw2 k1.1 f1.fw clP_m
  refine tK (l := xk_261) rfl rfl (fun _ _ _ _ _ => rfl) ?_
  refine tCa (l := xk_261) rfl rfl (hInvV (c := 10) k1.1 rfl rfl rfl rfl rfl (Nat.le_of_ble_eq_true rfl) (Nat.le_of_ble_eq_true rfl)) ?_
  refine m222 m1 (fun ph2 m2 z2 f2 => ?_)
  refine tKv ?_
  have k2 := k1.fw m2.1 f2.fw moP_k
  refine tIc_eq (l := xk_261) (pc' := 2033) rfl rfl rfl (fun hc => ?_) (fun hc => ?_)
  · exact hN ph2 _ _ _ _ _ _ k2 m2 (ho.snp) (by omega)
  · exact absurd rfl hc
set_option maxRecDepth 20000 in
theorem op_44 {zs : List xV} {ph : xH} {g d B i : Nat} {Q : xR → Prop} {c : KS} {x5 x6 x7 x8 : Option xV} (hz : zs.length ≤ 1536) (hi : i + 2 < zs.length) (k0 : hKl zs ph c) (m0 : hMm zs ph c) (ho : okKS B c) (hB : B ≤ 512) (hN : ∀ (ph2 : xH) (c2 : KS) (g2 : Nat) (y5 y6 y7 y8 : Option xV), hKl zs ph2 c2 → hMm zs ph2 c2 → okKS (B + 1) c2 → g2 ≤ g + 1 → xT (d + 1240) 261 2033 (xlo [some (.inr (.inl (some 0))), some (.inr (.inl (some 1))), some (.inr (.inl (some 147))), some (.inr (.inl (some 168))), some (.inl (i : Int)), y5, y6, y7, y8]) [] ph2 g2 Q) : xT (d + 1240) 261 1965 (xlo [some (.inr (.inl (some 0))), some (.inr (.inl (some 1))), some (.inr (.inl (some 147))), some (.inr (.inl (some 168))), some (.inl (i : Int)), x5, x6, x7, x8]) [] ph g Q := by
  have hs := k0.1
  have hz168 := hK168.2
  refine tK (l := xk_261) rfl rfl (fun _ _ _ _ _ => rfl) ?_
  refine tCa (l := xk_261) rfl rfl (hInvV (c := 9) hs rfl rfl rfl rfl rfl (Nat.le_of_ble_eq_true rfl) (Nat.le_of_ble_eq_true rfl)) ?_
  refine c98 k0 ?_
  refine tKv ?_
  have m1 := m0
  have k1 := k0
  refine tK (l := xk_261) rfl rfl (fun _ _ _ _ _ => rfl) ?_
  refine tCa (l := xk_261) rfl rfl (hInvV (c := 10) k1.1 rfl rfl rfl rfl rfl (Nat.le_of_ble_eq_true rfl) (Nat.le_of_ble_eq_true rfl)) ?_
  refine m224 m1 (fun ph2 m2 z2 f2 => ?_)
  refine tKv ?_
  have k2 := k1.fw m2.1 f2.fw moP_k
  refine tIc_eq (l := xk_261) (pc' := 2033) rfl rfl rfl (fun hc => ?_) (fun hc => ?_)
  · exact hN ph2 _ _ _ _ _ _ k2 m2 (ho.up) (by omega)
  · exact absurd rfl hc
set_option maxRecDepth 20000 in
theorem op_0 {zs : List xV} {ph : xH} {g d B i : Nat} {Q : xR → Prop} {c : KS} {x5 x6 x7 x8 : Option xV} (hz : zs.length ≤ 1536) (hi : i + 2 < zs.length) (k0 : hKl zs ph c) (m0 : hMm zs ph c) (ho : okKS B c) (hB : B ≤ 512) {a : Int} (ha1 : zs[((i : Int) + 1).toNat]? = some (.inl a)) (hN : ∀ (ph2 : xH) (c2 : KS) (g2 : Nat) (y5 y6 y7 y8 : Option xV), hKl zs ph2 c2 → hMm zs ph2 c2 → okKS (B + 1) c2 → g2 ≤ g + 1 → xT (d + 1240) 261 2033 (xlo [some (.inr (.inl (some 0))), some (.inr (.inl (some 1))), some (.inr (.inl (some 147))), some (.inr (.inl (some 168))), some (.inl (i : Int)), y5, y6, y7, y8]) [] ph2 g2 Q) : xT (d + 1240) 261 240 (xlo [some (.inr (.inl (some 0))), some (.inr (.inl (some 1))), some (.inr (.inl (some 147))), some (.inr (.inl (some 168))), some (.inl (i : Int)), x5, x6, x7, x8]) [] ph g Q := by
  have hs := k0.1
  have hz168 := hK168.2
  by_cases hx : 33 ≤ a ∧ a ≤ 126
  · by_cases hf : c.1.length < 60
    · refine tK (l := xk_261) rfl rfl (fun _ _ _ _ _ => rfl) ?_
      refine tK (l := xk_261) rfl rfl (fun _ _ _ _ _ => rfl) ?_
      refine tK (l := xk_261) rfl rfl (fun _ _ _ _ _ => rfl) ?_
      refine tK (l := xk_261) rfl rfl (fun _ _ _ _ _ => rfl) ?_
      refine tK (l := xk_261) rfl rfl (hAdd ⟨by omega, by omega⟩) ?_
      refine tK (l := xk_261) rfl rfl (hSald hs (by omega) ha1) ?_
      refine tK (l := xk_261) rfl rfl (fun _ _ _ _ _ => rfl) ?_
      refine tCa (l := xk_261) rfl rfl (hInvS rfl rfl rfl rfl (Nat.le_of_ble_eq_true rfl) (Nat.le_of_ble_eq_true rfl)) ?_
      refine w232 k0 m0 (fun Q hq => c126 k0 hx hf hq) (fun ph1 k1 m1 e1 => ?_)
      refine tKv ?_
      refine tSt (l := xk_261) rfl rfl (fun _ _ _ _ _ => rfl) (Nat.le_of_ble_eq_true rfl) ?_
      refine tK (l := xk_261) rfl rfl (fun _ _ _ _ _ => rfl) ?_
      refine tK (l := xk_261) rfl rfl (fun _ _ _ _ _ => rfl) ?_
      refine tK (l := xk_261) rfl rfl (fun _ _ _ _ _ => rfl) ?_
      refine tK (l := xk_261) rfl rfl (fun _ _ _ _ _ => rfl) ?_
      refine tK (l := xk_261) rfl rfl (hAdd ⟨by omega, by omega⟩) ?_
      refine tK (l := xk_261) rfl rfl (hSald k1.1 (by omega) ha1) ?_
      refine tCa (l := xk_261) rfl rfl (hInvV (c := 10) k1.1 rfl rfl rfl rfl rfl (Nat.le_of_ble_eq_true rfl) (Nat.le_of_ble_eq_true rfl)) ?_
      refine m145 m1 hx hf (fun ph2 m2 z2 f2 => ?_)
      refine tKv ?_
      have k2 := k1.fw m2.1 f2.fw moP_k
      have e2 := (f2.2.1 168 0).trans e1
      refine tSt (l := xk_261) rfl rfl (fun _ _ _ _ _ => rfl) (Nat.le_of_ble_eq_true rfl) ?_
      refine tK (l := xk_261) rfl rfl (fun _ _ _ _ _ => rfl) ?_
      refine tCa (l := xk_261) rfl rfl (hInvV (c := 10) m2.1 rfl rfl rfl rfl rfl (Nat.le_of_ble_eq_true rfl) (Nat.le_of_ble_eq_true rfl)) ?_
      refine m144 m2 ?_
      refine tKv ?_
      rw [z2]
      refine tK (l := xk_261) rfl rfl (fun _ _ _ _ _ => rfl) ?_
      refine tIc_eq (l := xk_261) (pc' := 276) rfl rfl rfl (fun hc => ?_) (fun hc => ?_)
      · refine tK (l := xk_261) rfl rfl (fun _ _ _ _ _ => rfl) ?_
        refine tIf_ne (l := xk_261) (pc' := 293) rfl rfl rfl (fun hc => ?_) (fun hc => ?_)
        · refine tK (l := xk_261) rfl rfl (fun _ _ _ _ _ => rfl) ?_
          refine tK (l := xk_261) rfl rfl (fun _ _ _ _ _ => rfl) ?_
          first | refine tK (l := xk_261) rfl rfl (hLaldN m2.1 rfl rfl (by omega)) ?_ | refine tK (l := xk_261) rfl rfl (hLald m2.1 rfl (by omega) (by omega)) ?_
          rw [e2]
          refine tK (l := xk_261) rfl rfl (fun _ _ _ _ _ => rfl) ?_
          refine tK (l := xk_261) rfl rfl (fun _ _ _ _ _ => rfl) ?_
          refine tK (l := xk_261) rfl rfl (fun _ _ _ _ _ => rfl) ?_
          refine tIf_eq (l := xk_261) (pc' := 293) rfl rfl rfl (fun hc => ?_) (fun hc => ?_)
          · refine tK (l := xk_261) rfl rfl (fun _ _ _ _ _ => rfl) ?_
            exact hN ph2 _ _ _ _ _ _ k2 m2 (ho.buf hx hf) (by omega)
          · exact absurd (lc_rfl _) hc
        · exact absurd rfl hc
      · exact absurd rfl hc
    · have hf : c.1.length = 60 := by have := ho.1.2; omega
      refine tK (l := xk_261) rfl rfl (fun _ _ _ _ _ => rfl) ?_
      refine tK (l := xk_261) rfl rfl (fun _ _ _ _ _ => rfl) ?_
      refine tK (l := xk_261) rfl rfl (fun _ _ _ _ _ => rfl) ?_
      refine tK (l := xk_261) rfl rfl (fun _ _ _ _ _ => rfl) ?_
      refine tK (l := xk_261) rfl rfl (hAdd ⟨by omega, by omega⟩) ?_
      refine tK (l := xk_261) rfl rfl (hSald hs (by omega) ha1) ?_
      refine tK (l := xk_261) rfl rfl (fun _ _ _ _ _ => rfl) ?_
      refine tCa (l := xk_261) rfl rfl (hInvS rfl rfl rfl rfl (Nat.le_of_ble_eq_true rfl) (Nat.le_of_ble_eq_true rfl)) ?_
      refine w232_1 k0 m0 (fun Q hq => c126n k0 hx hf (hq ph k0 hFd.refl)) (fun ph1 k1 m1 => ?_)
      refine tKv ?_
      refine tSt (l := xk_261) rfl rfl (fun _ _ _ _ _ => rfl) (Nat.le_of_ble_eq_true rfl) ?_
      refine tK (l := xk_261) rfl rfl (fun _ _ _ _ _ => rfl) ?_
      refine tK (l := xk_261) rfl rfl (fun _ _ _ _ _ => rfl) ?_
      refine tK (l := xk_261) rfl rfl (fun _ _ _ _ _ => rfl) ?_
      refine tK (l := xk_261) rfl rfl (fun _ _ _ _ _ => rfl) ?_
      refine tK (l := xk_261) rfl rfl (hAdd ⟨by omega, by omega⟩) ?_
      refine tK (l := xk_261) rfl rfl (hSald k1.1 (by omega) ha1) ?_
      refine tCa (l := xk_261) rfl rfl (hInvV (c := 10) k1.1 rfl rfl rfl rfl rfl (Nat.le_of_ble_eq_true rfl) (Nat.le_of_ble_eq_true rfl)) ?_
      refine m145n m1 hx hf (fun ph2 m2 z2 f2 => ?_)
      refine tKv ?_
      have k2 := k1.fw m2.1 f2.fw moP_k
      refine tSt (l := xk_261) rfl rfl (fun _ _ _ _ _ => rfl) (Nat.le_of_ble_eq_true rfl) ?_
      refine tK (l := xk_261) rfl rfl (fun _ _ _ _ _ => rfl) ?_
      refine tCa (l := xk_261) rfl rfl (hInvV (c := 10) m2.1 rfl rfl rfl rfl rfl (Nat.le_of_ble_eq_true rfl) (Nat.le_of_ble_eq_true rfl)) ?_
      refine m144 m2 ?_
      refine tKv ?_
      rw [z2]
      refine tK (l := xk_261) rfl rfl (fun _ _ _ _ _ => rfl) ?_
      refine tIc_eq (l := xk_261) (pc' := 276) rfl rfl rfl (fun hc => ?_) (fun hc => ?_)
      · refine tK (l := xk_261) rfl rfl (fun _ _ _ _ _ => rfl) ?_
        refine tIf_ne (l := xk_261) (pc' := 293) rfl rfl rfl (fun hc => ?_) (fun hc => ?_)
        · exact absurd hc (by decide)
        · refine tK (l := xk_261) rfl rfl (fun _ _ _ _ _ => rfl) ?_
          exact hN ph2 _ _ _ _ _ _ k2 m2 (ho.up) (by omega)
      · exact absurd rfl hc
  · refine tK (l := xk_261) rfl rfl (fun _ _ _ _ _ => rfl) ?_
    refine tK (l := xk_261) rfl rfl (fun _ _ _ _ _ => rfl) ?_
    refine tK (l := xk_261) rfl rfl (fun _ _ _ _ _ => rfl) ?_
    refine tK (l := xk_261) rfl rfl (fun _ _ _ _ _ => rfl) ?_
    refine tK (l := xk_261) rfl rfl (hAdd ⟨by omega, by omega⟩) ?_
    refine tK (l := xk_261) rfl rfl (hSald hs (by omega) ha1) ?_
    refine tK (l := xk_261) rfl rfl (fun _ _ _ _ _ => rfl) ?_
    refine tCa (l := xk_261) rfl rfl (hInvS rfl rfl rfl rfl (Nat.le_of_ble_eq_true rfl) (Nat.le_of_ble_eq_true rfl)) ?_
    refine w232_0 k0 m0 (fun Q hq => c126x k0 hx (hq ph k0 hFd.refl)) (fun ph1 k1 m1 => ?_)
    refine tKv ?_
    refine tSt (l := xk_261) rfl rfl (fun _ _ _ _ _ => rfl) (Nat.le_of_ble_eq_true rfl) ?_
    refine tK (l := xk_261) rfl rfl (fun _ _ _ _ _ => rfl) ?_
    refine tK (l := xk_261) rfl rfl (fun _ _ _ _ _ => rfl) ?_
    refine tK (l := xk_261) rfl rfl (fun _ _ _ _ _ => rfl) ?_
    refine tK (l := xk_261) rfl rfl (fun _ _ _ _ _ => rfl) ?_
    refine tK (l := xk_261) rfl rfl (hAdd ⟨by omega, by omega⟩) ?_
    refine tK (l := xk_261) rfl rfl (hSald k1.1 (by omega) ha1) ?_
    refine tCa (l := xk_261) rfl rfl (hInvV (c := 10) k1.1 rfl rfl rfl rfl rfl (Nat.le_of_ble_eq_true rfl) (Nat.le_of_ble_eq_true rfl)) ?_
    refine m145x m1 hx (fun ph2 m2 z2 f2 => ?_)
    refine tKv ?_
    have k2 := k1.fw m2.1 f2.fw moP_k
    refine tSt (l := xk_261) rfl rfl (fun _ _ _ _ _ => rfl) (Nat.le_of_ble_eq_true rfl) ?_
    refine tK (l := xk_261) rfl rfl (fun _ _ _ _ _ => rfl) ?_
    refine tCa (l := xk_261) rfl rfl (hInvV (c := 10) m2.1 rfl rfl rfl rfl rfl (Nat.le_of_ble_eq_true rfl) (Nat.le_of_ble_eq_true rfl)) ?_
    refine m144 m2 ?_
    refine tKv ?_
    rw [z2]
    refine tK (l := xk_261) rfl rfl (fun _ _ _ _ _ => rfl) ?_
    refine tIc_eq (l := xk_261) (pc' := 276) rfl rfl rfl (fun hc => ?_) (fun hc => ?_)
    · refine tK (l := xk_261) rfl rfl (fun _ _ _ _ _ => rfl) ?_
      refine tIf_ne (l := xk_261) (pc' := 293) rfl rfl rfl (fun hc => ?_) (fun hc => ?_)
      · exact absurd hc (by decide)
      · refine tK (l := xk_261) rfl rfl (fun _ _ _ _ _ => rfl) ?_
        exact hN ph2 _ _ _ _ _ _ k2 m2 (ho.up) (by omega)
    · exact absurd rfl hc
set_option maxRecDepth 20000 in
theorem op_5 {zs : List xV} {ph : xH} {g d B i : Nat} {Q : xR → Prop} {c : KS} {x5 x6 x7 x8 : Option xV} (hz : zs.length ≤ 1536) (hi : i + 2 < zs.length) (k0 : hKl zs ph c) (m0 : hMm zs ph c) (ho : okKS B c) (hB : B ≤ 512) (hN : ∀ (ph2 : xH) (c2 : KS) (g2 : Nat) (y5 y6 y7 y8 : Option xV), hKl zs ph2 c2 → hMm zs ph2 c2 → okKS (B + 1) c2 → g2 ≤ g + 1 → xT (d + 1240) 261 2033 (xlo [some (.inr (.inl (some 0))), some (.inr (.inl (some 1))), some (.inr (.inl (some 147))), some (.inr (.inl (some 168))), some (.inl (i : Int)), y5, y6, y7, y8]) [] ph2 g2 Q) : xT (d + 1240) 261 348 (xlo [some (.inr (.inl (some 0))), some (.inr (.inl (some 1))), some (.inr (.inl (some 147))), some (.inr (.inl (some 168))), some (.inl (i : Int)), x5, x6, x7, x8]) [] ph g Q := by
  have hs := k0.1
  have hz168 := hK168.2
  cases hw : pWh c.1 with
  | true =>
    refine tK (l := xk_261) rfl rfl (fun _ _ _ _ _ => rfl) ?_
    refine tK (l := xk_261) rfl rfl (fun _ _ _ _ _ => rfl) ?_
    refine tCa (l := xk_261) rfl rfl (hInvS rfl rfl rfl rfl (Nat.le_of_ble_eq_true rfl) (Nat.le_of_ble_eq_true rfl)) ?_
    refine w233 k0 m0 (fun Q hq => c116 k0 ho.1.2 hw hq) (fun ph1 k1 m1 e1 => ?_)
    refine tKv ?_
    refine tSt (l := xk_261) rfl rfl (fun _ _ _ _ _ => rfl) (Nat.le_of_ble_eq_true rfl) ?_
    refine tK (l := xk_261) rfl rfl (fun _ _ _ _ _ => rfl) ?_
    refine tCa (l := xk_261) rfl rfl (hInvV (c := 10) k1.1 rfl rfl rfl rfl rfl (Nat.le_of_ble_eq_true rfl) (Nat.le_of_ble_eq_true rfl)) ?_
    refine m158 m1 ho.1.1 hw (fun ph2 m2 z2 f2 => ?_)
    refine tKv ?_
    have k2 := k1.fw m2.1 f2.fw moP_k
    have e2 := (f2.2.1 168 0).trans e1
    refine tSt (l := xk_261) rfl rfl (fun _ _ _ _ _ => rfl) (Nat.le_of_ble_eq_true rfl) ?_
    refine tK (l := xk_261) rfl rfl (fun _ _ _ _ _ => rfl) ?_
    refine tCa (l := xk_261) rfl rfl (hInvV (c := 10) m2.1 rfl rfl rfl rfl rfl (Nat.le_of_ble_eq_true rfl) (Nat.le_of_ble_eq_true rfl)) ?_
    refine m144 m2 ?_
    refine tKv ?_
    rw [z2]
    refine tK (l := xk_261) rfl rfl (fun _ _ _ _ _ => rfl) ?_
    refine tIc_eq (l := xk_261) (pc' := 372) rfl rfl rfl (fun hc => ?_) (fun hc => ?_)
    · refine tK (l := xk_261) rfl rfl (fun _ _ _ _ _ => rfl) ?_
      refine tIf_ne (l := xk_261) (pc' := 389) rfl rfl rfl (fun hc => ?_) (fun hc => ?_)
      · refine tK (l := xk_261) rfl rfl (fun _ _ _ _ _ => rfl) ?_
        refine tK (l := xk_261) rfl rfl (fun _ _ _ _ _ => rfl) ?_
        first | refine tK (l := xk_261) rfl rfl (hLaldN m2.1 rfl rfl (by omega)) ?_ | refine tK (l := xk_261) rfl rfl (hLald m2.1 rfl (by omega) (by omega)) ?_
        rw [e2]
        refine tK (l := xk_261) rfl rfl (fun _ _ _ _ _ => rfl) ?_
        refine tK (l := xk_261) rfl rfl (fun _ _ _ _ _ => rfl) ?_
        refine tK (l := xk_261) rfl rfl (fun _ _ _ _ _ => rfl) ?_
        refine tIf_eq (l := xk_261) (pc' := 389) rfl rfl rfl (fun hc => ?_) (fun hc => ?_)
        · refine tK (l := xk_261) rfl rfl (fun _ _ _ _ _ => rfl) ?_
          exact hN ph2 _ _ _ _ _ _ k2 m2 (ho.up) (by omega)
        · exact absurd (lc_rfl _) hc
      · exact absurd rfl hc
    · exact absurd rfl hc
  | false =>
    refine tK (l := xk_261) rfl rfl (fun _ _ _ _ _ => rfl) ?_
    refine tK (l := xk_261) rfl rfl (fun _ _ _ _ _ => rfl) ?_
    refine tCa (l := xk_261) rfl rfl (hInvS rfl rfl rfl rfl (Nat.le_of_ble_eq_true rfl) (Nat.le_of_ble_eq_true rfl)) ?_
    refine w233_1 k0 m0 (fun Q hq => c116n k0 ho.1.2 hw hq) (fun ph1 k1 m1 => ?_)
    refine tKv ?_
    refine tSt (l := xk_261) rfl rfl (fun _ _ _ _ _ => rfl) (Nat.le_of_ble_eq_true rfl) ?_
    refine tK (l := xk_261) rfl rfl (fun _ _ _ _ _ => rfl) ?_
    refine tCa (l := xk_261) rfl rfl (hInvV (c := 10) k1.1 rfl rfl rfl rfl rfl (Nat.le_of_ble_eq_true rfl) (Nat.le_of_ble_eq_true rfl)) ?_
    refine m158n m1 ho.1.1 hw (fun ph2 m2 z2 f2 => ?_)
    refine tKv ?_
    have k2 := k1.fw m2.1 f2.fw moP_k
    refine tSt (l := xk_261) rfl rfl (fun _ _ _ _ _ => rfl) (Nat.le_of_ble_eq_true rfl) ?_
    refine tK (l := xk_261) rfl rfl (fun _ _ _ _ _ => rfl) ?_
    refine tCa (l := xk_261) rfl rfl (hInvV (c := 10) m2.1 rfl rfl rfl rfl rfl (Nat.le_of_ble_eq_true rfl) (Nat.le_of_ble_eq_true rfl)) ?_
    refine m144 m2 ?_
    refine tKv ?_
    rw [z2]
    refine tK (l := xk_261) rfl rfl (fun _ _ _ _ _ => rfl) ?_
    refine tIc_eq (l := xk_261) (pc' := 372) rfl rfl rfl (fun hc => ?_) (fun hc => ?_)
    · refine tK (l := xk_261) rfl rfl (fun _ _ _ _ _ => rfl) ?_
      refine tIf_ne (l := xk_261) (pc' := 389) rfl rfl rfl (fun hc => ?_) (fun hc => ?_)
      · exact absurd hc (by decide)
      · refine tK (l := xk_261) rfl rfl (fun _ _ _ _ _ => rfl) ?_
        exact hN ph2 _ _ _ _ _ _ k2 m2 (ho.up) (by omega)
    · exact absurd rfl hc
set_option maxRecDepth 20000 in
theorem op_6 {zs : List xV} {ph : xH} {g d B i : Nat} {Q : xR → Prop} {c : KS} {x5 x6 x7 x8 : Option xV} (hz : zs.length ≤ 1536) (hi : i + 2 < zs.length) (k0 : hKl zs ph c) (m0 : hMm zs ph c) (ho : okKS B c) (hB : B ≤ 512) (hN : ∀ (ph2 : xH) (c2 : KS) (g2 : Nat) (y5 y6 y7 y8 : Option xV), hKl zs ph2 c2 → hMm zs ph2 c2 → okKS (B + 1) c2 → g2 ≤ g + 1 → xT (d + 1240) 261 2033 (xlo [some (.inr (.inl (some 0))), some (.inr (.inl (some 1))), some (.inr (.inl (some 147))), some (.inr (.inl (some 168))), some (.inl (i : Int)), y5, y6, y7, y8]) [] ph2 g2 Q) : xT (d + 1240) 261 392 (xlo [some (.inr (.inl (some 0))), some (.inr (.inl (some 1))), some (.inr (.inl (some 147))), some (.inr (.inl (some 168))), some (.inl (i : Int)), x5, x6, x7, x8]) [] ph g Q := by
  have hs := k0.1
  have hz168 := hK168.2
  cases hw : pWh c.1 with
  | true =>
    refine tK (l := xk_261) rfl rfl (fun _ _ _ _ _ => rfl) ?_
    refine tK (l := xk_261) rfl rfl (fun _ _ _ _ _ => rfl) ?_
    refine tCa (l := xk_261) rfl rfl (hInvS rfl rfl rfl rfl (Nat.le_of_ble_eq_true rfl) (Nat.le_of_ble_eq_true rfl)) ?_
    refine w234 k0 m0 (fun Q hq => c118 k0 ho.1.2 hw hq) (fun ph1 k1 m1 e1 => ?_)
    refine tKv ?_
    refine tSt (l := xk_261) rfl rfl (fun _ _ _ _ _ => rfl) (Nat.le_of_ble_eq_true rfl) ?_
    refine tK (l := xk_261) rfl rfl (fun _ _ _ _ _ => rfl) ?_
    refine tCa (l := xk_261) rfl rfl (hInvV (c := 10) k1.1 rfl rfl rfl rfl rfl (Nat.le_of_ble_eq_true rfl) (Nat.le_of_ble_eq_true rfl)) ?_
    refine m159 m1 ho.1.1 hw (fun ph2 m2 z2 f2 => ?_)
    refine tKv ?_
    have k2 := k1.fw m2.1 f2.fw moP_k
    have e2 := (f2.2.1 168 0).trans e1
    refine tSt (l := xk_261) rfl rfl (fun _ _ _ _ _ => rfl) (Nat.le_of_ble_eq_true rfl) ?_
    refine tK (l := xk_261) rfl rfl (fun _ _ _ _ _ => rfl) ?_
    refine tCa (l := xk_261) rfl rfl (hInvV (c := 10) m2.1 rfl rfl rfl rfl rfl (Nat.le_of_ble_eq_true rfl) (Nat.le_of_ble_eq_true rfl)) ?_
    refine m144 m2 ?_
    refine tKv ?_
    rw [z2]
    refine tK (l := xk_261) rfl rfl (fun _ _ _ _ _ => rfl) ?_
    refine tIc_eq (l := xk_261) (pc' := 416) rfl rfl rfl (fun hc => ?_) (fun hc => ?_)
    · refine tK (l := xk_261) rfl rfl (fun _ _ _ _ _ => rfl) ?_
      refine tIf_ne (l := xk_261) (pc' := 433) rfl rfl rfl (fun hc => ?_) (fun hc => ?_)
      · refine tK (l := xk_261) rfl rfl (fun _ _ _ _ _ => rfl) ?_
        refine tK (l := xk_261) rfl rfl (fun _ _ _ _ _ => rfl) ?_
        first | refine tK (l := xk_261) rfl rfl (hLaldN m2.1 rfl rfl (by omega)) ?_ | refine tK (l := xk_261) rfl rfl (hLald m2.1 rfl (by omega) (by omega)) ?_
        rw [e2]
        refine tK (l := xk_261) rfl rfl (fun _ _ _ _ _ => rfl) ?_
        refine tK (l := xk_261) rfl rfl (fun _ _ _ _ _ => rfl) ?_
        refine tK (l := xk_261) rfl rfl (fun _ _ _ _ _ => rfl) ?_
        refine tIf_eq (l := xk_261) (pc' := 433) rfl rfl rfl (fun hc => ?_) (fun hc => ?_)
        · refine tK (l := xk_261) rfl rfl (fun _ _ _ _ _ => rfl) ?_
          exact hN ph2 _ _ _ _ _ _ k2 m2 (ho.up) (by omega)
        · exact absurd (lc_rfl _) hc
      · exact absurd rfl hc
    · exact absurd rfl hc
  | false =>
    refine tK (l := xk_261) rfl rfl (fun _ _ _ _ _ => rfl) ?_
    refine tK (l := xk_261) rfl rfl (fun _ _ _ _ _ => rfl) ?_
    refine tCa (l := xk_261) rfl rfl (hInvS rfl rfl rfl rfl (Nat.le_of_ble_eq_true rfl) (Nat.le_of_ble_eq_true rfl)) ?_
    refine w234_1 k0 m0 (fun Q hq => c118n k0 ho.1.2 hw hq) (fun ph1 k1 m1 => ?_)
    refine tKv ?_
    refine tSt (l := xk_261) rfl rfl (fun _ _ _ _ _ => rfl) (Nat.le_of_ble_eq_true rfl) ?_
    refine tK (l := xk_261) rfl rfl (fun _ _ _ _ _ => rfl) ?_
    refine tCa (l := xk_261) rfl rfl (hInvV (c := 10) k1.1 rfl rfl rfl rfl rfl (Nat.le_of_ble_eq_true rfl) (Nat.le_of_ble_eq_true rfl)) ?_
    refine m159n m1 ho.1.1 hw (fun ph2 m2 z2 f2 => ?_)
    refine tKv ?_
    have k2 := k1.fw m2.1 f2.fw moP_k
    refine tSt (l := xk_261) rfl rfl (fun _ _ _ _ _ => rfl) (Nat.le_of_ble_eq_true rfl) ?_
    refine tK (l := xk_261) rfl rfl (fun _ _ _ _ _ => rfl) ?_
    refine tCa (l := xk_261) rfl rfl (hInvV (c := 10) m2.1 rfl rfl rfl rfl rfl (Nat.le_of_ble_eq_true rfl) (Nat.le_of_ble_eq_true rfl)) ?_
    refine m144 m2 ?_
    refine tKv ?_
    rw [z2]
    refine tK (l := xk_261) rfl rfl (fun _ _ _ _ _ => rfl) ?_
    refine tIc_eq (l := xk_261) (pc' := 416) rfl rfl rfl (fun hc => ?_) (fun hc => ?_)
    · refine tK (l := xk_261) rfl rfl (fun _ _ _ _ _ => rfl) ?_
      refine tIf_ne (l := xk_261) (pc' := 433) rfl rfl rfl (fun hc => ?_) (fun hc => ?_)
      · exact absurd hc (by decide)
      · refine tK (l := xk_261) rfl rfl (fun _ _ _ _ _ => rfl) ?_
        exact hN ph2 _ _ _ _ _ _ k2 m2 (ho.up) (by omega)
    · exact absurd rfl hc
set_option maxRecDepth 20000 in
theorem op_7 {zs : List xV} {ph : xH} {g d B i : Nat} {Q : xR → Prop} {c : KS} {x5 x6 x7 x8 : Option xV} (hz : zs.length ≤ 1536) (hi : i + 2 < zs.length) (k0 : hKl zs ph c) (m0 : hMm zs ph c) (ho : okKS B c) (hB : B ≤ 512) (hN : ∀ (ph2 : xH) (c2 : KS) (g2 : Nat) (y5 y6 y7 y8 : Option xV), hKl zs ph2 c2 → hMm zs ph2 c2 → okKS (B + 1) c2 → g2 ≤ g + 1 → xT (d + 1240) 261 2033 (xlo [some (.inr (.inl (some 0))), some (.inr (.inl (some 1))), some (.inr (.inl (some 147))), some (.inr (.inl (some 168))), some (.inl (i : Int)), y5, y6, y7, y8]) [] ph2 g2 Q) : xT (d + 1240) 261 436 (xlo [some (.inr (.inl (some 0))), some (.inr (.inl (some 1))), some (.inr (.inl (some 147))), some (.inr (.inl (some 168))), some (.inl (i : Int)), x5, x6, x7, x8]) [] ph g Q := by
  have hs := k0.1
  have hz168 := hK168.2
  cases hw : pWh c.1 with
  | true =>
    refine tK (l := xk_261) rfl rfl (fun _ _ _ _ _ => rfl) ?_
    refine tK (l := xk_261) rfl rfl (fun _ _ _ _ _ => rfl) ?_
    refine tCa (l := xk_261) rfl rfl (hInvS rfl rfl rfl rfl (Nat.le_of_ble_eq_true rfl) (Nat.le_of_ble_eq_true rfl)) ?_
    refine w235 k0 m0 (fun Q hq => c119 k0 ho.1.2 hw hq) (fun ph1 k1 m1 e1 => ?_)
    refine tKv ?_
    refine tSt (l := xk_261) rfl rfl (fun _ _ _ _ _ => rfl) (Nat.le_of_ble_eq_true rfl) ?_
    refine tK (l := xk_261) rfl rfl (fun _ _ _ _ _ => rfl) ?_
    refine tCa (l := xk_261) rfl rfl (hInvV (c := 10) k1.1 rfl rfl rfl rfl rfl (Nat.le_of_ble_eq_true rfl) (Nat.le_of_ble_eq_true rfl)) ?_
    refine m160 m1 ho.1.1 hw (fun ph2 m2 z2 f2 => ?_)
    refine tKv ?_
    have k2 := k1.fw m2.1 f2.fw moP_k
    have e2 := (f2.2.1 168 0).trans e1
    refine tSt (l := xk_261) rfl rfl (fun _ _ _ _ _ => rfl) (Nat.le_of_ble_eq_true rfl) ?_
    refine tK (l := xk_261) rfl rfl (fun _ _ _ _ _ => rfl) ?_
    refine tCa (l := xk_261) rfl rfl (hInvV (c := 10) m2.1 rfl rfl rfl rfl rfl (Nat.le_of_ble_eq_true rfl) (Nat.le_of_ble_eq_true rfl)) ?_
    refine m144 m2 ?_
    refine tKv ?_
    rw [z2]
    refine tK (l := xk_261) rfl rfl (fun _ _ _ _ _ => rfl) ?_
    refine tIc_eq (l := xk_261) (pc' := 460) rfl rfl rfl (fun hc => ?_) (fun hc => ?_)
    · refine tK (l := xk_261) rfl rfl (fun _ _ _ _ _ => rfl) ?_
      refine tIf_ne (l := xk_261) (pc' := 477) rfl rfl rfl (fun hc => ?_) (fun hc => ?_)
      · refine tK (l := xk_261) rfl rfl (fun _ _ _ _ _ => rfl) ?_
        refine tK (l := xk_261) rfl rfl (fun _ _ _ _ _ => rfl) ?_
        first | refine tK (l := xk_261) rfl rfl (hLaldN m2.1 rfl rfl (by omega)) ?_ | refine tK (l := xk_261) rfl rfl (hLald m2.1 rfl (by omega) (by omega)) ?_
        rw [e2]
        refine tK (l := xk_261) rfl rfl (fun _ _ _ _ _ => rfl) ?_
        refine tK (l := xk_261) rfl rfl (fun _ _ _ _ _ => rfl) ?_
        refine tK (l := xk_261) rfl rfl (fun _ _ _ _ _ => rfl) ?_
        refine tIf_eq (l := xk_261) (pc' := 477) rfl rfl rfl (fun hc => ?_) (fun hc => ?_)
        · refine tK (l := xk_261) rfl rfl (fun _ _ _ _ _ => rfl) ?_
          exact hN ph2 _ _ _ _ _ _ k2 m2 (ho.up) (by omega)
        · exact absurd (lc_rfl _) hc
      · exact absurd rfl hc
    · exact absurd rfl hc
  | false =>
    refine tK (l := xk_261) rfl rfl (fun _ _ _ _ _ => rfl) ?_
    refine tK (l := xk_261) rfl rfl (fun _ _ _ _ _ => rfl) ?_
    refine tCa (l := xk_261) rfl rfl (hInvS rfl rfl rfl rfl (Nat.le_of_ble_eq_true rfl) (Nat.le_of_ble_eq_true rfl)) ?_
    refine w235_1 k0 m0 (fun Q hq => c119n k0 ho.1.2 hw hq) (fun ph1 k1 m1 => ?_)
    refine tKv ?_
    refine tSt (l := xk_261) rfl rfl (fun _ _ _ _ _ => rfl) (Nat.le_of_ble_eq_true rfl) ?_
    refine tK (l := xk_261) rfl rfl (fun _ _ _ _ _ => rfl) ?_
    refine tCa (l := xk_261) rfl rfl (hInvV (c := 10) k1.1 rfl rfl rfl rfl rfl (Nat.le_of_ble_eq_true rfl) (Nat.le_of_ble_eq_true rfl)) ?_
    refine m160n m1 ho.1.1 hw (fun ph2 m2 z2 f2 => ?_)
    refine tKv ?_
    have k2 := k1.fw m2.1 f2.fw moP_k
    refine tSt (l := xk_261) rfl rfl (fun _ _ _ _ _ => rfl) (Nat.le_of_ble_eq_true rfl) ?_
    refine tK (l := xk_261) rfl rfl (fun _ _ _ _ _ => rfl) ?_
    refine tCa (l := xk_261) rfl rfl (hInvV (c := 10) m2.1 rfl rfl rfl rfl rfl (Nat.le_of_ble_eq_true rfl) (Nat.le_of_ble_eq_true rfl)) ?_
    refine m144 m2 ?_
    refine tKv ?_
    rw [z2]
    refine tK (l := xk_261) rfl rfl (fun _ _ _ _ _ => rfl) ?_
    refine tIc_eq (l := xk_261) (pc' := 460) rfl rfl rfl (fun hc => ?_) (fun hc => ?_)
    · refine tK (l := xk_261) rfl rfl (fun _ _ _ _ _ => rfl) ?_
      refine tIf_ne (l := xk_261) (pc' := 477) rfl rfl rfl (fun hc => ?_) (fun hc => ?_)
      · exact absurd hc (by decide)
      · refine tK (l := xk_261) rfl rfl (fun _ _ _ _ _ => rfl) ?_
        exact hN ph2 _ _ _ _ _ _ k2 m2 (ho.up) (by omega)
    · exact absurd rfl hc
set_option maxRecDepth 20000 in
theorem op_8 {zs : List xV} {ph : xH} {g d B i : Nat} {Q : xR → Prop} {c : KS} {x5 x6 x7 x8 : Option xV} (hz : zs.length ≤ 1536) (hi : i + 2 < zs.length) (k0 : hKl zs ph c) (m0 : hMm zs ph c) (ho : okKS B c) (hB : B ≤ 512) (hN : ∀ (ph2 : xH) (c2 : KS) (g2 : Nat) (y5 y6 y7 y8 : Option xV), hKl zs ph2 c2 → hMm zs ph2 c2 → okKS (B + 1) c2 → g2 ≤ g + 1 → xT (d + 1240) 261 2033 (xlo [some (.inr (.inl (some 0))), some (.inr (.inl (some 1))), some (.inr (.inl (some 147))), some (.inr (.inl (some 168))), some (.inl (i : Int)), y5, y6, y7, y8]) [] ph2 g2 Q) : xT (d + 1240) 261 480 (xlo [some (.inr (.inl (some 0))), some (.inr (.inl (some 1))), some (.inr (.inl (some 147))), some (.inr (.inl (some 168))), some (.inl (i : Int)), x5, x6, x7, x8]) [] ph g Q := by
  have hs := k0.1
  have hz168 := hK168.2
  cases hw : pWh c.1 with
  | true =>
    refine tK (l := xk_261) rfl rfl (fun _ _ _ _ _ => rfl) ?_
    refine tK (l := xk_261) rfl rfl (fun _ _ _ _ _ => rfl) ?_
    refine tCa (l := xk_261) rfl rfl (hInvS rfl rfl rfl rfl (Nat.le_of_ble_eq_true rfl) (Nat.le_of_ble_eq_true rfl)) ?_
    refine w236 k0 m0 (fun Q hq => c120 k0 ho.1.2 hw hq) (fun ph1 k1 m1 e1 => ?_)
    refine tKv ?_
    refine tSt (l := xk_261) rfl rfl (fun _ _ _ _ _ => rfl) (Nat.le_of_ble_eq_true rfl) ?_
    refine tK (l := xk_261) rfl rfl (fun _ _ _ _ _ => rfl) ?_
    refine tCa (l := xk_261) rfl rfl (hInvV (c := 10) k1.1 rfl rfl rfl rfl rfl (Nat.le_of_ble_eq_true rfl) (Nat.le_of_ble_eq_true rfl)) ?_
    refine m161 m1 ho.1.1 hw (fun ph2 m2 z2 f2 => ?_)
    refine tKv ?_
    have k2 := k1.fw m2.1 f2.fw moP_k
    have e2 := (f2.2.1 168 0).trans e1
    refine tSt (l := xk_261) rfl rfl (fun _ _ _ _ _ => rfl) (Nat.le_of_ble_eq_true rfl) ?_
    refine tK (l := xk_261) rfl rfl (fun _ _ _ _ _ => rfl) ?_
    refine tCa (l := xk_261) rfl rfl (hInvV (c := 10) m2.1 rfl rfl rfl rfl rfl (Nat.le_of_ble_eq_true rfl) (Nat.le_of_ble_eq_true rfl)) ?_
    refine m144 m2 ?_
    refine tKv ?_
    rw [z2]
    refine tK (l := xk_261) rfl rfl (fun _ _ _ _ _ => rfl) ?_
    refine tIc_eq (l := xk_261) (pc' := 504) rfl rfl rfl (fun hc => ?_) (fun hc => ?_)
    · refine tK (l := xk_261) rfl rfl (fun _ _ _ _ _ => rfl) ?_
      refine tIf_ne (l := xk_261) (pc' := 521) rfl rfl rfl (fun hc => ?_) (fun hc => ?_)
      · refine tK (l := xk_261) rfl rfl (fun _ _ _ _ _ => rfl) ?_
        refine tK (l := xk_261) rfl rfl (fun _ _ _ _ _ => rfl) ?_
        first | refine tK (l := xk_261) rfl rfl (hLaldN m2.1 rfl rfl (by omega)) ?_ | refine tK (l := xk_261) rfl rfl (hLald m2.1 rfl (by omega) (by omega)) ?_
        rw [e2]
        refine tK (l := xk_261) rfl rfl (fun _ _ _ _ _ => rfl) ?_
        refine tK (l := xk_261) rfl rfl (fun _ _ _ _ _ => rfl) ?_
        refine tK (l := xk_261) rfl rfl (fun _ _ _ _ _ => rfl) ?_
        refine tIf_eq (l := xk_261) (pc' := 521) rfl rfl rfl (fun hc => ?_) (fun hc => ?_)
        · refine tK (l := xk_261) rfl rfl (fun _ _ _ _ _ => rfl) ?_
          exact hN ph2 _ _ _ _ _ _ k2 m2 (ho.up) (by omega)
        · exact absurd (lc_rfl _) hc
      · exact absurd rfl hc
    · exact absurd rfl hc
  | false =>
    refine tK (l := xk_261) rfl rfl (fun _ _ _ _ _ => rfl) ?_
    refine tK (l := xk_261) rfl rfl (fun _ _ _ _ _ => rfl) ?_
    refine tCa (l := xk_261) rfl rfl (hInvS rfl rfl rfl rfl (Nat.le_of_ble_eq_true rfl) (Nat.le_of_ble_eq_true rfl)) ?_
    refine w236_1 k0 m0 (fun Q hq => c120n k0 ho.1.2 hw hq) (fun ph1 k1 m1 => ?_)
    refine tKv ?_
    refine tSt (l := xk_261) rfl rfl (fun _ _ _ _ _ => rfl) (Nat.le_of_ble_eq_true rfl) ?_
    refine tK (l := xk_261) rfl rfl (fun _ _ _ _ _ => rfl) ?_
    refine tCa (l := xk_261) rfl rfl (hInvV (c := 10) k1.1 rfl rfl rfl rfl rfl (Nat.le_of_ble_eq_true rfl) (Nat.le_of_ble_eq_true rfl)) ?_
    refine m161n m1 ho.1.1 hw (fun ph2 m2 z2 f2 => ?_)
    refine tKv ?_
    have k2 := k1.fw m2.1 f2.fw moP_k
    refine tSt (l := xk_261) rfl rfl (fun _ _ _ _ _ => rfl) (Nat.le_of_ble_eq_true rfl) ?_
    refine tK (l := xk_261) rfl rfl (fun _ _ _ _ _ => rfl) ?_
    refine tCa (l := xk_261) rfl rfl (hInvV (c := 10) m2.1 rfl rfl rfl rfl rfl (Nat.le_of_ble_eq_true rfl) (Nat.le_of_ble_eq_true rfl)) ?_
    refine m144 m2 ?_
    refine tKv ?_
    rw [z2]
    refine tK (l := xk_261) rfl rfl (fun _ _ _ _ _ => rfl) ?_
    refine tIc_eq (l := xk_261) (pc' := 504) rfl rfl rfl (fun hc => ?_) (fun hc => ?_)
    · refine tK (l := xk_261) rfl rfl (fun _ _ _ _ _ => rfl) ?_
      refine tIf_ne (l := xk_261) (pc' := 521) rfl rfl rfl (fun hc => ?_) (fun hc => ?_)
      · exact absurd hc (by decide)
      · refine tK (l := xk_261) rfl rfl (fun _ _ _ _ _ => rfl) ?_
        exact hN ph2 _ _ _ _ _ _ k2 m2 (ho.up) (by omega)
    · exact absurd rfl hc
set_option maxRecDepth 20000 in
theorem op_9 {zs : List xV} {ph : xH} {g d B i : Nat} {Q : xR → Prop} {c : KS} {x5 x6 x7 x8 : Option xV} (hz : zs.length ≤ 1536) (hi : i + 2 < zs.length) (k0 : hKl zs ph c) (m0 : hMm zs ph c) (ho : okKS B c) (hB : B ≤ 512) (hN : ∀ (ph2 : xH) (c2 : KS) (g2 : Nat) (y5 y6 y7 y8 : Option xV), hKl zs ph2 c2 → hMm zs ph2 c2 → okKS (B + 1) c2 → g2 ≤ g + 1 → xT (d + 1240) 261 2033 (xlo [some (.inr (.inl (some 0))), some (.inr (.inl (some 1))), some (.inr (.inl (some 147))), some (.inr (.inl (some 168))), some (.inl (i : Int)), y5, y6, y7, y8]) [] ph2 g2 Q) : xT (d + 1240) 261 524 (xlo [some (.inr (.inl (some 0))), some (.inr (.inl (some 1))), some (.inr (.inl (some 147))), some (.inr (.inl (some 168))), some (.inl (i : Int)), x5, x6, x7, x8]) [] ph g Q := by
  have hs := k0.1
  have hz168 := hK168.2
  cases hw : pWh c.1 with
  | true =>
    refine tK (l := xk_261) rfl rfl (fun _ _ _ _ _ => rfl) ?_
    refine tK (l := xk_261) rfl rfl (fun _ _ _ _ _ => rfl) ?_
    refine tCa (l := xk_261) rfl rfl (hInvS rfl rfl rfl rfl (Nat.le_of_ble_eq_true rfl) (Nat.le_of_ble_eq_true rfl)) ?_
    refine w237 k0 m0 (fun Q hq => c121 k0 ho.1.2 hw hq) (fun ph1 k1 m1 e1 => ?_)
    refine tKv ?_
    refine tSt (l := xk_261) rfl rfl (fun _ _ _ _ _ => rfl) (Nat.le_of_ble_eq_true rfl) ?_
    refine tK (l := xk_261) rfl rfl (fun _ _ _ _ _ => rfl) ?_
    refine tCa (l := xk_261) rfl rfl (hInvV (c := 10) k1.1 rfl rfl rfl rfl rfl (Nat.le_of_ble_eq_true rfl) (Nat.le_of_ble_eq_true rfl)) ?_
    refine m162 m1 ho.1.1 hw (fun ph2 m2 z2 f2 => ?_)
    refine tKv ?_
    have k2 := k1.fw m2.1 f2.fw moP_k
    have e2 := (f2.2.1 168 0).trans e1
    refine tSt (l := xk_261) rfl rfl (fun _ _ _ _ _ => rfl) (Nat.le_of_ble_eq_true rfl) ?_
    refine tK (l := xk_261) rfl rfl (fun _ _ _ _ _ => rfl) ?_
    refine tCa (l := xk_261) rfl rfl (hInvV (c := 10) m2.1 rfl rfl rfl rfl rfl (Nat.le_of_ble_eq_true rfl) (Nat.le_of_ble_eq_true rfl)) ?_
    refine m144 m2 ?_
    refine tKv ?_
    rw [z2]
    refine tK (l := xk_261) rfl rfl (fun _ _ _ _ _ => rfl) ?_
    refine tIc_eq (l := xk_261) (pc' := 548) rfl rfl rfl (fun hc => ?_) (fun hc => ?_)
    · refine tK (l := xk_261) rfl rfl (fun _ _ _ _ _ => rfl) ?_
      refine tIf_ne (l := xk_261) (pc' := 565) rfl rfl rfl (fun hc => ?_) (fun hc => ?_)
      · refine tK (l := xk_261) rfl rfl (fun _ _ _ _ _ => rfl) ?_
        refine tK (l := xk_261) rfl rfl (fun _ _ _ _ _ => rfl) ?_
        first | refine tK (l := xk_261) rfl rfl (hLaldN m2.1 rfl rfl (by omega)) ?_ | refine tK (l := xk_261) rfl rfl (hLald m2.1 rfl (by omega) (by omega)) ?_
        rw [e2]
        refine tK (l := xk_261) rfl rfl (fun _ _ _ _ _ => rfl) ?_
        refine tK (l := xk_261) rfl rfl (fun _ _ _ _ _ => rfl) ?_
        refine tK (l := xk_261) rfl rfl (fun _ _ _ _ _ => rfl) ?_
        refine tIf_eq (l := xk_261) (pc' := 565) rfl rfl rfl (fun hc => ?_) (fun hc => ?_)
        · refine tK (l := xk_261) rfl rfl (fun _ _ _ _ _ => rfl) ?_
          exact hN ph2 _ _ _ _ _ _ k2 m2 (ho.up) (by omega)
        · exact absurd (lc_rfl _) hc
      · exact absurd rfl hc
    · exact absurd rfl hc
  | false =>
    refine tK (l := xk_261) rfl rfl (fun _ _ _ _ _ => rfl) ?_
    refine tK (l := xk_261) rfl rfl (fun _ _ _ _ _ => rfl) ?_
    refine tCa (l := xk_261) rfl rfl (hInvS rfl rfl rfl rfl (Nat.le_of_ble_eq_true rfl) (Nat.le_of_ble_eq_true rfl)) ?_
    refine w237_1 k0 m0 (fun Q hq => c121n k0 ho.1.2 hw hq) (fun ph1 k1 m1 => ?_)
    refine tKv ?_
    refine tSt (l := xk_261) rfl rfl (fun _ _ _ _ _ => rfl) (Nat.le_of_ble_eq_true rfl) ?_
    refine tK (l := xk_261) rfl rfl (fun _ _ _ _ _ => rfl) ?_
    refine tCa (l := xk_261) rfl rfl (hInvV (c := 10) k1.1 rfl rfl rfl rfl rfl (Nat.le_of_ble_eq_true rfl) (Nat.le_of_ble_eq_true rfl)) ?_
    refine m162n m1 ho.1.1 hw (fun ph2 m2 z2 f2 => ?_)
    refine tKv ?_
    have k2 := k1.fw m2.1 f2.fw moP_k
    refine tSt (l := xk_261) rfl rfl (fun _ _ _ _ _ => rfl) (Nat.le_of_ble_eq_true rfl) ?_
    refine tK (l := xk_261) rfl rfl (fun _ _ _ _ _ => rfl) ?_
    refine tCa (l := xk_261) rfl rfl (hInvV (c := 10) m2.1 rfl rfl rfl rfl rfl (Nat.le_of_ble_eq_true rfl) (Nat.le_of_ble_eq_true rfl)) ?_
    refine m144 m2 ?_
    refine tKv ?_
    rw [z2]
    refine tK (l := xk_261) rfl rfl (fun _ _ _ _ _ => rfl) ?_
    refine tIc_eq (l := xk_261) (pc' := 548) rfl rfl rfl (fun hc => ?_) (fun hc => ?_)
    · refine tK (l := xk_261) rfl rfl (fun _ _ _ _ _ => rfl) ?_
      refine tIf_ne (l := xk_261) (pc' := 565) rfl rfl rfl (fun hc => ?_) (fun hc => ?_)
      · exact absurd hc (by decide)
      · refine tK (l := xk_261) rfl rfl (fun _ _ _ _ _ => rfl) ?_
        exact hN ph2 _ _ _ _ _ _ k2 m2 (ho.up) (by omega)
    · exact absurd rfl hc
