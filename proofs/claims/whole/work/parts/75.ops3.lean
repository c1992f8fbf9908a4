/-! ===== the law's calls (3) ===== -/
section WRR
variable {d : Nat} {ph : xH} {zs : List xV} {g : Nat} {Q : xR → Prop} {c : KS} {a : Int}
theorem w251r {R : KS → Int → Prop} (k : hKl zs ph c) (m : hMm zs ph c) (hc : ∀ Q : xR → Prop, (∀ ph2 c' v, R c' v → hKl zs ph2 c' → hFd clP ph ph2 → Q (.inl (some (.inl v)), ph2, g)) → xTC d 138 [.inr (.inl (some 1))] ph g Q) (hQ : ∀ ph2 c' v, R c' v → hKl zs ph2 c' → hMm zs ph2 c → hRl ph2 168 0 = Int64.ofInt v → Q (.inl (some (.inl 0)), ph2, g)) : xTC (d + 1) 251 [.inr (.inl (some 1)), .inr (.inl (some 168))] ph g Q := by
  have hs := k.1
  have hz168 := hK168.2
  refine tEn (ls := [some (.inr (.inl (some 1))), some (.inr (.inl (some 168))), none]) (fun k => by match k with | 0 => rfl | 1 => rfl | 2 => rfl | k + 3 => rfl) ?_
  refine tK (l := xk_251) rfl rfl (fun _ _ _ _ _ => rfl) ?_
  refine tK (l := xk_251) rfl rfl (fun _ _ _ _ _ => rfl) ?_
  refine tK (l := xk_251) rfl rfl (fun _ _ _ _ _ => rfl) ?_
  refine tCa (l := xk_251) rfl rfl (hInvV (c := 9) hs rfl rfl rfl rfl rfl (Nat.le_of_ble_eq_true rfl) (Nat.le_of_ble_eq_true rfl)) ?_
  refine hc _ (fun ph2 c2 v2 r2 k2 f2 => ?_)
  refine tKv ?_
  have m2 := m.fw2 k2.1 f2.fw clP_m
  obtain ⟨q1, q2, q3⟩ := hOu (x := Int64.ofInt v2) k2 m2
  refine tK (l := xk_251) rfl rfl (fun _ _ _ _ _ => rfl) ?_
  first | refine tK (l := xk_251) rfl rfl (hLastN k2.1 rfl rfl (by omega)) ?_ | refine tK (l := xk_251) rfl rfl (hLast k2.1 rfl (by omega) (by omega)) ?_
  refine tK (l := xk_251) rfl rfl (fun _ _ _ _ _ => rfl) ?_
  refine tK (l := xk_251) rfl rfl (fun _ _ _ _ _ => rfl) ?_
  refine tRt (l := xk_251) rfl rfl (fun _ _ _ _ _ => rfl) ?_
  exact hQ _ c2 v2 r2 q1 q2 q3
theorem w255r {R : KS → Int → Prop} (k : hKl zs ph c) (m : hMm zs ph c) (hc : ∀ Q : xR → Prop, (∀ ph2 c' v, R c' v → hKl zs ph2 c' → hFd clP ph ph2 → Q (.inl (some (.inl v)), ph2, g)) → xTC d 122 [.inr (.inl (some 1))] ph g Q) (hQ : ∀ ph2 c' v, R c' v → hKl zs ph2 c' → hMm zs ph2 c → hRl ph2 168 0 = Int64.ofInt v → Q (.inl (some (.inl 0)), ph2, g)) : xTC (d + 1) 255 [.inr (.inl (some 1)), .inr (.inl (some 168))] ph g Q := by
  have hs := k.1
  have hz168 := hK168.2
  refine tEn (ls := [some (.inr (.inl (some 1))), some (.inr (.inl (some 168))), none]) (fun k => by match k with | 0 => rfl | 1 => rfl | 2 => rfl | k + 3 => rfl) ?_
  refine tK (l := xk_255) rfl rfl (fun _ _ _ _ _ => rfl) ?_
  refine tK (l := xk_255) rfl rfl (fun _ _ _ _ _ => rfl) ?_
  refine tK (l := xk_255) rfl rfl (fun _ _ _ _ _ => rfl) ?_
  refine tCa (l := xk_255) rfl rfl (hInvV (c := 9) hs rfl rfl rfl rfl rfl (Nat.le_of_ble_eq_true rfl) (Nat.le_of_ble_eq_true rfl)) ?_
  refine hc _ (fun ph2 c2 v2 r2 k2 f2 => ?_)
  refine tKv ?_
  have m2 := m.fw2 k2.1 f2.fw clP_m
  obtain ⟨q1, q2, q3⟩ := hOu (x := Int64.ofInt v2) k2 m2
  refine tK (l := xk_255) rfl rfl (fun _ _ _ _ _ => rfl) ?_
  first | refine tK (l := xk_255) rfl rfl (hLastN k2.1 rfl rfl (by omega)) ?_ | refine tK (l := xk_255) rfl rfl (hLast k2.1 rfl (by omega) (by omega)) ?_
  refine tK (l := xk_255) rfl rfl (fun _ _ _ _ _ => rfl) ?_
  refine tK (l := xk_255) rfl rfl (fun _ _ _ _ _ => rfl) ?_
  refine tRt (l := xk_255) rfl rfl (fun _ _ _ _ _ => rfl) ?_
  exact hQ _ c2 v2 r2 q1 q2 q3
theorem w256r {R : KS → Int → Prop} (k : hKl zs ph c) (m : hMm zs ph c) (hc : ∀ Q : xR → Prop, (∀ ph2 c' v, R c' v → hKl zs ph2 c' → hFd clP ph ph2 → Q (.inl (some (.inl v)), ph2, g)) → xTC d 123 [.inr (.inl (some 1))] ph g Q) (hQ : ∀ ph2 c' v, R c' v → hKl zs ph2 c' → hMm zs ph2 c → hRl ph2 168 0 = Int64.ofInt v → Q (.inl (some (.inl 0)), ph2, g)) : xTC (d + 1) 256 [.inr (.inl (some 1)), .inr (.inl (some 168))] ph g Q := by
  have hs := k.1
  have hz168 := hK168.2
  refine tEn (ls := [some (.inr (.inl (some 1))), some (.inr (.inl (some 168))), none]) (fun k => by match k with | 0 => rfl | 1 => rfl | 2 => rfl | k + 3 => rfl) ?_
  refine tK (l := xk_256) rfl rfl (fun _ _ _ _ _ => rfl) ?_
  refine tK (l := xk_256) rfl rfl (fun _ _ _ _ _ => rfl) ?_
  refine tK (l := xk_256) rfl rfl (fun _ _ _ _ _ => rfl) ?_
  refine tCa (l := xk_256) rfl rfl (hInvV (c := 9) hs rfl rfl rfl rfl rfl (Nat.le_of_ble_eq_true rfl) (Nat.le_of_ble_eq_true rfl)) ?_
  refine hc _ (fun ph2 c2 v2 r2 k2 f2 => ?_)
  refine tKv ?_
  have m2 := m.fw2 k2.1 f2.fw clP_m
  obtain ⟨q1, q2, q3⟩ := hOu (x := Int64.ofInt v2) k2 m2
  refine tK (l := xk_256) rfl rfl (fun _ _ _ _ _ => rfl) ?_
  first | refine tK (l := xk_256) rfl rfl (hLastN k2.1 rfl rfl (by omega)) ?_ | refine tK (l := xk_256) rfl rfl (hLast k2.1 rfl (by omega) (by omega)) ?_
  refine tK (l := xk_256) rfl rfl (fun _ _ _ _ _ => rfl) ?_
  refine tK (l := xk_256) rfl rfl (fun _ _ _ _ _ => rfl) ?_
  refine tRt (l := xk_256) rfl rfl (fun _ _ _ _ _ => rfl) ?_
  exact hQ _ c2 v2 r2 q1 q2 q3
theorem w257r {R : KS → Int → Prop} (k : hKl zs ph c) (m : hMm zs ph c) (hc : ∀ Q : xR → Prop, (∀ ph2 c' v, R c' v → hKl zs ph2 c' → hFd clP ph ph2 → Q (.inl (some (.inl v)), ph2, g)) → xTC d 124 [.inr (.inl (some 1))] ph g Q) (hQ : ∀ ph2 c' v, R c' v → hKl zs ph2 c' → hMm zs ph2 c → hRl ph2 168 0 = Int64.ofInt v → Q (.inl (some (.inl 0)), ph2, g)) : xTC (d + 1) 257 [.inr (.inl (some 1)), .inr (.inl (some 168))] ph g Q := by
  have hs := k.1
  have hz168 := hK168.2
  refine tEn (ls := [some (.inr (.inl (some 1))), some (.inr (.inl (some 168))), none]) (fun k => by match k with | 0 => rfl | 1 => rfl | 2 => rfl | k + 3 => rfl) ?_
  refine tK (l := xk_257) rfl rfl (fun _ _ _ _ _ => rfl) ?_
  refine tK (l := xk_257) rfl rfl (fun _ _ _ _ _ => rfl) ?_
  refine tK (l := xk_257) rfl rfl (fun _ _ _ _ _ => rfl) ?_
  refine tCa (l := xk_257) rfl rfl (hInvV (c := 9) hs rfl rfl rfl rfl rfl (Nat.le_of_ble_eq_true rfl) (Nat.le_of_ble_eq_true rfl)) ?_
  refine hc _ (fun ph2 c2 v2 r2 k2 f2 => ?_)
  refine tKv ?_
  have m2 := m.fw2 k2.1 f2.fw clP_m
  obtain ⟨q1, q2, q3⟩ := hOu (x := Int64.ofInt v2) k2 m2
  refine tK (l := xk_257) rfl rfl (fun _ _ _ _ _ => rfl) ?_
  first | refine tK (l := xk_257) rfl rfl (hLastN k2.1 rfl rfl (by omega)) ?_ | refine tK (l := xk_257) rfl rfl (hLast k2.1 rfl (by omega) (by omega)) ?_
  refine tK (l := xk_257) rfl rfl (fun _ _ _ _ _ => rfl) ?_
  refine tK (l := xk_257) rfl rfl (fun _ _ _ _ _ => rfl) ?_
  refine tRt (l := xk_257) rfl rfl (fun _ _ _ _ _ => rfl) ?_
  exact hQ _ c2 v2 r2 q1 q2 q3
theorem w258r {R : KS → Int → Prop} (k : hKl zs ph c) (m : hMm zs ph c) (hc : ∀ Q : xR → Prop, (∀ ph2 c' v, R c' v → hKl zs ph2 c' → hFd clP ph ph2 → Q (.inl (some (.inl v)), ph2, g)) → xTC d 140 [.inr (.inl (some 1)), .inl a] ph g Q) (hQ : ∀ ph2 c' v, R c' v → hKl zs ph2 c' → hMm zs ph2 c → hRl ph2 168 0 = Int64.ofInt v → Q (.inl (some (.inl 0)), ph2, g)) : xTC (d + 1) 258 [.inr (.inl (some 1)), .inl a, .inr (.inl (some 168))] ph g Q := by
  have hs := k.1
  have hz168 := hK168.2
  refine tEn (ls := [some (.inr (.inl (some 1))), some (.inl a), some (.inr (.inl (some 168))), none]) (fun k => by match k with | 0 => rfl | 1 => rfl | 2 => rfl | 3 => rfl | k + 4 => rfl) ?_
  refine tK (l := xk_258) rfl rfl (fun _ _ _ _ _ => rfl) ?_
  refine tK (l := xk_258) rfl rfl (fun _ _ _ _ _ => rfl) ?_
  refine tK (l := xk_258) rfl rfl (fun _ _ _ _ _ => rfl) ?_
  refine tK (l := xk_258) rfl rfl (fun _ _ _ _ _ => rfl) ?_
  refine tCa (l := xk_258) rfl rfl (hInvV (c := 9) hs rfl rfl rfl rfl rfl (Nat.le_of_ble_eq_true rfl) (Nat.le_of_ble_eq_true rfl)) ?_
  refine hc _ (fun ph2 c2 v2 r2 k2 f2 => ?_)
  refine tKv ?_
  have m2 := m.fw2 k2.1 f2.fw clP_m
  obtain ⟨q1, q2, q3⟩ := hOu (x := Int64.ofInt v2) k2 m2
  refine tK (l := xk_258) rfl rfl (fun _ _ _ _ _ => rfl) ?_
  first | refine tK (l := xk_258) rfl rfl (hLastN k2.1 rfl rfl (by omega)) ?_ | refine tK (l := xk_258) rfl rfl (hLast k2.1 rfl (by omega) (by omega)) ?_
  refine tK (l := xk_258) rfl rfl (fun _ _ _ _ _ => rfl) ?_
  refine tK (l := xk_258) rfl rfl (fun _ _ _ _ _ => rfl) ?_
  refine tRt (l := xk_258) rfl rfl (fun _ _ _ _ _ => rfl) ?_
  exact hQ _ c2 v2 r2 q1 q2 q3
end WRR
set_option maxRecDepth 20000 in
theorem op_23 {zs : List xV} {ph : xH} {g d B i : Nat} {Q : xR → Prop} {c : KS} {x5 x6 x7 x8 : Option xV} (hz : zs.length ≤ 1536) (hi : i + 2 < zs.length) (k0 : hKl zs ph c) (m0 : hMm zs ph c) (ho : okKS B c) (hB : B ≤ 512) (hN : ∀ (ph2 : xH) (c2 : KS) (g2 : Nat) (y5 y6 y7 y8 : Option xV), hKl zs ph2 c2 → hMm zs ph2 c2 → okKS (B + 1) c2 → g2 ≤ g + 1 → xT (d + 1240) 261 2033 (xlo [some (.inr (.inl (some 0))), some (.inr (.inl (some 1))), some (.inr (.inl (some 147))), some (.inr (.inl (some 168))), some (.inl (i : Int)), y5, y6, y7, y8]) [] ph2 g2 Q) : xT (d + 1240) 261 1346 (xlo [some (.inr (.inl (some 0))), some (.inr (.inl (some 1))), some (.inr (.inl (some 147))), some (.inr (.inl (some 168))), some (.inl (i : Int)), x5, x6, x7, x8]) [] ph g Q := by
  have hs := k0.1
  have hz168 := hK168.2
  obtain ⟨-, -, -, -, b1, b2, b3, -, -⟩ := id ho.2.1
  cases hw : pWh c.1 with
  | false =>
    refine tK (l := xk_261) rfl rfl (fun _ _ _ _ _ => rfl) ?_
    refine tK (l := xk_261) rfl rfl (fun _ _ _ _ _ => rfl) ?_
    refine tCa (l := xk_261) rfl rfl (hInvS rfl rfl rfl rfl (Nat.le_of_ble_eq_true rfl) (Nat.le_of_ble_eq_true rfl)) ?_
    refine w251_1 k0 m0 (fun Q hq => c138n k0 ho.1.2 hw hq) (fun ph1 k1 m1 => ?_)
    refine tKv ?_
    refine tSt (l := xk_261) rfl rfl (fun _ _ _ _ _ => rfl) (Nat.le_of_ble_eq_true rfl) ?_
    refine tK (l := xk_261) rfl rfl (fun _ _ _ _ _ => rfl) ?_
    refine tCa (l := xk_261) rfl rfl (hInvV (c := 10) k1.1 rfl rfl rfl rfl rfl (Nat.le_of_ble_eq_true rfl) (Nat.le_of_ble_eq_true rfl)) ?_
    refine m185n m1 ho.1.1 hw (fun ph2 m2 z2 f2 => ?_)
    refine tKv ?_
    have k2 := k1.fw m2.1 f2.fw moP_k
    refine tSt (l := xk_261) rfl rfl (fun _ _ _ _ _ => rfl) (Nat.le_of_ble_eq_true rfl) ?_
    refine tK (l := xk_261) rfl rfl (fun _ _ _ _ _ => rfl) ?_
    refine tCa (l := xk_261) rfl rfl (hInvV (c := 10) m2.1 rfl rfl rfl rfl rfl (Nat.le_of_ble_eq_true rfl) (Nat.le_of_ble_eq_true rfl)) ?_
    refine m144 m2 ?_
    refine tKv ?_
    rw [z2]
    refine tK (l := xk_261) rfl rfl (fun _ _ _ _ _ => rfl) ?_
    refine tIc_eq (l := xk_261) (pc' := 1370) rfl rfl rfl (fun hc => ?_) (fun hc => ?_)
    · refine tK (l := xk_261) rfl rfl (fun _ _ _ _ _ => rfl) ?_
      refine tIf_ne (l := xk_261) (pc' := 1387) rfl rfl rfl (fun hc => ?_) (fun hc => ?_)
      · exact absurd hc (by decide)
      · refine tK (l := xk_261) rfl rfl (fun _ _ _ _ _ => rfl) ?_
        exact hN ph2 _ _ _ _ _ _ k2 m2 (ho.up) (by omega)
    · exact absurd rfl hc
  | true =>
    refine tK (l := xk_261) rfl rfl (fun _ _ _ _ _ => rfl) ?_
    refine tK (l := xk_261) rfl rfl (fun _ _ _ _ _ => rfl) ?_
    refine tCa (l := xk_261) rfl rfl (hInvS rfl rfl rfl rfl (Nat.le_of_ble_eq_true rfl) (Nat.le_of_ble_eq_true rfl)) ?_
    refine w251r (R := fun c' v => ∃ D, Fin c.1 c.2.1.1 (-1) D ∧ c' = ndo c (rnd c.2.1 (ocD D)) ∧ v = ((ocD D).1.length : Int)) k0 m0 (fun Q hq => c138 k0 ho.1.2 ho.1.1 hw ⟨b1.1, by omega⟩ ⟨b2.1, by omega⟩ ⟨b3.1, by omega⟩ (fun ph2 D hD k f => hq ph2 _ _ ⟨D, hD, rfl, rfl⟩ k f)) (fun ph1 c1 v1 hR k1 m1 e1 => ?_)
    obtain ⟨D, hD, rfl, rfl⟩ := hR
    refine tKv ?_
    refine tSt (l := xk_261) rfl rfl (fun _ _ _ _ _ => rfl) (Nat.le_of_ble_eq_true rfl) ?_
    refine tK (l := xk_261) rfl rfl (fun _ _ _ _ _ => rfl) ?_
    refine tCa (l := xk_261) rfl rfl (hInvV (c := 10) k1.1 rfl rfl rfl rfl rfl (Nat.le_of_ble_eq_true rfl) (Nat.le_of_ble_eq_true rfl)) ?_
    refine m185 m1 ho.1.1 (okS_u ho) hw hD ⟨b1.1, by omega⟩ ⟨b2.1, by omega⟩ ⟨b3.1, by omega⟩ (fun ph2 m2 z2 f2 => ?_)
    refine tKv ?_
    have k2 := k1.fw m2.1 f2.fw moP_k
    have e2 := (f2.2.1 168 0).trans e1
    refine tSt (l := xk_261) rfl rfl (fun _ _ _ _ _ => rfl) (Nat.le_of_ble_eq_true rfl) ?_
    refine tK (l := xk_261) rfl rfl (fun _ _ _ _ _ => rfl) ?_
    refine tCa (l := xk_261) rfl rfl (hInvV (c := 10) m2.1 rfl rfl rfl rfl rfl (Nat.le_of_ble_eq_true rfl) (Nat.le_of_ble_eq_true rfl)) ?_
    refine m144 m2 ?_
    refine tKv ?_
    rw [z2]
    refine tK (l := xk_261) rfl rfl (fun _ _ _ _ _ => rfl) ?_
    refine tIc_eq (l := xk_261) (pc' := 1370) rfl rfl rfl (fun hc => ?_) (fun hc => ?_)
    · refine tK (l := xk_261) rfl rfl (fun _ _ _ _ _ => rfl) ?_
      refine tIf_ne (l := xk_261) (pc' := 1387) rfl rfl rfl (fun hc => ?_) (fun hc => ?_)
      · refine tK (l := xk_261) rfl rfl (fun _ _ _ _ _ => rfl) ?_
        refine tK (l := xk_261) rfl rfl (fun _ _ _ _ _ => rfl) ?_
        first | refine tK (l := xk_261) rfl rfl (hLaldN m2.1 rfl rfl (by omega)) ?_ | refine tK (l := xk_261) rfl rfl (hLald m2.1 rfl (by omega) (by omega)) ?_
        rw [e2]
        refine tK (l := xk_261) rfl rfl (fun _ _ _ _ _ => rfl) ?_
        refine tK (l := xk_261) rfl rfl (fun _ _ _ _ _ => rfl) ?_
        refine tK (l := xk_261) rfl rfl (fun _ _ _ _ _ => rfl) ?_
        refine tIf_eq (l := xk_261) (pc' := 1387) rfl rfl rfl (fun hc => ?_) (fun hc => ?_)
        · refine tK (l := xk_261) rfl rfl (fun _ _ _ _ _ => rfl) ?_
          exact hN ph2 _ _ _ _ _ _ k2 m2 (ho.hrnd m0 hw hD) (by omega)
        · exact absurd (lc_rfl _) hc
      · exact absurd rfl hc
    · exact absurd rfl hc
set_option maxRecDepth 20000 in
theorem op_37 {zs : List xV} {ph : xH} {g d B i : Nat} {Q : xR → Prop} {c : KS} {x5 x6 x7 x8 : Option xV} (hz : zs.length ≤ 1536) (hi : i + 2 < zs.length) (k0 : hKl zs ph c) (m0 : hMm zs ph c) (ho : okKS B c) (hB : B ≤ 512) (hN : ∀ (ph2 : xH) (c2 : KS) (g2 : Nat) (y5 y6 y7 y8 : Option xV), hKl zs ph2 c2 → hMm zs ph2 c2 → okKS (B + 1) c2 → g2 ≤ g + 1 → xT (d + 1240) 261 2033 (xlo [some (.inr (.inl (some 0))), some (.inr (.inl (some 1))), some (.inr (.inl (some 147))), some (.inr (.inl (some 168))), some (.inl (i : Int)), y5, y6, y7, y8]) [] ph2 g2 Q) : xT (d + 1240) 261 1676 (xlo [some (.inr (.inl (some 0))), some (.inr (.inl (some 1))), some (.inr (.inl (some 147))), some (.inr (.inl (some 168))), some (.inl (i : Int)), x5, x6, x7, x8]) [] ph g Q := by
  have hs := k0.1
  have hz168 := hK168.2
  cases hw : pWh c.1 with
  | false =>
    refine tK (l := xk_261) rfl rfl (fun _ _ _ _ _ => rfl) ?_
    refine tK (l := xk_261) rfl rfl (fun _ _ _ _ _ => rfl) ?_
    refine tCa (l := xk_261) rfl rfl (hInvS rfl rfl rfl rfl (Nat.le_of_ble_eq_true rfl) (Nat.le_of_ble_eq_true rfl)) ?_
    refine w255_1 k0 m0 (fun Q hq => c122n k0 ho.1.2 hw hq) (fun ph1 k1 m1 => ?_)
    refine tKv ?_
    refine tSt (l := xk_261) rfl rfl (fun _ _ _ _ _ => rfl) (Nat.le_of_ble_eq_true rfl) ?_
    refine tK (l := xk_261) rfl rfl (fun _ _ _ _ _ => rfl) ?_
    refine tCa (l := xk_261) rfl rfl (hInvV (c := 10) k1.1 rfl rfl rfl rfl rfl (Nat.le_of_ble_eq_true rfl) (Nat.le_of_ble_eq_true rfl)) ?_
    refine m215n m1 ho.1.1 hw (fun ph2 m2 z2 f2 => ?_)
    refine tKv ?_
    have k2 := k1.fw m2.1 f2.fw moP_k
    refine tSt (l := xk_261) rfl rfl (fun _ _ _ _ _ => rfl) (Nat.le_of_ble_eq_true rfl) ?_
    refine tK (l := xk_261) rfl rfl (fun _ _ _ _ _ => rfl) ?_
    refine tCa (l := xk_261) rfl rfl (hInvV (c := 10) m2.1 rfl rfl rfl rfl rfl (Nat.le_of_ble_eq_true rfl) (Nat.le_of_ble_eq_true rfl)) ?_
    refine m144 m2 ?_
    refine tKv ?_
    rw [z2]
    refine tK (l := xk_261) rfl rfl (fun _ _ _ _ _ => rfl) ?_
    refine tIc_eq (l := xk_261) (pc' := 1700) rfl rfl rfl (fun hc => ?_) (fun hc => ?_)
    · refine tK (l := xk_261) rfl rfl (fun _ _ _ _ _ => rfl) ?_
      refine tIf_ne (l := xk_261) (pc' := 1717) rfl rfl rfl (fun hc => ?_) (fun hc => ?_)
      · exact absurd hc (by decide)
      · refine tK (l := xk_261) rfl rfl (fun _ _ _ _ _ => rfl) ?_
        exact hN ph2 _ _ _ _ _ _ k2 m2 (ho.up) (by omega)
    · exact absurd rfl hc
  | true =>
    refine tK (l := xk_261) rfl rfl (fun _ _ _ _ _ => rfl) ?_
    refine tK (l := xk_261) rfl rfl (fun _ _ _ _ _ => rfl) ?_
    refine tCa (l := xk_261) rfl rfl (hInvS rfl rfl rfl rfl (Nat.le_of_ble_eq_true rfl) (Nat.le_of_ble_eq_true rfl)) ?_
    refine w255r (R := fun c' v => ∃ D, Fin c.1 c.2.1.1 (-1) D ∧ c' = c ∧ v = ((ocD D).1.length : Int)) k0 m0 (fun Q hq => c122 k0 ho.1.2 ho.1.1 hw (fun ph2 D hD k f => hq ph2 _ _ ⟨D, hD, rfl, rfl⟩ k f)) (fun ph1 c1 v1 hR k1 m1 e1 => ?_)
    obtain ⟨D, hD, rfl, rfl⟩ := hR
    refine tKv ?_
    refine tSt (l := xk_261) rfl rfl (fun _ _ _ _ _ => rfl) (Nat.le_of_ble_eq_true rfl) ?_
    refine tK (l := xk_261) rfl rfl (fun _ _ _ _ _ => rfl) ?_
    refine tCa (l := xk_261) rfl rfl (hInvV (c := 10) k1.1 rfl rfl rfl rfl rfl (Nat.le_of_ble_eq_true rfl) (Nat.le_of_ble_eq_true rfl)) ?_
    refine m215 m1 ho.1.1 (okS_u ho) hw hD (fun ph2 m2 z2 f2 => ?_)
    refine tKv ?_
    have k2 := k1.fw m2.1 f2.fw moP_k
    have e2 := (f2.2.1 168 0).trans e1
    refine tSt (l := xk_261) rfl rfl (fun _ _ _ _ _ => rfl) (Nat.le_of_ble_eq_true rfl) ?_
    refine tK (l := xk_261) rfl rfl (fun _ _ _ _ _ => rfl) ?_
    refine tCa (l := xk_261) rfl rfl (hInvV (c := 10) m2.1 rfl rfl rfl rfl rfl (Nat.le_of_ble_eq_true rfl) (Nat.le_of_ble_eq_true rfl)) ?_
    refine m144 m2 ?_
    refine tKv ?_
    rw [z2]
    refine tK (l := xk_261) rfl rfl (fun _ _ _ _ _ => rfl) ?_
    refine tIc_eq (l := xk_261) (pc' := 1700) rfl rfl rfl (fun hc => ?_) (fun hc => ?_)
    · refine tK (l := xk_261) rfl rfl (fun _ _ _ _ _ => rfl) ?_
      refine tIf_ne (l := xk_261) (pc' := 1717) rfl rfl rfl (fun hc => ?_) (fun hc => ?_)
      · refine tK (l := xk_261) rfl rfl (fun _ _ _ _ _ => rfl) ?_
        refine tK (l := xk_261) rfl rfl (fun _ _ _ _ _ => rfl) ?_
        first | refine tK (l := xk_261) rfl rfl (hLaldN m2.1 rfl rfl (by omega)) ?_ | refine tK (l := xk_261) rfl rfl (hLald m2.1 rfl (by omega) (by omega)) ?_
        rw [e2]
        refine tK (l := xk_261) rfl rfl (fun _ _ _ _ _ => rfl) ?_
        refine tK (l := xk_261) rfl rfl (fun _ _ _ _ _ => rfl) ?_
        refine tK (l := xk_261) rfl rfl (fun _ _ _ _ _ => rfl) ?_
        refine tIf_eq (l := xk_261) (pc' := 1717) rfl rfl rfl (fun hc => ?_) (fun hc => ?_)
        · refine tK (l := xk_261) rfl rfl (fun _ _ _ _ _ => rfl) ?_
          exact hN ph2 _ _ _ _ _ _ k2 m2 (ho.up) (by omega)
        · exact absurd (lc_rfl _) hc
      · exact absurd rfl hc
    · exact absurd rfl hc
set_option maxRecDepth 20000 in
theorem op_38 {zs : List xV} {ph : xH} {g d B i : Nat} {Q : xR → Prop} {c : KS} {x5 x6 x7 x8 : Option xV} (hz : zs.length ≤ 1536) (hi : i + 2 < zs.length) (k0 : hKl zs ph c) (m0 : hMm zs ph c) (ho : okKS B c) (hB : B ≤ 512) (hN : ∀ (ph2 : xH) (c2 : KS) (g2 : Nat) (y5 y6 y7 y8 : Option xV), hKl zs ph2 c2 → hMm zs ph2 c2 → okKS (B + 1) c2 → g2 ≤ g + 1 → xT (d + 1240) 261 2033 (xlo [some (.inr (.inl (some 0))), some (.inr (.inl (some 1))), some (.inr (.inl (some 147))), some (.inr (.inl (some 168))), some (.inl (i : Int)), y5, y6, y7, y8]) [] ph2 g2 Q) : xT (d + 1240) 261 1720 (xlo [some (.inr (.inl (some 0))), some (.inr (.inl (some 1))), some (.inr (.inl (some 147))), some (.inr (.inl (some 168))), some (.inl (i : Int)), x5, x6, x7, x8]) [] ph g Q := by
  have hs := k0.1
  have hz168 := hK168.2
  cases hw : pWh c.1 with
  | false =>
    refine tK (l := xk_261) rfl rfl (fun _ _ _ _ _ => rfl) ?_
    refine tK (l := xk_261) rfl rfl (fun _ _ _ _ _ => rfl) ?_
    refine tCa (l := xk_261) rfl rfl (hInvS rfl rfl rfl rfl (Nat.le_of_ble_eq_true rfl) (Nat.le_of_ble_eq_true rfl)) ?_
    refine w256_1 k0 m0 (fun Q hq => c123n k0 ho.1.2 hw hq) (fun ph1 k1 m1 => ?_)
    refine tKv ?_
    refine tSt (l := xk_261) rfl rfl (fun _ _ _ _ _ => rfl) (Nat.le_of_ble_eq_true rfl) ?_
    refine tK (l := xk_261) rfl rfl (fun _ _ _ _ _ => rfl) ?_
    refine tCa (l := xk_261) rfl rfl (hInvV (c := 10) k1.1 rfl rfl rfl rfl rfl (Nat.le_of_ble_eq_true rfl) (Nat.le_of_ble_eq_true rfl)) ?_
    refine m217n m1 ho.1.1 hw (fun ph2 m2 z2 f2 => ?_)
    refine tKv ?_
    have k2 := k1.fw m2.1 f2.fw moP_k
    refine tSt (l := xk_261) rfl rfl (fun _ _ _ _ _ => rfl) (Nat.le_of_ble_eq_true rfl) ?_
    refine tK (l := xk_261) rfl rfl (fun _ _ _ _ _ => rfl) ?_
    refine tCa (l := xk_261) rfl rfl (hInvV (c := 10) m2.1 rfl rfl rfl rfl rfl (Nat.le_of_ble_eq_true rfl) (Nat.le_of_ble_eq_true rfl)) ?_
    refine m144 m2 ?_
    refine tKv ?_
    rw [z2]
    refine tK (l := xk_261) rfl rfl (fun _ _ _ _ _ => rfl) ?_
    refine tIc_eq (l := xk_261) (pc' := 1744) rfl rfl rfl (fun hc => ?_) (fun hc => ?_)
    · refine tK (l := xk_261) rfl rfl (fun _ _ _ _ _ => rfl) ?_
      refine tIf_ne (l := xk_261) (pc' := 1761) rfl rfl rfl (fun hc => ?_) (fun hc => ?_)
      · exact absurd hc (by decide)
      · refine tK (l := xk_261) rfl rfl (fun _ _ _ _ _ => rfl) ?_
        exact hN ph2 _ _ _ _ _ _ k2 m2 (ho.up) (by omega)
    · exact absurd rfl hc
  | true =>
    refine tK (l := xk_261) rfl rfl (fun _ _ _ _ _ => rfl) ?_
    refine tK (l := xk_261) rfl rfl (fun _ _ _ _ _ => rfl) ?_
    refine tCa (l := xk_261) rfl rfl (hInvS rfl rfl rfl rfl (Nat.le_of_ble_eq_true rfl) (Nat.le_of_ble_eq_true rfl)) ?_
    refine w256r (R := fun c' v => ∃ D, Fin c.1 c.2.1.1 (-1) D ∧ c' = c ∧ v = ((ocD D).1.length : Int)) k0 m0 (fun Q hq => c123 k0 ho.1.2 ho.1.1 hw (fun ph2 D hD k f => hq ph2 _ _ ⟨D, hD, rfl, rfl⟩ k f)) (fun ph1 c1 v1 hR k1 m1 e1 => ?_)
    obtain ⟨D, hD, rfl, rfl⟩ := hR
    refine tKv ?_
    refine tSt (l := xk_261) rfl rfl (fun _ _ _ _ _ => rfl) (Nat.le_of_ble_eq_true rfl) ?_
    refine tK (l := xk_261) rfl rfl (fun _ _ _ _ _ => rfl) ?_
    refine tCa (l := xk_261) rfl rfl (hInvV (c := 10) k1.1 rfl rfl rfl rfl rfl (Nat.le_of_ble_eq_true rfl) (Nat.le_of_ble_eq_true rfl)) ?_
    refine m217 m1 ho.1.1 (okS_u ho) hw hD (fun ph2 m2 z2 f2 => ?_)
    refine tKv ?_
    have k2 := k1.fw m2.1 f2.fw moP_k
    have e2 := (f2.2.1 168 0).trans e1
    refine tSt (l := xk_261) rfl rfl (fun _ _ _ _ _ => rfl) (Nat.le_of_ble_eq_true rfl) ?_
    refine tK (l := xk_261) rfl rfl (fun _ _ _ _ _ => rfl) ?_
    refine tCa (l := xk_261) rfl rfl (hInvV (c := 10) m2.1 rfl rfl rfl rfl rfl (Nat.le_of_ble_eq_true rfl) (Nat.le_of_ble_eq_true rfl)) ?_
    refine m144 m2 ?_
    refine tKv ?_
    rw [z2]
    refine tK (l := xk_261) rfl rfl (fun _ _ _ _ _ => rfl) ?_
    refine tIc_eq (l := xk_261) (pc' := 1744) rfl rfl rfl (fun hc => ?_) (fun hc => ?_)
    · refine tK (l := xk_261) rfl rfl (fun _ _ _ _ _ => rfl) ?_
      refine tIf_ne (l := xk_261) (pc' := 1761) rfl rfl rfl (fun hc => ?_) (fun hc => ?_)
      · refine tK (l := xk_261) rfl rfl (fun _ _ _ _ _ => rfl) ?_
        refine tK (l := xk_261) rfl rfl (fun _ _ _ _ _ => rfl) ?_
        first | refine tK (l := xk_261) rfl rfl (hLaldN m2.1 rfl rfl (by omega)) ?_ | refine tK (l := xk_261) rfl rfl (hLald m2.1 rfl (by omega) (by omega)) ?_
        rw [e2]
        refine tK (l := xk_261) rfl rfl (fun _ _ _ _ _ => rfl) ?_
        refine tK (l := xk_261) rfl rfl (fun _ _ _ _ _ => rfl) ?_
        refine tK (l := xk_261) rfl rfl (fun _ _ _ _ _ => rfl) ?_
        refine tIf_eq (l := xk_261) (pc' := 1761) rfl rfl rfl (fun hc => ?_) (fun hc => ?_)
        · refine tK (l := xk_261) rfl rfl (fun _ _ _ _ _ => rfl) ?_
          exact hN ph2 _ _ _ _ _ _ k2 m2 (ho.up) (by omega)
        · exact absurd (lc_rfl _) hc
      · exact absurd rfl hc
    · exact absurd rfl hc
set_option maxRecDepth 20000 in
theorem op_39 {zs : List xV} {ph : xH} {g d B i : Nat} {Q : xR → Prop} {c : KS} {x5 x6 x7 x8 : Option xV} (hz : zs.length ≤ 1536) (hi : i + 2 < zs.length) (k0 : hKl zs ph c) (m0 : hMm zs ph c) (ho : okKS B c) (hB : B ≤ 512) (hN : ∀ (ph2 : xH) (c2 : KS) (g2 : Nat) (y5 y6 y7 y8 : Option xV), hKl zs ph2 c2 → hMm zs ph2 c2 → okKS (B + 1) c2 → g2 ≤ g + 1 → xT (d + 1240) 261 2033 (xlo [some (.inr (.inl (some 0))), some (.inr (.inl (some 1))), some (.inr (.inl (some 147))), some (.inr (.inl (some 168))), some (.inl (i : Int)), y5, y6, y7, y8]) [] ph2 g2 Q) : xT (d + 1240) 261 1764 (xlo [some (.inr (.inl (some 0))), some (.inr (.inl (some 1))), some (.inr (.inl (some 147))), some (.inr (.inl (some 168))), some (.inl (i : Int)), x5, x6, x7, x8]) [] ph g Q := by
  have hs := k0.1
  have hz168 := hK168.2
  cases hw : pWh c.1 with
  | false =>
    refine tK (l := xk_261) rfl rfl (fun _ _ _ _ _ => rfl) ?_
    refine tK (l := xk_261) rfl rfl (fun _ _ _ _ _ => rfl) ?_
    refine tCa (l := xk_261) rfl rfl (hInvS rfl rfl rfl rfl (Nat.le_of_ble_eq_true rfl) (Nat.le_of_ble_eq_true rfl)) ?_
    refine w257_1 k0 m0 (fun Q hq => c124n k0 ho.1.2 hw hq) (fun ph1 k1 m1 => ?_)
    refine tKv ?_
    refine tSt (l := xk_261) rfl rfl (fun _ _ _ _ _ => rfl) (Nat.le_of_ble_eq_true rfl) ?_
    refine tK (l := xk_261) rfl rfl (fun _ _ _ _ _ => rfl) ?_
    refine tCa (l := xk_261) rfl rfl (hInvV (c := 10) k1.1 rfl rfl rfl rfl rfl (Nat.le_of_ble_eq_true rfl) (Nat.le_of_ble_eq_true rfl)) ?_
    refine m218n m1 ho.1.1 hw (fun ph2 m2 z2 f2 => ?_)
    refine tKv ?_
    have k2 := k1.fw m2.1 f2.fw moP_k
    refine tSt (l := xk_261) rfl rfl (fun _ _ _ _ _ => rfl) (Nat.le_of_ble_eq_true rfl) ?_
    refine tK (l := xk_261) rfl rfl (fun _ _ _ _ _ => rfl) ?_
    refine tCa (l := xk_261) rfl rfl (hInvV (c := 10) m2.1 rfl rfl rfl rfl rfl (Nat.le_of_ble_eq_true rfl) (Nat.le_of_ble_eq_true rfl)) ?_
    refine m144 m2 ?_
    refine tKv ?_
    rw [z2]
    refine tK (l := xk_261) rfl rfl (fun _ _ _ _ _ => rfl) ?_
    refine tIc_eq (l := xk_261) (pc' := 1788) rfl rfl rfl (fun hc => ?_) (fun hc => ?_)
    · refine tK (l := xk_261) rfl rfl (fun _ _ _ _ _ => rfl) ?_
      refine tIf_ne (l := xk_261) (pc' := 1805) rfl rfl rfl (fun hc => ?_) (fun hc => ?_)
      · exact absurd hc (by decide)
      · refine tK (l := xk_261) rfl rfl (fun _ _ _ _ _ => rfl) ?_
        exact hN ph2 _ _ _ _ _ _ k2 m2 (ho.up) (by omega)
    · exact absurd rfl hc
  | true =>
    refine tK (l := xk_261) rfl rfl (fun _ _ _ _ _ => rfl) ?_
    refine tK (l := xk_261) rfl rfl (fun _ _ _ _ _ => rfl) ?_
    refine tCa (l := xk_261) rfl rfl (hInvS rfl rfl rfl rfl (Nat.le_of_ble_eq_true rfl) (Nat.le_of_ble_eq_true rfl)) ?_
    refine w257r (R := fun c' v => ∃ D, Fin c.1 c.2.1.1 (-1) D ∧ c' = c ∧ v = (ocD D).2.1) k0 m0 (fun Q hq => c124 k0 ho.1.2 ho.1.1 hw (fun ph2 D hD k f => hq ph2 _ _ ⟨D, hD, rfl, rfl⟩ k f)) (fun ph1 c1 v1 hR k1 m1 e1 => ?_)
    obtain ⟨D, hD, rfl, rfl⟩ := hR
    refine tKv ?_
    refine tSt (l := xk_261) rfl rfl (fun _ _ _ _ _ => rfl) (Nat.le_of_ble_eq_true rfl) ?_
    refine tK (l := xk_261) rfl rfl (fun _ _ _ _ _ => rfl) ?_
    refine tCa (l := xk_261) rfl rfl (hInvV (c := 10) k1.1 rfl rfl rfl rfl rfl (Nat.le_of_ble_eq_true rfl) (Nat.le_of_ble_eq_true rfl)) ?_
    refine m218 m1 ho.1.1 (okS_u ho) hw hD (fun ph2 m2 z2 f2 => ?_)
    refine tKv ?_
    have k2 := k1.fw m2.1 f2.fw moP_k
    have e2 := (f2.2.1 168 0).trans e1
    refine tSt (l := xk_261) rfl rfl (fun _ _ _ _ _ => rfl) (Nat.le_of_ble_eq_true rfl) ?_
    refine tK (l := xk_261) rfl rfl (fun _ _ _ _ _ => rfl) ?_
    refine tCa (l := xk_261) rfl rfl (hInvV (c := 10) m2.1 rfl rfl rfl rfl rfl (Nat.le_of_ble_eq_true rfl) (Nat.le_of_ble_eq_true rfl)) ?_
    refine m144 m2 ?_
    refine tKv ?_
    rw [z2]
    refine tK (l := xk_261) rfl rfl (fun _ _ _ _ _ => rfl) ?_
    refine tIc_eq (l := xk_261) (pc' := 1788) rfl rfl rfl (fun hc => ?_) (fun hc => ?_)
    · refine tK (l := xk_261) rfl rfl (fun _ _ _ _ _ => rfl) ?_
      refine tIf_ne (l := xk_261) (pc' := 1805) rfl rfl rfl (fun hc => ?_) (fun hc => ?_)
      · refine tK (l := xk_261) rfl rfl (fun _ _ _ _ _ => rfl) ?_
        refine tK (l := xk_261) rfl rfl (fun _ _ _ _ _ => rfl) ?_
        first | refine tK (l := xk_261) rfl rfl (hLaldN m2.1 rfl rfl (by omega)) ?_ | refine tK (l := xk_261) rfl rfl (hLald m2.1 rfl (by omega) (by omega)) ?_
        rw [e2]
        refine tK (l := xk_261) rfl rfl (fun _ _ _ _ _ => rfl) ?_
        refine tK (l := xk_261) rfl rfl (fun _ _ _ _ _ => rfl) ?_
        refine tK (l := xk_261) rfl rfl (fun _ _ _ _ _ => rfl) ?_
        refine tIf_eq (l := xk_261) (pc' := 1805) rfl rfl rfl (fun hc => ?_) (fun hc => ?_)
        · refine tK (l := xk_261) rfl rfl (fun _ _ _ _ _ => rfl) ?_
          exact hN ph2 _ _ _ _ _ _ k2 m2 (ho.up) (by omega)
        · exact absurd (lc_rfl _) hc
      · exact absurd rfl hc
    · exact absurd rfl hc
set_option maxRecDepth 20000 in
theorem op_40 {zs : List xV} {ph : xH} {g d B i : Nat} {Q : xR → Prop} {c : KS} {x5 x6 x7 x8 : Option xV} (hz : zs.length ≤ 1536) (hi : i + 2 < zs.length) (k0 : hKl zs ph c) (m0 : hMm zs ph c) (ho : okKS B c) (hB : B ≤ 512) {a : Int} (ha1 : zs[((i : Int) + 1).toNat]? = some (.inl a)) (hN : ∀ (ph2 : xH) (c2 : KS) (g2 : Nat) (y5 y6 y7 y8 : Option xV), hKl zs ph2 c2 → hMm zs ph2 c2 → okKS (B + 1) c2 → g2 ≤ g + 1 → xT (d + 1240) 261 2033 (xlo [some (.inr (.inl (some 0))), some (.inr (.inl (some 1))), some (.inr (.inl (some 147))), some (.inr (.inl (some 168))), some (.inl (i : Int)), y5, y6, y7, y8]) [] ph2 g2 Q) : xT (d + 1240) 261 1808 (xlo [some (.inr (.inl (some 0))), some (.inr (.inl (some 1))), some (.inr (.inl (some 147))), some (.inr (.inl (some 168))), some (.inl (i : Int)), x5, x6, x7, x8]) [] ph g Q := by
  have hs := k0.1
  have hz168 := hK168.2
  by_cases hx : 0 ≤ a ∧ a < 8
  · obtain ⟨n, rfl⟩ : ∃ k : Nat, a = (k : Int) := ⟨a.toNat, by omega⟩
    have hn : n < 8 := by omega
    cases hw : pWh c.1 with
    | false =>
      refine tK (l := xk_261) rfl rfl (fun _ _ _ _ _ => rfl) ?_
      refine tK (l := xk_261) rfl rfl (fun _ _ _ _ _ => rfl) ?_
      refine tK (l := xk_261) rfl rfl (fun _ _ _ _ _ => rfl) ?_
      refine tK (l := xk_261) rfl rfl (fun _ _ _ _ _ => rfl) ?_
      refine tK (l := xk_261) rfl rfl (hAdd ⟨by omega, by omega⟩) ?_
      refine tK (l := xk_261) rfl rfl (hSald hs (by omega) ha1) ?_
      refine tK (l := xk_261) rfl rfl (fun _ _ _ _ _ => rfl) ?_
      refine tCa (l := xk_261) rfl rfl (hInvS rfl rfl rfl rfl (Nat.le_of_ble_eq_true rfl) (Nat.le_of_ble_eq_true rfl)) ?_
      refine w258_1 k0 m0 (fun Q hq => c140n k0 ho.1.2 hn hw hq) (fun ph1 k1 m1 => ?_)
      refine tKv ?_
      refine tSt (l := xk_261) rfl rfl (fun _ _ _ _ _ => rfl) (Nat.le_of_ble_eq_true rfl) ?_
      refine tK (l := xk_261) rfl rfl (fun _ _ _ _ _ => rfl) ?_
      refine tK (l := xk_261) rfl rfl (fun _ _ _ _ _ => rfl) ?_
      refine tK (l := xk_261) rfl rfl (fun _ _ _ _ _ => rfl) ?_
      refine tK (l := xk_261) rfl rfl (fun _ _ _ _ _ => rfl) ?_
      refine tK (l := xk_261) rfl rfl (hAdd ⟨by omega, by omega⟩) ?_
      refine tK (l := xk_261) rfl rfl (hSald k1.1 (by omega) ha1) ?_
      refine tCa (l := xk_261) rfl rfl (hInvV (c := 10) k1.1 rfl rfl rfl rfl rfl (Nat.le_of_ble_eq_true rfl) (Nat.le_of_ble_eq_true rfl)) ?_
      refine m220n m1 hn ho.1.1 hw (fun ph2 m2 z2 f2 => ?_)
      refine tKv ?_
      have k2 := k1.fw m2.1 f2.fw moP_k
      refine tSt (l := xk_261) rfl rfl (fun _ _ _ _ _ => rfl) (Nat.le_of_ble_eq_true rfl) ?_
      refine tK (l := xk_261) rfl rfl (fun _ _ _ _ _ => rfl) ?_
      refine tCa (l := xk_261) rfl rfl (hInvV (c := 10) m2.1 rfl rfl rfl rfl rfl (Nat.le_of_ble_eq_true rfl) (Nat.le_of_ble_eq_true rfl)) ?_
      refine m144 m2 ?_
      refine tKv ?_
      rw [z2]
      refine tK (l := xk_261) rfl rfl (fun _ _ _ _ _ => rfl) ?_
      refine tIc_eq (l := xk_261) (pc' := 1844) rfl rfl rfl (fun hc => ?_) (fun hc => ?_)
      · refine tK (l := xk_261) rfl rfl (fun _ _ _ _ _ => rfl) ?_
        refine tIf_ne (l := xk_261) (pc' := 1861) rfl rfl rfl (fun hc => ?_) (fun hc => ?_)
        · exact absurd hc (by decide)
        · refine tK (l := xk_261) rfl rfl (fun _ _ _ _ _ => rfl) ?_
          exact hN ph2 _ _ _ _ _ _ k2 m2 (ho.up) (by omega)
      · exact absurd rfl hc
    | true =>
      refine tK (l := xk_261) rfl rfl (fun _ _ _ _ _ => rfl) ?_
      refine tK (l := xk_261) rfl rfl (fun _ _ _ _ _ => rfl) ?_
      refine tK (l := xk_261) rfl rfl (fun _ _ _ _ _ => rfl) ?_
      refine tK (l := xk_261) rfl rfl (fun _ _ _ _ _ => rfl) ?_
      refine tK (l := xk_261) rfl rfl (hAdd ⟨by omega, by omega⟩) ?_
      refine tK (l := xk_261) rfl rfl (hSald hs (by omega) ha1) ?_
      refine tK (l := xk_261) rfl rfl (fun _ _ _ _ _ => rfl) ?_
      refine tCa (l := xk_261) rfl rfl (hInvS rfl rfl rfl rfl (Nat.le_of_ble_eq_true rfl) (Nat.le_of_ble_eq_true rfl)) ?_
      refine w258r (R := fun c' v => ∃ D, Fin c.1 c.2.1.1 (n : Int) D ∧ c' = c ∧ v = ((ocD D).1.length : Int)) k0 m0 (fun Q hq => c140 k0 ho.1.2 ho.1.1 hw hn (fun ph2 D hD k f => hq ph2 _ _ ⟨D, hD, rfl, rfl⟩ k f)) (fun ph1 c1 v1 hR k1 m1 e1 => ?_)
      obtain ⟨D, hD, rfl, rfl⟩ := hR
      refine tKv ?_
      refine tSt (l := xk_261) rfl rfl (fun _ _ _ _ _ => rfl) (Nat.le_of_ble_eq_true rfl) ?_
      refine tK (l := xk_261) rfl rfl (fun _ _ _ _ _ => rfl) ?_
      refine tK (l := xk_261) rfl rfl (fun _ _ _ _ _ => rfl) ?_
      refine tK (l := xk_261) rfl rfl (fun _ _ _ _ _ => rfl) ?_
      refine tK (l := xk_261) rfl rfl (fun _ _ _ _ _ => rfl) ?_
      refine tK (l := xk_261) rfl rfl (hAdd ⟨by omega, by omega⟩) ?_
      refine tK (l := xk_261) rfl rfl (hSald k1.1 (by omega) ha1) ?_
      refine tCa (l := xk_261) rfl rfl (hInvV (c := 10) k1.1 rfl rfl rfl rfl rfl (Nat.le_of_ble_eq_true rfl) (Nat.le_of_ble_eq_true rfl)) ?_
      refine m220 m1 hn ho.1.1 (okS_u ho) hw hD (fun ph2 m2 z2 f2 => ?_)
      refine tKv ?_
      have k2 := k1.fw m2.1 f2.fw moP_k
      have e2 := (f2.2.1 168 0).trans e1
      refine tSt (l := xk_261) rfl rfl (fun _ _ _ _ _ => rfl) (Nat.le_of_ble_eq_true rfl) ?_
      refine tK (l := xk_261) rfl rfl (fun _ _ _ _ _ => rfl) ?_
      refine tCa (l := xk_261) rfl rfl (hInvV (c := 10) m2.1 rfl rfl rfl rfl rfl (Nat.le_of_ble_eq_true rfl) (Nat.le_of_ble_eq_true rfl)) ?_
      refine m144 m2 ?_
      refine tKv ?_
      rw [z2]
      refine tK (l := xk_261) rfl rfl (fun _ _ _ _ _ => rfl) ?_
      refine tIc_eq (l := xk_261) (pc' := 1844) rfl rfl rfl (fun hc => ?_) (fun hc => ?_)
      · refine tK (l := xk_261) rfl rfl (fun _ _ _ _ _ => rfl) ?_
        refine tIf_ne (l := xk_261) (pc' := 1861) rfl rfl rfl (fun hc => ?_) (fun hc => ?_)
        · refine tK (l := xk_261) rfl rfl (fun _ _ _ _ _ => rfl) ?_
          refine tK (l := xk_261) rfl rfl (fun _ _ _ _ _ => rfl) ?_
          first | refine tK (l := xk_261) rfl rfl (hLaldN m2.1 rfl rfl (by omega)) ?_ | refine tK (l := xk_261) rfl rfl (hLald m2.1 rfl (by omega) (by omega)) ?_
          rw [e2]
          refine tK (l := xk_261) rfl rfl (fun _ _ _ _ _ => rfl) ?_
          refine tK (l := xk_261) rfl rfl (fun _ _ _ _ _ => rfl) ?_
          refine tK (l := xk_261) rfl rfl (fun _ _ _ _ _ => rfl) ?_
          refine tIf_eq (l := xk_261) (pc' := 1861) rfl rfl rfl (fun hc => ?_) (fun hc => ?_)
          · refine tK (l := xk_261) rfl rfl (fun _ _ _ _ _ => rfl) ?_
            exact hN ph2 _ _ _ _ _ _ k2 m2 (ho.up) (by omega)
          · exact absurd (lc_rfl _) hc
        · exact absurd rfl hc
      · exact absurd rfl hc
  · refine tK (l := xk_261) rfl rfl (fun _ _ _ _ _ => rfl) ?_
    refine tK (l := xk_261) rfl rfl (fun _ _ _ _ _ => rfl) ?_
    refine tK (l := xk_261) rfl rfl (fun _ _ _ _ _ => rfl) ?_
    refine tK (l := xk_261) rfl rfl (fun _ _ _ _ _ => rfl) ?_
    refine tK (l := xk_261) rfl rfl (hAdd ⟨by omega, by omega⟩) ?_
    refine tK (l := xk_261) rfl rfl (hSald hs (by omega) ha1) ?_
    refine tK (l := xk_261) rfl rfl (fun _ _ _ _ _ => rfl) ?_
    refine tCa (l := xk_261) rfl rfl (hInvS rfl rfl rfl rfl (Nat.le_of_ble_eq_true rfl) (Nat.le_of_ble_eq_true rfl)) ?_
    refine w258_2 k0 m0 (fun Q hq => c140x k0 hx (hq ph k0 hFd.refl)) (fun ph1 k1 m1 => ?_)
    refine tKv ?_
    refine tSt (l := xk_261) rfl rfl (fun _ _ _ _ _ => rfl) (Nat.le_of_ble_eq_true rfl) ?_
    refine tK (l := xk_261) rfl rfl (fun _ _ _ _ _ => rfl) ?_
    refine tK (l := xk_261) rfl rfl (fun _ _ _ _ _ => rfl) ?_
    refine tK (l := xk_261) rfl rfl (fun _ _ _ _ _ => rfl) ?_
    refine tK (l := xk_261) rfl rfl (fun _ _ _ _ _ => rfl) ?_
    refine tK (l := xk_261) rfl rfl (hAdd ⟨by omega, by omega⟩) ?_
    refine tK (l := xk_261) rfl rfl (hSald k1.1 (by omega) ha1) ?_
    refine tCa (l := xk_261) rfl rfl (hInvV (c := 10) k1.1 rfl rfl rfl rfl rfl (Nat.le_of_ble_eq_true rfl) (Nat.le_of_ble_eq_true rfl)) ?_
    refine m220x m1 hx (fun ph2 m2 z2 f2 => ?_)
    refine tKv ?_
    have k2 := k1.fw m2.1 f2.fw moP_k
    refine tSt (l := xk_261) rfl rfl (fun _ _ _ _ _ => rfl) (Nat.le_of_ble_eq_true rfl) ?_
    refine tK (l := xk_261) rfl rfl (fun _ _ _ _ _ => rfl) ?_
    refine tCa (l := xk_261) rfl rfl (hInvV (c := 10) m2.1 rfl rfl rfl rfl rfl (Nat.le_of_ble_eq_true rfl) (Nat.le_of_ble_eq_true rfl)) ?_
    refine m144 m2 ?_
    refine tKv ?_
    rw [z2]
    refine tK (l := xk_261) rfl rfl (fun _ _ _ _ _ => rfl) ?_
    refine tIc_eq (l := xk_261) (pc' := 1844) rfl rfl rfl (fun hc => ?_) (fun hc => ?_)
    · refine tK (l := xk_261) rfl rfl (fun _ _ _ _ _ => rfl) ?_
      refine tIf_ne (l := xk_261) (pc' := 1861) rfl rfl rfl (fun hc => ?_) (fun hc => ?_)
      · exact absurd hc (by decide)
      · refine tK (l := xk_261) rfl rfl (fun _ _ _ _ _ => rfl) ?_
        exact hN ph2 _ _ _ _ _ _ k2 m2 (ho.up) (by omega)
    · exact absurd rfl hc
set_option maxRecDepth 20000 in
theorem op_45 {zs : List xV} {ph : xH} {g d B i : Nat} {Q : xR → Prop} {c : KS} {x5 x6 x7 x8 : Option xV} (hz : zs.length ≤ 1536) (hi : i + 2 < zs.length) (k0 : hKl zs ph c) (m0 : hMm zs ph c) (ho : okKS B c) (hB : B ≤ 512) (hN : ∀ (ph2 : xH) (c2 : KS) (g2 : Nat) (y5 y6 y7 y8 : Option xV), hKl zs ph2 c2 → hMm zs ph2 c2 → okKS (B + 1) c2 → g2 ≤ g + 1 → xT (d + 1240) 261 2033 (xlo [some (.inr (.inl (some 0))), some (.inr (.inl (some 1))), some (.inr (.inl (some 147))), some (.inr (.inl (some 168))), some (.inl (i : Int)), y5, y6, y7, y8]) [] ph2 g2 Q) : xT (d + 1240) 261 1978 (xlo [some (.inr (.inl (some 0))), some (.inr (.inl (some 1))), some (.inr (.inl (some 147))), some (.inr (.inl (some 168))), some (.inl (i : Int)), x5, x6, x7, x8]) [] ph g Q := by
  have hs := k0.1
  have hz168 := hK168.2
  obtain ⟨hsd, hsp⟩ := shV_ok ho.2.1
  refine tK (l := xk_261) rfl rfl (fun _ _ _ _ _ => rfl) ?_
  refine tCa (l := xk_261) rfl rfl (hInvV (c := 9) hs rfl rfl rfl rfl rfl (Nat.le_of_ble_eq_true rfl) (Nat.le_of_ble_eq_true rfl)) ?_
  refine c99 k0 hsd ?_
  refine tKv ?_
  refine tSt2 (l := xk_261) rfl rfl (fun _ _ _ _ _ => rfl) (Nat.le_of_ble_eq_true rfl) ?_
  refine tK (l := xk_261) rfl rfl (fun _ _ _ _ _ => rfl) ?_
  refine tCa (l := xk_261) rfl rfl (hInvV (c := 10) k0.1 rfl rfl rfl rfl rfl (Nat.le_of_ble_eq_true rfl) (Nat.le_of_ble_eq_true rfl)) ?_
  refine m225 m0 hsd (fun ph2 m2 z2 f2 => ?_)
  refine tKv ?_
  have k2 := k0.fw m2.1 f2.fw moP_k
  refine tSt2 (l := xk_261) rfl rfl (fun _ _ _ _ _ => rfl) (Nat.le_of_ble_eq_true rfl) ?_
  refine tK (l := xk_261) rfl rfl (fun _ _ _ _ _ => rfl) ?_
  refine tK (l := xk_261) rfl rfl (fun _ _ _ _ _ => rfl) ?_
  refine tK (l := xk_261) rfl rfl (fun _ _ _ _ _ => rfl) ?_
  refine tIf_eq (l := xk_261) (pc' := 2016) rfl rfl rfl (fun hc => ?_) (fun hc => ?_)
  · refine tK (l := xk_261) rfl rfl (fun _ _ _ _ _ => rfl) ?_
    exact hN ph2 _ _ _ _ _ _ k2 m2 ho.up (by omega)
  · exact absurd hsp.1 hc
set_option maxRecDepth 20000 in
theorem op_46 {zs : List xV} {ph : xH} {g d B i : Nat} {Q : xR → Prop} {c : KS} {x5 x6 x7 x8 : Option xV} (hz : zs.length ≤ 1536) (hi : i + 2 < zs.length) (k0 : hKl zs ph c) (m0 : hMm zs ph c) (ho : okKS B c) (hB : B ≤ 512) (hN : ∀ (ph2 : xH) (c2 : KS) (g2 : Nat) (y5 y6 y7 y8 : Option xV), hKl zs ph2 c2 → hMm zs ph2 c2 → okKS (B + 1) c2 → g2 ≤ g + 1 → xT (d + 1240) 261 2033 (xlo [some (.inr (.inl (some 0))), some (.inr (.inl (some 1))), some (.inr (.inl (some 147))), some (.inr (.inl (some 168))), some (.inl (i : Int)), y5, y6, y7, y8]) [] ph2 g2 Q) : xT (d + 1240) 261 2019 (xlo [some (.inr (.inl (some 0))), some (.inr (.inl (some 1))), some (.inr (.inl (some 147))), some (.inr (.inl (some 168))), some (.inl (i : Int)), x5, x6, x7, x8]) [] ph g Q := by
  have hs := k0.1
  have hz168 := hK168.2
  refine tK (l := xk_261) rfl rfl (fun _ _ _ _ _ => rfl) ?_
  refine tCa (l := xk_261) rfl rfl (hInvV (c := 9) hs rfl rfl rfl rfl rfl (Nat.le_of_ble_eq_true rfl) (Nat.le_of_ble_eq_true rfl)) ?_
  refine c100 k0 ho (fun ph1 D1 D3 hD k1 f1 => ?_)
  refine tKv ?_
  have m1 := m0.fw2 k1.1 f1.fw clP_m
  refine tK (l := xk_261) rfl rfl (fun _ _ _ _ _ => rfl) ?_
  refine tCa (l := xk_261) rfl rfl (hInvV (c := 10) k1.1 rfl rfl rfl rfl rfl (Nat.le_of_ble_eq_true rfl) (Nat.le_of_ble_eq_true rfl)) ?_
  refine m227 m1 ho hD (fun ph2 m2 z2 f2 => ?_)
  refine tKv ?_
  have k2 := k1.fw m2.1 f2 moP_k
  refine tK (l := xk_261) rfl rfl (fun _ _ _ _ _ => rfl) ?_
  refine tIf_eq (l := xk_261) (pc' := 2033) rfl rfl rfl (fun hc => ?_) (fun hc => ?_)
  · exact hN ph2 _ _ _ _ _ _ k2 m2 ho.up (by omega)
  · exact absurd (lc_rfl _) hc
