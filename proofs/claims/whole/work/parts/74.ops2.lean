/-! ===== the law's calls (2) ===== -/
set_option maxRecDepth 20000 in
theorem op_10 {zs : List xV} {ph : xH} {g d B i : Nat} {Q : xR → Prop} {c : KS} {x5 x6 x7 x8 : Option xV} (hz : zs.length ≤ 1536) (hi : i + 2 < zs.length) (k0 : hKl zs ph c) (m0 : hMm zs ph c) (ho : okKS B c) (hB : B ≤ 512) {a : Int} (ha1 : zs[((i : Int) + 1).toNat]? = some (.inl a)) {b : Int} (ha2 : zs[((i : Int) + 2).toNat]? = some (.inl b)) (hN : ∀ (ph2 : xH) (c2 : KS) (g2 : Nat) (y5 y6 y7 y8 : Option xV), hKl zs ph2 c2 → hMm zs ph2 c2 → okKS (B + 1) c2 → g2 ≤ g + 1 → xT (d + 1240) 261 2033 (xlo [some (.inr (.inl (some 0))), some (.inr (.inl (some 1))), some (.inr (.inl (some 147))), some (.inr (.inl (some 168))), some (.inl (i : Int)), y5, y6, y7, y8]) [] ph2 g2 Q) : xT (d + 1240) 261 568 (xlo [some (.inr (.inl (some 0))), some (.inr (.inl (some 1))), some (.inr (.inl (some 147))), some (.inr (.inl (some 168))), some (.inl (i : Int)), x5, x6, x7, x8]) [] ph g Q := by
  have hs := k0.1
  have hz168 := hK168.2
  by_cases hx : 0 ≤ a ∧ a < 8
  · obtain ⟨n, rfl⟩ : ∃ k : Nat, a = (k : Int) := ⟨a.toNat, by omega⟩
    have hn : n < 8 := by omega
    by_cases hy : 33 ≤ b ∧ b ≤ 126
    · cases hv : c.2.1.1 n with
      | none =>
        refine tK (l := xk_261) rfl rfl (fun _ _ _ _ _ => rfl) ?_
        refine tK (l := xk_261) rfl rfl (fun _ _ _ _ _ => rfl) ?_
        refine tK (l := xk_261) rfl rfl (fun _ _ _ _ _ => rfl) ?_
        refine tK (l := xk_261) rfl rfl (fun _ _ _ _ _ => rfl) ?_
        refine tK (l := xk_261) rfl rfl (hAdd ⟨by omega, by omega⟩) ?_
        refine tK (l := xk_261) rfl rfl (hSald hs (by omega) ha1) ?_
        refine tK (l := xk_261) rfl rfl (fun _ _ _ _ _ => rfl) ?_
        refine tK (l := xk_261) rfl rfl (fun _ _ _ _ _ => rfl) ?_
        refine tK (l := xk_261) rfl rfl (fun _ _ _ _ _ => rfl) ?_
        refine tK (l := xk_261) rfl rfl (hAdd ⟨by omega, by omega⟩) ?_
        refine tK (l := xk_261) rfl rfl (hSald hs (by omega) ha2) ?_
        refine tK (l := xk_261) rfl rfl (fun _ _ _ _ _ => rfl) ?_
        refine tCa (l := xk_261) rfl rfl (hInvS rfl rfl rfl rfl (Nat.le_of_ble_eq_true rfl) (Nat.le_of_ble_eq_true rfl)) ?_
        refine w238 k0 m0 (fun Q hq => c128e k0 hn hy hv hq) (fun ph1 k1 m1 e1 => ?_)
        refine tKv ?_
        refine tSt (l := xk_261) rfl rfl (fun _ _ _ _ _ => rfl) (Nat.le_of_ble_eq_true rfl) ?_
        refine tK (l := xk_261) rfl rfl (fun _ _ _ _ _ => rfl) ?_
        refine tK (l := xk_261) rfl rfl (fun _ _ _ _ _ => rfl) ?_
        refine tK (l := xk_261) rfl rfl (fun _ _ _ _ _ => rfl) ?_
        refine tK (l := xk_261) rfl rfl (fun _ _ _ _ _ => rfl) ?_
        refine tK (l := xk_261) rfl rfl (hAdd ⟨by omega, by omega⟩) ?_
        refine tK (l := xk_261) rfl rfl (hSald k1.1 (by omega) ha1) ?_
        refine tK (l := xk_261) rfl rfl (fun _ _ _ _ _ => rfl) ?_
        refine tK (l := xk_261) rfl rfl (fun _ _ _ _ _ => rfl) ?_
        refine tK (l := xk_261) rfl rfl (fun _ _ _ _ _ => rfl) ?_
        refine tK (l := xk_261) rfl rfl (hAdd ⟨by omega, by omega⟩) ?_
        refine tK (l := xk_261) rfl rfl (hSald k1.1 (by omega) ha2) ?_
        refine tCa (l := xk_261) rfl rfl (hInvV (c := 10) k1.1 rfl rfl rfl rfl rfl (Nat.le_of_ble_eq_true rfl) (Nat.le_of_ble_eq_true rfl)) ?_
        refine m163e m1 hn hy hv (fun ph2 m2 z2 f2 => ?_)
        refine tKv ?_
        have k2 := k1.fw m2.1 f2.fw moP_k
        have e2 := (f2.2.1 168 0).trans e1
        refine tSt (l := xk_261) rfl rfl (fun _ _ _ _ _ => rfl) (Nat.le_of_ble_eq_true rfl) ?_
        refine tK (l := xk_261) rfl rfl (fun _ _ _ _ _ => rfl) ?_
        refine tCa (l := xk_261) rfl rfl (hInvV (c := 10) m2.1 rfl rfl rfl rfl rfl (Nat.le_of_ble_eq_true rfl) (Nat.le_of_ble_eq_true rfl)) ?_
        refine m144 m2 ?_
        refine tKv ?_
        rw [z2]
        refine tK (l := xk_261) rfl rfl (fun _ _ _ _ _ => rfl) ?_
        refine tIc_eq (l := xk_261) (pc' := 616) rfl rfl rfl (fun hc => ?_) (fun hc => ?_)
        · refine tK (l := xk_261) rfl rfl (fun _ _ _ _ _ => rfl) ?_
          refine tIf_ne (l := xk_261) (pc' := 633) rfl rfl rfl (fun hc => ?_) (fun hc => ?_)
          · refine tK (l := xk_261) rfl rfl (fun _ _ _ _ _ => rfl) ?_
            refine tK (l := xk_261) rfl rfl (fun _ _ _ _ _ => rfl) ?_
            first | refine tK (l := xk_261) rfl rfl (hLaldN m2.1 rfl rfl (by omega)) ?_ | refine tK (l := xk_261) rfl rfl (hLald m2.1 rfl (by omega) (by omega)) ?_
            rw [e2]
            refine tK (l := xk_261) rfl rfl (fun _ _ _ _ _ => rfl) ?_
            refine tK (l := xk_261) rfl rfl (fun _ _ _ _ _ => rfl) ?_
            refine tK (l := xk_261) rfl rfl (fun _ _ _ _ _ => rfl) ?_
            refine tIf_eq (l := xk_261) (pc' := 633) rfl rfl rfl (fun hc => ?_) (fun hc => ?_)
            · refine tK (l := xk_261) rfl rfl (fun _ _ _ _ _ => rfl) ?_
              exact hN ph2 _ _ _ _ _ _ k2 m2 (ho.setv (fun s hs => by cases hs; exact ⟨oks_one hy, (by decide : (1 : Nat) ≤ 24)⟩)) (by omega)
            · exact absurd (lc_rfl _) hc
          · exact absurd rfl hc
        · exact absurd rfl hc
      | some v =>
        have hv24 := (ho.2.1.1 n hn v hv).2
        have hokv := (ho.2.1.1 n hn v hv).1
        by_cases hf : v.length < 24
        · refine tK (l := xk_261) rfl rfl (fun _ _ _ _ _ => rfl) ?_
          refine tK (l := xk_261) rfl rfl (fun _ _ _ _ _ => rfl) ?_
          refine tK (l := xk_261) rfl rfl (fun _ _ _ _ _ => rfl) ?_
          refine tK (l := xk_261) rfl rfl (fun _ _ _ _ _ => rfl) ?_
          refine tK (l := xk_261) rfl rfl (hAdd ⟨by omega, by omega⟩) ?_
          refine tK (l := xk_261) rfl rfl (hSald hs (by omega) ha1) ?_
          refine tK (l := xk_261) rfl rfl (fun _ _ _ _ _ => rfl) ?_
          refine tK (l := xk_261) rfl rfl (fun _ _ _ _ _ => rfl) ?_
          refine tK (l := xk_261) rfl rfl (fun _ _ _ _ _ => rfl) ?_
          refine tK (l := xk_261) rfl rfl (hAdd ⟨by omega, by omega⟩) ?_
          refine tK (l := xk_261) rfl rfl (hSald hs (by omega) ha2) ?_
          refine tK (l := xk_261) rfl rfl (fun _ _ _ _ _ => rfl) ?_
          refine tCa (l := xk_261) rfl rfl (hInvS rfl rfl rfl rfl (Nat.le_of_ble_eq_true rfl) (Nat.le_of_ble_eq_true rfl)) ?_
          refine w238 k0 m0 (fun Q hq => c128 k0 hn hy hv hf hq) (fun ph1 k1 m1 e1 => ?_)
          refine tKv ?_
          refine tSt (l := xk_261) rfl rfl (fun _ _ _ _ _ => rfl) (Nat.le_of_ble_eq_true rfl) ?_
          refine tK (l := xk_261) rfl rfl (fun _ _ _ _ _ => rfl) ?_
          refine tK (l := xk_261) rfl rfl (fun _ _ _ _ _ => rfl) ?_
          refine tK (l := xk_261) rfl rfl (fun _ _ _ _ _ => rfl) ?_
          refine tK (l := xk_261) rfl rfl (fun _ _ _ _ _ => rfl) ?_
          refine tK (l := xk_261) rfl rfl (hAdd ⟨by omega, by omega⟩) ?_
          refine tK (l := xk_261) rfl rfl (hSald k1.1 (by omega) ha1) ?_
          refine tK (l := xk_261) rfl rfl (fun _ _ _ _ _ => rfl) ?_
          refine tK (l := xk_261) rfl rfl (fun _ _ _ _ _ => rfl) ?_
          refine tK (l := xk_261) rfl rfl (fun _ _ _ _ _ => rfl) ?_
          refine tK (l := xk_261) rfl rfl (hAdd ⟨by omega, by omega⟩) ?_
          refine tK (l := xk_261) rfl rfl (hSald k1.1 (by omega) ha2) ?_
          refine tCa (l := xk_261) rfl rfl (hInvV (c := 10) k1.1 rfl rfl rfl rfl rfl (Nat.le_of_ble_eq_true rfl) (Nat.le_of_ble_eq_true rfl)) ?_
          refine m163 m1 hn hy hv hf (fun ph2 m2 z2 f2 => ?_)
          refine tKv ?_
          have k2 := k1.fw m2.1 f2.fw moP_k
          have e2 := (f2.2.1 168 0).trans e1
          refine tSt (l := xk_261) rfl rfl (fun _ _ _ _ _ => rfl) (Nat.le_of_ble_eq_true rfl) ?_
          refine tK (l := xk_261) rfl rfl (fun _ _ _ _ _ => rfl) ?_
          refine tCa (l := xk_261) rfl rfl (hInvV (c := 10) m2.1 rfl rfl rfl rfl rfl (Nat.le_of_ble_eq_true rfl) (Nat.le_of_ble_eq_true rfl)) ?_
          refine m144 m2 ?_
          refine tKv ?_
          rw [z2]
          refine tK (l := xk_261) rfl rfl (fun _ _ _ _ _ => rfl) ?_
          refine tIc_eq (l := xk_261) (pc' := 616) rfl rfl rfl (fun hc => ?_) (fun hc => ?_)
          · refine tK (l := xk_261) rfl rfl (fun _ _ _ _ _ => rfl) ?_
            refine tIf_ne (l := xk_261) (pc' := 633) rfl rfl rfl (fun hc => ?_) (fun hc => ?_)
            · refine tK (l := xk_261) rfl rfl (fun _ _ _ _ _ => rfl) ?_
              refine tK (l := xk_261) rfl rfl (fun _ _ _ _ _ => rfl) ?_
              first | refine tK (l := xk_261) rfl rfl (hLaldN m2.1 rfl rfl (by omega)) ?_ | refine tK (l := xk_261) rfl rfl (hLald m2.1 rfl (by omega) (by omega)) ?_
              rw [e2]
              refine tK (l := xk_261) rfl rfl (fun _ _ _ _ _ => rfl) ?_
              refine tK (l := xk_261) rfl rfl (fun _ _ _ _ _ => rfl) ?_
              refine tK (l := xk_261) rfl rfl (fun _ _ _ _ _ => rfl) ?_
              refine tIf_eq (l := xk_261) (pc' := 633) rfl rfl rfl (fun hc => ?_) (fun hc => ?_)
              · refine tK (l := xk_261) rfl rfl (fun _ _ _ _ _ => rfl) ?_
                exact hN ph2 _ _ _ _ _ _ k2 m2 (ho.setv (fun s hs => by cases hs; exact ⟨oks_app hokv (by omega), by rw [List.length_append, List.length_singleton]; omega⟩)) (by omega)
              · exact absurd (lc_rfl _) hc
            · exact absurd rfl hc
          · exact absurd rfl hc
        · have hf : v.length = 24 := by omega
          refine tK (l := xk_261) rfl rfl (fun _ _ _ _ _ => rfl) ?_
          refine tK (l := xk_261) rfl rfl (fun _ _ _ _ _ => rfl) ?_
          refine tK (l := xk_261) rfl rfl (fun _ _ _ _ _ => rfl) ?_
          refine tK (l := xk_261) rfl rfl (fun _ _ _ _ _ => rfl) ?_
          refine tK (l := xk_261) rfl rfl (hAdd ⟨by omega, by omega⟩) ?_
          refine tK (l := xk_261) rfl rfl (hSald hs (by omega) ha1) ?_
          refine tK (l := xk_261) rfl rfl (fun _ _ _ _ _ => rfl) ?_
          refine tK (l := xk_261) rfl rfl (fun _ _ _ _ _ => rfl) ?_
          refine tK (l := xk_261) rfl rfl (fun _ _ _ _ _ => rfl) ?_
          refine tK (l := xk_261) rfl rfl (hAdd ⟨by omega, by omega⟩) ?_
          refine tK (l := xk_261) rfl rfl (hSald hs (by omega) ha2) ?_
          refine tK (l := xk_261) rfl rfl (fun _ _ _ _ _ => rfl) ?_
          refine tCa (l := xk_261) rfl rfl (hInvS rfl rfl rfl rfl (Nat.le_of_ble_eq_true rfl) (Nat.le_of_ble_eq_true rfl)) ?_
          refine w238_1 k0 m0 (fun Q hq => c128n k0 hn hy hv hf (hq ph k0 hFd.refl)) (fun ph1 k1 m1 => ?_)
          refine tKv ?_
          refine tSt (l := xk_261) rfl rfl (fun _ _ _ _ _ => rfl) (Nat.le_of_ble_eq_true rfl) ?_
          refine tK (l := xk_261) rfl rfl (fun _ _ _ _ _ => rfl) ?_
          refine tK (l := xk_261) rfl rfl (fun _ _ _ _ _ => rfl) ?_
          refine tK (l := xk_261) rfl rfl (fun _ _ _ _ _ => rfl) ?_
          refine tK (l := xk_261) rfl rfl (fun _ _ _ _ _ => rfl) ?_
          refine tK (l := xk_261) rfl rfl (hAdd ⟨by omega, by omega⟩) ?_
          refine tK (l := xk_261) rfl rfl (hSald k1.1 (by omega) ha1) ?_
          refine tK (l := xk_261) rfl rfl (fun _ _ _ _ _ => rfl) ?_
          refine tK (l := xk_261) rfl rfl (fun _ _ _ _ _ => rfl) ?_
          refine tK (l := xk_261) rfl rfl (fun _ _ _ _ _ => rfl) ?_
          refine tK (l := xk_261) rfl rfl (hAdd ⟨by omega, by omega⟩) ?_
          refine tK (l := xk_261) rfl rfl (hSald k1.1 (by omega) ha2) ?_
          refine tCa (l := xk_261) rfl rfl (hInvV (c := 10) k1.1 rfl rfl rfl rfl rfl (Nat.le_of_ble_eq_true rfl) (Nat.le_of_ble_eq_true rfl)) ?_
          refine m163n m1 hn hy hv hf (fun ph2 m2 z2 f2 => ?_)
          refine tKv ?_
          have k2 := k1.fw m2.1 f2.fw moP_k
          refine tSt (l := xk_261) rfl rfl (fun _ _ _ _ _ => rfl) (Nat.le_of_ble_eq_true rfl) ?_
          refine tK (l := xk_261) rfl rfl (fun _ _ _ _ _ => rfl) ?_
          refine tCa (l := xk_261) rfl rfl (hInvV (c := 10) m2.1 rfl rfl rfl rfl rfl (Nat.le_of_ble_eq_true rfl) (Nat.le_of_ble_eq_true rfl)) ?_
          refine m144 m2 ?_
          refine tKv ?_
          rw [z2]
          refine tK (l := xk_261) rfl rfl (fun _ _ _ _ _ => rfl) ?_
          refine tIc_eq (l := xk_261) (pc' := 616) rfl rfl rfl (fun hc => ?_) (fun hc => ?_)
          · refine tK (l := xk_261) rfl rfl (fun _ _ _ _ _ => rfl) ?_
            refine tIf_ne (l := xk_261) (pc' := 633) rfl rfl rfl (fun hc => ?_) (fun hc => ?_)
            · exact absurd hc (by decide)
            · refine tK (l := xk_261) rfl rfl (fun _ _ _ _ _ => rfl) ?_
              exact hN ph2 _ _ _ _ _ _ k2 m2 (ho.up) (by omega)
          · exact absurd rfl hc
    · refine tK (l := xk_261) rfl rfl (fun _ _ _ _ _ => rfl) ?_
      refine tK (l := xk_261) rfl rfl (fun _ _ _ _ _ => rfl) ?_
      refine tK (l := xk_261) rfl rfl (fun _ _ _ _ _ => rfl) ?_
      refine tK (l := xk_261) rfl rfl (fun _ _ _ _ _ => rfl) ?_
      refine tK (l := xk_261) rfl rfl (hAdd ⟨by omega, by omega⟩) ?_
      refine tK (l := xk_261) rfl rfl (hSald hs (by omega) ha1) ?_
      refine tK (l := xk_261) rfl rfl (fun _ _ _ _ _ => rfl) ?_
      refine tK (l := xk_261) rfl rfl (fun _ _ _ _ _ => rfl) ?_
      refine tK (l := xk_261) rfl rfl (fun _ _ _ _ _ => rfl) ?_
      refine tK (l := xk_261) rfl rfl (hAdd ⟨by omega, by omega⟩) ?_
      refine tK (l := xk_261) rfl rfl (hSald hs (by omega) ha2) ?_
      refine tK (l := xk_261) rfl rfl (fun _ _ _ _ _ => rfl) ?_
      refine tCa (l := xk_261) rfl rfl (hInvS rfl rfl rfl rfl (Nat.le_of_ble_eq_true rfl) (Nat.le_of_ble_eq_true rfl)) ?_
      refine w238_0 k0 m0 (fun Q hq => c128y k0 hn hy (hq ph k0 hFd.refl)) (fun ph1 k1 m1 => ?_)
      refine tKv ?_
      refine tSt (l := xk_261) rfl rfl (fun _ _ _ _ _ => rfl) (Nat.le_of_ble_eq_true rfl) ?_
      refine tK (l := xk_261) rfl rfl (fun _ _ _ _ _ => rfl) ?_
      refine tK (l := xk_261) rfl rfl (fun _ _ _ _ _ => rfl) ?_
      refine tK (l := xk_261) rfl rfl (fun _ _ _ _ _ => rfl) ?_
      refine tK (l := xk_261) rfl rfl (fun _ _ _ _ _ => rfl) ?_
      refine tK (l := xk_261) rfl rfl (hAdd ⟨by omega, by omega⟩) ?_
      refine tK (l := xk_261) rfl rfl (hSald k1.1 (by omega) ha1) ?_
      refine tK (l := xk_261) rfl rfl (fun _ _ _ _ _ => rfl) ?_
      refine tK (l := xk_261) rfl rfl (fun _ _ _ _ _ => rfl) ?_
      refine tK (l := xk_261) rfl rfl (fun _ _ _ _ _ => rfl) ?_
      refine tK (l := xk_261) rfl rfl (hAdd ⟨by omega, by omega⟩) ?_
      refine tK (l := xk_261) rfl rfl (hSald k1.1 (by omega) ha2) ?_
      refine tCa (l := xk_261) rfl rfl (hInvV (c := 10) k1.1 rfl rfl rfl rfl rfl (Nat.le_of_ble_eq_true rfl) (Nat.le_of_ble_eq_true rfl)) ?_
      refine m163y m1 hn hy (fun ph2 m2 z2 f2 => ?_)
      refine tKv ?_
      have k2 := k1.fw m2.1 f2.fw moP_k
      refine tSt (l := xk_261) rfl rfl (fun _ _ _ _ _ => rfl) (Nat.le_of_ble_eq_true rfl) ?_
      refine tK (l := xk_261) rfl rfl (fun _ _ _ _ _ => rfl) ?_
      refine tCa (l := xk_261) rfl rfl (hInvV (c := 10) m2.1 rfl rfl rfl rfl rfl (Nat.le_of_ble_eq_true rfl) (Nat.le_of_ble_eq_true rfl)) ?_
      refine m144 m2 ?_
      refine tKv ?_
      rw [z2]
      refine tK (l := xk_261) rfl rfl (fun _ _ _ _ _ => rfl) ?_
      refine tIc_eq (l := xk_261) (pc' := 616) rfl rfl rfl (fun hc => ?_) (fun hc => ?_)
      · refine tK (l := xk_261) rfl rfl (fun _ _ _ _ _ => rfl) ?_
        refine tIf_ne (l := xk_261) (pc' := 633) rfl rfl rfl (fun hc => ?_) (fun hc => ?_)
        · exact absurd hc (by decide)
        · refine tK (l := xk_261) rfl rfl (fun _ _ _ _ _ => rfl) ?_
          exact hN ph2 _ _ _ _ _ _ k2 m2 (ho.up) (by omega)
      · exact absurd rfl hc
  · refine tK (l := xk_261) rfl rfl (fun _ _ _ _ _ => rfl) ?_
    refine tK (l := xk_261) rfl rfl (fun _ _ _ _ _ => rfl) ?_
    refine tK (l := xk_261) rfl rfl (fun _ _ _ _ _ => rfl) ?_
    refine tK (l := xk_261) rfl rfl (fun _ _ _ _ _ => rfl) ?_
    refine tK (l := xk_261) rfl rfl (hAdd ⟨by omega, by omega⟩) ?_
    refine tK (l := xk_261) rfl rfl (hSald hs (by omega) ha1) ?_
    refine tK (l := xk_261) rfl rfl (fun _ _ _ _ _ => rfl) ?_
    refine tK (l := xk_261) rfl rfl (fun _ _ _ _ _ => rfl) ?_
    refine tK (l := xk_261) rfl rfl (fun _ _ _ _ _ => rfl) ?_
    refine tK (l := xk_261) rfl rfl (hAdd ⟨by omega, by omega⟩) ?_
    refine tK (l := xk_261) rfl rfl (hSald hs (by omega) ha2) ?_
    refine tK (l := xk_261) rfl rfl (fun _ _ _ _ _ => rfl) ?_
    refine tCa (l := xk_261) rfl rfl (hInvS rfl rfl rfl rfl (Nat.le_of_ble_eq_true rfl) (Nat.le_of_ble_eq_true rfl)) ?_
    refine w238_2 k0 m0 (fun Q hq => c128x k0 hx (hq ph k0 hFd.refl)) (fun ph1 k1 m1 => ?_)
    refine tKv ?_
    refine tSt (l := xk_261) rfl rfl (fun _ _ _ _ _ => rfl) (Nat.le_of_ble_eq_true rfl) ?_
    refine tK (l := xk_261) rfl rfl (fun _ _ _ _ _ => rfl) ?_
    refine tK (l := xk_261) rfl rfl (fun _ _ _ _ _ => rfl) ?_
    refine tK (l := xk_261) rfl rfl (fun _ _ _ _ _ => rfl) ?_
    refine tK (l := xk_261) rfl rfl (fun _ _ _ _ _ => rfl) ?_
    refine tK (l := xk_261) rfl rfl (hAdd ⟨by omega, by omega⟩) ?_
    refine tK (l := xk_261) rfl rfl (hSald k1.1 (by omega) ha1) ?_
    refine tK (l := xk_261) rfl rfl (fun _ _ _ _ _ => rfl) ?_
    refine tK (l := xk_261) rfl rfl (fun _ _ _ _ _ => rfl) ?_
    refine tK (l := xk_261) rfl rfl (fun _ _ _ _ _ => rfl) ?_
    refine tK (l := xk_261) rfl rfl (hAdd ⟨by omega, by omega⟩) ?_
    refine tK (l := xk_261) rfl rfl (hSald k1.1 (by omega) ha2) ?_
    refine tCa (l := xk_261) rfl rfl (hInvV (c := 10) k1.1 rfl rfl rfl rfl rfl (Nat.le_of_ble_eq_true rfl) (Nat.le_of_ble_eq_true rfl)) ?_
    refine m163x m1 hx (fun ph2 m2 z2 f2 => ?_)
    refine tKv ?_
    have k2 := k1.fw m2.1 f2.fw moP_k
    refine tSt (l := xk_261) rfl rfl (fun _ _ _ _ _ => rfl) (Nat.le_of_ble_eq_true rfl) ?_
    refine tK (l := xk_261) rfl rfl (fun _ _ _ _ _ => rfl) ?_
    refine tCa (l := xk_261) rfl rfl (hInvV (c := 10) m2.1 rfl rfl rfl rfl rfl (Nat.le_of_ble_eq_true rfl) (Nat.le_of_ble_eq_true rfl)) ?_
    refine m144 m2 ?_
    refine tKv ?_
    rw [z2]
    refine tK (l := xk_261) rfl rfl (fun _ _ _ _ _ => rfl) ?_
    refine tIc_eq (l := xk_261) (pc' := 616) rfl rfl rfl (fun hc => ?_) (fun hc => ?_)
    · refine tK (l := xk_261) rfl rfl (fun _ _ _ _ _ => rfl) ?_
      refine tIf_ne (l := xk_261) (pc' := 633) rfl rfl rfl (fun hc => ?_) (fun hc => ?_)
      · exact absurd hc (by decide)
      · refine tK (l := xk_261) rfl rfl (fun _ _ _ _ _ => rfl) ?_
        exact hN ph2 _ _ _ _ _ _ k2 m2 (ho.up) (by omega)
    · exact absurd rfl hc
set_option maxRecDepth 20000 in
theorem op_11 {zs : List xV} {ph : xH} {g d B i : Nat} {Q : xR → Prop} {c : KS} {x5 x6 x7 x8 : Option xV} (hz : zs.length ≤ 1536) (hi : i + 2 < zs.length) (k0 : hKl zs ph c) (m0 : hMm zs ph c) (ho : okKS B c) (hB : B ≤ 512) {a : Int} (ha1 : zs[((i : Int) + 1).toNat]? = some (.inl a)) (hN : ∀ (ph2 : xH) (c2 : KS) (g2 : Nat) (y5 y6 y7 y8 : Option xV), hKl zs ph2 c2 → hMm zs ph2 c2 → okKS (B + 1) c2 → g2 ≤ g + 1 → xT (d + 1240) 261 2033 (xlo [some (.inr (.inl (some 0))), some (.inr (.inl (some 1))), some (.inr (.inl (some 147))), some (.inr (.inl (some 168))), some (.inl (i : Int)), y5, y6, y7, y8]) [] ph2 g2 Q) : xT (d + 1240) 261 636 (xlo [some (.inr (.inl (some 0))), some (.inr (.inl (some 1))), some (.inr (.inl (some 147))), some (.inr (.inl (some 168))), some (.inl (i : Int)), x5, x6, x7, x8]) [] ph g Q := by
  have hs := k0.1
  have hz168 := hK168.2
  by_cases hx : 0 ≤ a ∧ a < 8
  · obtain ⟨n, rfl⟩ : ∃ k : Nat, a = (k : Int) := ⟨a.toNat, by omega⟩
    have hn : n < 8 := by omega
    cases hv : c.2.1.1 n with
    | none =>
      refine tK (l := xk_261) rfl rfl (fun _ _ _ _ _ => rfl) ?_
      refine tK (l := xk_261) rfl rfl (fun _ _ _ _ _ => rfl) ?_
      refine tK (l := xk_261) rfl rfl (fun _ _ _ _ _ => rfl) ?_
      refine tK (l := xk_261) rfl rfl (fun _ _ _ _ _ => rfl) ?_
      refine tK (l := xk_261) rfl rfl (hAdd ⟨by omega, by omega⟩) ?_
      refine tK (l := xk_261) rfl rfl (hSald hs (by omega) ha1) ?_
      refine tK (l := xk_261) rfl rfl (fun _ _ _ _ _ => rfl) ?_
      refine tCa (l := xk_261) rfl rfl (hInvS rfl rfl rfl rfl (Nat.le_of_ble_eq_true rfl) (Nat.le_of_ble_eq_true rfl)) ?_
      refine w239_1 k0 m0 (fun Q hq => c129n k0 hn hv (hq ph k0 hFd.refl)) (fun ph1 k1 m1 => ?_)
      refine tKv ?_
      refine tSt (l := xk_261) rfl rfl (fun _ _ _ _ _ => rfl) (Nat.le_of_ble_eq_true rfl) ?_
      refine tK (l := xk_261) rfl rfl (fun _ _ _ _ _ => rfl) ?_
      refine tK (l := xk_261) rfl rfl (fun _ _ _ _ _ => rfl) ?_
      refine tK (l := xk_261) rfl rfl (fun _ _ _ _ _ => rfl) ?_
      refine tK (l := xk_261) rfl rfl (fun _ _ _ _ _ => rfl) ?_
      refine tK (l := xk_261) rfl rfl (hAdd ⟨by omega, by omega⟩) ?_
      refine tK (l := xk_261) rfl rfl (hSald k1.1 (by omega) ha1) ?_
      refine tCa (l := xk_261) rfl rfl (hInvV (c := 10) k1.1 rfl rfl rfl rfl rfl (Nat.le_of_ble_eq_true rfl) (Nat.le_of_ble_eq_true rfl)) ?_
      refine m168n m1 hn hv (fun ph2 m2 z2 f2 => ?_)
      refine tKv ?_
      have k2 := k1.fw m2.1 f2.fw moP_k
      refine tSt (l := xk_261) rfl rfl (fun _ _ _ _ _ => rfl) (Nat.le_of_ble_eq_true rfl) ?_
      refine tK (l := xk_261) rfl rfl (fun _ _ _ _ _ => rfl) ?_
      refine tCa (l := xk_261) rfl rfl (hInvV (c := 10) m2.1 rfl rfl rfl rfl rfl (Nat.le_of_ble_eq_true rfl) (Nat.le_of_ble_eq_true rfl)) ?_
      refine m144 m2 ?_
      refine tKv ?_
      rw [z2]
      refine tK (l := xk_261) rfl rfl (fun _ _ _ _ _ => rfl) ?_
      refine tIc_eq (l := xk_261) (pc' := 672) rfl rfl rfl (fun hc => ?_) (fun hc => ?_)
      · refine tK (l := xk_261) rfl rfl (fun _ _ _ _ _ => rfl) ?_
        refine tIf_ne (l := xk_261) (pc' := 689) rfl rfl rfl (fun hc => ?_) (fun hc => ?_)
        · exact absurd hc (by decide)
        · refine tK (l := xk_261) rfl rfl (fun _ _ _ _ _ => rfl) ?_
          exact hN ph2 _ _ _ _ _ _ k2 m2 (ho.up) (by omega)
      · exact absurd rfl hc
    | some v =>
      have hv24 := (ho.2.1.1 n hn v hv).2
      have hokv := (ho.2.1.1 n hn v hv).1
      refine tK (l := xk_261) rfl rfl (fun _ _ _ _ _ => rfl) ?_
      refine tK (l := xk_261) rfl rfl (fun _ _ _ _ _ => rfl) ?_
      refine tK (l := xk_261) rfl rfl (fun _ _ _ _ _ => rfl) ?_
      refine tK (l := xk_261) rfl rfl (fun _ _ _ _ _ => rfl) ?_
      refine tK (l := xk_261) rfl rfl (hAdd ⟨by omega, by omega⟩) ?_
      refine tK (l := xk_261) rfl rfl (hSald hs (by omega) ha1) ?_
      refine tK (l := xk_261) rfl rfl (fun _ _ _ _ _ => rfl) ?_
      refine tCa (l := xk_261) rfl rfl (hInvS rfl rfl rfl rfl (Nat.le_of_ble_eq_true rfl) (Nat.le_of_ble_eq_true rfl)) ?_
      refine w239 k0 m0 (fun Q hq => c129 k0 hn hv hq) (fun ph1 k1 m1 e1 => ?_)
      refine tKv ?_
      refine tSt (l := xk_261) rfl rfl (fun _ _ _ _ _ => rfl) (Nat.le_of_ble_eq_true rfl) ?_
      refine tK (l := xk_261) rfl rfl (fun _ _ _ _ _ => rfl) ?_
      refine tK (l := xk_261) rfl rfl (fun _ _ _ _ _ => rfl) ?_
      refine tK (l := xk_261) rfl rfl (fun _ _ _ _ _ => rfl) ?_
      refine tK (l := xk_261) rfl rfl (fun _ _ _ _ _ => rfl) ?_
      refine tK (l := xk_261) rfl rfl (hAdd ⟨by omega, by omega⟩) ?_
      refine tK (l := xk_261) rfl rfl (hSald k1.1 (by omega) ha1) ?_
      refine tCa (l := xk_261) rfl rfl (hInvV (c := 10) k1.1 rfl rfl rfl rfl rfl (Nat.le_of_ble_eq_true rfl) (Nat.le_of_ble_eq_true rfl)) ?_
      refine m168 m1 hn hv (fun ph2 m2 z2 f2 => ?_)
      refine tKv ?_
      have k2 := k1.fw m2.1 f2.fw moP_k
      have e2 := (f2.2.1 168 0).trans e1
      refine tSt (l := xk_261) rfl rfl (fun _ _ _ _ _ => rfl) (Nat.le_of_ble_eq_true rfl) ?_
      refine tK (l := xk_261) rfl rfl (fun _ _ _ _ _ => rfl) ?_
      refine tCa (l := xk_261) rfl rfl (hInvV (c := 10) m2.1 rfl rfl rfl rfl rfl (Nat.le_of_ble_eq_true rfl) (Nat.le_of_ble_eq_true rfl)) ?_
      refine m144 m2 ?_
      refine tKv ?_
      rw [z2]
      refine tK (l := xk_261) rfl rfl (fun _ _ _ _ _ => rfl) ?_
      refine tIc_eq (l := xk_261) (pc' := 672) rfl rfl rfl (fun hc => ?_) (fun hc => ?_)
      · refine tK (l := xk_261) rfl rfl (fun _ _ _ _ _ => rfl) ?_
        refine tIf_ne (l := xk_261) (pc' := 689) rfl rfl rfl (fun hc => ?_) (fun hc => ?_)
        · refine tK (l := xk_261) rfl rfl (fun _ _ _ _ _ => rfl) ?_
          refine tK (l := xk_261) rfl rfl (fun _ _ _ _ _ => rfl) ?_
          first | refine tK (l := xk_261) rfl rfl (hLaldN m2.1 rfl rfl (by omega)) ?_ | refine tK (l := xk_261) rfl rfl (hLald m2.1 rfl (by omega) (by omega)) ?_
          rw [e2]
          refine tK (l := xk_261) rfl rfl (fun _ _ _ _ _ => rfl) ?_
          refine tK (l := xk_261) rfl rfl (fun _ _ _ _ _ => rfl) ?_
          refine tK (l := xk_261) rfl rfl (fun _ _ _ _ _ => rfl) ?_
          refine tIf_eq (l := xk_261) (pc' := 689) rfl rfl rfl (fun hc => ?_) (fun hc => ?_)
          · refine tK (l := xk_261) rfl rfl (fun _ _ _ _ _ => rfl) ?_
            exact hN ph2 _ _ _ _ _ _ k2 m2 (ho.setv (fun s hs => by cases hs)) (by omega)
          · exact absurd (lc_rfl _) hc
        · exact absurd rfl hc
      · exact absurd rfl hc
  · refine tK (l := xk_261) rfl rfl (fun _ _ _ _ _ => rfl) ?_
    refine tK (l := xk_261) rfl rfl (fun _ _ _ _ _ => rfl) ?_
    refine tK (l := xk_261) rfl rfl (fun _ _ _ _ _ => rfl) ?_
    refine tK (l := xk_261) rfl rfl (fun _ _ _ _ _ => rfl) ?_
    refine tK (l := xk_261) rfl rfl (hAdd ⟨by omega, by omega⟩) ?_
    refine tK (l := xk_261) rfl rfl (hSald hs (by omega) ha1) ?_
    refine tK (l := xk_261) rfl rfl (fun _ _ _ _ _ => rfl) ?_
    refine tCa (l := xk_261) rfl rfl (hInvS rfl rfl rfl rfl (Nat.le_of_ble_eq_true rfl) (Nat.le_of_ble_eq_true rfl)) ?_
    refine w239_2 k0 m0 (fun Q hq => c129x hx k0.1 (hq ph k0 hFd.refl)) (fun ph1 k1 m1 => ?_)
    refine tKv ?_
    refine tSt (l := xk_261) rfl rfl (fun _ _ _ _ _ => rfl) (Nat.le_of_ble_eq_true rfl) ?_
    refine tK (l := xk_261) rfl rfl (fun _ _ _ _ _ => rfl) ?_
    refine tK (l := xk_261) rfl rfl (fun _ _ _ _ _ => rfl) ?_
    refine tK (l := xk_261) rfl rfl (fun _ _ _ _ _ => rfl) ?_
    refine tK (l := xk_261) rfl rfl (fun _ _ _ _ _ => rfl) ?_
    refine tK (l := xk_261) rfl rfl (hAdd ⟨by omega, by omega⟩) ?_
    refine tK (l := xk_261) rfl rfl (hSald k1.1 (by omega) ha1) ?_
    refine tCa (l := xk_261) rfl rfl (hInvV (c := 10) k1.1 rfl rfl rfl rfl rfl (Nat.le_of_ble_eq_true rfl) (Nat.le_of_ble_eq_true rfl)) ?_
    refine m168x m1 hx (fun ph2 m2 z2 f2 => ?_)
    refine tKv ?_
    have k2 := k1.fw m2.1 f2.fw moP_k
    refine tSt (l := xk_261) rfl rfl (fun _ _ _ _ _ => rfl) (Nat.le_of_ble_eq_true rfl) ?_
    refine tK (l := xk_261) rfl rfl (fun _ _ _ _ _ => rfl) ?_
    refine tCa (l := xk_261) rfl rfl (hInvV (c := 10) m2.1 rfl rfl rfl rfl rfl (Nat.le_of_ble_eq_true rfl) (Nat.le_of_ble_eq_true rfl)) ?_
    refine m144 m2 ?_
    refine tKv ?_
    rw [z2]
    refine tK (l := xk_261) rfl rfl (fun _ _ _ _ _ => rfl) ?_
    refine tIc_eq (l := xk_261) (pc' := 672) rfl rfl rfl (fun hc => ?_) (fun hc => ?_)
    · refine tK (l := xk_261) rfl rfl (fun _ _ _ _ _ => rfl) ?_
      refine tIf_ne (l := xk_261) (pc' := 689) rfl rfl rfl (fun hc => ?_) (fun hc => ?_)
      · exact absurd hc (by decide)
      · refine tK (l := xk_261) rfl rfl (fun _ _ _ _ _ => rfl) ?_
        exact hN ph2 _ _ _ _ _ _ k2 m2 (ho.up) (by omega)
    · exact absurd rfl hc
set_option maxRecDepth 20000 in
theorem op_12 {zs : List xV} {ph : xH} {g d B i : Nat} {Q : xR → Prop} {c : KS} {x5 x6 x7 x8 : Option xV} (hz : zs.length ≤ 1536) (hi : i + 2 < zs.length) (k0 : hKl zs ph c) (m0 : hMm zs ph c) (ho : okKS B c) (hB : B ≤ 512) {a : Int} (ha1 : zs[((i : Int) + 1).toNat]? = some (.inl a)) (hN : ∀ (ph2 : xH) (c2 : KS) (g2 : Nat) (y5 y6 y7 y8 : Option xV), hKl zs ph2 c2 → hMm zs ph2 c2 → okKS (B + 1) c2 → g2 ≤ g + 1 → xT (d + 1240) 261 2033 (xlo [some (.inr (.inl (some 0))), some (.inr (.inl (some 1))), some (.inr (.inl (some 147))), some (.inr (.inl (some 168))), some (.inl (i : Int)), y5, y6, y7, y8]) [] ph2 g2 Q) : xT (d + 1240) 261 692 (xlo [some (.inr (.inl (some 0))), some (.inr (.inl (some 1))), some (.inr (.inl (some 147))), some (.inr (.inl (some 168))), some (.inl (i : Int)), x5, x6, x7, x8]) [] ph g Q := by
  have hs := k0.1
  have hz168 := hK168.2
  by_cases hx : 0 ≤ a ∧ a < 8
  · obtain ⟨n, rfl⟩ : ∃ k : Nat, a = (k : Int) := ⟨a.toNat, by omega⟩
    have hn : n < 8 := by omega
    cases hv : c.2.1.1 n with
    | none =>
      refine tK (l := xk_261) rfl rfl (fun _ _ _ _ _ => rfl) ?_
      refine tK (l := xk_261) rfl rfl (fun _ _ _ _ _ => rfl) ?_
      refine tK (l := xk_261) rfl rfl (fun _ _ _ _ _ => rfl) ?_
      refine tK (l := xk_261) rfl rfl (fun _ _ _ _ _ => rfl) ?_
      refine tK (l := xk_261) rfl rfl (hAdd ⟨by omega, by omega⟩) ?_
      refine tK (l := xk_261) rfl rfl (hSald hs (by omega) ha1) ?_
      refine tK (l := xk_261) rfl rfl (fun _ _ _ _ _ => rfl) ?_
      refine tCa (l := xk_261) rfl rfl (hInvS rfl rfl rfl rfl (Nat.le_of_ble_eq_true rfl) (Nat.le_of_ble_eq_true rfl)) ?_
      refine w240 (v := 0) (c' := ndo c (setV c.2.1 n (some []))) k0 m0 (fun Q hq => c130 k0 hn (fun ph2 k f => by rw [hv]; exact hq ph2 k f)) (fun ph1 k1 m1 e1 => ?_)
      refine tKv ?_
      refine tSt (l := xk_261) rfl rfl (fun _ _ _ _ _ => rfl) (Nat.le_of_ble_eq_true rfl) ?_
      refine tK (l := xk_261) rfl rfl (fun _ _ _ _ _ => rfl) ?_
      refine tK (l := xk_261) rfl rfl (fun _ _ _ _ _ => rfl) ?_
      refine tK (l := xk_261) rfl rfl (fun _ _ _ _ _ => rfl) ?_
      refine tK (l := xk_261) rfl rfl (fun _ _ _ _ _ => rfl) ?_
      refine tK (l := xk_261) rfl rfl (hAdd ⟨by omega, by omega⟩) ?_
      refine tK (l := xk_261) rfl rfl (hSald k1.1 (by omega) ha1) ?_
      refine tCa (l := xk_261) rfl rfl (hInvV (c := 10) k1.1 rfl rfl rfl rfl rfl (Nat.le_of_ble_eq_true rfl) (Nat.le_of_ble_eq_true rfl)) ?_
      refine m170e m1 hn hv (fun ph2 m2 z2 f2 => ?_)
      refine tKv ?_
      have k2 := k1.fw m2.1 f2.fw moP_k
      have e2 := (f2.2.1 168 0).trans e1
      refine tSt (l := xk_261) rfl rfl (fun _ _ _ _ _ => rfl) (Nat.le_of_ble_eq_true rfl) ?_
      refine tK (l := xk_261) rfl rfl (fun _ _ _ _ _ => rfl) ?_
      refine tCa (l := xk_261) rfl rfl (hInvV (c := 10) m2.1 rfl rfl rfl rfl rfl (Nat.le_of_ble_eq_true rfl) (Nat.le_of_ble_eq_true rfl)) ?_
      refine m144 m2 ?_
      refine tKv ?_
      rw [z2]
      refine tK (l := xk_261) rfl rfl (fun _ _ _ _ _ => rfl) ?_
      refine tIc_eq (l := xk_261) (pc' := 728) rfl rfl rfl (fun hc => ?_) (fun hc => ?_)
      · refine tK (l := xk_261) rfl rfl (fun _ _ _ _ _ => rfl) ?_
        refine tIf_ne (l := xk_261) (pc' := 745) rfl rfl rfl (fun hc => ?_) (fun hc => ?_)
        · refine tK (l := xk_261) rfl rfl (fun _ _ _ _ _ => rfl) ?_
          refine tK (l := xk_261) rfl rfl (fun _ _ _ _ _ => rfl) ?_
          first | refine tK (l := xk_261) rfl rfl (hLaldN m2.1 rfl rfl (by omega)) ?_ | refine tK (l := xk_261) rfl rfl (hLald m2.1 rfl (by omega) (by omega)) ?_
          rw [e2]
          refine tK (l := xk_261) rfl rfl (fun _ _ _ _ _ => rfl) ?_
          refine tK (l := xk_261) rfl rfl (fun _ _ _ _ _ => rfl) ?_
          refine tK (l := xk_261) rfl rfl (fun _ _ _ _ _ => rfl) ?_
          refine tIf_eq (l := xk_261) (pc' := 745) rfl rfl rfl (fun hc => ?_) (fun hc => ?_)
          · refine tK (l := xk_261) rfl rfl (fun _ _ _ _ _ => rfl) ?_
            exact hN ph2 _ _ _ _ _ _ k2 m2 (ho.setv (fun s hs => by cases hs; exact ⟨fun x hx => (by simp at hx), Nat.zero_le 24⟩)) (by omega)
          · exact absurd (lc_rfl _) hc
        · exact absurd rfl hc
      · exact absurd rfl hc
    | some v =>
      refine tK (l := xk_261) rfl rfl (fun _ _ _ _ _ => rfl) ?_
      refine tK (l := xk_261) rfl rfl (fun _ _ _ _ _ => rfl) ?_
      refine tK (l := xk_261) rfl rfl (fun _ _ _ _ _ => rfl) ?_
      refine tK (l := xk_261) rfl rfl (fun _ _ _ _ _ => rfl) ?_
      refine tK (l := xk_261) rfl rfl (hAdd ⟨by omega, by omega⟩) ?_
      refine tK (l := xk_261) rfl rfl (hSald hs (by omega) ha1) ?_
      refine tK (l := xk_261) rfl rfl (fun _ _ _ _ _ => rfl) ?_
      refine tCa (l := xk_261) rfl rfl (hInvS rfl rfl rfl rfl (Nat.le_of_ble_eq_true rfl) (Nat.le_of_ble_eq_true rfl)) ?_
      refine w240 (v := (v.length : Int)) (c' := ndo c (setV c.2.1 n (some []))) k0 m0 (fun Q hq => c130 k0 hn (fun ph2 k f => by rw [hv]; exact hq ph2 k f)) (fun ph1 k1 m1 e1 => ?_)
      refine tKv ?_
      refine tSt (l := xk_261) rfl rfl (fun _ _ _ _ _ => rfl) (Nat.le_of_ble_eq_true rfl) ?_
      refine tK (l := xk_261) rfl rfl (fun _ _ _ _ _ => rfl) ?_
      refine tK (l := xk_261) rfl rfl (fun _ _ _ _ _ => rfl) ?_
      refine tK (l := xk_261) rfl rfl (fun _ _ _ _ _ => rfl) ?_
      refine tK (l := xk_261) rfl rfl (fun _ _ _ _ _ => rfl) ?_
      refine tK (l := xk_261) rfl rfl (hAdd ⟨by omega, by omega⟩) ?_
      refine tK (l := xk_261) rfl rfl (hSald k1.1 (by omega) ha1) ?_
      refine tCa (l := xk_261) rfl rfl (hInvV (c := 10) k1.1 rfl rfl rfl rfl rfl (Nat.le_of_ble_eq_true rfl) (Nat.le_of_ble_eq_true rfl)) ?_
      refine m170 m1 hn hv (fun ph2 m2 z2 f2 => ?_)
      refine tKv ?_
      have k2 := k1.fw m2.1 f2.fw moP_k
      have e2 := (f2.2.1 168 0).trans e1
      refine tSt (l := xk_261) rfl rfl (fun _ _ _ _ _ => rfl) (Nat.le_of_ble_eq_true rfl) ?_
      refine tK (l := xk_261) rfl rfl (fun _ _ _ _ _ => rfl) ?_
      refine tCa (l := xk_261) rfl rfl (hInvV (c := 10) m2.1 rfl rfl rfl rfl rfl (Nat.le_of_ble_eq_true rfl) (Nat.le_of_ble_eq_true rfl)) ?_
      refine m144 m2 ?_
      refine tKv ?_
      rw [z2]
      refine tK (l := xk_261) rfl rfl (fun _ _ _ _ _ => rfl) ?_
      refine tIc_eq (l := xk_261) (pc' := 728) rfl rfl rfl (fun hc => ?_) (fun hc => ?_)
      · refine tK (l := xk_261) rfl rfl (fun _ _ _ _ _ => rfl) ?_
        refine tIf_ne (l := xk_261) (pc' := 745) rfl rfl rfl (fun hc => ?_) (fun hc => ?_)
        · refine tK (l := xk_261) rfl rfl (fun _ _ _ _ _ => rfl) ?_
          refine tK (l := xk_261) rfl rfl (fun _ _ _ _ _ => rfl) ?_
          first | refine tK (l := xk_261) rfl rfl (hLaldN m2.1 rfl rfl (by omega)) ?_ | refine tK (l := xk_261) rfl rfl (hLald m2.1 rfl (by omega) (by omega)) ?_
          rw [e2]
          refine tK (l := xk_261) rfl rfl (fun _ _ _ _ _ => rfl) ?_
          refine tK (l := xk_261) rfl rfl (fun _ _ _ _ _ => rfl) ?_
          refine tK (l := xk_261) rfl rfl (fun _ _ _ _ _ => rfl) ?_
          refine tIf_eq (l := xk_261) (pc' := 745) rfl rfl rfl (fun hc => ?_) (fun hc => ?_)
          · refine tK (l := xk_261) rfl rfl (fun _ _ _ _ _ => rfl) ?_
            exact hN ph2 _ _ _ _ _ _ k2 m2 (ho.setv (fun s hs => by cases hs; exact ⟨fun x hx => (by simp at hx), Nat.zero_le 24⟩)) (by omega)
          · exact absurd (lc_rfl _) hc
        · exact absurd rfl hc
      · exact absurd rfl hc
  · refine tK (l := xk_261) rfl rfl (fun _ _ _ _ _ => rfl) ?_
    refine tK (l := xk_261) rfl rfl (fun _ _ _ _ _ => rfl) ?_
    refine tK (l := xk_261) rfl rfl (fun _ _ _ _ _ => rfl) ?_
    refine tK (l := xk_261) rfl rfl (fun _ _ _ _ _ => rfl) ?_
    refine tK (l := xk_261) rfl rfl (hAdd ⟨by omega, by omega⟩) ?_
    refine tK (l := xk_261) rfl rfl (hSald hs (by omega) ha1) ?_
    refine tK (l := xk_261) rfl rfl (fun _ _ _ _ _ => rfl) ?_
    refine tCa (l := xk_261) rfl rfl (hInvS rfl rfl rfl rfl (Nat.le_of_ble_eq_true rfl) (Nat.le_of_ble_eq_true rfl)) ?_
    refine w240_2 k0 m0 (fun Q hq => c130x k0 hx (hq ph k0 hFd.refl)) (fun ph1 k1 m1 => ?_)
    refine tKv ?_
    refine tSt (l := xk_261) rfl rfl (fun _ _ _ _ _ => rfl) (Nat.le_of_ble_eq_true rfl) ?_
    refine tK (l := xk_261) rfl rfl (fun _ _ _ _ _ => rfl) ?_
    refine tK (l := xk_261) rfl rfl (fun _ _ _ _ _ => rfl) ?_
    refine tK (l := xk_261) rfl rfl (fun _ _ _ _ _ => rfl) ?_
    refine tK (l := xk_261) rfl rfl (fun _ _ _ _ _ => rfl) ?_
    refine tK (l := xk_261) rfl rfl (hAdd ⟨by omega, by omega⟩) ?_
    refine tK (l := xk_261) rfl rfl (hSald k1.1 (by omega) ha1) ?_
    refine tCa (l := xk_261) rfl rfl (hInvV (c := 10) k1.1 rfl rfl rfl rfl rfl (Nat.le_of_ble_eq_true rfl) (Nat.le_of_ble_eq_true rfl)) ?_
    refine m170x m1 hx (fun ph2 m2 z2 f2 => ?_)
    refine tKv ?_
    have k2 := k1.fw m2.1 f2.fw moP_k
    refine tSt (l := xk_261) rfl rfl (fun _ _ _ _ _ => rfl) (Nat.le_of_ble_eq_true rfl) ?_
    refine tK (l := xk_261) rfl rfl (fun _ _ _ _ _ => rfl) ?_
    refine tCa (l := xk_261) rfl rfl (hInvV (c := 10) m2.1 rfl rfl rfl rfl rfl (Nat.le_of_ble_eq_true rfl) (Nat.le_of_ble_eq_true rfl)) ?_
    refine m144 m2 ?_
    refine tKv ?_
    rw [z2]
    refine tK (l := xk_261) rfl rfl (fun _ _ _ _ _ => rfl) ?_
    refine tIc_eq (l := xk_261) (pc' := 728) rfl rfl rfl (fun hc => ?_) (fun hc => ?_)
    · refine tK (l := xk_261) rfl rfl (fun _ _ _ _ _ => rfl) ?_
      refine tIf_ne (l := xk_261) (pc' := 745) rfl rfl rfl (fun hc => ?_) (fun hc => ?_)
      · exact absurd hc (by decide)
      · refine tK (l := xk_261) rfl rfl (fun _ _ _ _ _ => rfl) ?_
        exact hN ph2 _ _ _ _ _ _ k2 m2 (ho.up) (by omega)
    · exact absurd rfl hc
set_option maxRecDepth 20000 in
theorem op_13 {zs : List xV} {ph : xH} {g d B i : Nat} {Q : xR → Prop} {c : KS} {x5 x6 x7 x8 : Option xV} (hz : zs.length ≤ 1536) (hi : i + 2 < zs.length) (k0 : hKl zs ph c) (m0 : hMm zs ph c) (ho : okKS B c) (hB : B ≤ 512) {a : Int} (ha1 : zs[((i : Int) + 1).toNat]? = some (.inl a)) {b : Int} (ha2 : zs[((i : Int) + 2).toNat]? = some (.inl b)) (hN : ∀ (ph2 : xH) (c2 : KS) (g2 : Nat) (y5 y6 y7 y8 : Option xV), hKl zs ph2 c2 → hMm zs ph2 c2 → okKS (B + 1) c2 → g2 ≤ g + 1 → xT (d + 1240) 261 2033 (xlo [some (.inr (.inl (some 0))), some (.inr (.inl (some 1))), some (.inr (.inl (some 147))), some (.inr (.inl (some 168))), some (.inl (i : Int)), y5, y6, y7, y8]) [] ph2 g2 Q) : xT (d + 1240) 261 748 (xlo [some (.inr (.inl (some 0))), some (.inr (.inl (some 1))), some (.inr (.inl (some 147))), some (.inr (.inl (some 168))), some (.inl (i : Int)), x5, x6, x7, x8]) [] ph g Q := by
  have hs := k0.1
  have hz168 := hK168.2
  by_cases hx : 0 ≤ a ∧ a < 8
  · obtain ⟨n, rfl⟩ : ∃ k : Nat, a = (k : Int) := ⟨a.toNat, by omega⟩
    have hn : n < 8 := by omega
    by_cases hy : 0 ≤ b ∧ b < 8
    · obtain ⟨q, rfl⟩ : ∃ k : Nat, b = (k : Int) := ⟨b.toNat, by omega⟩
      have hq8 : q < 8 := by omega
      cases hv : c.2.1.1 q with
      | none =>
        refine tK (l := xk_261) rfl rfl (fun _ _ _ _ _ => rfl) ?_
        refine tK (l := xk_261) rfl rfl (fun _ _ _ _ _ => rfl) ?_
        refine tK (l := xk_261) rfl rfl (fun _ _ _ _ _ => rfl) ?_
        refine tK (l := xk_261) rfl rfl (fun _ _ _ _ _ => rfl) ?_
        refine tK (l := xk_261) rfl rfl (hAdd ⟨by omega, by omega⟩) ?_
        refine tK (l := xk_261) rfl rfl (hSald hs (by omega) ha1) ?_
        refine tK (l := xk_261) rfl rfl (fun _ _ _ _ _ => rfl) ?_
        refine tK (l := xk_261) rfl rfl (fun _ _ _ _ _ => rfl) ?_
        refine tK (l := xk_261) rfl rfl (fun _ _ _ _ _ => rfl) ?_
        refine tK (l := xk_261) rfl rfl (hAdd ⟨by omega, by omega⟩) ?_
        refine tK (l := xk_261) rfl rfl (hSald hs (by omega) ha2) ?_
        refine tK (l := xk_261) rfl rfl (fun _ _ _ _ _ => rfl) ?_
        refine tCa (l := xk_261) rfl rfl (hInvS rfl rfl rfl rfl (Nat.le_of_ble_eq_true rfl) (Nat.le_of_ble_eq_true rfl)) ?_
        refine w241_1 k0 m0 (fun Q hq => c131n k0 hn hq8 hv (hq ph k0 hFd.refl)) (fun ph1 k1 m1 => ?_)
        refine tKv ?_
        refine tSt (l := xk_261) rfl rfl (fun _ _ _ _ _ => rfl) (Nat.le_of_ble_eq_true rfl) ?_
        refine tK (l := xk_261) rfl rfl (fun _ _ _ _ _ => rfl) ?_
        refine tK (l := xk_261) rfl rfl (fun _ _ _ _ _ => rfl) ?_
        refine tK (l := xk_261) rfl rfl (fun _ _ _ _ _ => rfl) ?_
        refine tK (l := xk_261) rfl rfl (fun _ _ _ _ _ => rfl) ?_
        refine tK (l := xk_261) rfl rfl (hAdd ⟨by omega, by omega⟩) ?_
        refine tK (l := xk_261) rfl rfl (hSald k1.1 (by omega) ha1) ?_
        refine tK (l := xk_261) rfl rfl (fun _ _ _ _ _ => rfl) ?_
        refine tK (l := xk_261) rfl rfl (fun _ _ _ _ _ => rfl) ?_
        refine tK (l := xk_261) rfl rfl (fun _ _ _ _ _ => rfl) ?_
        refine tK (l := xk_261) rfl rfl (hAdd ⟨by omega, by omega⟩) ?_
        refine tK (l := xk_261) rfl rfl (hSald k1.1 (by omega) ha2) ?_
        refine tCa (l := xk_261) rfl rfl (hInvV (c := 10) k1.1 rfl rfl rfl rfl rfl (Nat.le_of_ble_eq_true rfl) (Nat.le_of_ble_eq_true rfl)) ?_
        refine m171n m1 hn hq8 hv (fun ph2 m2 z2 f2 => ?_)
        refine tKv ?_
        have k2 := k1.fw m2.1 f2.fw moP_k
        refine tSt (l := xk_261) rfl rfl (fun _ _ _ _ _ => rfl) (Nat.le_of_ble_eq_true rfl) ?_
        refine tK (l := xk_261) rfl rfl (fun _ _ _ _ _ => rfl) ?_
        refine tCa (l := xk_261) rfl rfl (hInvV (c := 10) m2.1 rfl rfl rfl rfl rfl (Nat.le_of_ble_eq_true rfl) (Nat.le_of_ble_eq_true rfl)) ?_
        refine m144 m2 ?_
        refine tKv ?_
        rw [z2]
        refine tK (l := xk_261) rfl rfl (fun _ _ _ _ _ => rfl) ?_
        refine tIc_eq (l := xk_261) (pc' := 796) rfl rfl rfl (fun hc => ?_) (fun hc => ?_)
        · refine tK (l := xk_261) rfl rfl (fun _ _ _ _ _ => rfl) ?_
          refine tIf_ne (l := xk_261) (pc' := 813) rfl rfl rfl (fun hc => ?_) (fun hc => ?_)
          · exact absurd hc (by decide)
          · refine tK (l := xk_261) rfl rfl (fun _ _ _ _ _ => rfl) ?_
            exact hN ph2 _ _ _ _ _ _ k2 m2 (ho.up) (by omega)
        · exact absurd rfl hc
      | some v =>
        refine tK (l := xk_261) rfl rfl (fun _ _ _ _ _ => rfl) ?_
        refine tK (l := xk_261) rfl rfl (fun _ _ _ _ _ => rfl) ?_
        refine tK (l := xk_261) rfl rfl (fun _ _ _ _ _ => rfl) ?_
        refine tK (l := xk_261) rfl rfl (fun _ _ _ _ _ => rfl) ?_
        refine tK (l := xk_261) rfl rfl (hAdd ⟨by omega, by omega⟩) ?_
        refine tK (l := xk_261) rfl rfl (hSald hs (by omega) ha1) ?_
        refine tK (l := xk_261) rfl rfl (fun _ _ _ _ _ => rfl) ?_
        refine tK (l := xk_261) rfl rfl (fun _ _ _ _ _ => rfl) ?_
        refine tK (l := xk_261) rfl rfl (fun _ _ _ _ _ => rfl) ?_
        refine tK (l := xk_261) rfl rfl (hAdd ⟨by omega, by omega⟩) ?_
        refine tK (l := xk_261) rfl rfl (hSald hs (by omega) ha2) ?_
        refine tK (l := xk_261) rfl rfl (fun _ _ _ _ _ => rfl) ?_
        refine tCa (l := xk_261) rfl rfl (hInvS rfl rfl rfl rfl (Nat.le_of_ble_eq_true rfl) (Nat.le_of_ble_eq_true rfl)) ?_
        refine w241 k0 m0 (fun Q hq => c131 k0 hn hq8 hv (ho.2.1.1 q hq8 v hv).2 hq) (fun ph1 k1 m1 e1 => ?_)
        refine tKv ?_
        refine tSt (l := xk_261) rfl rfl (fun _ _ _ _ _ => rfl) (Nat.le_of_ble_eq_true rfl) ?_
        refine tK (l := xk_261) rfl rfl (fun _ _ _ _ _ => rfl) ?_
        refine tK (l := xk_261) rfl rfl (fun _ _ _ _ _ => rfl) ?_
        refine tK (l := xk_261) rfl rfl (fun _ _ _ _ _ => rfl) ?_
        refine tK (l := xk_261) rfl rfl (fun _ _ _ _ _ => rfl) ?_
        refine tK (l := xk_261) rfl rfl (hAdd ⟨by omega, by omega⟩) ?_
        refine tK (l := xk_261) rfl rfl (hSald k1.1 (by omega) ha1) ?_
        refine tK (l := xk_261) rfl rfl (fun _ _ _ _ _ => rfl) ?_
        refine tK (l := xk_261) rfl rfl (fun _ _ _ _ _ => rfl) ?_
        refine tK (l := xk_261) rfl rfl (fun _ _ _ _ _ => rfl) ?_
        refine tK (l := xk_261) rfl rfl (hAdd ⟨by omega, by omega⟩) ?_
        refine tK (l := xk_261) rfl rfl (hSald k1.1 (by omega) ha2) ?_
        refine tCa (l := xk_261) rfl rfl (hInvV (c := 10) k1.1 rfl rfl rfl rfl rfl (Nat.le_of_ble_eq_true rfl) (Nat.le_of_ble_eq_true rfl)) ?_
        refine m171 m1 hn hq8 hv (fun ph2 m2 z2 f2 => ?_)
        refine tKv ?_
        have k2 := k1.fw m2.1 f2.fw moP_k
        have e2 := (f2.2.1 168 0).trans e1
        refine tSt (l := xk_261) rfl rfl (fun _ _ _ _ _ => rfl) (Nat.le_of_ble_eq_true rfl) ?_
        refine tK (l := xk_261) rfl rfl (fun _ _ _ _ _ => rfl) ?_
        refine tCa (l := xk_261) rfl rfl (hInvV (c := 10) m2.1 rfl rfl rfl rfl rfl (Nat.le_of_ble_eq_true rfl) (Nat.le_of_ble_eq_true rfl)) ?_
        refine m144 m2 ?_
        refine tKv ?_
        rw [z2]
        refine tK (l := xk_261) rfl rfl (fun _ _ _ _ _ => rfl) ?_
        refine tIc_eq (l := xk_261) (pc' := 796) rfl rfl rfl (fun hc => ?_) (fun hc => ?_)
        · refine tK (l := xk_261) rfl rfl (fun _ _ _ _ _ => rfl) ?_
          refine tIf_ne (l := xk_261) (pc' := 813) rfl rfl rfl (fun hc => ?_) (fun hc => ?_)
          · refine tK (l := xk_261) rfl rfl (fun _ _ _ _ _ => rfl) ?_
            refine tK (l := xk_261) rfl rfl (fun _ _ _ _ _ => rfl) ?_
            first | refine tK (l := xk_261) rfl rfl (hLaldN m2.1 rfl rfl (by omega)) ?_ | refine tK (l := xk_261) rfl rfl (hLald m2.1 rfl (by omega) (by omega)) ?_
            rw [e2]
            refine tK (l := xk_261) rfl rfl (fun _ _ _ _ _ => rfl) ?_
            refine tK (l := xk_261) rfl rfl (fun _ _ _ _ _ => rfl) ?_
            refine tK (l := xk_261) rfl rfl (fun _ _ _ _ _ => rfl) ?_
            refine tIf_eq (l := xk_261) (pc' := 813) rfl rfl rfl (fun hc => ?_) (fun hc => ?_)
            · refine tK (l := xk_261) rfl rfl (fun _ _ _ _ _ => rfl) ?_
              exact hN ph2 _ _ _ _ _ _ k2 m2 (ho.setv (fun s hs => by cases hs; exact ho.2.1.1 q hq8 v hv)) (by omega)
            · exact absurd (lc_rfl _) hc
          · exact absurd rfl hc
        · exact absurd rfl hc
    · refine tK (l := xk_261) rfl rfl (fun _ _ _ _ _ => rfl) ?_
      refine tK (l := xk_261) rfl rfl (fun _ _ _ _ _ => rfl) ?_
      refine tK (l := xk_261) rfl rfl (fun _ _ _ _ _ => rfl) ?_
      refine tK (l := xk_261) rfl rfl (fun _ _ _ _ _ => rfl) ?_
      refine tK (l := xk_261) rfl rfl (hAdd ⟨by omega, by omega⟩) ?_
      refine tK (l := xk_261) rfl rfl (hSald hs (by omega) ha1) ?_
      refine tK (l := xk_261) rfl rfl (fun _ _ _ _ _ => rfl) ?_
      refine tK (l := xk_261) rfl rfl (fun _ _ _ _ _ => rfl) ?_
      refine tK (l := xk_261) rfl rfl (fun _ _ _ _ _ => rfl) ?_
      refine tK (l := xk_261) rfl rfl (hAdd ⟨by omega, by omega⟩) ?_
      refine tK (l := xk_261) rfl rfl (hSald hs (by omega) ha2) ?_
      refine tK (l := xk_261) rfl rfl (fun _ _ _ _ _ => rfl) ?_
      refine tCa (l := xk_261) rfl rfl (hInvS rfl rfl rfl rfl (Nat.le_of_ble_eq_true rfl) (Nat.le_of_ble_eq_true rfl)) ?_
      refine w241_2 k0 m0 (fun Q hq => c131y k0 hn hy (hq ph k0 hFd.refl)) (fun ph1 k1 m1 => ?_)
      refine tKv ?_
      refine tSt (l := xk_261) rfl rfl (fun _ _ _ _ _ => rfl) (Nat.le_of_ble_eq_true rfl) ?_
      refine tK (l := xk_261) rfl rfl (fun _ _ _ _ _ => rfl) ?_
      refine tK (l := xk_261) rfl rfl (fun _ _ _ _ _ => rfl) ?_
      refine tK (l := xk_261) rfl rfl (fun _ _ _ _ _ => rfl) ?_
      refine tK (l := xk_261) rfl rfl (fun _ _ _ _ _ => rfl) ?_
      refine tK (l := xk_261) rfl rfl (hAdd ⟨by omega, by omega⟩) ?_
      refine tK (l := xk_261) rfl rfl (hSald k1.1 (by omega) ha1) ?_
      refine tK (l := xk_261) rfl rfl (fun _ _ _ _ _ => rfl) ?_
      refine tK (l := xk_261) rfl rfl (fun _ _ _ _ _ => rfl) ?_
      refine tK (l := xk_261) rfl rfl (fun _ _ _ _ _ => rfl) ?_
      refine tK (l := xk_261) rfl rfl (hAdd ⟨by omega, by omega⟩) ?_
      refine tK (l := xk_261) rfl rfl (hSald k1.1 (by omega) ha2) ?_
      refine tCa (l := xk_261) rfl rfl (hInvV (c := 10) k1.1 rfl rfl rfl rfl rfl (Nat.le_of_ble_eq_true rfl) (Nat.le_of_ble_eq_true rfl)) ?_
      refine m171y m1 hn hy (fun ph2 m2 z2 f2 => ?_)
      refine tKv ?_
      have k2 := k1.fw m2.1 f2.fw moP_k
      refine tSt (l := xk_261) rfl rfl (fun _ _ _ _ _ => rfl) (Nat.le_of_ble_eq_true rfl) ?_
      refine tK (l := xk_261) rfl rfl (fun _ _ _ _ _ => rfl) ?_
      refine tCa (l := xk_261) rfl rfl (hInvV (c := 10) m2.1 rfl rfl rfl rfl rfl (Nat.le_of_ble_eq_true rfl) (Nat.le_of_ble_eq_true rfl)) ?_
      refine m144 m2 ?_
      refine tKv ?_
      rw [z2]
      refine tK (l := xk_261) rfl rfl (fun _ _ _ _ _ => rfl) ?_
      refine tIc_eq (l := xk_261) (pc' := 796) rfl rfl rfl (fun hc => ?_) (fun hc => ?_)
      · refine tK (l := xk_261) rfl rfl (fun _ _ _ _ _ => rfl) ?_
        refine tIf_ne (l := xk_261) (pc' := 813) rfl rfl rfl (fun hc => ?_) (fun hc => ?_)
        · exact absurd hc (by decide)
        · refine tK (l := xk_261) rfl rfl (fun _ _ _ _ _ => rfl) ?_
          exact hN ph2 _ _ _ _ _ _ k2 m2 (ho.up) (by omega)
      · exact absurd rfl hc
  · refine tK (l := xk_261) rfl rfl (fun _ _ _ _ _ => rfl) ?_
    refine tK (l := xk_261) rfl rfl (fun _ _ _ _ _ => rfl) ?_
    refine tK (l := xk_261) rfl rfl (fun _ _ _ _ _ => rfl) ?_
    refine tK (l := xk_261) rfl rfl (fun _ _ _ _ _ => rfl) ?_
    refine tK (l := xk_261) rfl rfl (hAdd ⟨by omega, by omega⟩) ?_
    refine tK (l := xk_261) rfl rfl (hSald hs (by omega) ha1) ?_
    refine tK (l := xk_261) rfl rfl (fun _ _ _ _ _ => rfl) ?_
    refine tK (l := xk_261) rfl rfl (fun _ _ _ _ _ => rfl) ?_
    refine tK (l := xk_261) rfl rfl (fun _ _ _ _ _ => rfl) ?_
    refine tK (l := xk_261) rfl rfl (hAdd ⟨by omega, by omega⟩) ?_
    refine tK (l := xk_261) rfl rfl (hSald hs (by omega) ha2) ?_
    refine tK (l := xk_261) rfl rfl (fun _ _ _ _ _ => rfl) ?_
    refine tCa (l := xk_261) rfl rfl (hInvS rfl rfl rfl rfl (Nat.le_of_ble_eq_true rfl) (Nat.le_of_ble_eq_true rfl)) ?_
    refine w241_2 k0 m0 (fun Q hq => c131x k0 hx (hq ph k0 hFd.refl)) (fun ph1 k1 m1 => ?_)
    refine tKv ?_
    refine tSt (l := xk_261) rfl rfl (fun _ _ _ _ _ => rfl) (Nat.le_of_ble_eq_true rfl) ?_
    refine tK (l := xk_261) rfl rfl (fun _ _ _ _ _ => rfl) ?_
    refine tK (l := xk_261) rfl rfl (fun _ _ _ _ _ => rfl) ?_
    refine tK (l := xk_261) rfl rfl (fun _ _ _ _ _ => rfl) ?_
    refine tK (l := xk_261) rfl rfl (fun _ _ _ _ _ => rfl) ?_
    refine tK (l := xk_261) rfl rfl (hAdd ⟨by omega, by omega⟩) ?_
    refine tK (l := xk_261) rfl rfl (hSald k1.1 (by omega) ha1) ?_
    refine tK (l := xk_261) rfl rfl (fun _ _ _ _ _ => rfl) ?_
    refine tK (l := xk_261) rfl rfl (fun _ _ _ _ _ => rfl) ?_
    refine tK (l := xk_261) rfl rfl (fun _ _ _ _ _ => rfl) ?_
    refine tK (l := xk_261) rfl rfl (hAdd ⟨by omega, by omega⟩) ?_
    refine tK (l := xk_261) rfl rfl (hSald k1.1 (by omega) ha2) ?_
    refine tCa (l := xk_261) rfl rfl (hInvV (c := 10) k1.1 rfl rfl rfl rfl rfl (Nat.le_of_ble_eq_true rfl) (Nat.le_of_ble_eq_true rfl)) ?_
    refine m171x m1 hx (fun ph2 m2 z2 f2 => ?_)
    refine tKv ?_
    have k2 := k1.fw m2.1 f2.fw moP_k
    refine tSt (l := xk_261) rfl rfl (fun _ _ _ _ _ => rfl) (Nat.le_of_ble_eq_true rfl) ?_
    refine tK (l := xk_261) rfl rfl (fun _ _ _ _ _ => rfl) ?_
    refine tCa (l := xk_261) rfl rfl (hInvV (c := 10) m2.1 rfl rfl rfl rfl rfl (Nat.le_of_ble_eq_true rfl) (Nat.le_of_ble_eq_true rfl)) ?_
    refine m144 m2 ?_
    refine tKv ?_
    rw [z2]
    refine tK (l := xk_261) rfl rfl (fun _ _ _ _ _ => rfl) ?_
    refine tIc_eq (l := xk_261) (pc' := 796) rfl rfl rfl (fun hc => ?_) (fun hc => ?_)
    · refine tK (l := xk_261) rfl rfl (fun _ _ _ _ _ => rfl) ?_
      refine tIf_ne (l := xk_261) (pc' := 813) rfl rfl rfl (fun hc => ?_) (fun hc => ?_)
      · exact absurd hc (by decide)
      · refine tK (l := xk_261) rfl rfl (fun _ _ _ _ _ => rfl) ?_
        exact hN ph2 _ _ _ _ _ _ k2 m2 (ho.up) (by omega)
    · exact absurd rfl hc
set_option maxRecDepth 20000 in
theorem op_14 {zs : List xV} {ph : xH} {g d B i : Nat} {Q : xR → Prop} {c : KS} {x5 x6 x7 x8 : Option xV} (hz : zs.length ≤ 1536) (hi : i + 2 < zs.length) (k0 : hKl zs ph c) (m0 : hMm zs ph c) (ho : okKS B c) (hB : B ≤ 512) {a : Int} (ha1 : zs[((i : Int) + 1).toNat]? = some (.inl a)) (hN : ∀ (ph2 : xH) (c2 : KS) (g2 : Nat) (y5 y6 y7 y8 : Option xV), hKl zs ph2 c2 → hMm zs ph2 c2 → okKS (B + 1) c2 → g2 ≤ g + 1 → xT (d + 1240) 261 2033 (xlo [some (.inr (.inl (some 0))), some (.inr (.inl (some 1))), some (.inr (.inl (some 147))), some (.inr (.inl (some 168))), some (.inl (i : Int)), y5, y6, y7, y8]) [] ph2 g2 Q) : xT (d + 1240) 261 816 (xlo [some (.inr (.inl (some 0))), some (.inr (.inl (some 1))), some (.inr (.inl (some 147))), some (.inr (.inl (some 168))), some (.inl (i : Int)), x5, x6, x7, x8]) [] ph g Q := by
  have hs := k0.1
  have hz168 := hK168.2
  by_cases hx : 0 ≤ a ∧ a < 8
  · obtain ⟨n, rfl⟩ : ∃ k : Nat, a = (k : Int) := ⟨a.toNat, by omega⟩
    have hn : n < 8 := by omega
    cases hv : c.2.1.1 n with
    | none =>
      refine tK (l := xk_261) rfl rfl (fun _ _ _ _ _ => rfl) ?_
      refine tK (l := xk_261) rfl rfl (fun _ _ _ _ _ => rfl) ?_
      refine tK (l := xk_261) rfl rfl (fun _ _ _ _ _ => rfl) ?_
      refine tK (l := xk_261) rfl rfl (fun _ _ _ _ _ => rfl) ?_
      refine tK (l := xk_261) rfl rfl (hAdd ⟨by omega, by omega⟩) ?_
      refine tK (l := xk_261) rfl rfl (hSald hs (by omega) ha1) ?_
      refine tK (l := xk_261) rfl rfl (fun _ _ _ _ _ => rfl) ?_
      refine tCa (l := xk_261) rfl rfl (hInvS rfl rfl rfl rfl (Nat.le_of_ble_eq_true rfl) (Nat.le_of_ble_eq_true rfl)) ?_
      refine w242_1 k0 m0 (fun Q hq => c132n k0 hn hv (hq ph k0 hFd.refl)) (fun ph1 k1 m1 => ?_)
      refine tKv ?_
      refine tSt (l := xk_261) rfl rfl (fun _ _ _ _ _ => rfl) (Nat.le_of_ble_eq_true rfl) ?_
      refine tK (l := xk_261) rfl rfl (fun _ _ _ _ _ => rfl) ?_
      refine tK (l := xk_261) rfl rfl (fun _ _ _ _ _ => rfl) ?_
      refine tK (l := xk_261) rfl rfl (fun _ _ _ _ _ => rfl) ?_
      refine tK (l := xk_261) rfl rfl (fun _ _ _ _ _ => rfl) ?_
      refine tK (l := xk_261) rfl rfl (hAdd ⟨by omega, by omega⟩) ?_
      refine tK (l := xk_261) rfl rfl (hSald k1.1 (by omega) ha1) ?_
      refine tCa (l := xk_261) rfl rfl (hInvV (c := 10) k1.1 rfl rfl rfl rfl rfl (Nat.le_of_ble_eq_true rfl) (Nat.le_of_ble_eq_true rfl)) ?_
      refine m172n m1 hn hv (fun ph2 m2 z2 f2 => ?_)
      refine tKv ?_
      have k2 := k1.fw m2.1 f2.fw moP_k
      refine tSt (l := xk_261) rfl rfl (fun _ _ _ _ _ => rfl) (Nat.le_of_ble_eq_true rfl) ?_
      refine tK (l := xk_261) rfl rfl (fun _ _ _ _ _ => rfl) ?_
      refine tCa (l := xk_261) rfl rfl (hInvV (c := 10) m2.1 rfl rfl rfl rfl rfl (Nat.le_of_ble_eq_true rfl) (Nat.le_of_ble_eq_true rfl)) ?_
      refine m144 m2 ?_
      refine tKv ?_
      rw [z2]
      refine tK (l := xk_261) rfl rfl (fun _ _ _ _ _ => rfl) ?_
      refine tIc_eq (l := xk_261) (pc' := 852) rfl rfl rfl (fun hc => ?_) (fun hc => ?_)
      · refine tK (l := xk_261) rfl rfl (fun _ _ _ _ _ => rfl) ?_
        refine tIf_ne (l := xk_261) (pc' := 869) rfl rfl rfl (fun hc => ?_) (fun hc => ?_)
        · exact absurd hc (by decide)
        · refine tK (l := xk_261) rfl rfl (fun _ _ _ _ _ => rfl) ?_
          exact hN ph2 _ _ _ _ _ _ k2 m2 (ho.up) (by omega)
      · exact absurd rfl hc
    | some v =>
      have hv24 := (ho.2.1.1 n hn v hv).2
      have hokv := (ho.2.1.1 n hn v hv).1
      by_cases hf : (esc v).length ≤ 24
      · refine tK (l := xk_261) rfl rfl (fun _ _ _ _ _ => rfl) ?_
        refine tK (l := xk_261) rfl rfl (fun _ _ _ _ _ => rfl) ?_
        refine tK (l := xk_261) rfl rfl (fun _ _ _ _ _ => rfl) ?_
        refine tK (l := xk_261) rfl rfl (fun _ _ _ _ _ => rfl) ?_
        refine tK (l := xk_261) rfl rfl (hAdd ⟨by omega, by omega⟩) ?_
        refine tK (l := xk_261) rfl rfl (hSald hs (by omega) ha1) ?_
        refine tK (l := xk_261) rfl rfl (fun _ _ _ _ _ => rfl) ?_
        refine tCa (l := xk_261) rfl rfl (hInvS rfl rfl rfl rfl (Nat.le_of_ble_eq_true rfl) (Nat.le_of_ble_eq_true rfl)) ?_
        refine w242 k0 m0 (fun Q hq => c132 k0 hn hv hv24 hokv hf hq) (fun ph1 k1 m1 e1 => ?_)
        refine tKv ?_
        refine tSt (l := xk_261) rfl rfl (fun _ _ _ _ _ => rfl) (Nat.le_of_ble_eq_true rfl) ?_
        refine tK (l := xk_261) rfl rfl (fun _ _ _ _ _ => rfl) ?_
        refine tK (l := xk_261) rfl rfl (fun _ _ _ _ _ => rfl) ?_
        refine tK (l := xk_261) rfl rfl (fun _ _ _ _ _ => rfl) ?_
        refine tK (l := xk_261) rfl rfl (fun _ _ _ _ _ => rfl) ?_
        refine tK (l := xk_261) rfl rfl (hAdd ⟨by omega, by omega⟩) ?_
        refine tK (l := xk_261) rfl rfl (hSald k1.1 (by omega) ha1) ?_
        refine tCa (l := xk_261) rfl rfl (hInvV (c := 10) k1.1 rfl rfl rfl rfl rfl (Nat.le_of_ble_eq_true rfl) (Nat.le_of_ble_eq_true rfl)) ?_
        refine m172 m1 hn hv hv24 hf (fun ph2 m2 z2 f2 => ?_)
        refine tKv ?_
        have k2 := k1.fw m2.1 f2.fw moP_k
        have e2 := (f2.2.1 168 0).trans e1
        refine tSt (l := xk_261) rfl rfl (fun _ _ _ _ _ => rfl) (Nat.le_of_ble_eq_true rfl) ?_
        refine tK (l := xk_261) rfl rfl (fun _ _ _ _ _ => rfl) ?_
        refine tCa (l := xk_261) rfl rfl (hInvV (c := 10) m2.1 rfl rfl rfl rfl rfl (Nat.le_of_ble_eq_true rfl) (Nat.le_of_ble_eq_true rfl)) ?_
        refine m144 m2 ?_
        refine tKv ?_
        rw [z2]
        refine tK (l := xk_261) rfl rfl (fun _ _ _ _ _ => rfl) ?_
        refine tIc_eq (l := xk_261) (pc' := 852) rfl rfl rfl (fun hc => ?_) (fun hc => ?_)
        · refine tK (l := xk_261) rfl rfl (fun _ _ _ _ _ => rfl) ?_
          refine tIf_ne (l := xk_261) (pc' := 869) rfl rfl rfl (fun hc => ?_) (fun hc => ?_)
          · refine tK (l := xk_261) rfl rfl (fun _ _ _ _ _ => rfl) ?_
            refine tK (l := xk_261) rfl rfl (fun _ _ _ _ _ => rfl) ?_
            first | refine tK (l := xk_261) rfl rfl (hLaldN m2.1 rfl rfl (by omega)) ?_ | refine tK (l := xk_261) rfl rfl (hLald m2.1 rfl (by omega) (by omega)) ?_
            rw [e2]
            refine tK (l := xk_261) rfl rfl (fun _ _ _ _ _ => rfl) ?_
            refine tK (l := xk_261) rfl rfl (fun _ _ _ _ _ => rfl) ?_
            refine tK (l := xk_261) rfl rfl (fun _ _ _ _ _ => rfl) ?_
            refine tIf_eq (l := xk_261) (pc' := 869) rfl rfl rfl (fun hc => ?_) (fun hc => ?_)
            · refine tK (l := xk_261) rfl rfl (fun _ _ _ _ _ => rfl) ?_
              exact hN ph2 _ _ _ _ _ _ k2 m2 (ho.setv (fun s hs => by cases hs; exact ⟨oks_esc hokv, hf⟩)) (by omega)
            · exact absurd (lc_rfl _) hc
          · exact absurd rfl hc
        · exact absurd rfl hc
      · have hf : 24 < (esc v).length := by omega
        refine tK (l := xk_261) rfl rfl (fun _ _ _ _ _ => rfl) ?_
        refine tK (l := xk_261) rfl rfl (fun _ _ _ _ _ => rfl) ?_
        refine tK (l := xk_261) rfl rfl (fun _ _ _ _ _ => rfl) ?_
        refine tK (l := xk_261) rfl rfl (fun _ _ _ _ _ => rfl) ?_
        refine tK (l := xk_261) rfl rfl (hAdd ⟨by omega, by omega⟩) ?_
        refine tK (l := xk_261) rfl rfl (hSald hs (by omega) ha1) ?_
        refine tK (l := xk_261) rfl rfl (fun _ _ _ _ _ => rfl) ?_
        refine tCa (l := xk_261) rfl rfl (hInvS rfl rfl rfl rfl (Nat.le_of_ble_eq_true rfl) (Nat.le_of_ble_eq_true rfl)) ?_
        refine w242_1 k0 m0 (fun Q hq => c132y k0 hn hv hv24 hokv hf hq) (fun ph1 k1 m1 => ?_)
        refine tKv ?_
        refine tSt (l := xk_261) rfl rfl (fun _ _ _ _ _ => rfl) (Nat.le_of_ble_eq_true rfl) ?_
        refine tK (l := xk_261) rfl rfl (fun _ _ _ _ _ => rfl) ?_
        refine tK (l := xk_261) rfl rfl (fun _ _ _ _ _ => rfl) ?_
        refine tK (l := xk_261) rfl rfl (fun _ _ _ _ _ => rfl) ?_
        refine tK (l := xk_261) rfl rfl (fun _ _ _ _ _ => rfl) ?_
        refine tK (l := xk_261) rfl rfl (hAdd ⟨by omega, by omega⟩) ?_
        refine tK (l := xk_261) rfl rfl (hSald k1.1 (by omega) ha1) ?_
        refine tCa (l := xk_261) rfl rfl (hInvV (c := 10) k1.1 rfl rfl rfl rfl rfl (Nat.le_of_ble_eq_true rfl) (Nat.le_of_ble_eq_true rfl)) ?_
        refine m172y m1 hn hv hv24 hf (fun ph2 m2 z2 f2 => ?_)
        refine tKv ?_
        have k2 := k1.fw m2.1 f2.fw moP_k
        refine tSt (l := xk_261) rfl rfl (fun _ _ _ _ _ => rfl) (Nat.le_of_ble_eq_true rfl) ?_
        refine tK (l := xk_261) rfl rfl (fun _ _ _ _ _ => rfl) ?_
        refine tCa (l := xk_261) rfl rfl (hInvV (c := 10) m2.1 rfl rfl rfl rfl rfl (Nat.le_of_ble_eq_true rfl) (Nat.le_of_ble_eq_true rfl)) ?_
        refine m144 m2 ?_
        refine tKv ?_
        rw [z2]
        refine tK (l := xk_261) rfl rfl (fun _ _ _ _ _ => rfl) ?_
        refine tIc_eq (l := xk_261) (pc' := 852) rfl rfl rfl (fun hc => ?_) (fun hc => ?_)
        · refine tK (l := xk_261) rfl rfl (fun _ _ _ _ _ => rfl) ?_
          refine tIf_ne (l := xk_261) (pc' := 869) rfl rfl rfl (fun hc => ?_) (fun hc => ?_)
          · exact absurd hc (by decide)
          · refine tK (l := xk_261) rfl rfl (fun _ _ _ _ _ => rfl) ?_
            exact hN ph2 _ _ _ _ _ _ k2 m2 (ho.up) (by omega)
        · exact absurd rfl hc
  · refine tK (l := xk_261) rfl rfl (fun _ _ _ _ _ => rfl) ?_
    refine tK (l := xk_261) rfl rfl (fun _ _ _ _ _ => rfl) ?_
    refine tK (l := xk_261) rfl rfl (fun _ _ _ _ _ => rfl) ?_
    refine tK (l := xk_261) rfl rfl (fun _ _ _ _ _ => rfl) ?_
    refine tK (l := xk_261) rfl rfl (hAdd ⟨by omega, by omega⟩) ?_
    refine tK (l := xk_261) rfl rfl (hSald hs (by omega) ha1) ?_
    refine tK (l := xk_261) rfl rfl (fun _ _ _ _ _ => rfl) ?_
    refine tCa (l := xk_261) rfl rfl (hInvS rfl rfl rfl rfl (Nat.le_of_ble_eq_true rfl) (Nat.le_of_ble_eq_true rfl)) ?_
    refine w242_2 k0 m0 (fun Q hq => c132x hx k0.1 (hq ph k0 hFd.refl)) (fun ph1 k1 m1 => ?_)
    refine tKv ?_
    refine tSt (l := xk_261) rfl rfl (fun _ _ _ _ _ => rfl) (Nat.le_of_ble_eq_true rfl) ?_
    refine tK (l := xk_261) rfl rfl (fun _ _ _ _ _ => rfl) ?_
    refine tK (l := xk_261) rfl rfl (fun _ _ _ _ _ => rfl) ?_
    refine tK (l := xk_261) rfl rfl (fun _ _ _ _ _ => rfl) ?_
    refine tK (l := xk_261) rfl rfl (fun _ _ _ _ _ => rfl) ?_
    refine tK (l := xk_261) rfl rfl (hAdd ⟨by omega, by omega⟩) ?_
    refine tK (l := xk_261) rfl rfl (hSald k1.1 (by omega) ha1) ?_
    refine tCa (l := xk_261) rfl rfl (hInvV (c := 10) k1.1 rfl rfl rfl rfl rfl (Nat.le_of_ble_eq_true rfl) (Nat.le_of_ble_eq_true rfl)) ?_
    refine m172x m1 hx (fun ph2 m2 z2 f2 => ?_)
    refine tKv ?_
    have k2 := k1.fw m2.1 f2.fw moP_k
    refine tSt (l := xk_261) rfl rfl (fun _ _ _ _ _ => rfl) (Nat.le_of_ble_eq_true rfl) ?_
    refine tK (l := xk_261) rfl rfl (fun _ _ _ _ _ => rfl) ?_
    refine tCa (l := xk_261) rfl rfl (hInvV (c := 10) m2.1 rfl rfl rfl rfl rfl (Nat.le_of_ble_eq_true rfl) (Nat.le_of_ble_eq_true rfl)) ?_
    refine m144 m2 ?_
    refine tKv ?_
    rw [z2]
    refine tK (l := xk_261) rfl rfl (fun _ _ _ _ _ => rfl) ?_
    refine tIc_eq (l := xk_261) (pc' := 852) rfl rfl rfl (fun hc => ?_) (fun hc => ?_)
    · refine tK (l := xk_261) rfl rfl (fun _ _ _ _ _ => rfl) ?_
      refine tIf_ne (l := xk_261) (pc' := 869) rfl rfl rfl (fun hc => ?_) (fun hc => ?_)
      · exact absurd hc (by decide)
      · refine tK (l := xk_261) rfl rfl (fun _ _ _ _ _ => rfl) ?_
        exact hN ph2 _ _ _ _ _ _ k2 m2 (ho.up) (by omega)
    · exact absurd rfl hc
set_option maxRecDepth 20000 in
theorem op_15 {zs : List xV} {ph : xH} {g d B i : Nat} {Q : xR → Prop} {c : KS} {x5 x6 x7 x8 : Option xV} (hz : zs.length ≤ 1536) (hi : i + 2 < zs.length) (k0 : hKl zs ph c) (m0 : hMm zs ph c) (ho : okKS B c) (hB : B ≤ 512) {a : Int} (ha1 : zs[((i : Int) + 1).toNat]? = some (.inl a)) (hN : ∀ (ph2 : xH) (c2 : KS) (g2 : Nat) (y5 y6 y7 y8 : Option xV), hKl zs ph2 c2 → hMm zs ph2 c2 → okKS (B + 1) c2 → g2 ≤ g + 1 → xT (d + 1240) 261 2033 (xlo [some (.inr (.inl (some 0))), some (.inr (.inl (some 1))), some (.inr (.inl (some 147))), some (.inr (.inl (some 168))), some (.inl (i : Int)), y5, y6, y7, y8]) [] ph2 g2 Q) : xT (d + 1240) 261 872 (xlo [some (.inr (.inl (some 0))), some (.inr (.inl (some 1))), some (.inr (.inl (some 147))), some (.inr (.inl (some 168))), some (.inl (i : Int)), x5, x6, x7, x8]) [] ph g Q := by
  have hs := k0.1
  have hz168 := hK168.2
  by_cases hx : 0 ≤ a ∧ a < 8
  · obtain ⟨n, rfl⟩ : ∃ k : Nat, a = (k : Int) := ⟨a.toNat, by omega⟩
    have hn : n < 8 := by omega
    by_cases hf : c.2.1.2.1.1.length ≤ 24
    · refine tK (l := xk_261) rfl rfl (fun _ _ _ _ _ => rfl) ?_
      refine tK (l := xk_261) rfl rfl (fun _ _ _ _ _ => rfl) ?_
      refine tK (l := xk_261) rfl rfl (fun _ _ _ _ _ => rfl) ?_
      refine tK (l := xk_261) rfl rfl (fun _ _ _ _ _ => rfl) ?_
      refine tK (l := xk_261) rfl rfl (hAdd ⟨by omega, by omega⟩) ?_
      refine tK (l := xk_261) rfl rfl (hSald hs (by omega) ha1) ?_
      refine tK (l := xk_261) rfl rfl (fun _ _ _ _ _ => rfl) ?_
      refine tCa (l := xk_261) rfl rfl (hInvS rfl rfl rfl rfl (Nat.le_of_ble_eq_true rfl) (Nat.le_of_ble_eq_true rfl)) ?_
      refine w243 k0 m0 (fun Q hq => c133 k0 hn hf hq) (fun ph1 k1 m1 e1 => ?_)
      refine tKv ?_
      refine tSt (l := xk_261) rfl rfl (fun _ _ _ _ _ => rfl) (Nat.le_of_ble_eq_true rfl) ?_
      refine tK (l := xk_261) rfl rfl (fun _ _ _ _ _ => rfl) ?_
      refine tK (l := xk_261) rfl rfl (fun _ _ _ _ _ => rfl) ?_
      refine tK (l := xk_261) rfl rfl (fun _ _ _ _ _ => rfl) ?_
      refine tK (l := xk_261) rfl rfl (fun _ _ _ _ _ => rfl) ?_
      refine tK (l := xk_261) rfl rfl (hAdd ⟨by omega, by omega⟩) ?_
      refine tK (l := xk_261) rfl rfl (hSald k1.1 (by omega) ha1) ?_
      refine tCa (l := xk_261) rfl rfl (hInvV (c := 10) k1.1 rfl rfl rfl rfl rfl (Nat.le_of_ble_eq_true rfl) (Nat.le_of_ble_eq_true rfl)) ?_
      refine m175 m1 hn hf (fun ph2 m2 z2 f2 => ?_)
      refine tKv ?_
      have k2 := k1.fw m2.1 f2.fw moP_k
      have e2 := (f2.2.1 168 0).trans e1
      refine tSt (l := xk_261) rfl rfl (fun _ _ _ _ _ => rfl) (Nat.le_of_ble_eq_true rfl) ?_
      refine tK (l := xk_261) rfl rfl (fun _ _ _ _ _ => rfl) ?_
      refine tCa (l := xk_261) rfl rfl (hInvV (c := 10) m2.1 rfl rfl rfl rfl rfl (Nat.le_of_ble_eq_true rfl) (Nat.le_of_ble_eq_true rfl)) ?_
      refine m144 m2 ?_
      refine tKv ?_
      rw [z2]
      refine tK (l := xk_261) rfl rfl (fun _ _ _ _ _ => rfl) ?_
      refine tIc_eq (l := xk_261) (pc' := 908) rfl rfl rfl (fun hc => ?_) (fun hc => ?_)
      · refine tK (l := xk_261) rfl rfl (fun _ _ _ _ _ => rfl) ?_
        refine tIf_ne (l := xk_261) (pc' := 925) rfl rfl rfl (fun hc => ?_) (fun hc => ?_)
        · refine tK (l := xk_261) rfl rfl (fun _ _ _ _ _ => rfl) ?_
          refine tK (l := xk_261) rfl rfl (fun _ _ _ _ _ => rfl) ?_
          first | refine tK (l := xk_261) rfl rfl (hLaldN m2.1 rfl rfl (by omega)) ?_ | refine tK (l := xk_261) rfl rfl (hLald m2.1 rfl (by omega) (by omega)) ?_
          rw [e2]
          refine tK (l := xk_261) rfl rfl (fun _ _ _ _ _ => rfl) ?_
          refine tK (l := xk_261) rfl rfl (fun _ _ _ _ _ => rfl) ?_
          refine tK (l := xk_261) rfl rfl (fun _ _ _ _ _ => rfl) ?_
          refine tIf_eq (l := xk_261) (pc' := 925) rfl rfl rfl (fun hc => ?_) (fun hc => ?_)
          · refine tK (l := xk_261) rfl rfl (fun _ _ _ _ _ => rfl) ?_
            exact hN ph2 _ _ _ _ _ _ k2 m2 (ho.setv (fun s hs => by cases hs; exact ⟨ho.2.1.2.1.1, hf⟩)) (by omega)
          · exact absurd (lc_rfl _) hc
        · exact absurd rfl hc
      · exact absurd rfl hc
    · have hf : 24 < c.2.1.2.1.1.length := by omega
      refine tK (l := xk_261) rfl rfl (fun _ _ _ _ _ => rfl) ?_
      refine tK (l := xk_261) rfl rfl (fun _ _ _ _ _ => rfl) ?_
      refine tK (l := xk_261) rfl rfl (fun _ _ _ _ _ => rfl) ?_
      refine tK (l := xk_261) rfl rfl (fun _ _ _ _ _ => rfl) ?_
      refine tK (l := xk_261) rfl rfl (hAdd ⟨by omega, by omega⟩) ?_
      refine tK (l := xk_261) rfl rfl (hSald hs (by omega) ha1) ?_
      refine tK (l := xk_261) rfl rfl (fun _ _ _ _ _ => rfl) ?_
      refine tCa (l := xk_261) rfl rfl (hInvS rfl rfl rfl rfl (Nat.le_of_ble_eq_true rfl) (Nat.le_of_ble_eq_true rfl)) ?_
      refine w243_1 k0 m0 (fun Q hq => c133n k0 hn hf (hq ph k0 hFd.refl)) (fun ph1 k1 m1 => ?_)
      refine tKv ?_
      refine tSt (l := xk_261) rfl rfl (fun _ _ _ _ _ => rfl) (Nat.le_of_ble_eq_true rfl) ?_
      refine tK (l := xk_261) rfl rfl (fun _ _ _ _ _ => rfl) ?_
      refine tK (l := xk_261) rfl rfl (fun _ _ _ _ _ => rfl) ?_
      refine tK (l := xk_261) rfl rfl (fun _ _ _ _ _ => rfl) ?_
      refine tK (l := xk_261) rfl rfl (fun _ _ _ _ _ => rfl) ?_
      refine tK (l := xk_261) rfl rfl (hAdd ⟨by omega, by omega⟩) ?_
      refine tK (l := xk_261) rfl rfl (hSald k1.1 (by omega) ha1) ?_
      refine tCa (l := xk_261) rfl rfl (hInvV (c := 10) k1.1 rfl rfl rfl rfl rfl (Nat.le_of_ble_eq_true rfl) (Nat.le_of_ble_eq_true rfl)) ?_
      refine m175n m1 hn hf (fun ph2 m2 z2 f2 => ?_)
      refine tKv ?_
      have k2 := k1.fw m2.1 f2.fw moP_k
      refine tSt (l := xk_261) rfl rfl (fun _ _ _ _ _ => rfl) (Nat.le_of_ble_eq_true rfl) ?_
      refine tK (l := xk_261) rfl rfl (fun _ _ _ _ _ => rfl) ?_
      refine tCa (l := xk_261) rfl rfl (hInvV (c := 10) m2.1 rfl rfl rfl rfl rfl (Nat.le_of_ble_eq_true rfl) (Nat.le_of_ble_eq_true rfl)) ?_
      refine m144 m2 ?_
      refine tKv ?_
      rw [z2]
      refine tK (l := xk_261) rfl rfl (fun _ _ _ _ _ => rfl) ?_
      refine tIc_eq (l := xk_261) (pc' := 908) rfl rfl rfl (fun hc => ?_) (fun hc => ?_)
      · refine tK (l := xk_261) rfl rfl (fun _ _ _ _ _ => rfl) ?_
        refine tIf_ne (l := xk_261) (pc' := 925) rfl rfl rfl (fun hc => ?_) (fun hc => ?_)
        · exact absurd hc (by decide)
        · refine tK (l := xk_261) rfl rfl (fun _ _ _ _ _ => rfl) ?_
          exact hN ph2 _ _ _ _ _ _ k2 m2 (ho.up) (by omega)
      · exact absurd rfl hc
  · refine tK (l := xk_261) rfl rfl (fun _ _ _ _ _ => rfl) ?_
    refine tK (l := xk_261) rfl rfl (fun _ _ _ _ _ => rfl) ?_
    refine tK (l := xk_261) rfl rfl (fun _ _ _ _ _ => rfl) ?_
    refine tK (l := xk_261) rfl rfl (fun _ _ _ _ _ => rfl) ?_
    refine tK (l := xk_261) rfl rfl (hAdd ⟨by omega, by omega⟩) ?_
    refine tK (l := xk_261) rfl rfl (hSald hs (by omega) ha1) ?_
    refine tK (l := xk_261) rfl rfl (fun _ _ _ _ _ => rfl) ?_
    refine tCa (l := xk_261) rfl rfl (hInvS rfl rfl rfl rfl (Nat.le_of_ble_eq_true rfl) (Nat.le_of_ble_eq_true rfl)) ?_
    refine w243_2 k0 m0 (fun Q hq => c133x k0 hx (hq ph k0 hFd.refl)) (fun ph1 k1 m1 => ?_)
    refine tKv ?_
    refine tSt (l := xk_261) rfl rfl (fun _ _ _ _ _ => rfl) (Nat.le_of_ble_eq_true rfl) ?_
    refine tK (l := xk_261) rfl rfl (fun _ _ _ _ _ => rfl) ?_
    refine tK (l := xk_261) rfl rfl (fun _ _ _ _ _ => rfl) ?_
    refine tK (l := xk_261) rfl rfl (fun _ _ _ _ _ => rfl) ?_
    refine tK (l := xk_261) rfl rfl (fun _ _ _ _ _ => rfl) ?_
    refine tK (l := xk_261) rfl rfl (hAdd ⟨by omega, by omega⟩) ?_
    refine tK (l := xk_261) rfl rfl (hSald k1.1 (by omega) ha1) ?_
    refine tCa (l := xk_261) rfl rfl (hInvV (c := 10) k1.1 rfl rfl rfl rfl rfl (Nat.le_of_ble_eq_true rfl) (Nat.le_of_ble_eq_true rfl)) ?_
    refine m175x m1 hx (fun ph2 m2 z2 f2 => ?_)
    refine tKv ?_
    have k2 := k1.fw m2.1 f2.fw moP_k
    refine tSt (l := xk_261) rfl rfl (fun _ _ _ _ _ => rfl) (Nat.le_of_ble_eq_true rfl) ?_
    refine tK (l := xk_261) rfl rfl (fun _ _ _ _ _ => rfl) ?_
    refine tCa (l := xk_261) rfl rfl (hInvV (c := 10) m2.1 rfl rfl rfl rfl rfl (Nat.le_of_ble_eq_true rfl) (Nat.le_of_ble_eq_true rfl)) ?_
    refine m144 m2 ?_
    refine tKv ?_
    rw [z2]
    refine tK (l := xk_261) rfl rfl (fun _ _ _ _ _ => rfl) ?_
    refine tIc_eq (l := xk_261) (pc' := 908) rfl rfl rfl (fun hc => ?_) (fun hc => ?_)
    · refine tK (l := xk_261) rfl rfl (fun _ _ _ _ _ => rfl) ?_
      refine tIf_ne (l := xk_261) (pc' := 925) rfl rfl rfl (fun hc => ?_) (fun hc => ?_)
      · exact absurd hc (by decide)
      · refine tK (l := xk_261) rfl rfl (fun _ _ _ _ _ => rfl) ?_
        exact hN ph2 _ _ _ _ _ _ k2 m2 (ho.up) (by omega)
    · exact absurd rfl hc
set_option maxRecDepth 20000 in
theorem op_16 {zs : List xV} {ph : xH} {g d B i : Nat} {Q : xR → Prop} {c : KS} {x5 x6 x7 x8 : Option xV} (hz : zs.length ≤ 1536) (hi : i + 2 < zs.length) (k0 : hKl zs ph c) (m0 : hMm zs ph c) (ho : okKS B c) (hB : B ≤ 512) {a : Int} (ha1 : zs[((i : Int) + 1).toNat]? = some (.inl a)) (hN : ∀ (ph2 : xH) (c2 : KS) (g2 : Nat) (y5 y6 y7 y8 : Option xV), hKl zs ph2 c2 → hMm zs ph2 c2 → okKS (B + 1) c2 → g2 ≤ g + 1 → xT (d + 1240) 261 2033 (xlo [some (.inr (.inl (some 0))), some (.inr (.inl (some 1))), some (.inr (.inl (some 147))), some (.inr (.inl (some 168))), some (.inl (i : Int)), y5, y6, y7, y8]) [] ph2 g2 Q) : xT (d + 1240) 261 928 (xlo [some (.inr (.inl (some 0))), some (.inr (.inl (some 1))), some (.inr (.inl (some 147))), some (.inr (.inl (some 168))), some (.inl (i : Int)), x5, x6, x7, x8]) [] ph g Q := by
  have hs := k0.1
  have hz168 := hK168.2
  by_cases hx : 0 ≤ a ∧ a < 8
  · obtain ⟨n, rfl⟩ : ∃ k : Nat, a = (k : Int) := ⟨a.toNat, by omega⟩
    have hn : n < 8 := by omega
    by_cases hf : c.1.length ≤ 24
    · refine tK (l := xk_261) rfl rfl (fun _ _ _ _ _ => rfl) ?_
      refine tK (l := xk_261) rfl rfl (fun _ _ _ _ _ => rfl) ?_
      refine tK (l := xk_261) rfl rfl (fun _ _ _ _ _ => rfl) ?_
      refine tK (l := xk_261) rfl rfl (fun _ _ _ _ _ => rfl) ?_
      refine tK (l := xk_261) rfl rfl (hAdd ⟨by omega, by omega⟩) ?_
      refine tK (l := xk_261) rfl rfl (hSald hs (by omega) ha1) ?_
      refine tK (l := xk_261) rfl rfl (fun _ _ _ _ _ => rfl) ?_
      refine tCa (l := xk_261) rfl rfl (hInvS rfl rfl rfl rfl (Nat.le_of_ble_eq_true rfl) (Nat.le_of_ble_eq_true rfl)) ?_
      refine w244 k0 m0 (fun Q hq => c135 k0 hn hf hq) (fun ph1 k1 m1 e1 => ?_)
      refine tKv ?_
      refine tSt (l := xk_261) rfl rfl (fun _ _ _ _ _ => rfl) (Nat.le_of_ble_eq_true rfl) ?_
      refine tK (l := xk_261) rfl rfl (fun _ _ _ _ _ => rfl) ?_
      refine tK (l := xk_261) rfl rfl (fun _ _ _ _ _ => rfl) ?_
      refine tK (l := xk_261) rfl rfl (fun _ _ _ _ _ => rfl) ?_
      refine tK (l := xk_261) rfl rfl (fun _ _ _ _ _ => rfl) ?_
      refine tK (l := xk_261) rfl rfl (hAdd ⟨by omega, by omega⟩) ?_
      refine tK (l := xk_261) rfl rfl (hSald k1.1 (by omega) ha1) ?_
      refine tCa (l := xk_261) rfl rfl (hInvV (c := 10) k1.1 rfl rfl rfl rfl rfl (Nat.le_of_ble_eq_true rfl) (Nat.le_of_ble_eq_true rfl)) ?_
      refine m176 m1 hn hf (fun ph2 m2 z2 f2 => ?_)
      refine tKv ?_
      have k2 := k1.fw m2.1 f2.fw moP_k
      have e2 := (f2.2.1 168 0).trans e1
      refine tSt (l := xk_261) rfl rfl (fun _ _ _ _ _ => rfl) (Nat.le_of_ble_eq_true rfl) ?_
      refine tK (l := xk_261) rfl rfl (fun _ _ _ _ _ => rfl) ?_
      refine tCa (l := xk_261) rfl rfl (hInvV (c := 10) m2.1 rfl rfl rfl rfl rfl (Nat.le_of_ble_eq_true rfl) (Nat.le_of_ble_eq_true rfl)) ?_
      refine m144 m2 ?_
      refine tKv ?_
      rw [z2]
      refine tK (l := xk_261) rfl rfl (fun _ _ _ _ _ => rfl) ?_
      refine tIc_eq (l := xk_261) (pc' := 964) rfl rfl rfl (fun hc => ?_) (fun hc => ?_)
      · refine tK (l := xk_261) rfl rfl (fun _ _ _ _ _ => rfl) ?_
        refine tIf_ne (l := xk_261) (pc' := 981) rfl rfl rfl (fun hc => ?_) (fun hc => ?_)
        · refine tK (l := xk_261) rfl rfl (fun _ _ _ _ _ => rfl) ?_
          refine tK (l := xk_261) rfl rfl (fun _ _ _ _ _ => rfl) ?_
          first | refine tK (l := xk_261) rfl rfl (hLaldN m2.1 rfl rfl (by omega)) ?_ | refine tK (l := xk_261) rfl rfl (hLald m2.1 rfl (by omega) (by omega)) ?_
          rw [e2]
          refine tK (l := xk_261) rfl rfl (fun _ _ _ _ _ => rfl) ?_
          refine tK (l := xk_261) rfl rfl (fun _ _ _ _ _ => rfl) ?_
          refine tK (l := xk_261) rfl rfl (fun _ _ _ _ _ => rfl) ?_
          refine tIf_eq (l := xk_261) (pc' := 981) rfl rfl rfl (fun hc => ?_) (fun hc => ?_)
          · refine tK (l := xk_261) rfl rfl (fun _ _ _ _ _ => rfl) ?_
            exact hN ph2 _ _ _ _ _ _ k2 m2 (ho.setv (fun s hs => by cases hs; exact ⟨ho.1.1, hf⟩)) (by omega)
          · exact absurd (lc_rfl _) hc
        · exact absurd rfl hc
      · exact absurd rfl hc
    · have hf : 24 < c.1.length := by omega
      refine tK (l := xk_261) rfl rfl (fun _ _ _ _ _ => rfl) ?_
      refine tK (l := xk_261) rfl rfl (fun _ _ _ _ _ => rfl) ?_
      refine tK (l := xk_261) rfl rfl (fun _ _ _ _ _ => rfl) ?_
      refine tK (l := xk_261) rfl rfl (fun _ _ _ _ _ => rfl) ?_
      refine tK (l := xk_261) rfl rfl (hAdd ⟨by omega, by omega⟩) ?_
      refine tK (l := xk_261) rfl rfl (hSald hs (by omega) ha1) ?_
      refine tK (l := xk_261) rfl rfl (fun _ _ _ _ _ => rfl) ?_
      refine tCa (l := xk_261) rfl rfl (hInvS rfl rfl rfl rfl (Nat.le_of_ble_eq_true rfl) (Nat.le_of_ble_eq_true rfl)) ?_
      refine w244_1 k0 m0 (fun Q hq => c135n k0 hn hf (hq ph k0 hFd.refl)) (fun ph1 k1 m1 => ?_)
      refine tKv ?_
      refine tSt (l := xk_261) rfl rfl (fun _ _ _ _ _ => rfl) (Nat.le_of_ble_eq_true rfl) ?_
      refine tK (l := xk_261) rfl rfl (fun _ _ _ _ _ => rfl) ?_
      refine tK (l := xk_261) rfl rfl (fun _ _ _ _ _ => rfl) ?_
      refine tK (l := xk_261) rfl rfl (fun _ _ _ _ _ => rfl) ?_
      refine tK (l := xk_261) rfl rfl (fun _ _ _ _ _ => rfl) ?_
      refine tK (l := xk_261) rfl rfl (hAdd ⟨by omega, by omega⟩) ?_
      refine tK (l := xk_261) rfl rfl (hSald k1.1 (by omega) ha1) ?_
      refine tCa (l := xk_261) rfl rfl (hInvV (c := 10) k1.1 rfl rfl rfl rfl rfl (Nat.le_of_ble_eq_true rfl) (Nat.le_of_ble_eq_true rfl)) ?_
      refine m176n m1 hn hf (fun ph2 m2 z2 f2 => ?_)
      refine tKv ?_
      have k2 := k1.fw m2.1 f2.fw moP_k
      refine tSt (l := xk_261) rfl rfl (fun _ _ _ _ _ => rfl) (Nat.le_of_ble_eq_true rfl) ?_
      refine tK (l := xk_261) rfl rfl (fun _ _ _ _ _ => rfl) ?_
      refine tCa (l := xk_261) rfl rfl (hInvV (c := 10) m2.1 rfl rfl rfl rfl rfl (Nat.le_of_ble_eq_true rfl) (Nat.le_of_ble_eq_true rfl)) ?_
      refine m144 m2 ?_
      refine tKv ?_
      rw [z2]
      refine tK (l := xk_261) rfl rfl (fun _ _ _ _ _ => rfl) ?_
      refine tIc_eq (l := xk_261) (pc' := 964) rfl rfl rfl (fun hc => ?_) (fun hc => ?_)
      · refine tK (l := xk_261) rfl rfl (fun _ _ _ _ _ => rfl) ?_
        refine tIf_ne (l := xk_261) (pc' := 981) rfl rfl rfl (fun hc => ?_) (fun hc => ?_)
        · exact absurd hc (by decide)
        · refine tK (l := xk_261) rfl rfl (fun _ _ _ _ _ => rfl) ?_
          exact hN ph2 _ _ _ _ _ _ k2 m2 (ho.up) (by omega)
      · exact absurd rfl hc
  · refine tK (l := xk_261) rfl rfl (fun _ _ _ _ _ => rfl) ?_
    refine tK (l := xk_261) rfl rfl (fun _ _ _ _ _ => rfl) ?_
    refine tK (l := xk_261) rfl rfl (fun _ _ _ _ _ => rfl) ?_
    refine tK (l := xk_261) rfl rfl (fun _ _ _ _ _ => rfl) ?_
    refine tK (l := xk_261) rfl rfl (hAdd ⟨by omega, by omega⟩) ?_
    refine tK (l := xk_261) rfl rfl (hSald hs (by omega) ha1) ?_
    refine tK (l := xk_261) rfl rfl (fun _ _ _ _ _ => rfl) ?_
    refine tCa (l := xk_261) rfl rfl (hInvS rfl rfl rfl rfl (Nat.le_of_ble_eq_true rfl) (Nat.le_of_ble_eq_true rfl)) ?_
    refine w244_2 k0 m0 (fun Q hq => c135x k0 hx (hq ph k0 hFd.refl)) (fun ph1 k1 m1 => ?_)
    refine tKv ?_
    refine tSt (l := xk_261) rfl rfl (fun _ _ _ _ _ => rfl) (Nat.le_of_ble_eq_true rfl) ?_
    refine tK (l := xk_261) rfl rfl (fun _ _ _ _ _ => rfl) ?_
    refine tK (l := xk_261) rfl rfl (fun _ _ _ _ _ => rfl) ?_
    refine tK (l := xk_261) rfl rfl (fun _ _ _ _ _ => rfl) ?_
    refine tK (l := xk_261) rfl rfl (fun _ _ _ _ _ => rfl) ?_
    refine tK (l := xk_261) rfl rfl (hAdd ⟨by omega, by omega⟩) ?_
    refine tK (l := xk_261) rfl rfl (hSald k1.1 (by omega) ha1) ?_
    refine tCa (l := xk_261) rfl rfl (hInvV (c := 10) k1.1 rfl rfl rfl rfl rfl (Nat.le_of_ble_eq_true rfl) (Nat.le_of_ble_eq_true rfl)) ?_
    refine m176x m1 hx (fun ph2 m2 z2 f2 => ?_)
    refine tKv ?_
    have k2 := k1.fw m2.1 f2.fw moP_k
    refine tSt (l := xk_261) rfl rfl (fun _ _ _ _ _ => rfl) (Nat.le_of_ble_eq_true rfl) ?_
    refine tK (l := xk_261) rfl rfl (fun _ _ _ _ _ => rfl) ?_
    refine tCa (l := xk_261) rfl rfl (hInvV (c := 10) m2.1 rfl rfl rfl rfl rfl (Nat.le_of_ble_eq_true rfl) (Nat.le_of_ble_eq_true rfl)) ?_
    refine m144 m2 ?_
    refine tKv ?_
    rw [z2]
    refine tK (l := xk_261) rfl rfl (fun _ _ _ _ _ => rfl) ?_
    refine tIc_eq (l := xk_261) (pc' := 964) rfl rfl rfl (fun hc => ?_) (fun hc => ?_)
    · refine tK (l := xk_261) rfl rfl (fun _ _ _ _ _ => rfl) ?_
      refine tIf_ne (l := xk_261) (pc' := 981) rfl rfl rfl (fun hc => ?_) (fun hc => ?_)
      · exact absurd hc (by decide)
      · refine tK (l := xk_261) rfl rfl (fun _ _ _ _ _ => rfl) ?_
        exact hN ph2 _ _ _ _ _ _ k2 m2 (ho.up) (by omega)
    · exact absurd rfl hc
set_option maxRecDepth 20000 in
theorem op_17 {zs : List xV} {ph : xH} {g d B i : Nat} {Q : xR → Prop} {c : KS} {x5 x6 x7 x8 : Option xV} (hz : zs.length ≤ 1536) (hi : i + 2 < zs.length) (k0 : hKl zs ph c) (m0 : hMm zs ph c) (ho : okKS B c) (hB : B ≤ 512) {a : Int} (ha1 : zs[((i : Int) + 1).toNat]? = some (.inl a)) (hN : ∀ (ph2 : xH) (c2 : KS) (g2 : Nat) (y5 y6 y7 y8 : Option xV), hKl zs ph2 c2 → hMm zs ph2 c2 → okKS (B + 1) c2 → g2 ≤ g + 1 → xT (d + 1240) 261 2033 (xlo [some (.inr (.inl (some 0))), some (.inr (.inl (some 1))), some (.inr (.inl (some 147))), some (.inr (.inl (some 168))), some (.inl (i : Int)), y5, y6, y7, y8]) [] ph2 g2 Q) : xT (d + 1240) 261 984 (xlo [some (.inr (.inl (some 0))), some (.inr (.inl (some 1))), some (.inr (.inl (some 147))), some (.inr (.inl (some 168))), some (.inl (i : Int)), x5, x6, x7, x8]) [] ph g Q := by
  have hs := k0.1
  have hz168 := hK168.2
  by_cases hx : 0 ≤ a ∧ a < 8
  · obtain ⟨n, rfl⟩ : ∃ k : Nat, a = (k : Int) := ⟨a.toNat, by omega⟩
    have hn : n < 8 := by omega
    cases hv : c.2.1.1 n with
    | none =>
      refine tK (l := xk_261) rfl rfl (fun _ _ _ _ _ => rfl) ?_
      refine tK (l := xk_261) rfl rfl (fun _ _ _ _ _ => rfl) ?_
      refine tK (l := xk_261) rfl rfl (fun _ _ _ _ _ => rfl) ?_
      refine tK (l := xk_261) rfl rfl (fun _ _ _ _ _ => rfl) ?_
      refine tK (l := xk_261) rfl rfl (hAdd ⟨by omega, by omega⟩) ?_
      refine tK (l := xk_261) rfl rfl (hSald hs (by omega) ha1) ?_
      refine tK (l := xk_261) rfl rfl (fun _ _ _ _ _ => rfl) ?_
      refine tCa (l := xk_261) rfl rfl (hInvS rfl rfl rfl rfl (Nat.le_of_ble_eq_true rfl) (Nat.le_of_ble_eq_true rfl)) ?_
      refine w245_f (c' := c) k0 m0 (fun Q hq => c107 k0 hn (by rw [hv]; exact hq ph k0 hFd.refl)) (fun ph1 k1 m1 e1 => ?_)
      refine tKv ?_
      refine tSt (l := xk_261) rfl rfl (fun _ _ _ _ _ => rfl) (Nat.le_of_ble_eq_true rfl) ?_
      refine tK (l := xk_261) rfl rfl (fun _ _ _ _ _ => rfl) ?_
      refine tK (l := xk_261) rfl rfl (fun _ _ _ _ _ => rfl) ?_
      refine tK (l := xk_261) rfl rfl (fun _ _ _ _ _ => rfl) ?_
      refine tK (l := xk_261) rfl rfl (fun _ _ _ _ _ => rfl) ?_
      refine tK (l := xk_261) rfl rfl (hAdd ⟨by omega, by omega⟩) ?_
      refine tK (l := xk_261) rfl rfl (hSald k1.1 (by omega) ha1) ?_
      refine tCa (l := xk_261) rfl rfl (hInvV (c := 10) k1.1 rfl rfl rfl rfl rfl (Nat.le_of_ble_eq_true rfl) (Nat.le_of_ble_eq_true rfl)) ?_
      refine m177n m1 hn hv (fun ph2 m2 z2 f2 => ?_)
      refine tKv ?_
      have k2 := k1.fw m2.1 f2.fw moP_k
      have e2 := (f2.2.1 168 0).trans e1
      refine tSt (l := xk_261) rfl rfl (fun _ _ _ _ _ => rfl) (Nat.le_of_ble_eq_true rfl) ?_
      refine tK (l := xk_261) rfl rfl (fun _ _ _ _ _ => rfl) ?_
      refine tCa (l := xk_261) rfl rfl (hInvV (c := 10) m2.1 rfl rfl rfl rfl rfl (Nat.le_of_ble_eq_true rfl) (Nat.le_of_ble_eq_true rfl)) ?_
      refine m144 m2 ?_
      refine tKv ?_
      rw [z2]
      refine tK (l := xk_261) rfl rfl (fun _ _ _ _ _ => rfl) ?_
      refine tIc_eq (l := xk_261) (pc' := 1020) rfl rfl rfl (fun hc => ?_) (fun hc => ?_)
      · refine tK (l := xk_261) rfl rfl (fun _ _ _ _ _ => rfl) ?_
        refine tIf_ne (l := xk_261) (pc' := 1044) rfl rfl rfl (fun hc => ?_) (fun hc => ?_)
        · refine tK (l := xk_261) rfl rfl (fun _ _ _ _ _ => rfl) ?_
          refine tK (l := xk_261) rfl rfl (fun _ _ _ _ _ => rfl) ?_
          first | refine tK (l := xk_261) rfl rfl (hLaldN m2.1 rfl rfl (by omega)) ?_ | refine tK (l := xk_261) rfl rfl (hLald m2.1 rfl (by omega) (by omega)) ?_
          rw [e2]
          refine tK (l := xk_261) rfl rfl (fun _ _ _ _ _ => rfl) ?_
          refine tIf_eq (l := xk_261) (pc' := 1037) rfl rfl rfl (fun hc => ?_) (fun hc => ?_)
          · refine tK (l := xk_261) rfl rfl (fun _ _ _ _ _ => rfl) ?_
            refine tK (l := xk_261) rfl rfl (fun _ _ _ _ _ => rfl) ?_
            refine tIf_eq (l := xk_261) (pc' := 1044) rfl rfl rfl (fun hc => ?_) (fun hc => ?_)
            · refine tK (l := xk_261) rfl rfl (fun _ _ _ _ _ => rfl) ?_
              exact hN ph2 _ _ _ _ _ _ k2 m2 (ho.up) (by omega)
            · exact absurd (lc_rfl _) hc
          · exact absurd rfl hc
        · exact absurd rfl hc
      · exact absurd rfl hc
    | some v =>
      refine tK (l := xk_261) rfl rfl (fun _ _ _ _ _ => rfl) ?_
      refine tK (l := xk_261) rfl rfl (fun _ _ _ _ _ => rfl) ?_
      refine tK (l := xk_261) rfl rfl (fun _ _ _ _ _ => rfl) ?_
      refine tK (l := xk_261) rfl rfl (fun _ _ _ _ _ => rfl) ?_
      refine tK (l := xk_261) rfl rfl (hAdd ⟨by omega, by omega⟩) ?_
      refine tK (l := xk_261) rfl rfl (hSald hs (by omega) ha1) ?_
      refine tK (l := xk_261) rfl rfl (fun _ _ _ _ _ => rfl) ?_
      refine tCa (l := xk_261) rfl rfl (hInvS rfl rfl rfl rfl (Nat.le_of_ble_eq_true rfl) (Nat.le_of_ble_eq_true rfl)) ?_
      refine w245_t (c' := c) k0 m0 (fun Q hq => c107 k0 hn (by rw [hv]; exact hq ph k0 hFd.refl)) (fun ph1 k1 m1 e1 => ?_)
      refine tKv ?_
      refine tSt (l := xk_261) rfl rfl (fun _ _ _ _ _ => rfl) (Nat.le_of_ble_eq_true rfl) ?_
      refine tK (l := xk_261) rfl rfl (fun _ _ _ _ _ => rfl) ?_
      refine tK (l := xk_261) rfl rfl (fun _ _ _ _ _ => rfl) ?_
      refine tK (l := xk_261) rfl rfl (fun _ _ _ _ _ => rfl) ?_
      refine tK (l := xk_261) rfl rfl (fun _ _ _ _ _ => rfl) ?_
      refine tK (l := xk_261) rfl rfl (hAdd ⟨by omega, by omega⟩) ?_
      refine tK (l := xk_261) rfl rfl (hSald k1.1 (by omega) ha1) ?_
      refine tCa (l := xk_261) rfl rfl (hInvV (c := 10) k1.1 rfl rfl rfl rfl rfl (Nat.le_of_ble_eq_true rfl) (Nat.le_of_ble_eq_true rfl)) ?_
      refine m177 m1 hn hv (fun ph2 m2 z2 f2 => ?_)
      refine tKv ?_
      have k2 := k1.fw m2.1 f2.fw moP_k
      have e2 := (f2.2.1 168 0).trans e1
      refine tSt (l := xk_261) rfl rfl (fun _ _ _ _ _ => rfl) (Nat.le_of_ble_eq_true rfl) ?_
      refine tK (l := xk_261) rfl rfl (fun _ _ _ _ _ => rfl) ?_
      refine tCa (l := xk_261) rfl rfl (hInvV (c := 10) m2.1 rfl rfl rfl rfl rfl (Nat.le_of_ble_eq_true rfl) (Nat.le_of_ble_eq_true rfl)) ?_
      refine m144 m2 ?_
      refine tKv ?_
      rw [z2]
      refine tK (l := xk_261) rfl rfl (fun _ _ _ _ _ => rfl) ?_
      refine tIc_eq (l := xk_261) (pc' := 1020) rfl rfl rfl (fun hc => ?_) (fun hc => ?_)
      · refine tK (l := xk_261) rfl rfl (fun _ _ _ _ _ => rfl) ?_
        refine tIf_ne (l := xk_261) (pc' := 1044) rfl rfl rfl (fun hc => ?_) (fun hc => ?_)
        · refine tK (l := xk_261) rfl rfl (fun _ _ _ _ _ => rfl) ?_
          refine tK (l := xk_261) rfl rfl (fun _ _ _ _ _ => rfl) ?_
          first | refine tK (l := xk_261) rfl rfl (hLaldN m2.1 rfl rfl (by omega)) ?_ | refine tK (l := xk_261) rfl rfl (hLald m2.1 rfl (by omega) (by omega)) ?_
          rw [e2]
          refine tK (l := xk_261) rfl rfl (fun _ _ _ _ _ => rfl) ?_
          refine tIf_eq (l := xk_261) (pc' := 1037) rfl rfl rfl (fun hc => ?_) (fun hc => ?_)
          · exact absurd hc (by decide)
          · refine tK (l := xk_261) rfl rfl (fun _ _ _ _ _ => rfl) ?_
            refine tK (l := xk_261) rfl rfl (fun _ _ _ _ _ => rfl) ?_
            refine tK (l := xk_261) rfl rfl (fun _ _ _ _ _ => rfl) ?_
            refine tIf_eq (l := xk_261) (pc' := 1044) rfl rfl rfl (fun hc => ?_) (fun hc => ?_)
            · refine tK (l := xk_261) rfl rfl (fun _ _ _ _ _ => rfl) ?_
              exact hN ph2 _ _ _ _ _ _ k2 m2 (ho.up) (by omega)
            · exact absurd (lc_rfl _) hc
        · exact absurd rfl hc
      · exact absurd rfl hc
  · refine tK (l := xk_261) rfl rfl (fun _ _ _ _ _ => rfl) ?_
    refine tK (l := xk_261) rfl rfl (fun _ _ _ _ _ => rfl) ?_
    refine tK (l := xk_261) rfl rfl (fun _ _ _ _ _ => rfl) ?_
    refine tK (l := xk_261) rfl rfl (fun _ _ _ _ _ => rfl) ?_
    refine tK (l := xk_261) rfl rfl (hAdd ⟨by omega, by omega⟩) ?_
    refine tK (l := xk_261) rfl rfl (hSald hs (by omega) ha1) ?_
    refine tK (l := xk_261) rfl rfl (fun _ _ _ _ _ => rfl) ?_
    refine tCa (l := xk_261) rfl rfl (hInvS rfl rfl rfl rfl (Nat.le_of_ble_eq_true rfl) (Nat.le_of_ble_eq_true rfl)) ?_
    refine w245_2 k0 m0 (fun Q hq => c107x hx k0.1 (hq ph k0 hFd.refl)) (fun ph1 k1 m1 => ?_)
    refine tKv ?_
    refine tSt (l := xk_261) rfl rfl (fun _ _ _ _ _ => rfl) (Nat.le_of_ble_eq_true rfl) ?_
    refine tK (l := xk_261) rfl rfl (fun _ _ _ _ _ => rfl) ?_
    refine tK (l := xk_261) rfl rfl (fun _ _ _ _ _ => rfl) ?_
    refine tK (l := xk_261) rfl rfl (fun _ _ _ _ _ => rfl) ?_
    refine tK (l := xk_261) rfl rfl (fun _ _ _ _ _ => rfl) ?_
    refine tK (l := xk_261) rfl rfl (hAdd ⟨by omega, by omega⟩) ?_
    refine tK (l := xk_261) rfl rfl (hSald k1.1 (by omega) ha1) ?_
    refine tCa (l := xk_261) rfl rfl (hInvV (c := 10) k1.1 rfl rfl rfl rfl rfl (Nat.le_of_ble_eq_true rfl) (Nat.le_of_ble_eq_true rfl)) ?_
    refine m177x m1 hx (fun ph2 m2 z2 f2 => ?_)
    refine tKv ?_
    have k2 := k1.fw m2.1 f2.fw moP_k
    refine tSt (l := xk_261) rfl rfl (fun _ _ _ _ _ => rfl) (Nat.le_of_ble_eq_true rfl) ?_
    refine tK (l := xk_261) rfl rfl (fun _ _ _ _ _ => rfl) ?_
    refine tCa (l := xk_261) rfl rfl (hInvV (c := 10) m2.1 rfl rfl rfl rfl rfl (Nat.le_of_ble_eq_true rfl) (Nat.le_of_ble_eq_true rfl)) ?_
    refine m144 m2 ?_
    refine tKv ?_
    rw [z2]
    refine tK (l := xk_261) rfl rfl (fun _ _ _ _ _ => rfl) ?_
    refine tIc_eq (l := xk_261) (pc' := 1020) rfl rfl rfl (fun hc => ?_) (fun hc => ?_)
    · refine tK (l := xk_261) rfl rfl (fun _ _ _ _ _ => rfl) ?_
      refine tIf_ne (l := xk_261) (pc' := 1044) rfl rfl rfl (fun hc => ?_) (fun hc => ?_)
      · exact absurd hc (by decide)
      · refine tK (l := xk_261) rfl rfl (fun _ _ _ _ _ => rfl) ?_
        exact hN ph2 _ _ _ _ _ _ k2 m2 (ho.up) (by omega)
    · exact absurd rfl hc
set_option maxRecDepth 20000 in
theorem op_18 {zs : List xV} {ph : xH} {g d B i : Nat} {Q : xR → Prop} {c : KS} {x5 x6 x7 x8 : Option xV} (hz : zs.length ≤ 1536) (hi : i + 2 < zs.length) (k0 : hKl zs ph c) (m0 : hMm zs ph c) (ho : okKS B c) (hB : B ≤ 512) {a : Int} (ha1 : zs[((i : Int) + 1).toNat]? = some (.inl a)) (hN : ∀ (ph2 : xH) (c2 : KS) (g2 : Nat) (y5 y6 y7 y8 : Option xV), hKl zs ph2 c2 → hMm zs ph2 c2 → okKS (B + 1) c2 → g2 ≤ g + 1 → xT (d + 1240) 261 2033 (xlo [some (.inr (.inl (some 0))), some (.inr (.inl (some 1))), some (.inr (.inl (some 147))), some (.inr (.inl (some 168))), some (.inl (i : Int)), y5, y6, y7, y8]) [] ph2 g2 Q) : xT (d + 1240) 261 1047 (xlo [some (.inr (.inl (some 0))), some (.inr (.inl (some 1))), some (.inr (.inl (some 147))), some (.inr (.inl (some 168))), some (.inl (i : Int)), x5, x6, x7, x8]) [] ph g Q := by
  have hs := k0.1
  have hz168 := hK168.2
  by_cases hx : 0 ≤ a ∧ a < 8
  · obtain ⟨n, rfl⟩ : ∃ k : Nat, a = (k : Int) := ⟨a.toNat, by omega⟩
    have hn : n < 8 := by omega
    cases hv : c.2.1.1 n with
    | none =>
      refine tK (l := xk_261) rfl rfl (fun _ _ _ _ _ => rfl) ?_
      refine tK (l := xk_261) rfl rfl (fun _ _ _ _ _ => rfl) ?_
      refine tK (l := xk_261) rfl rfl (fun _ _ _ _ _ => rfl) ?_
      refine tK (l := xk_261) rfl rfl (fun _ _ _ _ _ => rfl) ?_
      refine tK (l := xk_261) rfl rfl (hAdd ⟨by omega, by omega⟩) ?_
      refine tK (l := xk_261) rfl rfl (hSald hs (by omega) ha1) ?_
      refine tK (l := xk_261) rfl rfl (fun _ _ _ _ _ => rfl) ?_
      refine tCa (l := xk_261) rfl rfl (hInvS rfl rfl rfl rfl (Nat.le_of_ble_eq_true rfl) (Nat.le_of_ble_eq_true rfl)) ?_
      refine w246_1 k0 m0 (fun Q hq => c136n k0 hn hv (hq ph k0 hFd.refl)) (fun ph1 k1 m1 => ?_)
      refine tKv ?_
      refine tSt (l := xk_261) rfl rfl (fun _ _ _ _ _ => rfl) (Nat.le_of_ble_eq_true rfl) ?_
      refine tK (l := xk_261) rfl rfl (fun _ _ _ _ _ => rfl) ?_
      refine tK (l := xk_261) rfl rfl (fun _ _ _ _ _ => rfl) ?_
      refine tK (l := xk_261) rfl rfl (fun _ _ _ _ _ => rfl) ?_
      refine tK (l := xk_261) rfl rfl (fun _ _ _ _ _ => rfl) ?_
      refine tK (l := xk_261) rfl rfl (hAdd ⟨by omega, by omega⟩) ?_
      refine tK (l := xk_261) rfl rfl (hSald k1.1 (by omega) ha1) ?_
      refine tCa (l := xk_261) rfl rfl (hInvV (c := 10) k1.1 rfl rfl rfl rfl rfl (Nat.le_of_ble_eq_true rfl) (Nat.le_of_ble_eq_true rfl)) ?_
      refine m178n m1 hn hv (fun ph2 m2 z2 f2 => ?_)
      refine tKv ?_
      have k2 := k1.fw m2.1 f2.fw moP_k
      refine tSt (l := xk_261) rfl rfl (fun _ _ _ _ _ => rfl) (Nat.le_of_ble_eq_true rfl) ?_
      refine tK (l := xk_261) rfl rfl (fun _ _ _ _ _ => rfl) ?_
      refine tCa (l := xk_261) rfl rfl (hInvV (c := 10) m2.1 rfl rfl rfl rfl rfl (Nat.le_of_ble_eq_true rfl) (Nat.le_of_ble_eq_true rfl)) ?_
      refine m144 m2 ?_
      refine tKv ?_
      rw [z2]
      refine tK (l := xk_261) rfl rfl (fun _ _ _ _ _ => rfl) ?_
      refine tIc_eq (l := xk_261) (pc' := 1083) rfl rfl rfl (fun hc => ?_) (fun hc => ?_)
      · refine tK (l := xk_261) rfl rfl (fun _ _ _ _ _ => rfl) ?_
        refine tIf_ne (l := xk_261) (pc' := 1100) rfl rfl rfl (fun hc => ?_) (fun hc => ?_)
        · exact absurd hc (by decide)
        · refine tK (l := xk_261) rfl rfl (fun _ _ _ _ _ => rfl) ?_
          exact hN ph2 _ _ _ _ _ _ k2 m2 (ho.up) (by omega)
      · exact absurd rfl hc
    | some v =>
      have hv24 := (ho.2.1.1 n hn v hv).2
      have hokv := (ho.2.1.1 n hn v hv).1
      refine tK (l := xk_261) rfl rfl (fun _ _ _ _ _ => rfl) ?_
      refine tK (l := xk_261) rfl rfl (fun _ _ _ _ _ => rfl) ?_
      refine tK (l := xk_261) rfl rfl (fun _ _ _ _ _ => rfl) ?_
      refine tK (l := xk_261) rfl rfl (fun _ _ _ _ _ => rfl) ?_
      refine tK (l := xk_261) rfl rfl (hAdd ⟨by omega, by omega⟩) ?_
      refine tK (l := xk_261) rfl rfl (hSald hs (by omega) ha1) ?_
      refine tK (l := xk_261) rfl rfl (fun _ _ _ _ _ => rfl) ?_
      refine tCa (l := xk_261) rfl rfl (hInvS rfl rfl rfl rfl (Nat.le_of_ble_eq_true rfl) (Nat.le_of_ble_eq_true rfl)) ?_
      refine w246 k0 m0 (fun Q hq => c136 k0 hn hv (hq ph k0 hFd.refl)) (fun ph1 k1 m1 e1 => ?_)
      refine tKv ?_
      refine tSt (l := xk_261) rfl rfl (fun _ _ _ _ _ => rfl) (Nat.le_of_ble_eq_true rfl) ?_
      refine tK (l := xk_261) rfl rfl (fun _ _ _ _ _ => rfl) ?_
      refine tK (l := xk_261) rfl rfl (fun _ _ _ _ _ => rfl) ?_
      refine tK (l := xk_261) rfl rfl (fun _ _ _ _ _ => rfl) ?_
      refine tK (l := xk_261) rfl rfl (fun _ _ _ _ _ => rfl) ?_
      refine tK (l := xk_261) rfl rfl (hAdd ⟨by omega, by omega⟩) ?_
      refine tK (l := xk_261) rfl rfl (hSald k1.1 (by omega) ha1) ?_
      refine tCa (l := xk_261) rfl rfl (hInvV (c := 10) k1.1 rfl rfl rfl rfl rfl (Nat.le_of_ble_eq_true rfl) (Nat.le_of_ble_eq_true rfl)) ?_
      refine m178 m1 hn hv (fun ph2 m2 z2 f2 => ?_)
      refine tKv ?_
      have k2 := k1.fw m2.1 f2.fw moP_k
      have e2 := (f2.2.1 168 0).trans e1
      refine tSt (l := xk_261) rfl rfl (fun _ _ _ _ _ => rfl) (Nat.le_of_ble_eq_true rfl) ?_
      refine tK (l := xk_261) rfl rfl (fun _ _ _ _ _ => rfl) ?_
      refine tCa (l := xk_261) rfl rfl (hInvV (c := 10) m2.1 rfl rfl rfl rfl rfl (Nat.le_of_ble_eq_true rfl) (Nat.le_of_ble_eq_true rfl)) ?_
      refine m144 m2 ?_
      refine tKv ?_
      rw [z2]
      refine tK (l := xk_261) rfl rfl (fun _ _ _ _ _ => rfl) ?_
      refine tIc_eq (l := xk_261) (pc' := 1083) rfl rfl rfl (fun hc => ?_) (fun hc => ?_)
      · refine tK (l := xk_261) rfl rfl (fun _ _ _ _ _ => rfl) ?_
        refine tIf_ne (l := xk_261) (pc' := 1100) rfl rfl rfl (fun hc => ?_) (fun hc => ?_)
        · refine tK (l := xk_261) rfl rfl (fun _ _ _ _ _ => rfl) ?_
          refine tK (l := xk_261) rfl rfl (fun _ _ _ _ _ => rfl) ?_
          first | refine tK (l := xk_261) rfl rfl (hLaldN m2.1 rfl rfl (by omega)) ?_ | refine tK (l := xk_261) rfl rfl (hLald m2.1 rfl (by omega) (by omega)) ?_
          rw [e2]
          refine tK (l := xk_261) rfl rfl (fun _ _ _ _ _ => rfl) ?_
          refine tK (l := xk_261) rfl rfl (fun _ _ _ _ _ => rfl) ?_
          refine tK (l := xk_261) rfl rfl (fun _ _ _ _ _ => rfl) ?_
          refine tIf_eq (l := xk_261) (pc' := 1100) rfl rfl rfl (fun hc => ?_) (fun hc => ?_)
          · refine tK (l := xk_261) rfl rfl (fun _ _ _ _ _ => rfl) ?_
            exact hN ph2 _ _ _ _ _ _ k2 m2 (ho.up) (by omega)
          · exact absurd (lc_rfl _) hc
        · exact absurd rfl hc
      · exact absurd rfl hc
  · refine tK (l := xk_261) rfl rfl (fun _ _ _ _ _ => rfl) ?_
    refine tK (l := xk_261) rfl rfl (fun _ _ _ _ _ => rfl) ?_
    refine tK (l := xk_261) rfl rfl (fun _ _ _ _ _ => rfl) ?_
    refine tK (l := xk_261) rfl rfl (fun _ _ _ _ _ => rfl) ?_
    refine tK (l := xk_261) rfl rfl (hAdd ⟨by omega, by omega⟩) ?_
    refine tK (l := xk_261) rfl rfl (hSald hs (by omega) ha1) ?_
    refine tK (l := xk_261) rfl rfl (fun _ _ _ _ _ => rfl) ?_
    refine tCa (l := xk_261) rfl rfl (hInvS rfl rfl rfl rfl (Nat.le_of_ble_eq_true rfl) (Nat.le_of_ble_eq_true rfl)) ?_
    refine w246_2 k0 m0 (fun Q hq => c136x hx k0.1 (hq ph k0 hFd.refl)) (fun ph1 k1 m1 => ?_)
    refine tKv ?_
    refine tSt (l := xk_261) rfl rfl (fun _ _ _ _ _ => rfl) (Nat.le_of_ble_eq_true rfl) ?_
    refine tK (l := xk_261) rfl rfl (fun _ _ _ _ _ => rfl) ?_
    refine tK (l := xk_261) rfl rfl (fun _ _ _ _ _ => rfl) ?_
    refine tK (l := xk_261) rfl rfl (fun _ _ _ _ _ => rfl) ?_
    refine tK (l := xk_261) rfl rfl (fun _ _ _ _ _ => rfl) ?_
    refine tK (l := xk_261) rfl rfl (hAdd ⟨by omega, by omega⟩) ?_
    refine tK (l := xk_261) rfl rfl (hSald k1.1 (by omega) ha1) ?_
    refine tCa (l := xk_261) rfl rfl (hInvV (c := 10) k1.1 rfl rfl rfl rfl rfl (Nat.le_of_ble_eq_true rfl) (Nat.le_of_ble_eq_true rfl)) ?_
    refine m178x m1 hx (fun ph2 m2 z2 f2 => ?_)
    refine tKv ?_
    have k2 := k1.fw m2.1 f2.fw moP_k
    refine tSt (l := xk_261) rfl rfl (fun _ _ _ _ _ => rfl) (Nat.le_of_ble_eq_true rfl) ?_
    refine tK (l := xk_261) rfl rfl (fun _ _ _ _ _ => rfl) ?_
    refine tCa (l := xk_261) rfl rfl (hInvV (c := 10) m2.1 rfl rfl rfl rfl rfl (Nat.le_of_ble_eq_true rfl) (Nat.le_of_ble_eq_true rfl)) ?_
    refine m144 m2 ?_
    refine tKv ?_
    rw [z2]
    refine tK (l := xk_261) rfl rfl (fun _ _ _ _ _ => rfl) ?_
    refine tIc_eq (l := xk_261) (pc' := 1083) rfl rfl rfl (fun hc => ?_) (fun hc => ?_)
    · refine tK (l := xk_261) rfl rfl (fun _ _ _ _ _ => rfl) ?_
      refine tIf_ne (l := xk_261) (pc' := 1100) rfl rfl rfl (fun hc => ?_) (fun hc => ?_)
      · exact absurd hc (by decide)
      · refine tK (l := xk_261) rfl rfl (fun _ _ _ _ _ => rfl) ?_
        exact hN ph2 _ _ _ _ _ _ k2 m2 (ho.up) (by omega)
    · exact absurd rfl hc
set_option maxRecDepth 20000 in
theorem op_19 {zs : List xV} {ph : xH} {g d B i : Nat} {Q : xR → Prop} {c : KS} {x5 x6 x7 x8 : Option xV} (hz : zs.length ≤ 1536) (hi : i + 2 < zs.length) (k0 : hKl zs ph c) (m0 : hMm zs ph c) (ho : okKS B c) (hB : B ≤ 512) {a : Int} (ha1 : zs[((i : Int) + 1).toNat]? = some (.inl a)) {b : Int} (ha2 : zs[((i : Int) + 2).toNat]? = some (.inl b)) (hN : ∀ (ph2 : xH) (c2 : KS) (g2 : Nat) (y5 y6 y7 y8 : Option xV), hKl zs ph2 c2 → hMm zs ph2 c2 → okKS (B + 1) c2 → g2 ≤ g + 1 → xT (d + 1240) 261 2033 (xlo [some (.inr (.inl (some 0))), some (.inr (.inl (some 1))), some (.inr (.inl (some 147))), some (.inr (.inl (some 168))), some (.inl (i : Int)), y5, y6, y7, y8]) [] ph2 g2 Q) : xT (d + 1240) 261 1103 (xlo [some (.inr (.inl (some 0))), some (.inr (.inl (some 1))), some (.inr (.inl (some 147))), some (.inr (.inl (some 168))), some (.inl (i : Int)), x5, x6, x7, x8]) [] ph g Q := by
  have hs := k0.1
  have hz168 := hK168.2
  by_cases hx : 0 ≤ a ∧ a < 8
  · obtain ⟨n, rfl⟩ : ∃ k : Nat, a = (k : Int) := ⟨a.toNat, by omega⟩
    have hn : n < 8 := by omega
    cases hv : c.2.1.1 n with
    | none =>
      refine tK (l := xk_261) rfl rfl (fun _ _ _ _ _ => rfl) ?_
      refine tK (l := xk_261) rfl rfl (fun _ _ _ _ _ => rfl) ?_
      refine tK (l := xk_261) rfl rfl (fun _ _ _ _ _ => rfl) ?_
      refine tK (l := xk_261) rfl rfl (fun _ _ _ _ _ => rfl) ?_
      refine tK (l := xk_261) rfl rfl (hAdd ⟨by omega, by omega⟩) ?_
      refine tK (l := xk_261) rfl rfl (hSald hs (by omega) ha1) ?_
      refine tK (l := xk_261) rfl rfl (fun _ _ _ _ _ => rfl) ?_
      refine tK (l := xk_261) rfl rfl (fun _ _ _ _ _ => rfl) ?_
      refine tK (l := xk_261) rfl rfl (fun _ _ _ _ _ => rfl) ?_
      refine tK (l := xk_261) rfl rfl (hAdd ⟨by omega, by omega⟩) ?_
      refine tK (l := xk_261) rfl rfl (hSald hs (by omega) ha2) ?_
      refine tK (l := xk_261) rfl rfl (fun _ _ _ _ _ => rfl) ?_
      refine tCa (l := xk_261) rfl rfl (hInvS rfl rfl rfl rfl (Nat.le_of_ble_eq_true rfl) (Nat.le_of_ble_eq_true rfl)) ?_
      refine w247_1 k0 m0 (fun Q hq => c137n k0 hn hv (hq ph k0 hFd.refl)) (fun ph1 k1 m1 => ?_)
      refine tKv ?_
      refine tSt (l := xk_261) rfl rfl (fun _ _ _ _ _ => rfl) (Nat.le_of_ble_eq_true rfl) ?_
      refine tK (l := xk_261) rfl rfl (fun _ _ _ _ _ => rfl) ?_
      refine tK (l := xk_261) rfl rfl (fun _ _ _ _ _ => rfl) ?_
      refine tK (l := xk_261) rfl rfl (fun _ _ _ _ _ => rfl) ?_
      refine tK (l := xk_261) rfl rfl (fun _ _ _ _ _ => rfl) ?_
      refine tK (l := xk_261) rfl rfl (hAdd ⟨by omega, by omega⟩) ?_
      refine tK (l := xk_261) rfl rfl (hSald k1.1 (by omega) ha1) ?_
      refine tK (l := xk_261) rfl rfl (fun _ _ _ _ _ => rfl) ?_
      refine tK (l := xk_261) rfl rfl (fun _ _ _ _ _ => rfl) ?_
      refine tK (l := xk_261) rfl rfl (fun _ _ _ _ _ => rfl) ?_
      refine tK (l := xk_261) rfl rfl (hAdd ⟨by omega, by omega⟩) ?_
      refine tK (l := xk_261) rfl rfl (hSald k1.1 (by omega) ha2) ?_
      refine tCa (l := xk_261) rfl rfl (hInvV (c := 10) k1.1 rfl rfl rfl rfl rfl (Nat.le_of_ble_eq_true rfl) (Nat.le_of_ble_eq_true rfl)) ?_
      refine m179n m1 hn hv (fun ph2 m2 z2 f2 => ?_)
      refine tKv ?_
      have k2 := k1.fw m2.1 f2.fw moP_k
      refine tSt (l := xk_261) rfl rfl (fun _ _ _ _ _ => rfl) (Nat.le_of_ble_eq_true rfl) ?_
      refine tK (l := xk_261) rfl rfl (fun _ _ _ _ _ => rfl) ?_
      refine tCa (l := xk_261) rfl rfl (hInvV (c := 10) m2.1 rfl rfl rfl rfl rfl (Nat.le_of_ble_eq_true rfl) (Nat.le_of_ble_eq_true rfl)) ?_
      refine m144 m2 ?_
      refine tKv ?_
      rw [z2]
      refine tK (l := xk_261) rfl rfl (fun _ _ _ _ _ => rfl) ?_
      refine tIc_eq (l := xk_261) (pc' := 1151) rfl rfl rfl (fun hc => ?_) (fun hc => ?_)
      · refine tK (l := xk_261) rfl rfl (fun _ _ _ _ _ => rfl) ?_
        refine tIf_ne (l := xk_261) (pc' := 1168) rfl rfl rfl (fun hc => ?_) (fun hc => ?_)
        · exact absurd hc (by decide)
        · refine tK (l := xk_261) rfl rfl (fun _ _ _ _ _ => rfl) ?_
          exact hN ph2 _ _ _ _ _ _ k2 m2 (ho.up) (by omega)
      · exact absurd rfl hc
    | some v =>
      have hv24 := (ho.2.1.1 n hn v hv).2
      have hokv := (ho.2.1.1 n hn v hv).1
      by_cases hy : 0 ≤ b ∧ b < (v.length : Int)
      · obtain ⟨q, rfl⟩ : ∃ k : Nat, b = (k : Int) := ⟨b.toNat, by omega⟩
        have hx2 := List.getElem?_eq_getElem (show q < v.length by omega)
        refine tK (l := xk_261) rfl rfl (fun _ _ _ _ _ => rfl) ?_
        refine tK (l := xk_261) rfl rfl (fun _ _ _ _ _ => rfl) ?_
        refine tK (l := xk_261) rfl rfl (fun _ _ _ _ _ => rfl) ?_
        refine tK (l := xk_261) rfl rfl (fun _ _ _ _ _ => rfl) ?_
        refine tK (l := xk_261) rfl rfl (hAdd ⟨by omega, by omega⟩) ?_
        refine tK (l := xk_261) rfl rfl (hSald hs (by omega) ha1) ?_
        refine tK (l := xk_261) rfl rfl (fun _ _ _ _ _ => rfl) ?_
        refine tK (l := xk_261) rfl rfl (fun _ _ _ _ _ => rfl) ?_
        refine tK (l := xk_261) rfl rfl (fun _ _ _ _ _ => rfl) ?_
        refine tK (l := xk_261) rfl rfl (hAdd ⟨by omega, by omega⟩) ?_
        refine tK (l := xk_261) rfl rfl (hSald hs (by omega) ha2) ?_
        refine tK (l := xk_261) rfl rfl (fun _ _ _ _ _ => rfl) ?_
        refine tCa (l := xk_261) rfl rfl (hInvS rfl rfl rfl rfl (Nat.le_of_ble_eq_true rfl) (Nat.le_of_ble_eq_true rfl)) ?_
        refine w247 k0 m0 (fun Q hq => c137 k0 hn hv hx2 (hq ph k0 hFd.refl)) (fun ph1 k1 m1 e1 => ?_)
        refine tKv ?_
        refine tSt (l := xk_261) rfl rfl (fun _ _ _ _ _ => rfl) (Nat.le_of_ble_eq_true rfl) ?_
        refine tK (l := xk_261) rfl rfl (fun _ _ _ _ _ => rfl) ?_
        refine tK (l := xk_261) rfl rfl (fun _ _ _ _ _ => rfl) ?_
        refine tK (l := xk_261) rfl rfl (fun _ _ _ _ _ => rfl) ?_
        refine tK (l := xk_261) rfl rfl (fun _ _ _ _ _ => rfl) ?_
        refine tK (l := xk_261) rfl rfl (hAdd ⟨by omega, by omega⟩) ?_
        refine tK (l := xk_261) rfl rfl (hSald k1.1 (by omega) ha1) ?_
        refine tK (l := xk_261) rfl rfl (fun _ _ _ _ _ => rfl) ?_
        refine tK (l := xk_261) rfl rfl (fun _ _ _ _ _ => rfl) ?_
        refine tK (l := xk_261) rfl rfl (fun _ _ _ _ _ => rfl) ?_
        refine tK (l := xk_261) rfl rfl (hAdd ⟨by omega, by omega⟩) ?_
        refine tK (l := xk_261) rfl rfl (hSald k1.1 (by omega) ha2) ?_
        refine tCa (l := xk_261) rfl rfl (hInvV (c := 10) k1.1 rfl rfl rfl rfl rfl (Nat.le_of_ble_eq_true rfl) (Nat.le_of_ble_eq_true rfl)) ?_
        refine m179 m1 hn hv hv24 hx2 (fun ph2 m2 z2 f2 => ?_)
        refine tKv ?_
        have k2 := k1.fw m2.1 f2.fw moP_k
        have e2 := (f2.2.1 168 0).trans e1
        refine tSt (l := xk_261) rfl rfl (fun _ _ _ _ _ => rfl) (Nat.le_of_ble_eq_true rfl) ?_
        refine tK (l := xk_261) rfl rfl (fun _ _ _ _ _ => rfl) ?_
        refine tCa (l := xk_261) rfl rfl (hInvV (c := 10) m2.1 rfl rfl rfl rfl rfl (Nat.le_of_ble_eq_true rfl) (Nat.le_of_ble_eq_true rfl)) ?_
        refine m144 m2 ?_
        refine tKv ?_
        rw [z2]
        refine tK (l := xk_261) rfl rfl (fun _ _ _ _ _ => rfl) ?_
        refine tIc_eq (l := xk_261) (pc' := 1151) rfl rfl rfl (fun hc => ?_) (fun hc => ?_)
        · refine tK (l := xk_261) rfl rfl (fun _ _ _ _ _ => rfl) ?_
          refine tIf_ne (l := xk_261) (pc' := 1168) rfl rfl rfl (fun hc => ?_) (fun hc => ?_)
          · refine tK (l := xk_261) rfl rfl (fun _ _ _ _ _ => rfl) ?_
            refine tK (l := xk_261) rfl rfl (fun _ _ _ _ _ => rfl) ?_
            first | refine tK (l := xk_261) rfl rfl (hLaldN m2.1 rfl rfl (by omega)) ?_ | refine tK (l := xk_261) rfl rfl (hLald m2.1 rfl (by omega) (by omega)) ?_
            rw [e2]
            refine tK (l := xk_261) rfl rfl (fun _ _ _ _ _ => rfl) ?_
            refine tK (l := xk_261) rfl rfl (fun _ _ _ _ _ => rfl) ?_
            refine tK (l := xk_261) rfl rfl (fun _ _ _ _ _ => rfl) ?_
            refine tIf_eq (l := xk_261) (pc' := 1168) rfl rfl rfl (fun hc => ?_) (fun hc => ?_)
            · refine tK (l := xk_261) rfl rfl (fun _ _ _ _ _ => rfl) ?_
              exact hN ph2 _ _ _ _ _ _ k2 m2 (ho.up) (by omega)
            · exact absurd (lc_rfl _) hc
          · exact absurd rfl hc
        · exact absurd rfl hc
      · refine tK (l := xk_261) rfl rfl (fun _ _ _ _ _ => rfl) ?_
        refine tK (l := xk_261) rfl rfl (fun _ _ _ _ _ => rfl) ?_
        refine tK (l := xk_261) rfl rfl (fun _ _ _ _ _ => rfl) ?_
        refine tK (l := xk_261) rfl rfl (fun _ _ _ _ _ => rfl) ?_
        refine tK (l := xk_261) rfl rfl (hAdd ⟨by omega, by omega⟩) ?_
        refine tK (l := xk_261) rfl rfl (hSald hs (by omega) ha1) ?_
        refine tK (l := xk_261) rfl rfl (fun _ _ _ _ _ => rfl) ?_
        refine tK (l := xk_261) rfl rfl (fun _ _ _ _ _ => rfl) ?_
        refine tK (l := xk_261) rfl rfl (fun _ _ _ _ _ => rfl) ?_
        refine tK (l := xk_261) rfl rfl (hAdd ⟨by omega, by omega⟩) ?_
        refine tK (l := xk_261) rfl rfl (hSald hs (by omega) ha2) ?_
        refine tK (l := xk_261) rfl rfl (fun _ _ _ _ _ => rfl) ?_
        refine tCa (l := xk_261) rfl rfl (hInvS rfl rfl rfl rfl (Nat.le_of_ble_eq_true rfl) (Nat.le_of_ble_eq_true rfl)) ?_
        refine w247_2 k0 m0 (fun Q hq => c137y k0 hn hv hy (hq ph k0 hFd.refl)) (fun ph1 k1 m1 => ?_)
        refine tKv ?_
        refine tSt (l := xk_261) rfl rfl (fun _ _ _ _ _ => rfl) (Nat.le_of_ble_eq_true rfl) ?_
        refine tK (l := xk_261) rfl rfl (fun _ _ _ _ _ => rfl) ?_
        refine tK (l := xk_261) rfl rfl (fun _ _ _ _ _ => rfl) ?_
        refine tK (l := xk_261) rfl rfl (fun _ _ _ _ _ => rfl) ?_
        refine tK (l := xk_261) rfl rfl (fun _ _ _ _ _ => rfl) ?_
        refine tK (l := xk_261) rfl rfl (hAdd ⟨by omega, by omega⟩) ?_
        refine tK (l := xk_261) rfl rfl (hSald k1.1 (by omega) ha1) ?_
        refine tK (l := xk_261) rfl rfl (fun _ _ _ _ _ => rfl) ?_
        refine tK (l := xk_261) rfl rfl (fun _ _ _ _ _ => rfl) ?_
        refine tK (l := xk_261) rfl rfl (fun _ _ _ _ _ => rfl) ?_
        refine tK (l := xk_261) rfl rfl (hAdd ⟨by omega, by omega⟩) ?_
        refine tK (l := xk_261) rfl rfl (hSald k1.1 (by omega) ha2) ?_
        refine tCa (l := xk_261) rfl rfl (hInvV (c := 10) k1.1 rfl rfl rfl rfl rfl (Nat.le_of_ble_eq_true rfl) (Nat.le_of_ble_eq_true rfl)) ?_
        refine m179y m1 hn hv hv24 hy (fun ph2 m2 z2 f2 => ?_)
        refine tKv ?_
        have k2 := k1.fw m2.1 f2.fw moP_k
        refine tSt (l := xk_261) rfl rfl (fun _ _ _ _ _ => rfl) (Nat.le_of_ble_eq_true rfl) ?_
        refine tK (l := xk_261) rfl rfl (fun _ _ _ _ _ => rfl) ?_
        refine tCa (l := xk_261) rfl rfl (hInvV (c := 10) m2.1 rfl rfl rfl rfl rfl (Nat.le_of_ble_eq_true rfl) (Nat.le_of_ble_eq_true rfl)) ?_
        refine m144 m2 ?_
        refine tKv ?_
        rw [z2]
        refine tK (l := xk_261) rfl rfl (fun _ _ _ _ _ => rfl) ?_
        refine tIc_eq (l := xk_261) (pc' := 1151) rfl rfl rfl (fun hc => ?_) (fun hc => ?_)
        · refine tK (l := xk_261) rfl rfl (fun _ _ _ _ _ => rfl) ?_
          refine tIf_ne (l := xk_261) (pc' := 1168) rfl rfl rfl (fun hc => ?_) (fun hc => ?_)
          · exact absurd hc (by decide)
          · refine tK (l := xk_261) rfl rfl (fun _ _ _ _ _ => rfl) ?_
            exact hN ph2 _ _ _ _ _ _ k2 m2 (ho.up) (by omega)
        · exact absurd rfl hc
  · refine tK (l := xk_261) rfl rfl (fun _ _ _ _ _ => rfl) ?_
    refine tK (l := xk_261) rfl rfl (fun _ _ _ _ _ => rfl) ?_
    refine tK (l := xk_261) rfl rfl (fun _ _ _ _ _ => rfl) ?_
    refine tK (l := xk_261) rfl rfl (fun _ _ _ _ _ => rfl) ?_
    refine tK (l := xk_261) rfl rfl (hAdd ⟨by omega, by omega⟩) ?_
    refine tK (l := xk_261) rfl rfl (hSald hs (by omega) ha1) ?_
    refine tK (l := xk_261) rfl rfl (fun _ _ _ _ _ => rfl) ?_
    refine tK (l := xk_261) rfl rfl (fun _ _ _ _ _ => rfl) ?_
    refine tK (l := xk_261) rfl rfl (fun _ _ _ _ _ => rfl) ?_
    refine tK (l := xk_261) rfl rfl (hAdd ⟨by omega, by omega⟩) ?_
    refine tK (l := xk_261) rfl rfl (hSald hs (by omega) ha2) ?_
    refine tK (l := xk_261) rfl rfl (fun _ _ _ _ _ => rfl) ?_
    refine tCa (l := xk_261) rfl rfl (hInvS rfl rfl rfl rfl (Nat.le_of_ble_eq_true rfl) (Nat.le_of_ble_eq_true rfl)) ?_
    refine w247_2 k0 m0 (fun Q hq => c137x hx k0.1 (hq ph k0 hFd.refl)) (fun ph1 k1 m1 => ?_)
    refine tKv ?_
    refine tSt (l := xk_261) rfl rfl (fun _ _ _ _ _ => rfl) (Nat.le_of_ble_eq_true rfl) ?_
    refine tK (l := xk_261) rfl rfl (fun _ _ _ _ _ => rfl) ?_
    refine tK (l := xk_261) rfl rfl (fun _ _ _ _ _ => rfl) ?_
    refine tK (l := xk_261) rfl rfl (fun _ _ _ _ _ => rfl) ?_
    refine tK (l := xk_261) rfl rfl (fun _ _ _ _ _ => rfl) ?_
    refine tK (l := xk_261) rfl rfl (hAdd ⟨by omega, by omega⟩) ?_
    refine tK (l := xk_261) rfl rfl (hSald k1.1 (by omega) ha1) ?_
    refine tK (l := xk_261) rfl rfl (fun _ _ _ _ _ => rfl) ?_
    refine tK (l := xk_261) rfl rfl (fun _ _ _ _ _ => rfl) ?_
    refine tK (l := xk_261) rfl rfl (fun _ _ _ _ _ => rfl) ?_
    refine tK (l := xk_261) rfl rfl (hAdd ⟨by omega, by omega⟩) ?_
    refine tK (l := xk_261) rfl rfl (hSald k1.1 (by omega) ha2) ?_
    refine tCa (l := xk_261) rfl rfl (hInvV (c := 10) k1.1 rfl rfl rfl rfl rfl (Nat.le_of_ble_eq_true rfl) (Nat.le_of_ble_eq_true rfl)) ?_
    refine m179x m1 hx (fun ph2 m2 z2 f2 => ?_)
    refine tKv ?_
    have k2 := k1.fw m2.1 f2.fw moP_k
    refine tSt (l := xk_261) rfl rfl (fun _ _ _ _ _ => rfl) (Nat.le_of_ble_eq_true rfl) ?_
    refine tK (l := xk_261) rfl rfl (fun _ _ _ _ _ => rfl) ?_
    refine tCa (l := xk_261) rfl rfl (hInvV (c := 10) m2.1 rfl rfl rfl rfl rfl (Nat.le_of_ble_eq_true rfl) (Nat.le_of_ble_eq_true rfl)) ?_
    refine m144 m2 ?_
    refine tKv ?_
    rw [z2]
    refine tK (l := xk_261) rfl rfl (fun _ _ _ _ _ => rfl) ?_
    refine tIc_eq (l := xk_261) (pc' := 1151) rfl rfl rfl (fun hc => ?_) (fun hc => ?_)
    · refine tK (l := xk_261) rfl rfl (fun _ _ _ _ _ => rfl) ?_
      refine tIf_ne (l := xk_261) (pc' := 1168) rfl rfl rfl (fun hc => ?_) (fun hc => ?_)
      · exact absurd hc (by decide)
      · refine tK (l := xk_261) rfl rfl (fun _ _ _ _ _ => rfl) ?_
        exact hN ph2 _ _ _ _ _ _ k2 m2 (ho.up) (by omega)
    · exact absurd rfl hc
set_option maxRecDepth 20000 in
theorem op_20 {zs : List xV} {ph : xH} {g d B i : Nat} {Q : xR → Prop} {c : KS} {x5 x6 x7 x8 : Option xV} (hz : zs.length ≤ 1536) (hi : i + 2 < zs.length) (k0 : hKl zs ph c) (m0 : hMm zs ph c) (ho : okKS B c) (hB : B ≤ 512) {a : Int} (ha1 : zs[((i : Int) + 1).toNat]? = some (.inl a)) (hN : ∀ (ph2 : xH) (c2 : KS) (g2 : Nat) (y5 y6 y7 y8 : Option xV), hKl zs ph2 c2 → hMm zs ph2 c2 → okKS (B + 1) c2 → g2 ≤ g + 1 → xT (d + 1240) 261 2033 (xlo [some (.inr (.inl (some 0))), some (.inr (.inl (some 1))), some (.inr (.inl (some 147))), some (.inr (.inl (some 168))), some (.inl (i : Int)), y5, y6, y7, y8]) [] ph2 g2 Q) : xT (d + 1240) 261 1171 (xlo [some (.inr (.inl (some 0))), some (.inr (.inl (some 1))), some (.inr (.inl (some 147))), some (.inr (.inl (some 168))), some (.inl (i : Int)), x5, x6, x7, x8]) [] ph g Q := by
  have hs := k0.1
  have hz168 := hK168.2
  by_cases hx : 0 ≤ a ∧ a < 8
  · obtain ⟨n, rfl⟩ : ∃ k : Nat, a = (k : Int) := ⟨a.toNat, by omega⟩
    have hn : n < 8 := by omega
    cases hv : c.2.1.1 n with
    | none =>
      refine tK (l := xk_261) rfl rfl (fun _ _ _ _ _ => rfl) ?_
      refine tK (l := xk_261) rfl rfl (fun _ _ _ _ _ => rfl) ?_
      refine tK (l := xk_261) rfl rfl (fun _ _ _ _ _ => rfl) ?_
      refine tK (l := xk_261) rfl rfl (fun _ _ _ _ _ => rfl) ?_
      refine tK (l := xk_261) rfl rfl (hAdd ⟨by omega, by omega⟩) ?_
      refine tK (l := xk_261) rfl rfl (hSald hs (by omega) ha1) ?_
      refine tK (l := xk_261) rfl rfl (fun _ _ _ _ _ => rfl) ?_
      refine tCa (l := xk_261) rfl rfl (hInvS rfl rfl rfl rfl (Nat.le_of_ble_eq_true rfl) (Nat.le_of_ble_eq_true rfl)) ?_
      refine w248_1 k0 m0 (fun Q hq => c109n k0 hn hv (hq ph k0 hFd.refl)) (fun ph1 k1 m1 => ?_)
      refine tKv ?_
      refine tSt (l := xk_261) rfl rfl (fun _ _ _ _ _ => rfl) (Nat.le_of_ble_eq_true rfl) ?_
      refine tK (l := xk_261) rfl rfl (fun _ _ _ _ _ => rfl) ?_
      refine tK (l := xk_261) rfl rfl (fun _ _ _ _ _ => rfl) ?_
      refine tK (l := xk_261) rfl rfl (fun _ _ _ _ _ => rfl) ?_
      refine tK (l := xk_261) rfl rfl (fun _ _ _ _ _ => rfl) ?_
      refine tK (l := xk_261) rfl rfl (hAdd ⟨by omega, by omega⟩) ?_
      refine tK (l := xk_261) rfl rfl (hSald k1.1 (by omega) ha1) ?_
      refine tCa (l := xk_261) rfl rfl (hInvV (c := 10) k1.1 rfl rfl rfl rfl rfl (Nat.le_of_ble_eq_true rfl) (Nat.le_of_ble_eq_true rfl)) ?_
      refine m180n m1 hn hv (fun ph2 m2 z2 f2 => ?_)
      refine tKv ?_
      have k2 := k1.fw m2.1 f2.fw moP_k
      refine tSt (l := xk_261) rfl rfl (fun _ _ _ _ _ => rfl) (Nat.le_of_ble_eq_true rfl) ?_
      refine tK (l := xk_261) rfl rfl (fun _ _ _ _ _ => rfl) ?_
      refine tCa (l := xk_261) rfl rfl (hInvV (c := 10) m2.1 rfl rfl rfl rfl rfl (Nat.le_of_ble_eq_true rfl) (Nat.le_of_ble_eq_true rfl)) ?_
      refine m144 m2 ?_
      refine tKv ?_
      rw [z2]
      refine tK (l := xk_261) rfl rfl (fun _ _ _ _ _ => rfl) ?_
      refine tIc_eq (l := xk_261) (pc' := 1207) rfl rfl rfl (fun hc => ?_) (fun hc => ?_)
      · refine tK (l := xk_261) rfl rfl (fun _ _ _ _ _ => rfl) ?_
        refine tIf_ne (l := xk_261) (pc' := 1231) rfl rfl rfl (fun hc => ?_) (fun hc => ?_)
        · exact absurd hc (by decide)
        · refine tK (l := xk_261) rfl rfl (fun _ _ _ _ _ => rfl) ?_
          exact hN ph2 _ _ _ _ _ _ k2 m2 (ho.up) (by omega)
      · exact absurd rfl hc
    | some v =>
      have hv24 := (ho.2.1.1 n hn v hv).2
      have hokv := (ho.2.1.1 n hn v hv).1
      cases hp : pWh v with
      | true =>
        refine tK (l := xk_261) rfl rfl (fun _ _ _ _ _ => rfl) ?_
        refine tK (l := xk_261) rfl rfl (fun _ _ _ _ _ => rfl) ?_
        refine tK (l := xk_261) rfl rfl (fun _ _ _ _ _ => rfl) ?_
        refine tK (l := xk_261) rfl rfl (fun _ _ _ _ _ => rfl) ?_
        refine tK (l := xk_261) rfl rfl (hAdd ⟨by omega, by omega⟩) ?_
        refine tK (l := xk_261) rfl rfl (hSald hs (by omega) ha1) ?_
        refine tK (l := xk_261) rfl rfl (fun _ _ _ _ _ => rfl) ?_
        refine tCa (l := xk_261) rfl rfl (hInvS rfl rfl rfl rfl (Nat.le_of_ble_eq_true rfl) (Nat.le_of_ble_eq_true rfl)) ?_
        refine w248_t (c' := c) k0 m0 (fun Q hq => c109 k0 hn hv hv24 (fun ph2 k f => by rw [if_pos hp]; exact hq ph2 k f)) (fun ph1 k1 m1 e1 => ?_)
        refine tKv ?_
        refine tSt (l := xk_261) rfl rfl (fun _ _ _ _ _ => rfl) (Nat.le_of_ble_eq_true rfl) ?_
        refine tK (l := xk_261) rfl rfl (fun _ _ _ _ _ => rfl) ?_
        refine tK (l := xk_261) rfl rfl (fun _ _ _ _ _ => rfl) ?_
        refine tK (l := xk_261) rfl rfl (fun _ _ _ _ _ => rfl) ?_
        refine tK (l := xk_261) rfl rfl (fun _ _ _ _ _ => rfl) ?_
        refine tK (l := xk_261) rfl rfl (hAdd ⟨by omega, by omega⟩) ?_
        refine tK (l := xk_261) rfl rfl (hSald k1.1 (by omega) ha1) ?_
        refine tCa (l := xk_261) rfl rfl (hInvV (c := 10) k1.1 rfl rfl rfl rfl rfl (Nat.le_of_ble_eq_true rfl) (Nat.le_of_ble_eq_true rfl)) ?_
        refine m180 m1 hn hv hokv (fun ph2 m2 z2 f2 => ?_)
        refine tKv ?_
        have k2 := k1.fw m2.1 f2.fw moP_k
        rw [if_pos hp]
        have e2 := (f2.2.1 168 0).trans e1
        refine tSt (l := xk_261) rfl rfl (fun _ _ _ _ _ => rfl) (Nat.le_of_ble_eq_true rfl) ?_
        refine tK (l := xk_261) rfl rfl (fun _ _ _ _ _ => rfl) ?_
        refine tCa (l := xk_261) rfl rfl (hInvV (c := 10) m2.1 rfl rfl rfl rfl rfl (Nat.le_of_ble_eq_true rfl) (Nat.le_of_ble_eq_true rfl)) ?_
        refine m144 m2 ?_
        refine tKv ?_
        rw [z2]
        refine tK (l := xk_261) rfl rfl (fun _ _ _ _ _ => rfl) ?_
        refine tIc_eq (l := xk_261) (pc' := 1207) rfl rfl rfl (fun hc => ?_) (fun hc => ?_)
        · refine tK (l := xk_261) rfl rfl (fun _ _ _ _ _ => rfl) ?_
          refine tIf_ne (l := xk_261) (pc' := 1231) rfl rfl rfl (fun hc => ?_) (fun hc => ?_)
          · refine tK (l := xk_261) rfl rfl (fun _ _ _ _ _ => rfl) ?_
            refine tK (l := xk_261) rfl rfl (fun _ _ _ _ _ => rfl) ?_
            first | refine tK (l := xk_261) rfl rfl (hLaldN m2.1 rfl rfl (by omega)) ?_ | refine tK (l := xk_261) rfl rfl (hLald m2.1 rfl (by omega) (by omega)) ?_
            rw [e2]
            refine tK (l := xk_261) rfl rfl (fun _ _ _ _ _ => rfl) ?_
            refine tIf_eq (l := xk_261) (pc' := 1224) rfl rfl rfl (fun hc => ?_) (fun hc => ?_)
            · exact absurd hc (by decide)
            · refine tK (l := xk_261) rfl rfl (fun _ _ _ _ _ => rfl) ?_
              refine tK (l := xk_261) rfl rfl (fun _ _ _ _ _ => rfl) ?_
              refine tK (l := xk_261) rfl rfl (fun _ _ _ _ _ => rfl) ?_
              refine tIf_eq (l := xk_261) (pc' := 1231) rfl rfl rfl (fun hc => ?_) (fun hc => ?_)
              · refine tK (l := xk_261) rfl rfl (fun _ _ _ _ _ => rfl) ?_
                exact hN ph2 _ _ _ _ _ _ k2 m2 (ho.up) (by omega)
              · exact absurd (lc_rfl _) hc
          · exact absurd rfl hc
        · exact absurd rfl hc
      | false =>
        refine tK (l := xk_261) rfl rfl (fun _ _ _ _ _ => rfl) ?_
        refine tK (l := xk_261) rfl rfl (fun _ _ _ _ _ => rfl) ?_
        refine tK (l := xk_261) rfl rfl (fun _ _ _ _ _ => rfl) ?_
        refine tK (l := xk_261) rfl rfl (fun _ _ _ _ _ => rfl) ?_
        refine tK (l := xk_261) rfl rfl (hAdd ⟨by omega, by omega⟩) ?_
        refine tK (l := xk_261) rfl rfl (hSald hs (by omega) ha1) ?_
        refine tK (l := xk_261) rfl rfl (fun _ _ _ _ _ => rfl) ?_
        refine tCa (l := xk_261) rfl rfl (hInvS rfl rfl rfl rfl (Nat.le_of_ble_eq_true rfl) (Nat.le_of_ble_eq_true rfl)) ?_
        refine w248_f (c' := c) k0 m0 (fun Q hq => c109 k0 hn hv hv24 (fun ph2 k f => by rw [if_neg (by rw [hp]; decide)]; exact hq ph2 k f)) (fun ph1 k1 m1 e1 => ?_)
        refine tKv ?_
        refine tSt (l := xk_261) rfl rfl (fun _ _ _ _ _ => rfl) (Nat.le_of_ble_eq_true rfl) ?_
        refine tK (l := xk_261) rfl rfl (fun _ _ _ _ _ => rfl) ?_
        refine tK (l := xk_261) rfl rfl (fun _ _ _ _ _ => rfl) ?_
        refine tK (l := xk_261) rfl rfl (fun _ _ _ _ _ => rfl) ?_
        refine tK (l := xk_261) rfl rfl (fun _ _ _ _ _ => rfl) ?_
        refine tK (l := xk_261) rfl rfl (hAdd ⟨by omega, by omega⟩) ?_
        refine tK (l := xk_261) rfl rfl (hSald k1.1 (by omega) ha1) ?_
        refine tCa (l := xk_261) rfl rfl (hInvV (c := 10) k1.1 rfl rfl rfl rfl rfl (Nat.le_of_ble_eq_true rfl) (Nat.le_of_ble_eq_true rfl)) ?_
        refine m180 m1 hn hv hokv (fun ph2 m2 z2 f2 => ?_)
        refine tKv ?_
        have k2 := k1.fw m2.1 f2.fw moP_k
        rw [if_neg (by rw [hp]; decide)]
        have e2 := (f2.2.1 168 0).trans e1
        refine tSt (l := xk_261) rfl rfl (fun _ _ _ _ _ => rfl) (Nat.le_of_ble_eq_true rfl) ?_
        refine tK (l := xk_261) rfl rfl (fun _ _ _ _ _ => rfl) ?_
        refine tCa (l := xk_261) rfl rfl (hInvV (c := 10) m2.1 rfl rfl rfl rfl rfl (Nat.le_of_ble_eq_true rfl) (Nat.le_of_ble_eq_true rfl)) ?_
        refine m144 m2 ?_
        refine tKv ?_
        rw [z2]
        refine tK (l := xk_261) rfl rfl (fun _ _ _ _ _ => rfl) ?_
        refine tIc_eq (l := xk_261) (pc' := 1207) rfl rfl rfl (fun hc => ?_) (fun hc => ?_)
        · refine tK (l := xk_261) rfl rfl (fun _ _ _ _ _ => rfl) ?_
          refine tIf_ne (l := xk_261) (pc' := 1231) rfl rfl rfl (fun hc => ?_) (fun hc => ?_)
          · refine tK (l := xk_261) rfl rfl (fun _ _ _ _ _ => rfl) ?_
            refine tK (l := xk_261) rfl rfl (fun _ _ _ _ _ => rfl) ?_
            first | refine tK (l := xk_261) rfl rfl (hLaldN m2.1 rfl rfl (by omega)) ?_ | refine tK (l := xk_261) rfl rfl (hLald m2.1 rfl (by omega) (by omega)) ?_
            rw [e2]
            refine tK (l := xk_261) rfl rfl (fun _ _ _ _ _ => rfl) ?_
            refine tIf_eq (l := xk_261) (pc' := 1224) rfl rfl rfl (fun hc => ?_) (fun hc => ?_)
            · refine tK (l := xk_261) rfl rfl (fun _ _ _ _ _ => rfl) ?_
              refine tK (l := xk_261) rfl rfl (fun _ _ _ _ _ => rfl) ?_
              refine tIf_eq (l := xk_261) (pc' := 1231) rfl rfl rfl (fun hc => ?_) (fun hc => ?_)
              · refine tK (l := xk_261) rfl rfl (fun _ _ _ _ _ => rfl) ?_
                exact hN ph2 _ _ _ _ _ _ k2 m2 (ho.up) (by omega)
              · exact absurd (lc_rfl _) hc
            · exact absurd rfl hc
          · exact absurd rfl hc
        · exact absurd rfl hc
  · refine tK (l := xk_261) rfl rfl (fun _ _ _ _ _ => rfl) ?_
    refine tK (l := xk_261) rfl rfl (fun _ _ _ _ _ => rfl) ?_
    refine tK (l := xk_261) rfl rfl (fun _ _ _ _ _ => rfl) ?_
    refine tK (l := xk_261) rfl rfl (fun _ _ _ _ _ => rfl) ?_
    refine tK (l := xk_261) rfl rfl (hAdd ⟨by omega, by omega⟩) ?_
    refine tK (l := xk_261) rfl rfl (hSald hs (by omega) ha1) ?_
    refine tK (l := xk_261) rfl rfl (fun _ _ _ _ _ => rfl) ?_
    refine tCa (l := xk_261) rfl rfl (hInvS rfl rfl rfl rfl (Nat.le_of_ble_eq_true rfl) (Nat.le_of_ble_eq_true rfl)) ?_
    refine w248_2 k0 m0 (fun Q hq => c109x hx k0.1 (hq ph k0 hFd.refl)) (fun ph1 k1 m1 => ?_)
    refine tKv ?_
    refine tSt (l := xk_261) rfl rfl (fun _ _ _ _ _ => rfl) (Nat.le_of_ble_eq_true rfl) ?_
    refine tK (l := xk_261) rfl rfl (fun _ _ _ _ _ => rfl) ?_
    refine tK (l := xk_261) rfl rfl (fun _ _ _ _ _ => rfl) ?_
    refine tK (l := xk_261) rfl rfl (fun _ _ _ _ _ => rfl) ?_
    refine tK (l := xk_261) rfl rfl (fun _ _ _ _ _ => rfl) ?_
    refine tK (l := xk_261) rfl rfl (hAdd ⟨by omega, by omega⟩) ?_
    refine tK (l := xk_261) rfl rfl (hSald k1.1 (by omega) ha1) ?_
    refine tCa (l := xk_261) rfl rfl (hInvV (c := 10) k1.1 rfl rfl rfl rfl rfl (Nat.le_of_ble_eq_true rfl) (Nat.le_of_ble_eq_true rfl)) ?_
    refine m180x m1 hx (fun ph2 m2 z2 f2 => ?_)
    refine tKv ?_
    have k2 := k1.fw m2.1 f2.fw moP_k
    refine tSt (l := xk_261) rfl rfl (fun _ _ _ _ _ => rfl) (Nat.le_of_ble_eq_true rfl) ?_
    refine tK (l := xk_261) rfl rfl (fun _ _ _ _ _ => rfl) ?_
    refine tCa (l := xk_261) rfl rfl (hInvV (c := 10) m2.1 rfl rfl rfl rfl rfl (Nat.le_of_ble_eq_true rfl) (Nat.le_of_ble_eq_true rfl)) ?_
    refine m144 m2 ?_
    refine tKv ?_
    rw [z2]
    refine tK (l := xk_261) rfl rfl (fun _ _ _ _ _ => rfl) ?_
    refine tIc_eq (l := xk_261) (pc' := 1207) rfl rfl rfl (fun hc => ?_) (fun hc => ?_)
    · refine tK (l := xk_261) rfl rfl (fun _ _ _ _ _ => rfl) ?_
      refine tIf_ne (l := xk_261) (pc' := 1231) rfl rfl rfl (fun hc => ?_) (fun hc => ?_)
      · exact absurd hc (by decide)
      · refine tK (l := xk_261) rfl rfl (fun _ _ _ _ _ => rfl) ?_
        exact hN ph2 _ _ _ _ _ _ k2 m2 (ho.up) (by omega)
    · exact absurd rfl hc
set_option maxRecDepth 20000 in
theorem op_21 {zs : List xV} {ph : xH} {g d B i : Nat} {Q : xR → Prop} {c : KS} {x5 x6 x7 x8 : Option xV} (hz : zs.length ≤ 1536) (hi : i + 2 < zs.length) (k0 : hKl zs ph c) (m0 : hMm zs ph c) (ho : okKS B c) (hB : B ≤ 512) {a : Int} (ha1 : zs[((i : Int) + 1).toNat]? = some (.inl a)) (hN : ∀ (ph2 : xH) (c2 : KS) (g2 : Nat) (y5 y6 y7 y8 : Option xV), hKl zs ph2 c2 → hMm zs ph2 c2 → okKS (B + 1) c2 → g2 ≤ g + 1 → xT (d + 1240) 261 2033 (xlo [some (.inr (.inl (some 0))), some (.inr (.inl (some 1))), some (.inr (.inl (some 147))), some (.inr (.inl (some 168))), some (.inl (i : Int)), y5, y6, y7, y8]) [] ph2 g2 Q) : xT (d + 1240) 261 1234 (xlo [some (.inr (.inl (some 0))), some (.inr (.inl (some 1))), some (.inr (.inl (some 147))), some (.inr (.inl (some 168))), some (.inl (i : Int)), x5, x6, x7, x8]) [] ph g Q := by
  have hs := k0.1
  have hz168 := hK168.2
  by_cases hx : 0 ≤ a ∧ a < 8
  · obtain ⟨n, rfl⟩ : ∃ k : Nat, a = (k : Int) := ⟨a.toNat, by omega⟩
    have hn : n < 8 := by omega
    cases hv : c.2.1.1 n with
    | none =>
      refine tK (l := xk_261) rfl rfl (fun _ _ _ _ _ => rfl) ?_
      refine tK (l := xk_261) rfl rfl (fun _ _ _ _ _ => rfl) ?_
      refine tK (l := xk_261) rfl rfl (fun _ _ _ _ _ => rfl) ?_
      refine tK (l := xk_261) rfl rfl (fun _ _ _ _ _ => rfl) ?_
      refine tK (l := xk_261) rfl rfl (hAdd ⟨by omega, by omega⟩) ?_
      refine tK (l := xk_261) rfl rfl (hSald hs (by omega) ha1) ?_
      refine tK (l := xk_261) rfl rfl (fun _ _ _ _ _ => rfl) ?_
      refine tCa (l := xk_261) rfl rfl (hInvS rfl rfl rfl rfl (Nat.le_of_ble_eq_true rfl) (Nat.le_of_ble_eq_true rfl)) ?_
      refine w249_1 k0 m0 (fun Q hq => c111n k0 hn hv (hq ph k0 hFd.refl)) (fun ph1 k1 m1 => ?_)
      refine tKv ?_
      refine tSt (l := xk_261) rfl rfl (fun _ _ _ _ _ => rfl) (Nat.le_of_ble_eq_true rfl) ?_
      refine tK (l := xk_261) rfl rfl (fun _ _ _ _ _ => rfl) ?_
      refine tK (l := xk_261) rfl rfl (fun _ _ _ _ _ => rfl) ?_
      refine tK (l := xk_261) rfl rfl (fun _ _ _ _ _ => rfl) ?_
      refine tK (l := xk_261) rfl rfl (fun _ _ _ _ _ => rfl) ?_
      refine tK (l := xk_261) rfl rfl (hAdd ⟨by omega, by omega⟩) ?_
      refine tK (l := xk_261) rfl rfl (hSald k1.1 (by omega) ha1) ?_
      refine tCa (l := xk_261) rfl rfl (hInvV (c := 10) k1.1 rfl rfl rfl rfl rfl (Nat.le_of_ble_eq_true rfl) (Nat.le_of_ble_eq_true rfl)) ?_
      refine m183n m1 hn hv (fun ph2 m2 z2 f2 => ?_)
      refine tKv ?_
      have k2 := k1.fw m2.1 f2.fw moP_k
      refine tSt (l := xk_261) rfl rfl (fun _ _ _ _ _ => rfl) (Nat.le_of_ble_eq_true rfl) ?_
      refine tK (l := xk_261) rfl rfl (fun _ _ _ _ _ => rfl) ?_
      refine tCa (l := xk_261) rfl rfl (hInvV (c := 10) m2.1 rfl rfl rfl rfl rfl (Nat.le_of_ble_eq_true rfl) (Nat.le_of_ble_eq_true rfl)) ?_
      refine m144 m2 ?_
      refine tKv ?_
      rw [z2]
      refine tK (l := xk_261) rfl rfl (fun _ _ _ _ _ => rfl) ?_
      refine tIc_eq (l := xk_261) (pc' := 1270) rfl rfl rfl (fun hc => ?_) (fun hc => ?_)
      · refine tK (l := xk_261) rfl rfl (fun _ _ _ _ _ => rfl) ?_
        refine tIf_ne (l := xk_261) (pc' := 1287) rfl rfl rfl (fun hc => ?_) (fun hc => ?_)
        · exact absurd hc (by decide)
        · refine tK (l := xk_261) rfl rfl (fun _ _ _ _ _ => rfl) ?_
          exact hN ph2 _ _ _ _ _ _ k2 m2 (ho.up) (by omega)
      · exact absurd rfl hc
    | some v =>
      have hv24 := (ho.2.1.1 n hn v hv).2
      have hokv := (ho.2.1.1 n hn v hv).1
      refine tK (l := xk_261) rfl rfl (fun _ _ _ _ _ => rfl) ?_
      refine tK (l := xk_261) rfl rfl (fun _ _ _ _ _ => rfl) ?_
      refine tK (l := xk_261) rfl rfl (fun _ _ _ _ _ => rfl) ?_
      refine tK (l := xk_261) rfl rfl (fun _ _ _ _ _ => rfl) ?_
      refine tK (l := xk_261) rfl rfl (hAdd ⟨by omega, by omega⟩) ?_
      refine tK (l := xk_261) rfl rfl (hSald hs (by omega) ha1) ?_
      refine tK (l := xk_261) rfl rfl (fun _ _ _ _ _ => rfl) ?_
      refine tCa (l := xk_261) rfl rfl (hInvS rfl rfl rfl rfl (Nat.le_of_ble_eq_true rfl) (Nat.le_of_ble_eq_true rfl)) ?_
      refine w249 k0 m0 (fun Q hq => c111 k0 hn hv hv24 hokv hq) (fun ph1 k1 m1 e1 => ?_)
      refine tKv ?_
      refine tSt (l := xk_261) rfl rfl (fun _ _ _ _ _ => rfl) (Nat.le_of_ble_eq_true rfl) ?_
      refine tK (l := xk_261) rfl rfl (fun _ _ _ _ _ => rfl) ?_
      refine tK (l := xk_261) rfl rfl (fun _ _ _ _ _ => rfl) ?_
      refine tK (l := xk_261) rfl rfl (fun _ _ _ _ _ => rfl) ?_
      refine tK (l := xk_261) rfl rfl (fun _ _ _ _ _ => rfl) ?_
      refine tK (l := xk_261) rfl rfl (hAdd ⟨by omega, by omega⟩) ?_
      refine tK (l := xk_261) rfl rfl (hSald k1.1 (by omega) ha1) ?_
      refine tCa (l := xk_261) rfl rfl (hInvV (c := 10) k1.1 rfl rfl rfl rfl rfl (Nat.le_of_ble_eq_true rfl) (Nat.le_of_ble_eq_true rfl)) ?_
      refine m183 m1 hn hv hv24 (fun ph2 m2 z2 f2 => ?_)
      refine tKv ?_
      have k2 := k1.fw m2.1 f2.fw moP_k
      have e2 := (f2.2.1 168 0).trans e1
      refine tSt (l := xk_261) rfl rfl (fun _ _ _ _ _ => rfl) (Nat.le_of_ble_eq_true rfl) ?_
      refine tK (l := xk_261) rfl rfl (fun _ _ _ _ _ => rfl) ?_
      refine tCa (l := xk_261) rfl rfl (hInvV (c := 10) m2.1 rfl rfl rfl rfl rfl (Nat.le_of_ble_eq_true rfl) (Nat.le_of_ble_eq_true rfl)) ?_
      refine m144 m2 ?_
      refine tKv ?_
      rw [z2]
      refine tK (l := xk_261) rfl rfl (fun _ _ _ _ _ => rfl) ?_
      refine tIc_eq (l := xk_261) (pc' := 1270) rfl rfl rfl (fun hc => ?_) (fun hc => ?_)
      · refine tK (l := xk_261) rfl rfl (fun _ _ _ _ _ => rfl) ?_
        refine tIf_ne (l := xk_261) (pc' := 1287) rfl rfl rfl (fun hc => ?_) (fun hc => ?_)
        · refine tK (l := xk_261) rfl rfl (fun _ _ _ _ _ => rfl) ?_
          refine tK (l := xk_261) rfl rfl (fun _ _ _ _ _ => rfl) ?_
          first | refine tK (l := xk_261) rfl rfl (hLaldN m2.1 rfl rfl (by omega)) ?_ | refine tK (l := xk_261) rfl rfl (hLald m2.1 rfl (by omega) (by omega)) ?_
          rw [e2]
          refine tK (l := xk_261) rfl rfl (fun _ _ _ _ _ => rfl) ?_
          refine tK (l := xk_261) rfl rfl (fun _ _ _ _ _ => rfl) ?_
          refine tK (l := xk_261) rfl rfl (fun _ _ _ _ _ => rfl) ?_
          refine tIf_eq (l := xk_261) (pc' := 1287) rfl rfl rfl (fun hc => ?_) (fun hc => ?_)
          · refine tK (l := xk_261) rfl rfl (fun _ _ _ _ _ => rfl) ?_
            exact hN ph2 _ _ _ _ _ _ k2 m2 (ho.up) (by omega)
          · exact absurd (lc_rfl _) hc
        · exact absurd rfl hc
      · exact absurd rfl hc
  · refine tK (l := xk_261) rfl rfl (fun _ _ _ _ _ => rfl) ?_
    refine tK (l := xk_261) rfl rfl (fun _ _ _ _ _ => rfl) ?_
    refine tK (l := xk_261) rfl rfl (fun _ _ _ _ _ => rfl) ?_
    refine tK (l := xk_261) rfl rfl (fun _ _ _ _ _ => rfl) ?_
    refine tK (l := xk_261) rfl rfl (hAdd ⟨by omega, by omega⟩) ?_
    refine tK (l := xk_261) rfl rfl (hSald hs (by omega) ha1) ?_
    refine tK (l := xk_261) rfl rfl (fun _ _ _ _ _ => rfl) ?_
    refine tCa (l := xk_261) rfl rfl (hInvS rfl rfl rfl rfl (Nat.le_of_ble_eq_true rfl) (Nat.le_of_ble_eq_true rfl)) ?_
    refine w249_2 k0 m0 (fun Q hq => c111x hx k0.1 (hq ph k0 hFd.refl)) (fun ph1 k1 m1 => ?_)
    refine tKv ?_
    refine tSt (l := xk_261) rfl rfl (fun _ _ _ _ _ => rfl) (Nat.le_of_ble_eq_true rfl) ?_
    refine tK (l := xk_261) rfl rfl (fun _ _ _ _ _ => rfl) ?_
    refine tK (l := xk_261) rfl rfl (fun _ _ _ _ _ => rfl) ?_
    refine tK (l := xk_261) rfl rfl (fun _ _ _ _ _ => rfl) ?_
    refine tK (l := xk_261) rfl rfl (fun _ _ _ _ _ => rfl) ?_
    refine tK (l := xk_261) rfl rfl (hAdd ⟨by omega, by omega⟩) ?_
    refine tK (l := xk_261) rfl rfl (hSald k1.1 (by omega) ha1) ?_
    refine tCa (l := xk_261) rfl rfl (hInvV (c := 10) k1.1 rfl rfl rfl rfl rfl (Nat.le_of_ble_eq_true rfl) (Nat.le_of_ble_eq_true rfl)) ?_
    refine m183x m1 hx (fun ph2 m2 z2 f2 => ?_)
    refine tKv ?_
    have k2 := k1.fw m2.1 f2.fw moP_k
    refine tSt (l := xk_261) rfl rfl (fun _ _ _ _ _ => rfl) (Nat.le_of_ble_eq_true rfl) ?_
    refine tK (l := xk_261) rfl rfl (fun _ _ _ _ _ => rfl) ?_
    refine tCa (l := xk_261) rfl rfl (hInvV (c := 10) m2.1 rfl rfl rfl rfl rfl (Nat.le_of_ble_eq_true rfl) (Nat.le_of_ble_eq_true rfl)) ?_
    refine m144 m2 ?_
    refine tKv ?_
    rw [z2]
    refine tK (l := xk_261) rfl rfl (fun _ _ _ _ _ => rfl) ?_
    refine tIc_eq (l := xk_261) (pc' := 1270) rfl rfl rfl (fun hc => ?_) (fun hc => ?_)
    · refine tK (l := xk_261) rfl rfl (fun _ _ _ _ _ => rfl) ?_
      refine tIf_ne (l := xk_261) (pc' := 1287) rfl rfl rfl (fun hc => ?_) (fun hc => ?_)
      · exact absurd hc (by decide)
      · refine tK (l := xk_261) rfl rfl (fun _ _ _ _ _ => rfl) ?_
        exact hN ph2 _ _ _ _ _ _ k2 m2 (ho.up) (by omega)
    · exact absurd rfl hc
set_option maxRecDepth 20000 in
theorem op_22 {zs : List xV} {ph : xH} {g d B i : Nat} {Q : xR → Prop} {c : KS} {x5 x6 x7 x8 : Option xV} (hz : zs.length ≤ 1536) (hi : i + 2 < zs.length) (k0 : hKl zs ph c) (m0 : hMm zs ph c) (ho : okKS B c) (hB : B ≤ 512) {a : Int} (ha1 : zs[((i : Int) + 1).toNat]? = some (.inl a)) (hN : ∀ (ph2 : xH) (c2 : KS) (g2 : Nat) (y5 y6 y7 y8 : Option xV), hKl zs ph2 c2 → hMm zs ph2 c2 → okKS (B + 1) c2 → g2 ≤ g + 1 → xT (d + 1240) 261 2033 (xlo [some (.inr (.inl (some 0))), some (.inr (.inl (some 1))), some (.inr (.inl (some 147))), some (.inr (.inl (some 168))), some (.inl (i : Int)), y5, y6, y7, y8]) [] ph2 g2 Q) : xT (d + 1240) 261 1290 (xlo [some (.inr (.inl (some 0))), some (.inr (.inl (some 1))), some (.inr (.inl (some 147))), some (.inr (.inl (some 168))), some (.inl (i : Int)), x5, x6, x7, x8]) [] ph g Q := by
  have hs := k0.1
  have hz168 := hK168.2
  by_cases hx : 0 ≤ a ∧ a < 8
  · obtain ⟨n, rfl⟩ : ∃ k : Nat, a = (k : Int) := ⟨a.toNat, by omega⟩
    have hn : n < 8 := by omega
    cases hv : c.2.1.1 n with
    | none =>
      refine tK (l := xk_261) rfl rfl (fun _ _ _ _ _ => rfl) ?_
      refine tK (l := xk_261) rfl rfl (fun _ _ _ _ _ => rfl) ?_
      refine tK (l := xk_261) rfl rfl (fun _ _ _ _ _ => rfl) ?_
      refine tK (l := xk_261) rfl rfl (fun _ _ _ _ _ => rfl) ?_
      refine tK (l := xk_261) rfl rfl (hAdd ⟨by omega, by omega⟩) ?_
      refine tK (l := xk_261) rfl rfl (hSald hs (by omega) ha1) ?_
      refine tK (l := xk_261) rfl rfl (fun _ _ _ _ _ => rfl) ?_
      refine tCa (l := xk_261) rfl rfl (hInvS rfl rfl rfl rfl (Nat.le_of_ble_eq_true rfl) (Nat.le_of_ble_eq_true rfl)) ?_
      refine w250_1 k0 m0 (fun Q hq => c114n k0 hn hv (hq ph k0 hFd.refl)) (fun ph1 k1 m1 => ?_)
      refine tKv ?_
      refine tSt (l := xk_261) rfl rfl (fun _ _ _ _ _ => rfl) (Nat.le_of_ble_eq_true rfl) ?_
      refine tK (l := xk_261) rfl rfl (fun _ _ _ _ _ => rfl) ?_
      refine tK (l := xk_261) rfl rfl (fun _ _ _ _ _ => rfl) ?_
      refine tK (l := xk_261) rfl rfl (fun _ _ _ _ _ => rfl) ?_
      refine tK (l := xk_261) rfl rfl (fun _ _ _ _ _ => rfl) ?_
      refine tK (l := xk_261) rfl rfl (hAdd ⟨by omega, by omega⟩) ?_
      refine tK (l := xk_261) rfl rfl (hSald k1.1 (by omega) ha1) ?_
      refine tCa (l := xk_261) rfl rfl (hInvV (c := 10) k1.1 rfl rfl rfl rfl rfl (Nat.le_of_ble_eq_true rfl) (Nat.le_of_ble_eq_true rfl)) ?_
      refine m184n m1 hn hv (fun ph2 m2 z2 f2 => ?_)
      refine tKv ?_
      have k2 := k1.fw m2.1 f2.fw moP_k
      refine tSt (l := xk_261) rfl rfl (fun _ _ _ _ _ => rfl) (Nat.le_of_ble_eq_true rfl) ?_
      refine tK (l := xk_261) rfl rfl (fun _ _ _ _ _ => rfl) ?_
      refine tCa (l := xk_261) rfl rfl (hInvV (c := 10) m2.1 rfl rfl rfl rfl rfl (Nat.le_of_ble_eq_true rfl) (Nat.le_of_ble_eq_true rfl)) ?_
      refine m144 m2 ?_
      refine tKv ?_
      rw [z2]
      refine tK (l := xk_261) rfl rfl (fun _ _ _ _ _ => rfl) ?_
      refine tIc_eq (l := xk_261) (pc' := 1326) rfl rfl rfl (fun hc => ?_) (fun hc => ?_)
      · refine tK (l := xk_261) rfl rfl (fun _ _ _ _ _ => rfl) ?_
        refine tIf_ne (l := xk_261) (pc' := 1343) rfl rfl rfl (fun hc => ?_) (fun hc => ?_)
        · exact absurd hc (by decide)
        · refine tK (l := xk_261) rfl rfl (fun _ _ _ _ _ => rfl) ?_
          exact hN ph2 _ _ _ _ _ _ k2 m2 (ho.up) (by omega)
      · exact absurd rfl hc
    | some v =>
      have hv24 := (ho.2.1.1 n hn v hv).2
      have hokv := (ho.2.1.1 n hn v hv).1
      refine tK (l := xk_261) rfl rfl (fun _ _ _ _ _ => rfl) ?_
      refine tK (l := xk_261) rfl rfl (fun _ _ _ _ _ => rfl) ?_
      refine tK (l := xk_261) rfl rfl (fun _ _ _ _ _ => rfl) ?_
      refine tK (l := xk_261) rfl rfl (fun _ _ _ _ _ => rfl) ?_
      refine tK (l := xk_261) rfl rfl (hAdd ⟨by omega, by omega⟩) ?_
      refine tK (l := xk_261) rfl rfl (hSald hs (by omega) ha1) ?_
      refine tK (l := xk_261) rfl rfl (fun _ _ _ _ _ => rfl) ?_
      refine tCa (l := xk_261) rfl rfl (hInvS rfl rfl rfl rfl (Nat.le_of_ble_eq_true rfl) (Nat.le_of_ble_eq_true rfl)) ?_
      refine w250 k0 m0 (fun Q hq => c114 k0 hn hv hv24 hokv hq) (fun ph1 k1 m1 e1 => ?_)
      refine tKv ?_
      refine tSt (l := xk_261) rfl rfl (fun _ _ _ _ _ => rfl) (Nat.le_of_ble_eq_true rfl) ?_
      refine tK (l := xk_261) rfl rfl (fun _ _ _ _ _ => rfl) ?_
      refine tK (l := xk_261) rfl rfl (fun _ _ _ _ _ => rfl) ?_
      refine tK (l := xk_261) rfl rfl (fun _ _ _ _ _ => rfl) ?_
      refine tK (l := xk_261) rfl rfl (fun _ _ _ _ _ => rfl) ?_
      refine tK (l := xk_261) rfl rfl (hAdd ⟨by omega, by omega⟩) ?_
      refine tK (l := xk_261) rfl rfl (hSald k1.1 (by omega) ha1) ?_
      refine tCa (l := xk_261) rfl rfl (hInvV (c := 10) k1.1 rfl rfl rfl rfl rfl (Nat.le_of_ble_eq_true rfl) (Nat.le_of_ble_eq_true rfl)) ?_
      refine m184 m1 hn hv (fun ph2 m2 z2 f2 => ?_)
      refine tKv ?_
      have k2 := k1.fw m2.1 f2.fw moP_k
      have e2 := (f2.2.1 168 0).trans e1
      refine tSt (l := xk_261) rfl rfl (fun _ _ _ _ _ => rfl) (Nat.le_of_ble_eq_true rfl) ?_
      refine tK (l := xk_261) rfl rfl (fun _ _ _ _ _ => rfl) ?_
      refine tCa (l := xk_261) rfl rfl (hInvV (c := 10) m2.1 rfl rfl rfl rfl rfl (Nat.le_of_ble_eq_true rfl) (Nat.le_of_ble_eq_true rfl)) ?_
      refine m144 m2 ?_
      refine tKv ?_
      rw [z2]
      refine tK (l := xk_261) rfl rfl (fun _ _ _ _ _ => rfl) ?_
      refine tIc_eq (l := xk_261) (pc' := 1326) rfl rfl rfl (fun hc => ?_) (fun hc => ?_)
      · refine tK (l := xk_261) rfl rfl (fun _ _ _ _ _ => rfl) ?_
        refine tIf_ne (l := xk_261) (pc' := 1343) rfl rfl rfl (fun hc => ?_) (fun hc => ?_)
        · refine tK (l := xk_261) rfl rfl (fun _ _ _ _ _ => rfl) ?_
          refine tK (l := xk_261) rfl rfl (fun _ _ _ _ _ => rfl) ?_
          first | refine tK (l := xk_261) rfl rfl (hLaldN m2.1 rfl rfl (by omega)) ?_ | refine tK (l := xk_261) rfl rfl (hLald m2.1 rfl (by omega) (by omega)) ?_
          rw [e2]
          refine tK (l := xk_261) rfl rfl (fun _ _ _ _ _ => rfl) ?_
          refine tK (l := xk_261) rfl rfl (fun _ _ _ _ _ => rfl) ?_
          refine tK (l := xk_261) rfl rfl (fun _ _ _ _ _ => rfl) ?_
          refine tIf_eq (l := xk_261) (pc' := 1343) rfl rfl rfl (fun hc => ?_) (fun hc => ?_)
          · refine tK (l := xk_261) rfl rfl (fun _ _ _ _ _ => rfl) ?_
            exact hN ph2 _ _ _ _ _ _ k2 m2 (ho.up) (by omega)
          · exact absurd (lc_rfl _) hc
        · exact absurd rfl hc
      · exact absurd rfl hc
  · refine tK (l := xk_261) rfl rfl (fun _ _ _ _ _ => rfl) ?_
    refine tK (l := xk_261) rfl rfl (fun _ _ _ _ _ => rfl) ?_
    refine tK (l := xk_261) rfl rfl (fun _ _ _ _ _ => rfl) ?_
    refine tK (l := xk_261) rfl rfl (fun _ _ _ _ _ => rfl) ?_
    refine tK (l := xk_261) rfl rfl (hAdd ⟨by omega, by omega⟩) ?_
    refine tK (l := xk_261) rfl rfl (hSald hs (by omega) ha1) ?_
    refine tK (l := xk_261) rfl rfl (fun _ _ _ _ _ => rfl) ?_
    refine tCa (l := xk_261) rfl rfl (hInvS rfl rfl rfl rfl (Nat.le_of_ble_eq_true rfl) (Nat.le_of_ble_eq_true rfl)) ?_
    refine w250_2 k0 m0 (fun Q hq => c114x hx k0.1 (hq ph k0 hFd.refl)) (fun ph1 k1 m1 => ?_)
    refine tKv ?_
    refine tSt (l := xk_261) rfl rfl (fun _ _ _ _ _ => rfl) (Nat.le_of_ble_eq_true rfl) ?_
    refine tK (l := xk_261) rfl rfl (fun _ _ _ _ _ => rfl) ?_
    refine tK (l := xk_261) rfl rfl (fun _ _ _ _ _ => rfl) ?_
    refine tK (l := xk_261) rfl rfl (fun _ _ _ _ _ => rfl) ?_
    refine tK (l := xk_261) rfl rfl (fun _ _ _ _ _ => rfl) ?_
    refine tK (l := xk_261) rfl rfl (hAdd ⟨by omega, by omega⟩) ?_
    refine tK (l := xk_261) rfl rfl (hSald k1.1 (by omega) ha1) ?_
    refine tCa (l := xk_261) rfl rfl (hInvV (c := 10) k1.1 rfl rfl rfl rfl rfl (Nat.le_of_ble_eq_true rfl) (Nat.le_of_ble_eq_true rfl)) ?_
    refine m184x m1 hx (fun ph2 m2 z2 f2 => ?_)
    refine tKv ?_
    have k2 := k1.fw m2.1 f2.fw moP_k
    refine tSt (l := xk_261) rfl rfl (fun _ _ _ _ _ => rfl) (Nat.le_of_ble_eq_true rfl) ?_
    refine tK (l := xk_261) rfl rfl (fun _ _ _ _ _ => rfl) ?_
    refine tCa (l := xk_261) rfl rfl (hInvV (c := 10) m2.1 rfl rfl rfl rfl rfl (Nat.le_of_ble_eq_true rfl) (Nat.le_of_ble_eq_true rfl)) ?_
    refine m144 m2 ?_
    refine tKv ?_
    rw [z2]
    refine tK (l := xk_261) rfl rfl (fun _ _ _ _ _ => rfl) ?_
    refine tIc_eq (l := xk_261) (pc' := 1326) rfl rfl rfl (fun hc => ?_) (fun hc => ?_)
    · refine tK (l := xk_261) rfl rfl (fun _ _ _ _ _ => rfl) ?_
      refine tIf_ne (l := xk_261) (pc' := 1343) rfl rfl rfl (fun hc => ?_) (fun hc => ?_)
      · exact absurd hc (by decide)
      · refine tK (l := xk_261) rfl rfl (fun _ _ _ _ _ => rfl) ?_
        exact hN ph2 _ _ _ _ _ _ k2 m2 (ho.up) (by omega)
    · exact absurd rfl hc
set_option maxRecDepth 20000 in
theorem op_25 {zs : List xV} {ph : xH} {g d B i : Nat} {Q : xR → Prop} {c : KS} {x5 x6 x7 x8 : Option xV} (hz : zs.length ≤ 1536) (hi : i + 2 < zs.length) (k0 : hKl zs ph c) (m0 : hMm zs ph c) (ho : okKS B c) (hB : B ≤ 512) {a : Int} (ha1 : zs[((i : Int) + 1).toNat]? = some (.inl a)) (hN : ∀ (ph2 : xH) (c2 : KS) (g2 : Nat) (y5 y6 y7 y8 : Option xV), hKl zs ph2 c2 → hMm zs ph2 c2 → okKS (B + 1) c2 → g2 ≤ g + 1 → xT (d + 1240) 261 2033 (xlo [some (.inr (.inl (some 0))), some (.inr (.inl (some 1))), some (.inr (.inl (some 147))), some (.inr (.inl (some 168))), some (.inl (i : Int)), y5, y6, y7, y8]) [] ph2 g2 Q) : xT (d + 1240) 261 1403 (xlo [some (.inr (.inl (some 0))), some (.inr (.inl (some 1))), some (.inr (.inl (some 147))), some (.inr (.inl (some 168))), some (.inl (i : Int)), x5, x6, x7, x8]) [] ph g Q := by
  have hs := k0.1
  have hz168 := hK168.2
  by_cases hx : 0 ≤ a ∧ a < (c.2.1.2.1.1.length : Int)
  · obtain ⟨q, rfl⟩ : ∃ k : Nat, a = (k : Int) := ⟨a.toNat, by omega⟩
    have hx2 := List.getElem?_eq_getElem (show q < c.2.1.2.1.1.length by omega)
    refine tK (l := xk_261) rfl rfl (fun _ _ _ _ _ => rfl) ?_
    refine tK (l := xk_261) rfl rfl (fun _ _ _ _ _ => rfl) ?_
    refine tK (l := xk_261) rfl rfl (fun _ _ _ _ _ => rfl) ?_
    refine tK (l := xk_261) rfl rfl (fun _ _ _ _ _ => rfl) ?_
    refine tK (l := xk_261) rfl rfl (hAdd ⟨by omega, by omega⟩) ?_
    refine tK (l := xk_261) rfl rfl (hSald hs (by omega) ha1) ?_
    refine tK (l := xk_261) rfl rfl (fun _ _ _ _ _ => rfl) ?_
    refine tCa (l := xk_261) rfl rfl (hInvS rfl rfl rfl rfl (Nat.le_of_ble_eq_true rfl) (Nat.le_of_ble_eq_true rfl)) ?_
    refine w252 k0 m0 (fun Q hq => c139 k0 hx2 (hq ph k0 hFd.refl)) (fun ph1 k1 m1 e1 => ?_)
    refine tKv ?_
    refine tSt (l := xk_261) rfl rfl (fun _ _ _ _ _ => rfl) (Nat.le_of_ble_eq_true rfl) ?_
    refine tK (l := xk_261) rfl rfl (fun _ _ _ _ _ => rfl) ?_
    refine tK (l := xk_261) rfl rfl (fun _ _ _ _ _ => rfl) ?_
    refine tK (l := xk_261) rfl rfl (fun _ _ _ _ _ => rfl) ?_
    refine tK (l := xk_261) rfl rfl (fun _ _ _ _ _ => rfl) ?_
    refine tK (l := xk_261) rfl rfl (hAdd ⟨by omega, by omega⟩) ?_
    refine tK (l := xk_261) rfl rfl (hSald k1.1 (by omega) ha1) ?_
    refine tCa (l := xk_261) rfl rfl (hInvV (c := 10) k1.1 rfl rfl rfl rfl rfl (Nat.le_of_ble_eq_true rfl) (Nat.le_of_ble_eq_true rfl)) ?_
    refine m203 m1 hx2 (fun ph2 m2 z2 f2 => ?_)
    refine tKv ?_
    have k2 := k1.fw m2.1 f2.fw moP_k
    have e2 := (f2.2.1 168 0).trans e1
    refine tSt (l := xk_261) rfl rfl (fun _ _ _ _ _ => rfl) (Nat.le_of_ble_eq_true rfl) ?_
    refine tK (l := xk_261) rfl rfl (fun _ _ _ _ _ => rfl) ?_
    refine tCa (l := xk_261) rfl rfl (hInvV (c := 10) m2.1 rfl rfl rfl rfl rfl (Nat.le_of_ble_eq_true rfl) (Nat.le_of_ble_eq_true rfl)) ?_
    refine m144 m2 ?_
    refine tKv ?_
    rw [z2]
    refine tK (l := xk_261) rfl rfl (fun _ _ _ _ _ => rfl) ?_
    refine tIc_eq (l := xk_261) (pc' := 1439) rfl rfl rfl (fun hc => ?_) (fun hc => ?_)
    · refine tK (l := xk_261) rfl rfl (fun _ _ _ _ _ => rfl) ?_
      refine tIf_ne (l := xk_261) (pc' := 1456) rfl rfl rfl (fun hc => ?_) (fun hc => ?_)
      · refine tK (l := xk_261) rfl rfl (fun _ _ _ _ _ => rfl) ?_
        refine tK (l := xk_261) rfl rfl (fun _ _ _ _ _ => rfl) ?_
        first | refine tK (l := xk_261) rfl rfl (hLaldN m2.1 rfl rfl (by omega)) ?_ | refine tK (l := xk_261) rfl rfl (hLald m2.1 rfl (by omega) (by omega)) ?_
        rw [e2]
        refine tK (l := xk_261) rfl rfl (fun _ _ _ _ _ => rfl) ?_
        refine tK (l := xk_261) rfl rfl (fun _ _ _ _ _ => rfl) ?_
        refine tK (l := xk_261) rfl rfl (fun _ _ _ _ _ => rfl) ?_
        refine tIf_eq (l := xk_261) (pc' := 1456) rfl rfl rfl (fun hc => ?_) (fun hc => ?_)
        · refine tK (l := xk_261) rfl rfl (fun _ _ _ _ _ => rfl) ?_
          exact hN ph2 _ _ _ _ _ _ k2 m2 (ho.up) (by omega)
        · exact absurd (lc_rfl _) hc
      · exact absurd rfl hc
    · exact absurd rfl hc
  · refine tK (l := xk_261) rfl rfl (fun _ _ _ _ _ => rfl) ?_
    refine tK (l := xk_261) rfl rfl (fun _ _ _ _ _ => rfl) ?_
    refine tK (l := xk_261) rfl rfl (fun _ _ _ _ _ => rfl) ?_
    refine tK (l := xk_261) rfl rfl (fun _ _ _ _ _ => rfl) ?_
    refine tK (l := xk_261) rfl rfl (hAdd ⟨by omega, by omega⟩) ?_
    refine tK (l := xk_261) rfl rfl (hSald hs (by omega) ha1) ?_
    refine tK (l := xk_261) rfl rfl (fun _ _ _ _ _ => rfl) ?_
    refine tCa (l := xk_261) rfl rfl (hInvS rfl rfl rfl rfl (Nat.le_of_ble_eq_true rfl) (Nat.le_of_ble_eq_true rfl)) ?_
    refine w252_2 k0 m0 (fun Q hq => c139x k0 hx (hq ph k0 hFd.refl)) (fun ph1 k1 m1 => ?_)
    refine tKv ?_
    refine tSt (l := xk_261) rfl rfl (fun _ _ _ _ _ => rfl) (Nat.le_of_ble_eq_true rfl) ?_
    refine tK (l := xk_261) rfl rfl (fun _ _ _ _ _ => rfl) ?_
    refine tK (l := xk_261) rfl rfl (fun _ _ _ _ _ => rfl) ?_
    refine tK (l := xk_261) rfl rfl (fun _ _ _ _ _ => rfl) ?_
    refine tK (l := xk_261) rfl rfl (fun _ _ _ _ _ => rfl) ?_
    refine tK (l := xk_261) rfl rfl (hAdd ⟨by omega, by omega⟩) ?_
    refine tK (l := xk_261) rfl rfl (hSald k1.1 (by omega) ha1) ?_
    refine tCa (l := xk_261) rfl rfl (hInvV (c := 10) k1.1 rfl rfl rfl rfl rfl (Nat.le_of_ble_eq_true rfl) (Nat.le_of_ble_eq_true rfl)) ?_
    refine m203x m1 hx (fun ph2 m2 z2 f2 => ?_)
    refine tKv ?_
    have k2 := k1.fw m2.1 f2.fw moP_k
    refine tSt (l := xk_261) rfl rfl (fun _ _ _ _ _ => rfl) (Nat.le_of_ble_eq_true rfl) ?_
    refine tK (l := xk_261) rfl rfl (fun _ _ _ _ _ => rfl) ?_
    refine tCa (l := xk_261) rfl rfl (hInvV (c := 10) m2.1 rfl rfl rfl rfl rfl (Nat.le_of_ble_eq_true rfl) (Nat.le_of_ble_eq_true rfl)) ?_
    refine m144 m2 ?_
    refine tKv ?_
    rw [z2]
    refine tK (l := xk_261) rfl rfl (fun _ _ _ _ _ => rfl) ?_
    refine tIc_eq (l := xk_261) (pc' := 1439) rfl rfl rfl (fun hc => ?_) (fun hc => ?_)
    · refine tK (l := xk_261) rfl rfl (fun _ _ _ _ _ => rfl) ?_
      refine tIf_ne (l := xk_261) (pc' := 1456) rfl rfl rfl (fun hc => ?_) (fun hc => ?_)
      · exact absurd hc (by decide)
      · refine tK (l := xk_261) rfl rfl (fun _ _ _ _ _ => rfl) ?_
        exact hN ph2 _ _ _ _ _ _ k2 m2 (ho.up) (by omega)
    · exact absurd rfl hc
set_option maxRecDepth 20000 in
theorem op_29 {zs : List xV} {ph : xH} {g d B i : Nat} {Q : xR → Prop} {c : KS} {x5 x6 x7 x8 : Option xV} (hz : zs.length ≤ 1536) (hi : i + 2 < zs.length) (k0 : hKl zs ph c) (m0 : hMm zs ph c) (ho : okKS B c) (hB : B ≤ 512) {a : Int} (ha1 : zs[((i : Int) + 1).toNat]? = some (.inl a)) (hN : ∀ (ph2 : xH) (c2 : KS) (g2 : Nat) (y5 y6 y7 y8 : Option xV), hKl zs ph2 c2 → hMm zs ph2 c2 → okKS (B + 1) c2 → g2 ≤ g + 1 → xT (d + 1240) 261 2033 (xlo [some (.inr (.inl (some 0))), some (.inr (.inl (some 1))), some (.inr (.inl (some 147))), some (.inr (.inl (some 168))), some (.inl (i : Int)), y5, y6, y7, y8]) [] ph2 g2 Q) : xT (d + 1240) 261 1529 (xlo [some (.inr (.inl (some 0))), some (.inr (.inl (some 1))), some (.inr (.inl (some 147))), some (.inr (.inl (some 168))), some (.inl (i : Int)), x5, x6, x7, x8]) [] ph g Q := by
  have hs := k0.1
  have hz168 := hK168.2
  by_cases hx : 0 ≤ a ∧ a < (c.2.1.2.1.2.2.1.length : Int)
  · obtain ⟨q, rfl⟩ : ∃ k : Nat, a = (k : Int) := ⟨a.toNat, by omega⟩
    have hx2 := List.getElem?_eq_getElem (show q < c.2.1.2.1.2.2.1.length by omega)
    refine tK (l := xk_261) rfl rfl (fun _ _ _ _ _ => rfl) ?_
    refine tK (l := xk_261) rfl rfl (fun _ _ _ _ _ => rfl) ?_
    refine tK (l := xk_261) rfl rfl (fun _ _ _ _ _ => rfl) ?_
    refine tK (l := xk_261) rfl rfl (fun _ _ _ _ _ => rfl) ?_
    refine tK (l := xk_261) rfl rfl (hAdd ⟨by omega, by omega⟩) ?_
    refine tK (l := xk_261) rfl rfl (hSald hs (by omega) ha1) ?_
    refine tK (l := xk_261) rfl rfl (fun _ _ _ _ _ => rfl) ?_
    refine tCa (l := xk_261) rfl rfl (hInvS rfl rfl rfl rfl (Nat.le_of_ble_eq_true rfl) (Nat.le_of_ble_eq_true rfl)) ?_
    refine w254 k0 m0 (fun Q hq => c106 k0 hx2 (hq ph k0 hFd.refl)) (fun ph1 k1 m1 e1 => ?_)
    refine tKv ?_
    refine tSt (l := xk_261) rfl rfl (fun _ _ _ _ _ => rfl) (Nat.le_of_ble_eq_true rfl) ?_
    refine tK (l := xk_261) rfl rfl (fun _ _ _ _ _ => rfl) ?_
    refine tK (l := xk_261) rfl rfl (fun _ _ _ _ _ => rfl) ?_
    refine tK (l := xk_261) rfl rfl (fun _ _ _ _ _ => rfl) ?_
    refine tK (l := xk_261) rfl rfl (fun _ _ _ _ _ => rfl) ?_
    refine tK (l := xk_261) rfl rfl (hAdd ⟨by omega, by omega⟩) ?_
    refine tK (l := xk_261) rfl rfl (hSald k1.1 (by omega) ha1) ?_
    refine tCa (l := xk_261) rfl rfl (hInvV (c := 10) k1.1 rfl rfl rfl rfl rfl (Nat.le_of_ble_eq_true rfl) (Nat.le_of_ble_eq_true rfl)) ?_
    refine m207 m1 hx2 (fun ph2 m2 z2 f2 => ?_)
    refine tKv ?_
    have k2 := k1.fw m2.1 f2.fw moP_k
    have e2 := (f2.2.1 168 0).trans e1
    refine tSt (l := xk_261) rfl rfl (fun _ _ _ _ _ => rfl) (Nat.le_of_ble_eq_true rfl) ?_
    refine tK (l := xk_261) rfl rfl (fun _ _ _ _ _ => rfl) ?_
    refine tCa (l := xk_261) rfl rfl (hInvV (c := 10) m2.1 rfl rfl rfl rfl rfl (Nat.le_of_ble_eq_true rfl) (Nat.le_of_ble_eq_true rfl)) ?_
    refine m144 m2 ?_
    refine tKv ?_
    rw [z2]
    refine tK (l := xk_261) rfl rfl (fun _ _ _ _ _ => rfl) ?_
    refine tIc_eq (l := xk_261) (pc' := 1565) rfl rfl rfl (fun hc => ?_) (fun hc => ?_)
    · refine tK (l := xk_261) rfl rfl (fun _ _ _ _ _ => rfl) ?_
      refine tIf_ne (l := xk_261) (pc' := 1582) rfl rfl rfl (fun hc => ?_) (fun hc => ?_)
      · refine tK (l := xk_261) rfl rfl (fun _ _ _ _ _ => rfl) ?_
        refine tK (l := xk_261) rfl rfl (fun _ _ _ _ _ => rfl) ?_
        first | refine tK (l := xk_261) rfl rfl (hLaldN m2.1 rfl rfl (by omega)) ?_ | refine tK (l := xk_261) rfl rfl (hLald m2.1 rfl (by omega) (by omega)) ?_
        rw [e2]
        refine tK (l := xk_261) rfl rfl (fun _ _ _ _ _ => rfl) ?_
        refine tK (l := xk_261) rfl rfl (fun _ _ _ _ _ => rfl) ?_
        refine tK (l := xk_261) rfl rfl (fun _ _ _ _ _ => rfl) ?_
        refine tIf_eq (l := xk_261) (pc' := 1582) rfl rfl rfl (fun hc => ?_) (fun hc => ?_)
        · refine tK (l := xk_261) rfl rfl (fun _ _ _ _ _ => rfl) ?_
          exact hN ph2 _ _ _ _ _ _ k2 m2 (ho.up) (by omega)
        · exact absurd (lc_rfl _) hc
      · exact absurd rfl hc
    · exact absurd rfl hc
  · refine tK (l := xk_261) rfl rfl (fun _ _ _ _ _ => rfl) ?_
    refine tK (l := xk_261) rfl rfl (fun _ _ _ _ _ => rfl) ?_
    refine tK (l := xk_261) rfl rfl (fun _ _ _ _ _ => rfl) ?_
    refine tK (l := xk_261) rfl rfl (fun _ _ _ _ _ => rfl) ?_
    refine tK (l := xk_261) rfl rfl (hAdd ⟨by omega, by omega⟩) ?_
    refine tK (l := xk_261) rfl rfl (hSald hs (by omega) ha1) ?_
    refine tK (l := xk_261) rfl rfl (fun _ _ _ _ _ => rfl) ?_
    refine tCa (l := xk_261) rfl rfl (hInvS rfl rfl rfl rfl (Nat.le_of_ble_eq_true rfl) (Nat.le_of_ble_eq_true rfl)) ?_
    refine w254_2 k0 m0 (fun Q hq => c106x k0 hx (hq ph k0 hFd.refl)) (fun ph1 k1 m1 => ?_)
    refine tKv ?_
    refine tSt (l := xk_261) rfl rfl (fun _ _ _ _ _ => rfl) (Nat.le_of_ble_eq_true rfl) ?_
    refine tK (l := xk_261) rfl rfl (fun _ _ _ _ _ => rfl) ?_
    refine tK (l := xk_261) rfl rfl (fun _ _ _ _ _ => rfl) ?_
    refine tK (l := xk_261) rfl rfl (fun _ _ _ _ _ => rfl) ?_
    refine tK (l := xk_261) rfl rfl (fun _ _ _ _ _ => rfl) ?_
    refine tK (l := xk_261) rfl rfl (hAdd ⟨by omega, by omega⟩) ?_
    refine tK (l := xk_261) rfl rfl (hSald k1.1 (by omega) ha1) ?_
    refine tCa (l := xk_261) rfl rfl (hInvV (c := 10) k1.1 rfl rfl rfl rfl rfl (Nat.le_of_ble_eq_true rfl) (Nat.le_of_ble_eq_true rfl)) ?_
    refine m207x m1 hx (fun ph2 m2 z2 f2 => ?_)
    refine tKv ?_
    have k2 := k1.fw m2.1 f2.fw moP_k
    refine tSt (l := xk_261) rfl rfl (fun _ _ _ _ _ => rfl) (Nat.le_of_ble_eq_true rfl) ?_
    refine tK (l := xk_261) rfl rfl (fun _ _ _ _ _ => rfl) ?_
    refine tCa (l := xk_261) rfl rfl (hInvV (c := 10) m2.1 rfl rfl rfl rfl rfl (Nat.le_of_ble_eq_true rfl) (Nat.le_of_ble_eq_true rfl)) ?_
    refine m144 m2 ?_
    refine tKv ?_
    rw [z2]
    refine tK (l := xk_261) rfl rfl (fun _ _ _ _ _ => rfl) ?_
    refine tIc_eq (l := xk_261) (pc' := 1565) rfl rfl rfl (fun hc => ?_) (fun hc => ?_)
    · refine tK (l := xk_261) rfl rfl (fun _ _ _ _ _ => rfl) ?_
      refine tIf_ne (l := xk_261) (pc' := 1582) rfl rfl rfl (fun hc => ?_) (fun hc => ?_)
      · exact absurd hc (by decide)
      · refine tK (l := xk_261) rfl rfl (fun _ _ _ _ _ => rfl) ?_
        exact hN ph2 _ _ _ _ _ _ k2 m2 (ho.up) (by omega)
    · exact absurd rfl hc
set_option maxRecDepth 20000 in
theorem op_27 {zs : List xV} {ph : xH} {g d B i : Nat} {Q : xR → Prop} {c : KS} {x5 x6 x7 x8 : Option xV} (hz : zs.length ≤ 1536) (hi : i + 2 < zs.length) (k0 : hKl zs ph c) (m0 : hMm zs ph c) (ho : okKS B c) (hB : B ≤ 512) (hN : ∀ (ph2 : xH) (c2 : KS) (g2 : Nat) (y5 y6 y7 y8 : Option xV), hKl zs ph2 c2 → hMm zs ph2 c2 → okKS (B + 1) c2 → g2 ≤ g + 1 → xT (d + 1240) 261 2033 (xlo [some (.inr (.inl (some 0))), some (.inr (.inl (some 1))), some (.inr (.inl (some 147))), some (.inr (.inl (some 168))), some (.inl (i : Int)), y5, y6, y7, y8]) [] ph2 g2 Q) : xT (d + 1240) 261 1472 (xlo [some (.inr (.inl (some 0))), some (.inr (.inl (some 1))), some (.inr (.inl (some 147))), some (.inr (.inl (some 168))), some (.inl (i : Int)), x5, x6, x7, x8]) [] ph g Q := by
  have hs := k0.1
  have hz168 := hK168.2
  by_cases hr : c.2.1.2.1.2.1 = 0
  · refine tK (l := xk_261) rfl rfl (fun _ _ _ _ _ => rfl) ?_
    refine tK (l := xk_261) rfl rfl (fun _ _ _ _ _ => rfl) ?_
    refine tCa (l := xk_261) rfl rfl (hInvS rfl rfl rfl rfl (Nat.le_of_ble_eq_true rfl) (Nat.le_of_ble_eq_true rfl)) ?_
    refine w253_1 k0 m0 (fun Q hq => c105x k0 hr (hq ph k0 hFd.refl)) (fun ph1 k1 m1 => ?_)
    refine tKv ?_
    refine tSt (l := xk_261) rfl rfl (fun _ _ _ _ _ => rfl) (Nat.le_of_ble_eq_true rfl) ?_
    refine tK (l := xk_261) rfl rfl (fun _ _ _ _ _ => rfl) ?_
    refine tCa (l := xk_261) rfl rfl (hInvV (c := 10) k1.1 rfl rfl rfl rfl rfl (Nat.le_of_ble_eq_true rfl) (Nat.le_of_ble_eq_true rfl)) ?_
    refine m205x m1 hr (fun ph2 m2 z2 f2 => ?_)
    refine tKv ?_
    have k2 := k1.fw m2.1 f2.fw moP_k
    refine tSt (l := xk_261) rfl rfl (fun _ _ _ _ _ => rfl) (Nat.le_of_ble_eq_true rfl) ?_
    refine tK (l := xk_261) rfl rfl (fun _ _ _ _ _ => rfl) ?_
    refine tCa (l := xk_261) rfl rfl (hInvV (c := 10) m2.1 rfl rfl rfl rfl rfl (Nat.le_of_ble_eq_true rfl) (Nat.le_of_ble_eq_true rfl)) ?_
    refine m144 m2 ?_
    refine tKv ?_
    rw [z2]
    refine tK (l := xk_261) rfl rfl (fun _ _ _ _ _ => rfl) ?_
    refine tIc_eq (l := xk_261) (pc' := 1496) rfl rfl rfl (fun hc => ?_) (fun hc => ?_)
    · refine tK (l := xk_261) rfl rfl (fun _ _ _ _ _ => rfl) ?_
      refine tIf_ne (l := xk_261) (pc' := 1513) rfl rfl rfl (fun hc => ?_) (fun hc => ?_)
      · exact absurd hc (by decide)
      · refine tK (l := xk_261) rfl rfl (fun _ _ _ _ _ => rfl) ?_
        exact hN ph2 _ _ _ _ _ _ k2 m2 (ho.up) (by omega)
    · exact absurd rfl hc
  · refine tK (l := xk_261) rfl rfl (fun _ _ _ _ _ => rfl) ?_
    refine tK (l := xk_261) rfl rfl (fun _ _ _ _ _ => rfl) ?_
    refine tCa (l := xk_261) rfl rfl (hInvS rfl rfl rfl rfl (Nat.le_of_ble_eq_true rfl) (Nat.le_of_ble_eq_true rfl)) ?_
    refine w253 k0 m0 (fun Q hq => c105 k0 hr (hq ph k0 hFd.refl)) (fun ph1 k1 m1 e1 => ?_)
    refine tKv ?_
    refine tSt (l := xk_261) rfl rfl (fun _ _ _ _ _ => rfl) (Nat.le_of_ble_eq_true rfl) ?_
    refine tK (l := xk_261) rfl rfl (fun _ _ _ _ _ => rfl) ?_
    refine tCa (l := xk_261) rfl rfl (hInvV (c := 10) k1.1 rfl rfl rfl rfl rfl (Nat.le_of_ble_eq_true rfl) (Nat.le_of_ble_eq_true rfl)) ?_
    refine m205 m1 hr (fun ph2 m2 z2 f2 => ?_)
    refine tKv ?_
    have k2 := k1.fw m2.1 f2.fw moP_k
    have e2 := (f2.2.1 168 0).trans e1
    refine tSt (l := xk_261) rfl rfl (fun _ _ _ _ _ => rfl) (Nat.le_of_ble_eq_true rfl) ?_
    refine tK (l := xk_261) rfl rfl (fun _ _ _ _ _ => rfl) ?_
    refine tCa (l := xk_261) rfl rfl (hInvV (c := 10) m2.1 rfl rfl rfl rfl rfl (Nat.le_of_ble_eq_true rfl) (Nat.le_of_ble_eq_true rfl)) ?_
    refine m144 m2 ?_
    refine tKv ?_
    rw [z2]
    refine tK (l := xk_261) rfl rfl (fun _ _ _ _ _ => rfl) ?_
    refine tIc_eq (l := xk_261) (pc' := 1496) rfl rfl rfl (fun hc => ?_) (fun hc => ?_)
    · refine tK (l := xk_261) rfl rfl (fun _ _ _ _ _ => rfl) ?_
      refine tIf_ne (l := xk_261) (pc' := 1513) rfl rfl rfl (fun hc => ?_) (fun hc => ?_)
      · refine tK (l := xk_261) rfl rfl (fun _ _ _ _ _ => rfl) ?_
        refine tK (l := xk_261) rfl rfl (fun _ _ _ _ _ => rfl) ?_
        first | refine tK (l := xk_261) rfl rfl (hLaldN m2.1 rfl rfl (by omega)) ?_ | refine tK (l := xk_261) rfl rfl (hLald m2.1 rfl (by omega) (by omega)) ?_
        rw [e2]
        refine tK (l := xk_261) rfl rfl (fun _ _ _ _ _ => rfl) ?_
        refine tK (l := xk_261) rfl rfl (fun _ _ _ _ _ => rfl) ?_
        refine tK (l := xk_261) rfl rfl (fun _ _ _ _ _ => rfl) ?_
        refine tIf_eq (l := xk_261) (pc' := 1513) rfl rfl rfl (fun hc => ?_) (fun hc => ?_)
        · refine tK (l := xk_261) rfl rfl (fun _ _ _ _ _ => rfl) ?_
          exact hN ph2 _ _ _ _ _ _ k2 m2 (ho.up) (by omega)
        · exact absurd (lc_rfl _) hc
      · exact absurd rfl hc
    · exact absurd rfl hc
set_option maxRecDepth 20000 in
theorem op_41 {zs : List xV} {ph : xH} {g d B i : Nat} {Q : xR → Prop} {c : KS} {x5 x6 x7 x8 : Option xV} (hz : zs.length ≤ 1536) (hi : i + 2 < zs.length) (k0 : hKl zs ph c) (m0 : hMm zs ph c) (ho : okKS B c) (hB : B ≤ 512) (hN : ∀ (ph2 : xH) (c2 : KS) (g2 : Nat) (y5 y6 y7 y8 : Option xV), hKl zs ph2 c2 → hMm zs ph2 c2 → okKS (B + 1) c2 → g2 ≤ g + 1 → xT (d + 1240) 261 2033 (xlo [some (.inr (.inl (some 0))), some (.inr (.inl (some 1))), some (.inr (.inl (some 147))), some (.inr (.inl (some 168))), some (.inl (i : Int)), y5, y6, y7, y8]) [] ph2 g2 Q) : xT (d + 1240) 261 1864 (xlo [some (.inr (.inl (some 0))), some (.inr (.inl (some 1))), some (.inr (.inl (some 147))), some (.inr (.inl (some 168))), some (.inl (i : Int)), x5, x6, x7, x8]) [] ph g Q := by
  have hs := k0.1
  have hz168 := hK168.2
  rcases List.eq_nil_or_concat c.2.2.2 with he | ⟨l, st, he⟩
  · refine tK (l := xk_261) rfl rfl (fun _ _ _ _ _ => rfl) ?_
    refine tK (l := xk_261) rfl rfl (fun _ _ _ _ _ => rfl) ?_
    refine tCa (l := xk_261) rfl rfl (hInvS rfl rfl rfl rfl (Nat.le_of_ble_eq_true rfl) (Nat.le_of_ble_eq_true rfl)) ?_
    refine w259_1 k0 m0 (fun Q hq => c141n k0 he (hq ph k0 hFd.refl)) (fun ph1 k1 m1 => ?_)
    refine tKv ?_
    refine tSt (l := xk_261) rfl rfl (fun _ _ _ _ _ => rfl) (Nat.le_of_ble_eq_true rfl) ?_
    refine tK (l := xk_261) rfl rfl (fun _ _ _ _ _ => rfl) ?_
    refine tCa (l := xk_261) rfl rfl (hInvV (c := 10) k1.1 rfl rfl rfl rfl rfl (Nat.le_of_ble_eq_true rfl) (Nat.le_of_ble_eq_true rfl)) ?_
    refine m221n m1 he (fun ph2 m2 z2 f2 => ?_)
    refine tKv ?_
    have k2 := k1.fw m2.1 f2.fw moP_k
    refine tSt (l := xk_261) rfl rfl (fun _ _ _ _ _ => rfl) (Nat.le_of_ble_eq_true rfl) ?_
    refine tK (l := xk_261) rfl rfl (fun _ _ _ _ _ => rfl) ?_
    refine tCa (l := xk_261) rfl rfl (hInvV (c := 10) m2.1 rfl rfl rfl rfl rfl (Nat.le_of_ble_eq_true rfl) (Nat.le_of_ble_eq_true rfl)) ?_
    refine m144 m2 ?_
    refine tKv ?_
    rw [z2]
    refine tK (l := xk_261) rfl rfl (fun _ _ _ _ _ => rfl) ?_
    refine tIc_eq (l := xk_261) (pc' := 1888) rfl rfl rfl (fun hc => ?_) (fun hc => ?_)
    · refine tK (l := xk_261) rfl rfl (fun _ _ _ _ _ => rfl) ?_
      refine tIf_ne (l := xk_261) (pc' := 1905) rfl rfl rfl (fun hc => ?_) (fun hc => ?_)
      · exact absurd hc (by decide)
      · refine tK (l := xk_261) rfl rfl (fun _ _ _ _ _ => rfl) ?_
        exact hN ph2 _ _ _ _ _ _ k2 m2 (ho.up) (by omega)
    · exact absurd rfl hc
  · rw [List.concat_eq_append] at he
    refine tK (l := xk_261) rfl rfl (fun _ _ _ _ _ => rfl) ?_
    refine tK (l := xk_261) rfl rfl (fun _ _ _ _ _ => rfl) ?_
    refine tCa (l := xk_261) rfl rfl (hInvS rfl rfl rfl rfl (Nat.le_of_ble_eq_true rfl) (Nat.le_of_ble_eq_true rfl)) ?_
    refine w259 k0 m0 (fun Q hq => c141 k0 he hq) (fun ph1 k1 m1 e1 => ?_)
    refine tKv ?_
    refine tSt (l := xk_261) rfl rfl (fun _ _ _ _ _ => rfl) (Nat.le_of_ble_eq_true rfl) ?_
    refine tK (l := xk_261) rfl rfl (fun _ _ _ _ _ => rfl) ?_
    refine tCa (l := xk_261) rfl rfl (hInvV (c := 10) k1.1 rfl rfl rfl rfl rfl (Nat.le_of_ble_eq_true rfl) (Nat.le_of_ble_eq_true rfl)) ?_
    refine m221 m1 he (fun ph2 m2 z2 f2 => ?_)
    refine tKv ?_
    have k2 := k1.fw m2.1 f2.fw moP_k
    have e2 := (f2.2.1 168 0).trans e1
    refine tSt (l := xk_261) rfl rfl (fun _ _ _ _ _ => rfl) (Nat.le_of_ble_eq_true rfl) ?_
    refine tK (l := xk_261) rfl rfl (fun _ _ _ _ _ => rfl) ?_
    refine tCa (l := xk_261) rfl rfl (hInvV (c := 10) m2.1 rfl rfl rfl rfl rfl (Nat.le_of_ble_eq_true rfl) (Nat.le_of_ble_eq_true rfl)) ?_
    refine m144 m2 ?_
    refine tKv ?_
    rw [z2]
    refine tK (l := xk_261) rfl rfl (fun _ _ _ _ _ => rfl) ?_
    refine tIc_eq (l := xk_261) (pc' := 1888) rfl rfl rfl (fun hc => ?_) (fun hc => ?_)
    · refine tK (l := xk_261) rfl rfl (fun _ _ _ _ _ => rfl) ?_
      refine tIf_ne (l := xk_261) (pc' := 1905) rfl rfl rfl (fun hc => ?_) (fun hc => ?_)
      · refine tK (l := xk_261) rfl rfl (fun _ _ _ _ _ => rfl) ?_
        refine tK (l := xk_261) rfl rfl (fun _ _ _ _ _ => rfl) ?_
        first | refine tK (l := xk_261) rfl rfl (hLaldN m2.1 rfl rfl (by omega)) ?_ | refine tK (l := xk_261) rfl rfl (hLald m2.1 rfl (by omega) (by omega)) ?_
        rw [e2]
        refine tK (l := xk_261) rfl rfl (fun _ _ _ _ _ => rfl) ?_
        refine tK (l := xk_261) rfl rfl (fun _ _ _ _ _ => rfl) ?_
        refine tK (l := xk_261) rfl rfl (fun _ _ _ _ _ => rfl) ?_
        refine tIf_eq (l := xk_261) (pc' := 1905) rfl rfl rfl (fun hc => ?_) (fun hc => ?_)
        · refine tK (l := xk_261) rfl rfl (fun _ _ _ _ _ => rfl) ?_
          exact hN ph2 _ _ _ _ _ _ k2 m2 (ho.und he) (by omega)
        · exact absurd (lc_rfl _) hc
      · exact absurd rfl hc
    · exact absurd rfl hc
set_option maxRecDepth 20000 in
theorem op_43 {zs : List xV} {ph : xH} {g d B i : Nat} {Q : xR → Prop} {c : KS} {x5 x6 x7 x8 : Option xV} (hz : zs.length ≤ 1536) (hi : i + 2 < zs.length) (k0 : hKl zs ph c) (m0 : hMm zs ph c) (ho : okKS B c) (hB : B ≤ 512) (hN : ∀ (ph2 : xH) (c2 : KS) (g2 : Nat) (y5 y6 y7 y8 : Option xV), hKl zs ph2 c2 → hMm zs ph2 c2 → okKS (B + 1) c2 → g2 ≤ g + 1 → xT (d + 1240) 261 2033 (xlo [some (.inr (.inl (some 0))), some (.inr (.inl (some 1))), some (.inr (.inl (some 147))), some (.inr (.inl (some 168))), some (.inl (i : Int)), y5, y6, y7, y8]) [] ph2 g2 Q) : xT (d + 1240) 261 1921 (xlo [some (.inr (.inl (some 0))), some (.inr (.inl (some 1))), some (.inr (.inl (some 147))), some (.inr (.inl (some 168))), some (.inl (i : Int)), x5, x6, x7, x8]) [] ph g Q := by
  have hs := k0.1
  have hz168 := hK168.2
  cases he : c.2.2.1 with
  | none =>
    refine tK (l := xk_261) rfl rfl (fun _ _ _ _ _ => rfl) ?_
    refine tK (l := xk_261) rfl rfl (fun _ _ _ _ _ => rfl) ?_
    refine tCa (l := xk_261) rfl rfl (hInvS rfl rfl rfl rfl (Nat.le_of_ble_eq_true rfl) (Nat.le_of_ble_eq_true rfl)) ?_
    refine w260_1 k0 m0 (fun Q hq => c142n k0 he (hq ph k0 hFd.refl)) (fun ph1 k1 m1 => ?_)
    refine tKv ?_
    refine tSt (l := xk_261) rfl rfl (fun _ _ _ _ _ => rfl) (Nat.le_of_ble_eq_true rfl) ?_
    refine tK (l := xk_261) rfl rfl (fun _ _ _ _ _ => rfl) ?_
    refine tCa (l := xk_261) rfl rfl (hInvV (c := 10) k1.1 rfl rfl rfl rfl rfl (Nat.le_of_ble_eq_true rfl) (Nat.le_of_ble_eq_true rfl)) ?_
    refine m223n m1 he (fun ph2 m2 z2 f2 => ?_)
    refine tKv ?_
    have k2 := k1.fw m2.1 f2.fw moP_k
    refine tSt (l := xk_261) rfl rfl (fun _ _ _ _ _ => rfl) (Nat.le_of_ble_eq_true rfl) ?_
    refine tK (l := xk_261) rfl rfl (fun _ _ _ _ _ => rfl) ?_
    refine tCa (l := xk_261) rfl rfl (hInvV (c := 10) m2.1 rfl rfl rfl rfl rfl (Nat.le_of_ble_eq_true rfl) (Nat.le_of_ble_eq_true rfl)) ?_
    refine m144 m2 ?_
    refine tKv ?_
    rw [z2]
    refine tK (l := xk_261) rfl rfl (fun _ _ _ _ _ => rfl) ?_
    refine tIc_eq (l := xk_261) (pc' := 1945) rfl rfl rfl (fun hc => ?_) (fun hc => ?_)
    · refine tK (l := xk_261) rfl rfl (fun _ _ _ _ _ => rfl) ?_
      refine tIf_ne (l := xk_261) (pc' := 1962) rfl rfl rfl (fun hc => ?_) (fun hc => ?_)
      · exact absurd hc (by decide)
      · refine tK (l := xk_261) rfl rfl (fun _ _ _ _ _ => rfl) ?_
        exact hN ph2 _ _ _ _ _ _ k2 m2 (ho.up) (by omega)
    · exact absurd rfl hc
  | some st =>
    refine tK (l := xk_261) rfl rfl (fun _ _ _ _ _ => rfl) ?_
    refine tK (l := xk_261) rfl rfl (fun _ _ _ _ _ => rfl) ?_
    refine tCa (l := xk_261) rfl rfl (hInvS rfl rfl rfl rfl (Nat.le_of_ble_eq_true rfl) (Nat.le_of_ble_eq_true rfl)) ?_
    refine w260 k0 m0 (fun Q hq => c142 k0 he hq) (fun ph1 k1 m1 e1 => ?_)
    refine tKv ?_
    refine tSt (l := xk_261) rfl rfl (fun _ _ _ _ _ => rfl) (Nat.le_of_ble_eq_true rfl) ?_
    refine tK (l := xk_261) rfl rfl (fun _ _ _ _ _ => rfl) ?_
    refine tCa (l := xk_261) rfl rfl (hInvV (c := 10) k1.1 rfl rfl rfl rfl rfl (Nat.le_of_ble_eq_true rfl) (Nat.le_of_ble_eq_true rfl)) ?_
    refine m223 m1 he (fun ph2 m2 z2 f2 => ?_)
    refine tKv ?_
    have k2 := k1.fw m2.1 f2.fw moP_k
    have e2 := (f2.2.1 168 0).trans e1
    refine tSt (l := xk_261) rfl rfl (fun _ _ _ _ _ => rfl) (Nat.le_of_ble_eq_true rfl) ?_
    refine tK (l := xk_261) rfl rfl (fun _ _ _ _ _ => rfl) ?_
    refine tCa (l := xk_261) rfl rfl (hInvV (c := 10) m2.1 rfl rfl rfl rfl rfl (Nat.le_of_ble_eq_true rfl) (Nat.le_of_ble_eq_true rfl)) ?_
    refine m144 m2 ?_
    refine tKv ?_
    rw [z2]
    refine tK (l := xk_261) rfl rfl (fun _ _ _ _ _ => rfl) ?_
    refine tIc_eq (l := xk_261) (pc' := 1945) rfl rfl rfl (fun hc => ?_) (fun hc => ?_)
    · refine tK (l := xk_261) rfl rfl (fun _ _ _ _ _ => rfl) ?_
      refine tIf_ne (l := xk_261) (pc' := 1962) rfl rfl rfl (fun hc => ?_) (fun hc => ?_)
      · refine tK (l := xk_261) rfl rfl (fun _ _ _ _ _ => rfl) ?_
        refine tK (l := xk_261) rfl rfl (fun _ _ _ _ _ => rfl) ?_
        first | refine tK (l := xk_261) rfl rfl (hLaldN m2.1 rfl rfl (by omega)) ?_ | refine tK (l := xk_261) rfl rfl (hLald m2.1 rfl (by omega) (by omega)) ?_
        rw [e2]
        refine tK (l := xk_261) rfl rfl (fun _ _ _ _ _ => rfl) ?_
        refine tK (l := xk_261) rfl rfl (fun _ _ _ _ _ => rfl) ?_
        refine tK (l := xk_261) rfl rfl (fun _ _ _ _ _ => rfl) ?_
        refine tIf_eq (l := xk_261) (pc' := 1962) rfl rfl rfl (fun hc => ?_) (fun hc => ?_)
        · refine tK (l := xk_261) rfl rfl (fun _ _ _ _ _ => rfl) ?_
          exact hN ph2 _ _ _ _ _ _ k2 m2 (ho.res he) (by omega)
        · exact absurd (lc_rfl _) hc
      · exact absurd rfl hc
    · exact absurd rfl hc
