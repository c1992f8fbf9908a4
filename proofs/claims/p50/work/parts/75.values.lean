/-! ===== isValueSo ===== -/
section VSK
variable {zs : List xV} {xo : Int} {d g B n : Nat} {R : xH} {Q : xR → Prop} {t w : List Int} {u : SS} {n1 : Option SS} {e1 : List SS} {c2 : KS}
set_option maxRecDepth 20000 in
theorem kVs_x (hn : n < 8) (ok : okK B (t, u, n1, e1)) (hwok : okK 1000 (t, u, n1, e1)) (hR : hPP zs R ((t, u, n1, e1), c2) xo) (hQ : ∀ R2 g2 x2, g2 ≤ g + 1 → hPP zs R2 ((t, u, n1, e1), c2) x2 ∨ hPP zs R2 ((t, u, n1, (if e1.length = 6 then e1.tail else e1)), c2) x2 → Q (.inl (some (.inl 1)), R2, g2)) : xTC (d + 1226) 146 [.inr (.inl (some (ob false))), .inl (n : Int), .inr (.inl (some 293))] R g Q := by
  refine tEn (ls := [some (.inr (.inl (some (ob false)))), some (.inl (n : Int)), some (.inr (.inl (some 293))), none, none, none, none, none]) (fun k => by match k with | 0 => rfl | 1 => rfl | 2 => rfl | 3 => rfl | 4 => rfl | 5 => rfl | 6 => rfl | 7 => rfl | k + 8 => rfl) ?_
  cases hv : u.1 n with
  | none =>
    refine tK (l := xk_146) rfl rfl (fun _ _ _ _ _ => rfl) ?_
    refine tK (l := xk_146) rfl rfl (fun _ _ _ _ _ => rfl) ?_
    refine tCa (l := xk_146) rfl rfl (kInvV hR rfl rfl rfl rfl (Nat.le_of_ble_eq_true rfl) (Nat.le_of_ble_eq_true rfl)) ?_
    refine k107 (s := ((t, u, n1, e1), c2)) false hn hR (fun R1_ hR1_ => ?_)
    refine tKv ?_
    refine tIf_ne (l := xk_146) (pc' := 26) rfl rfl rfl (fun hc => ?_) (fun hc => ?_)
    rotate_left
    · exfalso
      rw [show (gt2 false ((t, u, n1, e1), c2)).2.1.1 n = none from hv] at hc
      exact hc rfl
    refine tK (l := xk_146) rfl rfl (fun _ _ _ _ _ => rfl) ?_
    refine tK (l := xk_146) rfl rfl (fun _ _ _ _ _ => rfl) ?_
    refine tK (l := xk_146) rfl rfl (fun _ _ _ _ _ => rfl) ?_
    refine tK (l := xk_146) rfl rfl (fun _ _ _ _ _ => rfl) ?_
    refine tK (l := xk_146) rfl rfl (fun _ _ _ _ _ => rfl) ?_
    refine tCa (l := xk_146) rfl rfl (hInvS rfl rfl rfl rfl (Nat.le_of_ble_eq_true rfl) (Nat.le_of_ble_eq_true rfl)) ?_
    refine kch_1 (s := ((t, u, n1, e1), c2)) false (a := (n : Int)) (y := 0) hR1_ hwok (fun R2_ res hres hR2_ => ?_)
    have er : res = .inl 3 := by
      rcases hres with ⟨-, q⟩ | ⟨q, -⟩ | ⟨q, -⟩
      · rw [q]
        simp only [chF, Int.toNat_natCast]
        rw [if_neg (by omega), show (gt2 false ((t, u, n1, e1), c2)).2.1.1 n = none from hv]
      · exact absurd q (by decide)
      · exact absurd q (by decide)
    subst er
    have hR2_ : hPP zs R2_ ((t, u, n1, e1), c2) xo := hR2_
    refine tKv ?_
    refine tK (l := xk_146) rfl rfl (fun _ _ _ _ _ => rfl) ?_
    refine tIc_ne (l := xk_146) (pc' := 24) rfl rfl rfl (fun hc => ?_) (fun hc => ?_)
    rotate_left
    · exfalso
      exact hc rfl
    refine tK (l := xk_146) rfl rfl (fun _ _ _ _ _ => rfl) ?_
    refine tK (l := xk_146) rfl rfl (fun _ _ _ _ _ => rfl) ?_
    refine tRt (l := xk_146) rfl rfl (fun _ _ _ _ _ => rfl) ?_
    exact hQ _ _ _ (Nat.le_refl _) (Or.inl hR2_)
  | some w =>
    obtain ⟨hokw, hw24⟩ := ok.2.1.1 n hn w hv
    obtain ⟨hel1, hel2⟩ := esc_len w
    have hsm : (if ((gt2 false ((t, u, n1, e1), c2)).2.1.1 n).isSome = true then (1 : Int) else 0) = 1 := by
      rw [show (gt2 false ((t, u, n1, e1), c2)).2.1.1 n = some w from hv]
      rfl
    by_cases h24 : 24 < (esc w).length
    · skip
      refine tK (l := xk_146) rfl rfl (fun _ _ _ _ _ => rfl) ?_
      refine tK (l := xk_146) rfl rfl (fun _ _ _ _ _ => rfl) ?_
      refine tCa (l := xk_146) rfl rfl (kInvV hR rfl rfl rfl rfl (Nat.le_of_ble_eq_true rfl) (Nat.le_of_ble_eq_true rfl)) ?_
      refine k107 (s := ((t, u, n1, e1), c2)) false hn hR (fun R1_ hR1_ => ?_)
      refine tKv ?_
      refine tIf_ne (l := xk_146) (pc' := 26) rfl rfl rfl (fun hc => ?_) (fun hc => ?_)
      · exfalso
        rw [hsm] at hc
        exact absurd hc (by decide)
      refine tK (l := xk_146) rfl rfl (fun _ _ _ _ _ => rfl) ?_
      refine tK (l := xk_146) rfl rfl (fun _ _ _ _ _ => rfl) ?_
      refine tCa (l := xk_146) rfl rfl (kInvV hR1_ rfl rfl rfl rfl (Nat.le_of_ble_eq_true rfl) (Nat.le_of_ble_eq_true rfl)) ?_
      refine k136 (s := ((t, u, n1, e1), c2)) false hn hv hR1_ (fun R2_ hR2_ => ?_)
      refine tKv ?_
      refine tSt (l := xk_146) rfl rfl (fun _ _ _ _ _ => rfl) (Nat.le_of_ble_eq_true rfl) ?_
      refine tK (l := xk_146) rfl rfl (fun _ _ _ _ _ => rfl) ?_
      refine tK (l := xk_146) rfl rfl (fun _ _ _ _ _ => rfl) ?_
      refine tCa (l := xk_146) rfl rfl (kInvV hR2_ rfl rfl rfl rfl (Nat.le_of_ble_eq_true rfl) (Nat.le_of_ble_eq_true rfl)) ?_
      refine k111 (s := ((t, u, n1, e1), c2)) false hn hv hw24 hokw hR2_ (fun R3_ hR3_ => ?_)
      refine tKv ?_
      refine tSt (l := xk_146) rfl rfl (fun _ _ _ _ _ => rfl) (Nat.le_of_ble_eq_true rfl) ?_
      refine tK (l := xk_146) rfl rfl (fun _ _ _ _ _ => rfl) ?_
      refine tK (l := xk_146) rfl rfl (fun _ _ _ _ _ => rfl) ?_
      refine tCa (l := xk_146) rfl rfl (kInvV hR3_ rfl rfl rfl rfl (Nat.le_of_ble_eq_true rfl) (Nat.le_of_ble_eq_true rfl)) ?_
      refine k114 (s := ((t, u, n1, e1), c2)) false hn hv hw24 hokw hR3_ (fun R4_ hR4_ => ?_)
      refine tKv ?_
      refine tSt (l := xk_146) rfl rfl (fun _ _ _ _ _ => rfl) (Nat.le_of_ble_eq_true rfl) ?_
      refine tK (l := xk_146) rfl rfl (fun _ _ _ _ _ => rfl) ?_
      refine tK (l := xk_146) rfl rfl (fun _ _ _ _ _ => rfl) ?_
      refine tK (l := xk_146) rfl rfl (fun _ _ _ _ _ => rfl) ?_
      refine tK (l := xk_146) rfl rfl (fun _ _ _ _ _ => rfl) ?_
      refine tK (l := xk_146) rfl rfl (fun _ _ _ _ _ => rfl) ?_
      refine tCa (l := xk_146) rfl rfl (hInvS rfl rfl rfl rfl (Nat.le_of_ble_eq_true rfl) (Nat.le_of_ble_eq_true rfl)) ?_
      refine kch_4 (s := ((t, u, n1, e1), c2)) false (a := (n : Int)) (y := 0) hR4_ hwok (fun R5_ res hres hR5_ => ?_)
      have er : res = .inl 3 := by
        rcases hres with ⟨-, q⟩ | ⟨q, -⟩ | ⟨q, -⟩
        · rw [q]
          simp only [chF, Int.toNat_natCast]
          rw [if_neg (by omega), show (gt2 false ((t, u, n1, e1), c2)).2.1.1 n = some w from hv]
          simp only
          rw [if_pos h24]
        · exact absurd q (by decide)
        · exact absurd q (by decide)
      subst er
      have hR5_ : hPP zs R5_ ((t, u, n1, e1), c2) xo := hR5_
      refine tKv ?_
      refine tSt (l := xk_146) rfl rfl (fun _ _ _ _ _ => rfl) (Nat.le_of_ble_eq_true rfl) ?_
      refine tK (l := xk_146) rfl rfl (fun _ _ _ _ _ => rfl) ?_
      refine tIf_lt (l := xk_146) (pc' := 107) rfl rfl rfl (fun hc => ?_) (fun hc => ?_)
      · exfalso
        omega
      refine tK (l := xk_146) rfl rfl (fun _ _ _ _ _ => rfl) ?_
      refine tK (l := xk_146) rfl rfl (fun _ _ _ _ _ => rfl) ?_
      refine tIc_gt (l := xk_146) (pc' := 107) rfl rfl rfl (fun hc => ?_) (fun hc => ?_)
      · exfalso
        omega
      refine tK (l := xk_146) rfl rfl (fun _ _ _ _ _ => rfl) ?_
      refine tK (l := xk_146) rfl rfl (fun _ _ _ _ _ => rfl) ?_
      refine tIc_lt (l := xk_146) (pc' := 107) rfl rfl rfl (fun hc => ?_) (fun hc => ?_)
      · exfalso
        omega
      refine tK (l := xk_146) rfl rfl (fun _ _ _ _ _ => rfl) ?_
      refine tK (l := xk_146) rfl rfl (fun _ _ _ _ _ => rfl) ?_
      refine tK (l := xk_146) rfl rfl (fun _ _ _ _ _ => rfl) ?_
      refine tK (l := xk_146) rfl rfl (hMul ⟨by omega, by omega⟩) ?_
      refine tIc_gt (l := xk_146) (pc' := 107) rfl rfl rfl (fun hc => ?_) (fun hc => ?_)
      · exfalso
        omega
      refine tK (l := xk_146) rfl rfl (fun _ _ _ _ _ => rfl) ?_
      refine tK (l := xk_146) rfl rfl (fun _ _ _ _ _ => rfl) ?_
      refine tIc_ne (l := xk_146) (pc' := 107) rfl rfl rfl (fun hc => ?_) (fun hc => ?_)
      rotate_left
      · exfalso
        exact hc rfl
      refine tK (l := xk_146) rfl rfl (fun _ _ _ _ _ => rfl) ?_
      refine tK (l := xk_146) rfl rfl (fun _ _ _ _ _ => rfl) ?_
      refine tK (l := xk_146) rfl rfl (fun _ _ _ _ _ => rfl) ?_
      refine tIc_le (l := xk_146) (pc' := 99) rfl rfl rfl (fun hc => ?_) (fun hc => ?_)
      rotate_left
      · exfalso
        omega
      refine tK (l := xk_146) rfl rfl (fun _ _ _ _ _ => rfl) ?_
      refine tK (l := xk_146) rfl rfl (fun _ _ _ _ _ => rfl) ?_
      refine tIc_ne (l := xk_146) (pc' := 107) rfl rfl rfl (fun hc => ?_) (fun hc => ?_)
      rotate_left
      · exfalso
        exact hc rfl
      refine tK (l := xk_146) rfl rfl (fun _ _ _ _ _ => rfl) ?_
      refine tK (l := xk_146) rfl rfl (fun _ _ _ _ _ => rfl) ?_
      refine tSt (l := xk_146) rfl rfl (fun _ _ _ _ _ => rfl) (Nat.le_of_ble_eq_true rfl) ?_
      refine tK (l := xk_146) rfl rfl (fun _ _ _ _ _ => rfl) ?_
      refine tIf_ne (l := xk_146) (pc' := 160) rfl rfl rfl (fun hc => ?_) (fun hc => ?_)
      · exfalso
        exact absurd hc (by decide)
      refine tK (l := xk_146) rfl rfl (fun _ _ _ _ _ => rfl) ?_
      refine tIf_eq (l := xk_146) (pc' := 178) rfl rfl rfl (fun hc => ?_) (fun hc => ?_)
      · exfalso
        exact absurd hc (by decide)
      refine tK (l := xk_146) rfl rfl (fun _ _ _ _ _ => rfl) ?_
      refine tK (l := xk_146) rfl rfl (fun _ _ _ _ _ => rfl) ?_
      refine tCa (l := xk_146) rfl rfl (kInvV hR5_ rfl rfl rfl rfl (Nat.le_of_ble_eq_true rfl) (Nat.le_of_ble_eq_true rfl)) ?_
      refine k136 (s := ((t, u, n1, e1), c2)) false hn hv hR5_ (fun R6_ hR6_ => ?_)
      refine tKv ?_
      refine tK (l := xk_146) rfl rfl (fun _ _ _ _ _ => rfl) ?_
      refine tIc_ne (l := xk_146) (pc' := 178) rfl rfl rfl (fun hc => ?_) (fun hc => ?_)
      rotate_left
      · exfalso
        exact hc rfl
      refine tK (l := xk_146) rfl rfl (fun _ _ _ _ _ => rfl) ?_
      refine tK (l := xk_146) rfl rfl (fun _ _ _ _ _ => rfl) ?_
      refine tRt (l := xk_146) rfl rfl (fun _ _ _ _ _ => rfl) ?_
      exact hQ _ _ _ (by first | exact Nat.le_refl _ | exact Nat.le_succ _) (Or.inl hR6_)
    · have hv2 : (setV u n (some (esc w))).1 n = some (esc w) := by show (if n = n then some (esc w) else u.1 n) = _; rw [if_pos rfl]
      refine tK (l := xk_146) rfl rfl (fun _ _ _ _ _ => rfl) ?_
      refine tK (l := xk_146) rfl rfl (fun _ _ _ _ _ => rfl) ?_
      refine tCa (l := xk_146) rfl rfl (kInvV hR rfl rfl rfl rfl (Nat.le_of_ble_eq_true rfl) (Nat.le_of_ble_eq_true rfl)) ?_
      refine k107 (s := ((t, u, n1, e1), c2)) false hn hR (fun R1_ hR1_ => ?_)
      refine tKv ?_
      refine tIf_ne (l := xk_146) (pc' := 26) rfl rfl rfl (fun hc => ?_) (fun hc => ?_)
      · exfalso
        rw [hsm] at hc
        exact absurd hc (by decide)
      refine tK (l := xk_146) rfl rfl (fun _ _ _ _ _ => rfl) ?_
      refine tK (l := xk_146) rfl rfl (fun _ _ _ _ _ => rfl) ?_
      refine tCa (l := xk_146) rfl rfl (kInvV hR1_ rfl rfl rfl rfl (Nat.le_of_ble_eq_true rfl) (Nat.le_of_ble_eq_true rfl)) ?_
      refine k136 (s := ((t, u, n1, e1), c2)) false hn hv hR1_ (fun R2_ hR2_ => ?_)
      refine tKv ?_
      refine tSt (l := xk_146) rfl rfl (fun _ _ _ _ _ => rfl) (Nat.le_of_ble_eq_true rfl) ?_
      refine tK (l := xk_146) rfl rfl (fun _ _ _ _ _ => rfl) ?_
      refine tK (l := xk_146) rfl rfl (fun _ _ _ _ _ => rfl) ?_
      refine tCa (l := xk_146) rfl rfl (kInvV hR2_ rfl rfl rfl rfl (Nat.le_of_ble_eq_true rfl) (Nat.le_of_ble_eq_true rfl)) ?_
      refine k111 (s := ((t, u, n1, e1), c2)) false hn hv hw24 hokw hR2_ (fun R3_ hR3_ => ?_)
      refine tKv ?_
      refine tSt (l := xk_146) rfl rfl (fun _ _ _ _ _ => rfl) (Nat.le_of_ble_eq_true rfl) ?_
      refine tK (l := xk_146) rfl rfl (fun _ _ _ _ _ => rfl) ?_
      refine tK (l := xk_146) rfl rfl (fun _ _ _ _ _ => rfl) ?_
      refine tCa (l := xk_146) rfl rfl (kInvV hR3_ rfl rfl rfl rfl (Nat.le_of_ble_eq_true rfl) (Nat.le_of_ble_eq_true rfl)) ?_
      refine k114 (s := ((t, u, n1, e1), c2)) false hn hv hw24 hokw hR3_ (fun R4_ hR4_ => ?_)
      refine tKv ?_
      refine tSt (l := xk_146) rfl rfl (fun _ _ _ _ _ => rfl) (Nat.le_of_ble_eq_true rfl) ?_
      refine tK (l := xk_146) rfl rfl (fun _ _ _ _ _ => rfl) ?_
      refine tK (l := xk_146) rfl rfl (fun _ _ _ _ _ => rfl) ?_
      refine tK (l := xk_146) rfl rfl (fun _ _ _ _ _ => rfl) ?_
      refine tK (l := xk_146) rfl rfl (fun _ _ _ _ _ => rfl) ?_
      refine tK (l := xk_146) rfl rfl (fun _ _ _ _ _ => rfl) ?_
      refine tCa (l := xk_146) rfl rfl (hInvS rfl rfl rfl rfl (Nat.le_of_ble_eq_true rfl) (Nat.le_of_ble_eq_true rfl)) ?_
      refine kch_4 (s := ((t, u, n1, e1), c2)) false (a := (n : Int)) (y := 0) hR4_ hwok (fun R5_ res hres hR5_ => ?_)
      have er : res = (.inr (setV u n (some (esc w)), ((esc w).length : Int))) := by
        rcases hres with ⟨-, q⟩ | ⟨q, -⟩ | ⟨q, -⟩
        · rw [q]
          simp only [chF, Int.toNat_natCast]
          rw [if_neg (by omega), show (gt2 false ((t, u, n1, e1), c2)).2.1.1 n = some w from hv]
          simp only
          rw [if_neg h24]
          rfl
        · exact absurd q (by decide)
        · exact absurd q (by decide)
      subst er
      have hR5_ : hPP zs R5_ ((t, setV u n (some (esc w)), n1, (if e1.length = 6 then e1.tail else e1) ++ [u]), c2) ((esc w).length : Int) := hR5_
      refine tKv ?_
      refine tSt (l := xk_146) rfl rfl (fun _ _ _ _ _ => rfl) (Nat.le_of_ble_eq_true rfl) ?_
      refine tK (l := xk_146) rfl rfl (fun _ _ _ _ _ => rfl) ?_
      refine tIf_lt (l := xk_146) (pc' := 107) rfl rfl rfl (fun hc => ?_) (fun hc => ?_)
      · exfalso
        omega
      refine tK (l := xk_146) rfl rfl (fun _ _ _ _ _ => rfl) ?_
      refine tK (l := xk_146) rfl rfl (fun _ _ _ _ _ => rfl) ?_
      refine tIc_gt (l := xk_146) (pc' := 107) rfl rfl rfl (fun hc => ?_) (fun hc => ?_)
      · exfalso
        omega
      refine tK (l := xk_146) rfl rfl (fun _ _ _ _ _ => rfl) ?_
      refine tK (l := xk_146) rfl rfl (fun _ _ _ _ _ => rfl) ?_
      refine tIc_lt (l := xk_146) (pc' := 107) rfl rfl rfl (fun hc => ?_) (fun hc => ?_)
      · exfalso
        omega
      refine tK (l := xk_146) rfl rfl (fun _ _ _ _ _ => rfl) ?_
      refine tK (l := xk_146) rfl rfl (fun _ _ _ _ _ => rfl) ?_
      refine tK (l := xk_146) rfl rfl (fun _ _ _ _ _ => rfl) ?_
      refine tK (l := xk_146) rfl rfl (hMul ⟨by omega, by omega⟩) ?_
      refine tIc_gt (l := xk_146) (pc' := 107) rfl rfl rfl (fun hc => ?_) (fun hc => ?_)
      · exfalso
        omega
      refine tK (l := xk_146) rfl rfl (fun _ _ _ _ _ => rfl) ?_
      refine tK (l := xk_146) rfl rfl (fun _ _ _ _ _ => rfl) ?_
      refine tIc_ne (l := xk_146) (pc' := 107) rfl rfl rfl (fun hc => ?_) (fun hc => ?_)
      rotate_left
      · exfalso
        exact hc rfl
      refine tK (l := xk_146) rfl rfl (fun _ _ _ _ _ => rfl) ?_
      refine tK (l := xk_146) rfl rfl (fun _ _ _ _ _ => rfl) ?_
      refine tK (l := xk_146) rfl rfl (fun _ _ _ _ _ => rfl) ?_
      refine tIc_le (l := xk_146) (pc' := 99) rfl rfl rfl (fun hc => ?_) (fun hc => ?_)
      · exfalso
        omega
      refine tK (l := xk_146) rfl rfl (fun _ _ _ _ _ => rfl) ?_
      refine tIc_ne (l := xk_146) (pc' := 107) rfl rfl rfl (fun hc => ?_) (fun hc => ?_)
      rotate_left
      · exfalso
        exact hc rfl
      refine tK (l := xk_146) rfl rfl (fun _ _ _ _ _ => rfl) ?_
      refine tK (l := xk_146) rfl rfl (fun _ _ _ _ _ => rfl) ?_
      refine tSt (l := xk_146) rfl rfl (fun _ _ _ _ _ => rfl) (Nat.le_of_ble_eq_true rfl) ?_
      refine tK (l := xk_146) rfl rfl (fun _ _ _ _ _ => rfl) ?_
      refine tIf_ne (l := xk_146) (pc' := 160) rfl rfl rfl (fun hc => ?_) (fun hc => ?_)
      rotate_left
      · exfalso
        exact hc rfl
      refine tK (l := xk_146) rfl rfl (fun _ _ _ _ _ => rfl) ?_
      refine tIf_eq (l := xk_146) (pc' := 157) rfl rfl rfl (fun hc => ?_) (fun hc => ?_)
      · exfalso
        exact absurd hc (by decide)
      refine tK (l := xk_146) rfl rfl (fun _ _ _ _ _ => rfl) ?_
      refine tK (l := xk_146) rfl rfl (fun _ _ _ _ _ => rfl) ?_
      refine tK (l := xk_146) rfl rfl (kGet hR5_) ?_
      refine tK (l := xk_146) rfl rfl (fun _ _ _ _ _ => rfl) ?_
      refine tIc_ne (l := xk_146) (pc' := 157) rfl rfl rfl (fun hc => ?_) (fun hc => ?_)
      rotate_left
      · exfalso
        exact hc rfl
      refine tK (l := xk_146) rfl rfl (fun _ _ _ _ _ => rfl) ?_
      refine tK (l := xk_146) rfl rfl (fun _ _ _ _ _ => rfl) ?_
      refine tCa (l := xk_146) rfl rfl (kInvV hR5_ rfl rfl rfl rfl (Nat.le_of_ble_eq_true rfl) (Nat.le_of_ble_eq_true rfl)) ?_
      refine k136 (s := ((t, setV u n (some (esc w)), n1, (if e1.length = 6 then e1.tail else e1) ++ [u]), c2)) false hn hv2 hR5_ (fun R6_ hR6_ => ?_)
      refine tKv ?_
      refine tK (l := xk_146) rfl rfl (fun _ _ _ _ _ => rfl) ?_
      refine tIc_ne (l := xk_146) (pc' := 157) rfl rfl rfl (fun hc => ?_) (fun hc => ?_)
      rotate_left
      · exfalso
        exact hc rfl
      refine tK (l := xk_146) rfl rfl (fun _ _ _ _ _ => rfl) ?_
      refine tK (l := xk_146) rfl rfl (fun _ _ _ _ _ => rfl) ?_
      refine tCa (l := xk_146) rfl rfl (kInvV hR6_ rfl rfl rfl rfl (Nat.le_of_ble_eq_true rfl) (Nat.le_of_ble_eq_true rfl)) ?_
      refine k109 (s := ((t, setV u n (some (esc w)), n1, (if e1.length = 6 then e1.tail else e1) ++ [u]), c2)) false hn hv2 (by omega) hR6_ (fun R7_ hR7_ => ?_)
      refine tKv ?_
      refine tIf_eq (l := xk_146) (pc' := 157) rfl rfl rfl (fun hc => ?_) (fun hc => ?_)
      · exfalso
        rw [esc_pWh] at hc
        exact absurd hc (by decide)
      refine tK (l := xk_146) rfl rfl (fun _ _ _ _ _ => rfl) ?_
      refine tCa (l := xk_146) rfl rfl (kInvV hR7_ rfl rfl rfl rfl (Nat.le_of_ble_eq_true rfl) (Nat.le_of_ble_eq_true rfl)) ?_
      refine k141 (s := ((t, setV u n (some (esc w)), n1, (if e1.length = 6 then e1.tail else e1) ++ [u]), c2)) false (l := (if e1.length = 6 then e1.tail else e1)) (st := u) rfl hR7_ (fun R8_ hR8_ => ?_)
      have hR8_ : hPP zs R8_ ((t, u, n1, (if e1.length = 6 then e1.tail else e1)), c2) _ := hR8_
      refine tKv ?_
      refine tIf_lt (l := xk_146) (pc' := 157) rfl rfl rfl (fun hc => ?_) (fun hc => ?_)
      · exfalso
        omega
      refine tK (l := xk_146) rfl rfl (fun _ _ _ _ _ => rfl) ?_
      refine tK (l := xk_146) rfl rfl (fun _ _ _ _ _ => rfl) ?_
      refine tSt (l := xk_146) rfl rfl (fun _ _ _ _ _ => rfl) (Nat.le_of_ble_eq_true rfl) ?_
      refine tK (l := xk_146) rfl rfl (fun _ _ _ _ _ => rfl) ?_
      refine tIf_eq (l := xk_146) (pc' := 178) rfl rfl rfl (fun hc => ?_) (fun hc => ?_)
      · exfalso
        exact absurd hc (by decide)
      refine tK (l := xk_146) rfl rfl (fun _ _ _ _ _ => rfl) ?_
      refine tK (l := xk_146) rfl rfl (fun _ _ _ _ _ => rfl) ?_
      refine tCa (l := xk_146) rfl rfl (kInvV hR8_ rfl rfl rfl rfl (Nat.le_of_ble_eq_true rfl) (Nat.le_of_ble_eq_true rfl)) ?_
      refine k136 (s := ((t, u, n1, (if e1.length = 6 then e1.tail else e1)), c2)) false hn hv hR8_ (fun R9_ hR9_ => ?_)
      refine tKv ?_
      refine tK (l := xk_146) rfl rfl (fun _ _ _ _ _ => rfl) ?_
      refine tIc_ne (l := xk_146) (pc' := 178) rfl rfl rfl (fun hc => ?_) (fun hc => ?_)
      rotate_left
      · exfalso
        exact hc rfl
      refine tK (l := xk_146) rfl rfl (fun _ _ _ _ _ => rfl) ?_
      refine tK (l := xk_146) rfl rfl (fun _ _ _ _ _ => rfl) ?_
      refine tRt (l := xk_146) rfl rfl (fun _ _ _ _ _ => rfl) ?_
      exact hQ _ _ _ (by first | exact Nat.le_refl _ | exact Nat.le_succ _) (Or.inr hR9_)
end VSK
theorem okK_1000 {B : Nat} {c : KS} (hB : B ≤ 1000) (ok : okK B c) : okK 1000 c := by
  have up : ∀ k, okK (B + k) c := by
    intro k
    induction k with
    | zero => exact ok
    | succ k ih => exact ih.up
  have := up (1000 - B)
  rw [show B + (1000 - B) = 1000 by omega] at this
  exact this
theorem kVs {zs : List xV} {xo : Int} {d g B n : Nat} {R : xH} {Q : xR → Prop} {c c2 : KS} (hn : n < 8) (hB : B ≤ 1000) (ok : okK B c) (hR : hPP zs R (c, c2) xo) (hQ : ∀ R2 g2 x2 e2, g2 ≤ g + 1 → hPP zs R2 ((c.1, c.2.1, c.2.2.1, e2), c2) x2 → okK B (c.1, c.2.1, c.2.2.1, e2) → Q (.inl (some (.inl 1)), R2, g2)) : xTC (d + 1226) 146 [.inr (.inl (some (ob false))), .inl (n : Int), .inr (.inl (some 293))] R g Q := by
  obtain ⟨t, u, n1, e1⟩ := c
  obtain ⟨h1, h2, hhi, h6⟩ := id ok
  have hhi2 : okK B (t, u, n1, if e1.length = 6 then e1.tail else e1) := by
    refine ⟨h1, h2, fun st hs => ?_, ?_⟩
    · have hs : st ∈ (if e1.length = 6 then e1.tail else e1) := hs
      split at hs
      · exact hhi st (List.mem_of_mem_tail hs)
      · exact hhi st hs
    · show (if e1.length = 6 then e1.tail else e1).length ≤ 6
      split
      · rw [List.length_tail]; exact Nat.le_trans (Nat.sub_le _ _) h6
      · exact h6
  exact kVs_x hn ok (okK_1000 hB ok) hR (fun R2 g2 x2 hg h => by
    rcases h with h | h
    · exact hQ R2 g2 x2 e1 hg h ok
    · exact hQ R2 g2 x2 _ hg h hhi2)
