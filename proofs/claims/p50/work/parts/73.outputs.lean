/-! ===== isOutputSo ===== -/
section OSK
variable {zs : List xV} {xo : Int} {d : Nat} {t1 : List Int} {f : Nat → Option (List Int)} {ou : List Int} {r stp p e v rn fl pr : Nat} {pl : List Nat} {n1 : Option SS} {e1 : List SS} {c2 : KS}
theorem g87 {R : xH} {g : Nat} {Q : xR → Prop} (hR : hPP zs R ((t1, (f, (ou, (r : Int), pl.map (fun x : Nat => (x : Int)), (stp : Int), (p : Int), (e : Int), (v : Int)), (rn : Int), (fl : Int), (pr : Int)), n1, e1), c2) xo) (hQ : ∀ R2, hPP zs R2 ((t1, (f, (ou, (r : Int), pl.map (fun x : Nat => (x : Int)), (stp : Int), (p : Int), (e : Int), (v : Int)), (rn : Int), (fl : Int), (pr : Int)), n1, e1), c2) xo → Q (.inl (some (.inl (ou.length : Int))), R2, g)) : xTC (d + 3) 87 [.inr (.inl (some (ob false)))] R g Q := k87 (s := ((t1, (f, (ou, (r : Int), pl.map (fun x : Nat => (x : Int)), (stp : Int), (p : Int), (e : Int), (v : Int)), (rn : Int), (fl : Int), (pr : Int)), n1, e1), c2)) false hR hQ
theorem g88 {R : xH} {g : Nat} {Q : xR → Prop} (hR : hPP zs R ((t1, (f, (ou, (r : Int), pl.map (fun x : Nat => (x : Int)), (stp : Int), (p : Int), (e : Int), (v : Int)), (rn : Int), (fl : Int), (pr : Int)), n1, e1), c2) xo) (hQ : ∀ R2, hPP zs R2 ((t1, (f, (ou, (r : Int), pl.map (fun x : Nat => (x : Int)), (stp : Int), (p : Int), (e : Int), (v : Int)), (rn : Int), (fl : Int), (pr : Int)), n1, e1), c2) xo → Q (.inl (some (.inl (if (r : Int) = 0 then 0 else 1))), R2, g)) : xTC (d + 3) 88 [.inr (.inl (some (ob false)))] R g Q := k88 (s := ((t1, (f, (ou, (r : Int), pl.map (fun x : Nat => (x : Int)), (stp : Int), (p : Int), (e : Int), (v : Int)), (rn : Int), (fl : Int), (pr : Int)), n1, e1), c2)) false hR hQ
theorem g89 {R : xH} {g : Nat} {Q : xR → Prop} (hR : hPP zs R ((t1, (f, (ou, (r : Int), pl.map (fun x : Nat => (x : Int)), (stp : Int), (p : Int), (e : Int), (v : Int)), (rn : Int), (fl : Int), (pr : Int)), n1, e1), c2) xo) (hQ : ∀ R2, hPP zs R2 ((t1, (f, (ou, (r : Int), pl.map (fun x : Nat => (x : Int)), (stp : Int), (p : Int), (e : Int), (v : Int)), (rn : Int), (fl : Int), (pr : Int)), n1, e1), c2) xo → Q (.inl (some (.inl ((pl.map (fun x : Nat => (x : Int))).length : Int))), R2, g)) : xTC (d + 3) 89 [.inr (.inl (some (ob false)))] R g Q := k89 (s := ((t1, (f, (ou, (r : Int), pl.map (fun x : Nat => (x : Int)), (stp : Int), (p : Int), (e : Int), (v : Int)), (rn : Int), (fl : Int), (pr : Int)), n1, e1), c2)) false hR hQ
theorem g90 {R : xH} {g : Nat} {Q : xR → Prop} (hR : hPP zs R ((t1, (f, (ou, (r : Int), pl.map (fun x : Nat => (x : Int)), (stp : Int), (p : Int), (e : Int), (v : Int)), (rn : Int), (fl : Int), (pr : Int)), n1, e1), c2) xo) (hQ : ∀ R2, hPP zs R2 ((t1, (f, (ou, (r : Int), pl.map (fun x : Nat => (x : Int)), (stp : Int), (p : Int), (e : Int), (v : Int)), (rn : Int), (fl : Int), (pr : Int)), n1, e1), c2) xo → Q (.inl (some (.inl (stp : Int))), R2, g)) : xTC (d + 3) 90 [.inr (.inl (some (ob false)))] R g Q := k90 (s := ((t1, (f, (ou, (r : Int), pl.map (fun x : Nat => (x : Int)), (stp : Int), (p : Int), (e : Int), (v : Int)), (rn : Int), (fl : Int), (pr : Int)), n1, e1), c2)) false hR hQ
theorem g91 {R : xH} {g : Nat} {Q : xR → Prop} (hR : hPP zs R ((t1, (f, (ou, (r : Int), pl.map (fun x : Nat => (x : Int)), (stp : Int), (p : Int), (e : Int), (v : Int)), (rn : Int), (fl : Int), (pr : Int)), n1, e1), c2) xo) (hQ : ∀ R2, hPP zs R2 ((t1, (f, (ou, (r : Int), pl.map (fun x : Nat => (x : Int)), (stp : Int), (p : Int), (e : Int), (v : Int)), (rn : Int), (fl : Int), (pr : Int)), n1, e1), c2) xo → Q (.inl (some (.inl (p : Int))), R2, g)) : xTC (d + 3) 91 [.inr (.inl (some (ob false)))] R g Q := k91 (s := ((t1, (f, (ou, (r : Int), pl.map (fun x : Nat => (x : Int)), (stp : Int), (p : Int), (e : Int), (v : Int)), (rn : Int), (fl : Int), (pr : Int)), n1, e1), c2)) false hR hQ
theorem g92 {R : xH} {g : Nat} {Q : xR → Prop} (hR : hPP zs R ((t1, (f, (ou, (r : Int), pl.map (fun x : Nat => (x : Int)), (stp : Int), (p : Int), (e : Int), (v : Int)), (rn : Int), (fl : Int), (pr : Int)), n1, e1), c2) xo) (hQ : ∀ R2, hPP zs R2 ((t1, (f, (ou, (r : Int), pl.map (fun x : Nat => (x : Int)), (stp : Int), (p : Int), (e : Int), (v : Int)), (rn : Int), (fl : Int), (pr : Int)), n1, e1), c2) xo → Q (.inl (some (.inl (e : Int))), R2, g)) : xTC (d + 3) 92 [.inr (.inl (some (ob false)))] R g Q := k92 (s := ((t1, (f, (ou, (r : Int), pl.map (fun x : Nat => (x : Int)), (stp : Int), (p : Int), (e : Int), (v : Int)), (rn : Int), (fl : Int), (pr : Int)), n1, e1), c2)) false hR hQ
theorem g93 {R : xH} {g : Nat} {Q : xR → Prop} (hR : hPP zs R ((t1, (f, (ou, (r : Int), pl.map (fun x : Nat => (x : Int)), (stp : Int), (p : Int), (e : Int), (v : Int)), (rn : Int), (fl : Int), (pr : Int)), n1, e1), c2) xo) (hQ : ∀ R2, hPP zs R2 ((t1, (f, (ou, (r : Int), pl.map (fun x : Nat => (x : Int)), (stp : Int), (p : Int), (e : Int), (v : Int)), (rn : Int), (fl : Int), (pr : Int)), n1, e1), c2) xo → Q (.inl (some (.inl (v : Int))), R2, g)) : xTC (d + 3) 93 [.inr (.inl (some (ob false)))] R g Q := k93 (s := ((t1, (f, (ou, (r : Int), pl.map (fun x : Nat => (x : Int)), (stp : Int), (p : Int), (e : Int), (v : Int)), (rn : Int), (fl : Int), (pr : Int)), n1, e1), c2)) false hR hQ
theorem g94 {R : xH} {g : Nat} {Q : xR → Prop} (hR : hPP zs R ((t1, (f, (ou, (r : Int), pl.map (fun x : Nat => (x : Int)), (stp : Int), (p : Int), (e : Int), (v : Int)), (rn : Int), (fl : Int), (pr : Int)), n1, e1), c2) xo) (hQ : ∀ R2, hPP zs R2 ((t1, (f, (ou, (r : Int), pl.map (fun x : Nat => (x : Int)), (stp : Int), (p : Int), (e : Int), (v : Int)), (rn : Int), (fl : Int), (pr : Int)), n1, e1), c2) xo → Q (.inl (some (.inl (rn : Int))), R2, g)) : xTC (d + 3) 94 [.inr (.inl (some (ob false)))] R g Q := k94 (s := ((t1, (f, (ou, (r : Int), pl.map (fun x : Nat => (x : Int)), (stp : Int), (p : Int), (e : Int), (v : Int)), (rn : Int), (fl : Int), (pr : Int)), n1, e1), c2)) false hR hQ
theorem g95 {R : xH} {g : Nat} {Q : xR → Prop} (hR : hPP zs R ((t1, (f, (ou, (r : Int), pl.map (fun x : Nat => (x : Int)), (stp : Int), (p : Int), (e : Int), (v : Int)), (rn : Int), (fl : Int), (pr : Int)), n1, e1), c2) xo) (hQ : ∀ R2, hPP zs R2 ((t1, (f, (ou, (r : Int), pl.map (fun x : Nat => (x : Int)), (stp : Int), (p : Int), (e : Int), (v : Int)), (rn : Int), (fl : Int), (pr : Int)), n1, e1), c2) xo → Q (.inl (some (.inl (fl : Int))), R2, g)) : xTC (d + 3) 95 [.inr (.inl (some (ob false)))] R g Q := k95 (s := ((t1, (f, (ou, (r : Int), pl.map (fun x : Nat => (x : Int)), (stp : Int), (p : Int), (e : Int), (v : Int)), (rn : Int), (fl : Int), (pr : Int)), n1, e1), c2)) false hR hQ
theorem g96 {R : xH} {g : Nat} {Q : xR → Prop} (hR : hPP zs R ((t1, (f, (ou, (r : Int), pl.map (fun x : Nat => (x : Int)), (stp : Int), (p : Int), (e : Int), (v : Int)), (rn : Int), (fl : Int), (pr : Int)), n1, e1), c2) xo) (hQ : ∀ R2, hPP zs R2 ((t1, (f, (ou, (r : Int), pl.map (fun x : Nat => (x : Int)), (stp : Int), (p : Int), (e : Int), (v : Int)), (rn : Int), (fl : Int), (pr : Int)), n1, e1), c2) xo → Q (.inl (some (.inl (pr : Int))), R2, g)) : xTC (d + 3) 96 [.inr (.inl (some (ob false)))] R g Q := k96 (s := ((t1, (f, (ou, (r : Int), pl.map (fun x : Nat => (x : Int)), (stp : Int), (p : Int), (e : Int), (v : Int)), (rn : Int), (fl : Int), (pr : Int)), n1, e1), c2)) false hR hQ
theorem g106 {R : xH} {g : Nat} {Q : xR → Prop} {n y : Nat} (hy : pl[n]? = some y) (hR : hPP zs R ((t1, (f, (ou, (r : Int), pl.map (fun x : Nat => (x : Int)), (stp : Int), (p : Int), (e : Int), (v : Int)), (rn : Int), (fl : Int), (pr : Int)), n1, e1), c2) xo) (hQ : ∀ R2, hPP zs R2 ((t1, (f, (ou, (r : Int), pl.map (fun x : Nat => (x : Int)), (stp : Int), (p : Int), (e : Int), (v : Int)), (rn : Int), (fl : Int), (pr : Int)), n1, e1), c2) xo → Q (.inl (some (.inl (y : Int))), R2, g)) : xTC (d + 3) 106 [.inr (.inl (some (ob false))), .inl (n : Int)] R g Q := k106 (s := ((t1, (f, (ou, (r : Int), pl.map (fun x : Nat => (x : Int)), (stp : Int), (p : Int), (e : Int), (v : Int)), (rn : Int), (fl : Int), (pr : Int)), n1, e1), c2)) false (n := n) (x := (y : Int)) (by show (pl.map (fun x : Nat => (x : Int)))[n]? = some (y : Int); rw [List.getElem?_map, hy]; rfl) hR hQ
theorem g105 {R : xH} {g : Nat} {Q : xR → Prop} (hr : r ≠ 0) (hR : hPP zs R ((t1, (f, (ou, (r : Int), pl.map (fun x : Nat => (x : Int)), (stp : Int), (p : Int), (e : Int), (v : Int)), (rn : Int), (fl : Int), (pr : Int)), n1, e1), c2) xo) (hQ : ∀ R2, hPP zs R2 ((t1, (f, (ou, (r : Int), pl.map (fun x : Nat => (x : Int)), (stp : Int), (p : Int), (e : Int), (v : Int)), (rn : Int), (fl : Int), (pr : Int)), n1, e1), c2) xo → Q (.inl (some (.inl (r : Int))), R2, g)) : xTC (d + 3) 105 [.inr (.inl (some (ob false)))] R g Q := k105 (s := ((t1, (f, (ou, (r : Int), pl.map (fun x : Nat => (x : Int)), (stp : Int), (p : Int), (e : Int), (v : Int)), (rn : Int), (fl : Int), (pr : Int)), n1, e1), c2)) false (show (r : Int) ≠ 0 by omega) hR hQ
theorem g99 {R : xH} {g : Nat} {Q : xR → Prop} (hd : 0 < ou.length → okD (FP.ddiv (FP.i2d (Int32.ofInt (v : Int))) (FP.i2d (Int32.ofInt (ou.length : Int)))) = true) (hR : hPP zs R ((t1, (f, (ou, (r : Int), pl.map (fun x : Nat => (x : Int)), (stp : Int), (p : Int), (e : Int), (v : Int)), (rn : Int), (fl : Int), (pr : Int)), n1, e1), c2) xo) (hQ : ∀ R2, hPP zs R2 ((t1, (f, (ou, (r : Int), pl.map (fun x : Nat => (x : Int)), (stp : Int), (p : Int), (e : Int), (v : Int)), (rn : Int), (fl : Int), (pr : Int)), n1, e1), c2) xo → Q (.inl (some (.inr (.inr (.inr (shV (f, (ou, (r : Int), pl.map (fun x : Nat => (x : Int)), (stp : Int), (p : Int), (e : Int), (v : Int)), (rn : Int), (fl : Int), (pr : Int))))))), R2, g)) : xTC (d + 3) 99 [.inr (.inl (some (ob false)))] R g Q := k99 (s := ((t1, (f, (ou, (r : Int), pl.map (fun x : Nat => (x : Int)), (stp : Int), (p : Int), (e : Int), (v : Int)), (rn : Int), (fl : Int), (pr : Int)), n1, e1), c2)) false hd hR hQ
variable {R : xH} {g : Nat} {Q : xR → Prop}
theorem kOs_l (hp : jP pl) (h5 : pl.length ≤ 5) (hQ : ∀ R2, hPP zs R2 ((t1, (f, (ou, (r : Int), pl.map (fun x : Nat => (x : Int)), (stp : Int), (p : Int), (e : Int), (v : Int)), (rn : Int), (fl : Int), (pr : Int)), n1, e1), c2) xo → Q (.inl (some (.inl 1)), R2, g)) : ∀ (n k : Nat) (R : xH), pl.length - k ≤ n → hPP zs R ((t1, (f, (ou, (r : Int), pl.map (fun x : Nat => (x : Int)), (stp : Int), (p : Int), (e : Int), (v : Int)), (rn : Int), (fl : Int), (pr : Int)), n1, e1), c2) xo → xT (d + 4) 144 262 (xlo [some (.inr (.inl (some (ob false)))), some (.inl (ou.length : Int)), some (.inl 1), some (.inl (r : Int)), some (.inl ((pl.map (fun x : Nat => (x : Int))).length : Int)), some (.inl (k : Int))]) [] R g Q := by
  have hpl : ((pl.map (fun x : Nat => (x : Int))).length : Int) = (pl.length : Int) := by rw [List.length_map]
  intro n
  induction n with
  | zero =>
    intro k R hn hR
    refine tK (l := xk_144) rfl rfl (fun _ _ _ _ _ => rfl) ?_
    refine tK (l := xk_144) rfl rfl (fun _ _ _ _ _ => rfl) ?_
    refine tIc_ge (l := xk_144) (pc' := 315) rfl rfl rfl (fun hc => ?_) (fun hc => ?_)
    · exfalso
      omega
    refine tK (l := xk_144) rfl rfl (fun _ _ _ _ _ => rfl) ?_
    refine tRt (l := xk_144) rfl rfl (fun _ _ _ _ _ => rfl) ?_
    exact hQ R hR
  | succ n ih =>
    intro k R hn hR
    refine tK (l := xk_144) rfl rfl (fun _ _ _ _ _ => rfl) ?_
    refine tK (l := xk_144) rfl rfl (fun _ _ _ _ _ => rfl) ?_
    refine tIc_ge (l := xk_144) (pc' := 315) rfl rfl rfl (fun hc => ?_) (fun hc => ?_)
    · skip
      have hlt : k < pl.length := by omega
      obtain ⟨y, hy⟩ : ∃ y, pl[k]? = some y := ⟨_, List.getElem?_eq_getElem hlt⟩
      have hb := hp k y hy
      refine tK (l := xk_144) rfl rfl (fun _ _ _ _ _ => rfl) ?_
      refine tIf_eq (l := xk_144) (pc' := 307) rfl rfl rfl (fun hc => ?_) (fun hc => ?_)
      · exfalso
        exact absurd hc (by decide)
      refine tK (l := xk_144) rfl rfl (fun _ _ _ _ _ => rfl) ?_
      refine tK (l := xk_144) rfl rfl (fun _ _ _ _ _ => rfl) ?_
      refine tCa (l := xk_144) rfl rfl (kInvV hR rfl rfl rfl rfl (Nat.le_of_ble_eq_true rfl) (Nat.le_of_ble_eq_true rfl)) ?_
      refine g106 hy hR (fun R1_ hR1_ => ?_)
      refine tKv ?_
      refine tIf_lt (l := xk_144) (pc' := 307) rfl rfl rfl (fun hc => ?_) (fun hc => ?_)
      · exfalso
        omega
      refine tK (l := xk_144) rfl rfl (fun _ _ _ _ _ => rfl) ?_
      refine tK (l := xk_144) rfl rfl (fun _ _ _ _ _ => rfl) ?_
      refine tCa (l := xk_144) rfl rfl (kInvV hR1_ rfl rfl rfl rfl (Nat.le_of_ble_eq_true rfl) (Nat.le_of_ble_eq_true rfl)) ?_
      refine g106 hy hR1_ (fun R2_ hR2_ => ?_)
      refine tKv ?_
      refine tK (l := xk_144) rfl rfl (fun _ _ _ _ _ => rfl) ?_
      refine tIf_ne (l := xk_144) (pc' := 298) rfl rfl rfl (fun hc => ?_) (fun hc => ?_)
      · skip
        refine tK (l := xk_144) rfl rfl (fun _ _ _ _ _ => rfl) ?_
        refine tK (l := xk_144) rfl rfl (fun _ _ _ _ _ => rfl) ?_
        refine tIc_ge (l := xk_144) (pc' := 307) rfl rfl rfl (fun hc => ?_) (fun hc => ?_)
        rotate_left
        · exfalso
          rw [if_pos (by omega)] at hb
          omega
        refine tK (l := xk_144) rfl rfl (fun _ _ _ _ _ => rfl) ?_
        refine tK (l := xk_144) rfl rfl (fun _ _ _ _ _ => rfl) ?_
        refine tSt (l := xk_144) rfl rfl (fun _ _ _ _ _ => rfl) (Nat.le_of_ble_eq_true rfl) ?_
        refine tSt (l := xk_144) rfl rfl (hIinc rfl (Nat.le_of_ble_eq_true rfl) ⟨by omega, by omega⟩) (Nat.le_of_ble_eq_true rfl) ?_
        refine tK (l := xk_144) rfl rfl (fun _ _ _ _ _ => rfl) ?_
        have e9 : (k : Int) + 1 = ((k + 1 : Nat) : Int) := by omega
        have h9 := ih (k + 1) _ (by omega) hR2_
        rw [← e9] at h9
        exact h9
      · skip
        refine tK (l := xk_144) rfl rfl (fun _ _ _ _ _ => rfl) ?_
        refine tIc_ge (l := xk_144) (pc' := 307) rfl rfl rfl (fun hc => ?_) (fun hc => ?_)
        rotate_left
        · exfalso
          rw [if_neg (by omega)] at hb
          omega
        refine tK (l := xk_144) rfl rfl (fun _ _ _ _ _ => rfl) ?_
        refine tK (l := xk_144) rfl rfl (fun _ _ _ _ _ => rfl) ?_
        refine tSt (l := xk_144) rfl rfl (fun _ _ _ _ _ => rfl) (Nat.le_of_ble_eq_true rfl) ?_
        refine tSt (l := xk_144) rfl rfl (hIinc rfl (Nat.le_of_ble_eq_true rfl) ⟨by omega, by omega⟩) (Nat.le_of_ble_eq_true rfl) ?_
        refine tK (l := xk_144) rfl rfl (fun _ _ _ _ _ => rfl) ?_
        have e9 : (k : Int) + 1 = ((k + 1 : Nat) : Int) := by omega
        have h9 := ih (k + 1) _ (by omega) hR2_
        rw [← e9] at h9
        exact h9
    · skip
      refine tK (l := xk_144) rfl rfl (fun _ _ _ _ _ => rfl) ?_
      refine tRt (l := xk_144) rfl rfl (fun _ _ _ _ _ => rfl) ?_
      exact hQ R hR
theorem kOs_x (h200 : ou.length ≤ 200) (hst : stp ≤ 200) (hsum : p + e + v = ou.length) (hpe : p + e ≤ stp) (hr6 : r ≤ 6) (h0 : r = 0 → pl = []) (hn0 : r ≠ 0 → 1 ≤ pl.length ∧ pl.length ≤ 5 ∧ jP pl) (h5 : r = 5 → 2 ≤ pl.length) (h4 : r = 4 → pl.length = 5) (h2 : r = 2 → ou.length = 200) (h3 : r = 3 → stp = 200) (hfl : fl ≤ rn) (hpr : ou.length ≤ pr) (hrn : rn = 0 → ou.length = 0 ∧ stp = 0 ∧ r = 0) (hbig : rn ≤ 1000000 ∧ pr ≤ 1000000) (hR : hPP zs R ((t1, (f, (ou, (r : Int), pl.map (fun x : Nat => (x : Int)), (stp : Int), (p : Int), (e : Int), (v : Int)), (rn : Int), (fl : Int), (pr : Int)), n1, e1), c2) xo) (hQ : ∀ R2, hPP zs R2 ((t1, (f, (ou, (r : Int), pl.map (fun x : Nat => (x : Int)), (stp : Int), (p : Int), (e : Int), (v : Int)), (rn : Int), (fl : Int), (pr : Int)), n1, e1), c2) xo → Q (.inl (some (.inl 1)), R2, g)) : xTC (d + 4) 144 [.inr (.inl (some (ob false)))] R g Q := by
  have hpl : ((pl.map (fun x : Nat => (x : Int))).length : Int) = (pl.length : Int) := by rw [List.length_map]
  have hsh := share_ok (st := (f, (ou, (r : Int), pl.map (fun x : Nat => (x : Int)), (stp : Int), (p : Int), (e : Int), (v : Int)), (rn : Int), (fl : Int), (pr : Int))) (v := v) rfl h200 (show v ≤ ou.length by omega)
  have hsv : shV (f, (ou, (r : Int), pl.map (fun x : Nat => (x : Int)), (stp : Int), (p : Int), (e : Int), (v : Int)), (rn : Int), (fl : Int), (pr : Int)) = if ou.length = 0 then 0 else FP.ddiv (FP.i2d (Int32.ofInt (v : Int))) (FP.i2d (Int32.ofInt (ou.length : Int))) := rfl
  have t143 : ∀ R, hPP zs R ((t1, (f, (ou, (r : Int), pl.map (fun x : Nat => (x : Int)), (stp : Int), (p : Int), (e : Int), (v : Int)), (rn : Int), (fl : Int), (pr : Int)), n1, e1), c2) xo → xT (d + 4) 144 143 (xlo [some (.inr (.inl (some (ob false)))), some (.inl (ou.length : Int)), some (.inl 1), none, none, none]) [] R g Q := by
    intro R hR
    by_cases hz : r = 0
    · skip
      refine tK (l := xk_144) rfl rfl (fun _ _ _ _ _ => rfl) ?_
      refine tCa (l := xk_144) rfl rfl (kInvV hR rfl rfl rfl rfl (Nat.le_of_ble_eq_true rfl) (Nat.le_of_ble_eq_true rfl)) ?_
      refine g88 hR (fun R1_ hR1_ => ?_)
      refine tKv ?_
      refine tIf_ne (l := xk_144) (pc' := 167) rfl rfl rfl (fun hc => ?_) (fun hc => ?_)
      rotate_left
      · exfalso
        rw [if_pos (show (r : Int) = 0 by omega)] at hc
        exact hc rfl
      refine tK (l := xk_144) rfl rfl (fun _ _ _ _ _ => rfl) ?_
      refine tIf_eq (l := xk_144) (pc' := 165) rfl rfl rfl (fun hc => ?_) (fun hc => ?_)
      · exfalso
        exact absurd hc (by decide)
      refine tK (l := xk_144) rfl rfl (fun _ _ _ _ _ => rfl) ?_
      refine tCa (l := xk_144) rfl rfl (kInvV hR1_ rfl rfl rfl rfl (Nat.le_of_ble_eq_true rfl) (Nat.le_of_ble_eq_true rfl)) ?_
      refine g89 hR1_ (fun R2_ hR2_ => ?_)
      refine tKv ?_
      refine tIf_ne (l := xk_144) (pc' := 165) rfl rfl rfl (fun hc => ?_) (fun hc => ?_)
      rotate_left
      · exfalso
        rw [h0 hz] at hc
        exact hc rfl
      refine tK (l := xk_144) rfl rfl (fun _ _ _ _ _ => rfl) ?_
      refine tK (l := xk_144) rfl rfl (fun _ _ _ _ _ => rfl) ?_
      refine tRt (l := xk_144) rfl rfl (fun _ _ _ _ _ => rfl) ?_
      exact hQ _ hR2_
    · obtain ⟨b1, b2, b3⟩ := hn0 hz
      have hcs : r = 1 ∨ r = 2 ∨ r = 3 ∨ r = 4 ∨ r = 5 ∨ r = 6 := by omega
      rcases hcs with hq | hq | hq | hq | hq | hq
      · skip
        refine tK (l := xk_144) rfl rfl (fun _ _ _ _ _ => rfl) ?_
        refine tCa (l := xk_144) rfl rfl (kInvV hR rfl rfl rfl rfl (Nat.le_of_ble_eq_true rfl) (Nat.le_of_ble_eq_true rfl)) ?_
        refine g88 hR (fun R1_ hR1_ => ?_)
        refine tKv ?_
        refine tIf_ne (l := xk_144) (pc' := 167) rfl rfl rfl (fun hc => ?_) (fun hc => ?_)
        · exfalso
          rw [if_neg (show ¬ (r : Int) = 0 by omega)] at hc
          exact absurd hc (by decide)
        refine tK (l := xk_144) rfl rfl (fun _ _ _ _ _ => rfl) ?_
        refine tCa (l := xk_144) rfl rfl (kInvV hR1_ rfl rfl rfl rfl (Nat.le_of_ble_eq_true rfl) (Nat.le_of_ble_eq_true rfl)) ?_
        refine g105 hz hR1_ (fun R2_ hR2_ => ?_)
        refine tKv ?_
        refine tSt (l := xk_144) rfl rfl (fun _ _ _ _ _ => rfl) (Nat.le_of_ble_eq_true rfl) ?_
        refine tK (l := xk_144) rfl rfl (fun _ _ _ _ _ => rfl) ?_
        refine tCa (l := xk_144) rfl rfl (kInvV hR2_ rfl rfl rfl rfl (Nat.le_of_ble_eq_true rfl) (Nat.le_of_ble_eq_true rfl)) ?_
        refine g89 hR2_ (fun R3_ hR3_ => ?_)
        refine tKv ?_
        refine tSt (l := xk_144) rfl rfl (fun _ _ _ _ _ => rfl) (Nat.le_of_ble_eq_true rfl) ?_
        refine tK (l := xk_144) rfl rfl (fun _ _ _ _ _ => rfl) ?_
        refine tIf_eq (l := xk_144) (pc' := 257) rfl rfl rfl (fun hc => ?_) (fun hc => ?_)
        · exfalso
          exact absurd hc (by decide)
        refine tK (l := xk_144) rfl rfl (fun _ _ _ _ _ => rfl) ?_
        refine tIf_le (l := xk_144) (pc' := 257) rfl rfl rfl (fun hc => ?_) (fun hc => ?_)
        rotate_left
        · exfalso
          omega
        refine tK (l := xk_144) rfl rfl (fun _ _ _ _ _ => rfl) ?_
        refine tK (l := xk_144) rfl rfl (fun _ _ _ _ _ => rfl) ?_
        refine tIc_ge (l := xk_144) (pc' := 257) rfl rfl rfl (fun hc => ?_) (fun hc => ?_)
        rotate_left
        · exfalso
          omega
        refine tK (l := xk_144) rfl rfl (fun _ _ _ _ _ => rfl) ?_
        refine tIf_le (l := xk_144) (pc' := 257) rfl rfl rfl (fun hc => ?_) (fun hc => ?_)
        rotate_left
        · exfalso
          omega
        refine tK (l := xk_144) rfl rfl (fun _ _ _ _ _ => rfl) ?_
        refine tK (l := xk_144) rfl rfl (fun _ _ _ _ _ => rfl) ?_
        refine tIc_ge (l := xk_144) (pc' := 257) rfl rfl rfl (fun hc => ?_) (fun hc => ?_)
        rotate_left
        · exfalso
          omega
        refine tK (l := xk_144) rfl rfl (fun _ _ _ _ _ => rfl) ?_
        refine tK (l := xk_144) rfl rfl (fun _ _ _ _ _ => rfl) ?_
        refine tIc_ne (l := xk_144) (pc' := 215) rfl rfl rfl (fun hc => ?_) (fun hc => ?_)
        · exfalso
          omega
        refine tK (l := xk_144) rfl rfl (fun _ _ _ _ _ => rfl) ?_
        refine tK (l := xk_144) rfl rfl (fun _ _ _ _ _ => rfl) ?_
        refine tIc_ne (l := xk_144) (pc' := 226) rfl rfl rfl (fun hc => ?_) (fun hc => ?_)
        · exfalso
          omega
        refine tK (l := xk_144) rfl rfl (fun _ _ _ _ _ => rfl) ?_
        refine tK (l := xk_144) rfl rfl (fun _ _ _ _ _ => rfl) ?_
        refine tIc_ne (l := xk_144) (pc' := 238) rfl rfl rfl (fun hc => ?_) (fun hc => ?_)
        · exfalso
          omega
        refine tK (l := xk_144) rfl rfl (fun _ _ _ _ _ => rfl) ?_
        refine tK (l := xk_144) rfl rfl (fun _ _ _ _ _ => rfl) ?_
        refine tIc_ne (l := xk_144) (pc' := 253) rfl rfl rfl (fun hc => ?_) (fun hc => ?_)
        · exfalso
          omega
        refine tK (l := xk_144) rfl rfl (fun _ _ _ _ _ => rfl) ?_
        refine tK (l := xk_144) rfl rfl (fun _ _ _ _ _ => rfl) ?_
        refine tSt (l := xk_144) rfl rfl (fun _ _ _ _ _ => rfl) (Nat.le_of_ble_eq_true rfl) ?_
        refine tK (l := xk_144) rfl rfl (fun _ _ _ _ _ => rfl) ?_
        refine tSt (l := xk_144) rfl rfl (fun _ _ _ _ _ => rfl) (Nat.le_of_ble_eq_true rfl) ?_
        exact kOs_l b3 b2 hQ 5 0 _ (by omega) hR3_
      · skip
        refine tK (l := xk_144) rfl rfl (fun _ _ _ _ _ => rfl) ?_
        refine tCa (l := xk_144) rfl rfl (kInvV hR rfl rfl rfl rfl (Nat.le_of_ble_eq_true rfl) (Nat.le_of_ble_eq_true rfl)) ?_
        refine g88 hR (fun R1_ hR1_ => ?_)
        refine tKv ?_
        refine tIf_ne (l := xk_144) (pc' := 167) rfl rfl rfl (fun hc => ?_) (fun hc => ?_)
        · exfalso
          rw [if_neg (show ¬ (r : Int) = 0 by omega)] at hc
          exact absurd hc (by decide)
        refine tK (l := xk_144) rfl rfl (fun _ _ _ _ _ => rfl) ?_
        refine tCa (l := xk_144) rfl rfl (kInvV hR1_ rfl rfl rfl rfl (Nat.le_of_ble_eq_true rfl) (Nat.le_of_ble_eq_true rfl)) ?_
        refine g105 hz hR1_ (fun R2_ hR2_ => ?_)
        refine tKv ?_
        refine tSt (l := xk_144) rfl rfl (fun _ _ _ _ _ => rfl) (Nat.le_of_ble_eq_true rfl) ?_
        refine tK (l := xk_144) rfl rfl (fun _ _ _ _ _ => rfl) ?_
        refine tCa (l := xk_144) rfl rfl (kInvV hR2_ rfl rfl rfl rfl (Nat.le_of_ble_eq_true rfl) (Nat.le_of_ble_eq_true rfl)) ?_
        refine g89 hR2_ (fun R3_ hR3_ => ?_)
        refine tKv ?_
        refine tSt (l := xk_144) rfl rfl (fun _ _ _ _ _ => rfl) (Nat.le_of_ble_eq_true rfl) ?_
        refine tK (l := xk_144) rfl rfl (fun _ _ _ _ _ => rfl) ?_
        refine tIf_eq (l := xk_144) (pc' := 257) rfl rfl rfl (fun hc => ?_) (fun hc => ?_)
        · exfalso
          exact absurd hc (by decide)
        refine tK (l := xk_144) rfl rfl (fun _ _ _ _ _ => rfl) ?_
        refine tIf_le (l := xk_144) (pc' := 257) rfl rfl rfl (fun hc => ?_) (fun hc => ?_)
        rotate_left
        · exfalso
          omega
        refine tK (l := xk_144) rfl rfl (fun _ _ _ _ _ => rfl) ?_
        refine tK (l := xk_144) rfl rfl (fun _ _ _ _ _ => rfl) ?_
        refine tIc_ge (l := xk_144) (pc' := 257) rfl rfl rfl (fun hc => ?_) (fun hc => ?_)
        rotate_left
        · exfalso
          omega
        refine tK (l := xk_144) rfl rfl (fun _ _ _ _ _ => rfl) ?_
        refine tIf_le (l := xk_144) (pc' := 257) rfl rfl rfl (fun hc => ?_) (fun hc => ?_)
        rotate_left
        · exfalso
          omega
        refine tK (l := xk_144) rfl rfl (fun _ _ _ _ _ => rfl) ?_
        refine tK (l := xk_144) rfl rfl (fun _ _ _ _ _ => rfl) ?_
        refine tIc_ge (l := xk_144) (pc' := 257) rfl rfl rfl (fun hc => ?_) (fun hc => ?_)
        rotate_left
        · exfalso
          omega
        refine tK (l := xk_144) rfl rfl (fun _ _ _ _ _ => rfl) ?_
        refine tK (l := xk_144) rfl rfl (fun _ _ _ _ _ => rfl) ?_
        refine tIc_ne (l := xk_144) (pc' := 215) rfl rfl rfl (fun hc => ?_) (fun hc => ?_)
        · exfalso
          omega
        refine tK (l := xk_144) rfl rfl (fun _ _ _ _ _ => rfl) ?_
        refine tK (l := xk_144) rfl rfl (fun _ _ _ _ _ => rfl) ?_
        refine tIc_ne (l := xk_144) (pc' := 226) rfl rfl rfl (fun hc => ?_) (fun hc => ?_)
        · exfalso
          omega
        refine tK (l := xk_144) rfl rfl (fun _ _ _ _ _ => rfl) ?_
        refine tK (l := xk_144) rfl rfl (fun _ _ _ _ _ => rfl) ?_
        refine tIc_ne (l := xk_144) (pc' := 238) rfl rfl rfl (fun hc => ?_) (fun hc => ?_)
        rotate_left
        · exfalso
          omega
        refine tK (l := xk_144) rfl rfl (fun _ _ _ _ _ => rfl) ?_
        refine tK (l := xk_144) rfl rfl (fun _ _ _ _ _ => rfl) ?_
        refine tIc_ne (l := xk_144) (pc' := 257) rfl rfl rfl (fun hc => ?_) (fun hc => ?_)
        rotate_left
        · exfalso
          have := h2 hq
          omega
        refine tK (l := xk_144) rfl rfl (fun _ _ _ _ _ => rfl) ?_
        refine tK (l := xk_144) rfl rfl (fun _ _ _ _ _ => rfl) ?_
        refine tIc_ne (l := xk_144) (pc' := 253) rfl rfl rfl (fun hc => ?_) (fun hc => ?_)
        · exfalso
          omega
        refine tK (l := xk_144) rfl rfl (fun _ _ _ _ _ => rfl) ?_
        refine tK (l := xk_144) rfl rfl (fun _ _ _ _ _ => rfl) ?_
        refine tSt (l := xk_144) rfl rfl (fun _ _ _ _ _ => rfl) (Nat.le_of_ble_eq_true rfl) ?_
        refine tK (l := xk_144) rfl rfl (fun _ _ _ _ _ => rfl) ?_
        refine tSt (l := xk_144) rfl rfl (fun _ _ _ _ _ => rfl) (Nat.le_of_ble_eq_true rfl) ?_
        exact kOs_l b3 b2 hQ 5 0 _ (by omega) hR3_
      · skip
        refine tK (l := xk_144) rfl rfl (fun _ _ _ _ _ => rfl) ?_
        refine tCa (l := xk_144) rfl rfl (kInvV hR rfl rfl rfl rfl (Nat.le_of_ble_eq_true rfl) (Nat.le_of_ble_eq_true rfl)) ?_
        refine g88 hR (fun R1_ hR1_ => ?_)
        refine tKv ?_
        refine tIf_ne (l := xk_144) (pc' := 167) rfl rfl rfl (fun hc => ?_) (fun hc => ?_)
        · exfalso
          rw [if_neg (show ¬ (r : Int) = 0 by omega)] at hc
          exact absurd hc (by decide)
        refine tK (l := xk_144) rfl rfl (fun _ _ _ _ _ => rfl) ?_
        refine tCa (l := xk_144) rfl rfl (kInvV hR1_ rfl rfl rfl rfl (Nat.le_of_ble_eq_true rfl) (Nat.le_of_ble_eq_true rfl)) ?_
        refine g105 hz hR1_ (fun R2_ hR2_ => ?_)
        refine tKv ?_
        refine tSt (l := xk_144) rfl rfl (fun _ _ _ _ _ => rfl) (Nat.le_of_ble_eq_true rfl) ?_
        refine tK (l := xk_144) rfl rfl (fun _ _ _ _ _ => rfl) ?_
        refine tCa (l := xk_144) rfl rfl (kInvV hR2_ rfl rfl rfl rfl (Nat.le_of_ble_eq_true rfl) (Nat.le_of_ble_eq_true rfl)) ?_
        refine g89 hR2_ (fun R3_ hR3_ => ?_)
        refine tKv ?_
        refine tSt (l := xk_144) rfl rfl (fun _ _ _ _ _ => rfl) (Nat.le_of_ble_eq_true rfl) ?_
        refine tK (l := xk_144) rfl rfl (fun _ _ _ _ _ => rfl) ?_
        refine tIf_eq (l := xk_144) (pc' := 257) rfl rfl rfl (fun hc => ?_) (fun hc => ?_)
        · exfalso
          exact absurd hc (by decide)
        refine tK (l := xk_144) rfl rfl (fun _ _ _ _ _ => rfl) ?_
        refine tIf_le (l := xk_144) (pc' := 257) rfl rfl rfl (fun hc => ?_) (fun hc => ?_)
        rotate_left
        · exfalso
          omega
        refine tK (l := xk_144) rfl rfl (fun _ _ _ _ _ => rfl) ?_
        refine tK (l := xk_144) rfl rfl (fun _ _ _ _ _ => rfl) ?_
        refine tIc_ge (l := xk_144) (pc' := 257) rfl rfl rfl (fun hc => ?_) (fun hc => ?_)
        rotate_left
        · exfalso
          omega
        refine tK (l := xk_144) rfl rfl (fun _ _ _ _ _ => rfl) ?_
        refine tIf_le (l := xk_144) (pc' := 257) rfl rfl rfl (fun hc => ?_) (fun hc => ?_)
        rotate_left
        · exfalso
          omega
        refine tK (l := xk_144) rfl rfl (fun _ _ _ _ _ => rfl) ?_
        refine tK (l := xk_144) rfl rfl (fun _ _ _ _ _ => rfl) ?_
        refine tIc_ge (l := xk_144) (pc' := 257) rfl rfl rfl (fun hc => ?_) (fun hc => ?_)
        rotate_left
        · exfalso
          omega
        refine tK (l := xk_144) rfl rfl (fun _ _ _ _ _ => rfl) ?_
        refine tK (l := xk_144) rfl rfl (fun _ _ _ _ _ => rfl) ?_
        refine tIc_ne (l := xk_144) (pc' := 215) rfl rfl rfl (fun hc => ?_) (fun hc => ?_)
        · exfalso
          omega
        refine tK (l := xk_144) rfl rfl (fun _ _ _ _ _ => rfl) ?_
        refine tK (l := xk_144) rfl rfl (fun _ _ _ _ _ => rfl) ?_
        refine tIc_ne (l := xk_144) (pc' := 226) rfl rfl rfl (fun hc => ?_) (fun hc => ?_)
        · exfalso
          omega
        refine tK (l := xk_144) rfl rfl (fun _ _ _ _ _ => rfl) ?_
        refine tK (l := xk_144) rfl rfl (fun _ _ _ _ _ => rfl) ?_
        refine tIc_ne (l := xk_144) (pc' := 238) rfl rfl rfl (fun hc => ?_) (fun hc => ?_)
        · exfalso
          omega
        refine tK (l := xk_144) rfl rfl (fun _ _ _ _ _ => rfl) ?_
        refine tK (l := xk_144) rfl rfl (fun _ _ _ _ _ => rfl) ?_
        refine tIc_ne (l := xk_144) (pc' := 253) rfl rfl rfl (fun hc => ?_) (fun hc => ?_)
        rotate_left
        · exfalso
          omega
        refine tK (l := xk_144) rfl rfl (fun _ _ _ _ _ => rfl) ?_
        refine tCa (l := xk_144) rfl rfl (kInvV hR3_ rfl rfl rfl rfl (Nat.le_of_ble_eq_true rfl) (Nat.le_of_ble_eq_true rfl)) ?_
        refine g90 hR3_ (fun R4_ hR4_ => ?_)
        refine tKv ?_
        refine tK (l := xk_144) rfl rfl (fun _ _ _ _ _ => rfl) ?_
        refine tIc_ne (l := xk_144) (pc' := 257) rfl rfl rfl (fun hc => ?_) (fun hc => ?_)
        rotate_left
        · exfalso
          have := h3 hq
          omega
        refine tK (l := xk_144) rfl rfl (fun _ _ _ _ _ => rfl) ?_
        refine tK (l := xk_144) rfl rfl (fun _ _ _ _ _ => rfl) ?_
        refine tSt (l := xk_144) rfl rfl (fun _ _ _ _ _ => rfl) (Nat.le_of_ble_eq_true rfl) ?_
        refine tK (l := xk_144) rfl rfl (fun _ _ _ _ _ => rfl) ?_
        refine tSt (l := xk_144) rfl rfl (fun _ _ _ _ _ => rfl) (Nat.le_of_ble_eq_true rfl) ?_
        exact kOs_l b3 b2 hQ 5 0 _ (by omega) hR4_
      · skip
        refine tK (l := xk_144) rfl rfl (fun _ _ _ _ _ => rfl) ?_
        refine tCa (l := xk_144) rfl rfl (kInvV hR rfl rfl rfl rfl (Nat.le_of_ble_eq_true rfl) (Nat.le_of_ble_eq_true rfl)) ?_
        refine g88 hR (fun R1_ hR1_ => ?_)
        refine tKv ?_
        refine tIf_ne (l := xk_144) (pc' := 167) rfl rfl rfl (fun hc => ?_) (fun hc => ?_)
        · exfalso
          rw [if_neg (show ¬ (r : Int) = 0 by omega)] at hc
          exact absurd hc (by decide)
        refine tK (l := xk_144) rfl rfl (fun _ _ _ _ _ => rfl) ?_
        refine tCa (l := xk_144) rfl rfl (kInvV hR1_ rfl rfl rfl rfl (Nat.le_of_ble_eq_true rfl) (Nat.le_of_ble_eq_true rfl)) ?_
        refine g105 hz hR1_ (fun R2_ hR2_ => ?_)
        refine tKv ?_
        refine tSt (l := xk_144) rfl rfl (fun _ _ _ _ _ => rfl) (Nat.le_of_ble_eq_true rfl) ?_
        refine tK (l := xk_144) rfl rfl (fun _ _ _ _ _ => rfl) ?_
        refine tCa (l := xk_144) rfl rfl (kInvV hR2_ rfl rfl rfl rfl (Nat.le_of_ble_eq_true rfl) (Nat.le_of_ble_eq_true rfl)) ?_
        refine g89 hR2_ (fun R3_ hR3_ => ?_)
        refine tKv ?_
        refine tSt (l := xk_144) rfl rfl (fun _ _ _ _ _ => rfl) (Nat.le_of_ble_eq_true rfl) ?_
        refine tK (l := xk_144) rfl rfl (fun _ _ _ _ _ => rfl) ?_
        refine tIf_eq (l := xk_144) (pc' := 257) rfl rfl rfl (fun hc => ?_) (fun hc => ?_)
        · exfalso
          exact absurd hc (by decide)
        refine tK (l := xk_144) rfl rfl (fun _ _ _ _ _ => rfl) ?_
        refine tIf_le (l := xk_144) (pc' := 257) rfl rfl rfl (fun hc => ?_) (fun hc => ?_)
        rotate_left
        · exfalso
          omega
        refine tK (l := xk_144) rfl rfl (fun _ _ _ _ _ => rfl) ?_
        refine tK (l := xk_144) rfl rfl (fun _ _ _ _ _ => rfl) ?_
        refine tIc_ge (l := xk_144) (pc' := 257) rfl rfl rfl (fun hc => ?_) (fun hc => ?_)
        rotate_left
        · exfalso
          omega
        refine tK (l := xk_144) rfl rfl (fun _ _ _ _ _ => rfl) ?_
        refine tIf_le (l := xk_144) (pc' := 257) rfl rfl rfl (fun hc => ?_) (fun hc => ?_)
        rotate_left
        · exfalso
          omega
        refine tK (l := xk_144) rfl rfl (fun _ _ _ _ _ => rfl) ?_
        refine tK (l := xk_144) rfl rfl (fun _ _ _ _ _ => rfl) ?_
        refine tIc_ge (l := xk_144) (pc' := 257) rfl rfl rfl (fun hc => ?_) (fun hc => ?_)
        rotate_left
        · exfalso
          omega
        refine tK (l := xk_144) rfl rfl (fun _ _ _ _ _ => rfl) ?_
        refine tK (l := xk_144) rfl rfl (fun _ _ _ _ _ => rfl) ?_
        refine tIc_ne (l := xk_144) (pc' := 215) rfl rfl rfl (fun hc => ?_) (fun hc => ?_)
        · exfalso
          omega
        refine tK (l := xk_144) rfl rfl (fun _ _ _ _ _ => rfl) ?_
        refine tK (l := xk_144) rfl rfl (fun _ _ _ _ _ => rfl) ?_
        refine tIc_ne (l := xk_144) (pc' := 226) rfl rfl rfl (fun hc => ?_) (fun hc => ?_)
        rotate_left
        · exfalso
          omega
        refine tK (l := xk_144) rfl rfl (fun _ _ _ _ _ => rfl) ?_
        refine tK (l := xk_144) rfl rfl (fun _ _ _ _ _ => rfl) ?_
        refine tIc_ne (l := xk_144) (pc' := 257) rfl rfl rfl (fun hc => ?_) (fun hc => ?_)
        rotate_left
        · exfalso
          have := h4 hq
          omega
        refine tK (l := xk_144) rfl rfl (fun _ _ _ _ _ => rfl) ?_
        refine tK (l := xk_144) rfl rfl (fun _ _ _ _ _ => rfl) ?_
        refine tIc_ne (l := xk_144) (pc' := 238) rfl rfl rfl (fun hc => ?_) (fun hc => ?_)
        · exfalso
          omega
        refine tK (l := xk_144) rfl rfl (fun _ _ _ _ _ => rfl) ?_
        refine tK (l := xk_144) rfl rfl (fun _ _ _ _ _ => rfl) ?_
        refine tIc_ne (l := xk_144) (pc' := 253) rfl rfl rfl (fun hc => ?_) (fun hc => ?_)
        · exfalso
          omega
        refine tK (l := xk_144) rfl rfl (fun _ _ _ _ _ => rfl) ?_
        refine tK (l := xk_144) rfl rfl (fun _ _ _ _ _ => rfl) ?_
        refine tSt (l := xk_144) rfl rfl (fun _ _ _ _ _ => rfl) (Nat.le_of_ble_eq_true rfl) ?_
        refine tK (l := xk_144) rfl rfl (fun _ _ _ _ _ => rfl) ?_
        refine tSt (l := xk_144) rfl rfl (fun _ _ _ _ _ => rfl) (Nat.le_of_ble_eq_true rfl) ?_
        exact kOs_l b3 b2 hQ 5 0 _ (by omega) hR3_
      · skip
        refine tK (l := xk_144) rfl rfl (fun _ _ _ _ _ => rfl) ?_
        refine tCa (l := xk_144) rfl rfl (kInvV hR rfl rfl rfl rfl (Nat.le_of_ble_eq_true rfl) (Nat.le_of_ble_eq_true rfl)) ?_
        refine g88 hR (fun R1_ hR1_ => ?_)
        refine tKv ?_
        refine tIf_ne (l := xk_144) (pc' := 167) rfl rfl rfl (fun hc => ?_) (fun hc => ?_)
        · exfalso
          rw [if_neg (show ¬ (r : Int) = 0 by omega)] at hc
          exact absurd hc (by decide)
        refine tK (l := xk_144) rfl rfl (fun _ _ _ _ _ => rfl) ?_
        refine tCa (l := xk_144) rfl rfl (kInvV hR1_ rfl rfl rfl rfl (Nat.le_of_ble_eq_true rfl) (Nat.le_of_ble_eq_true rfl)) ?_
        refine g105 hz hR1_ (fun R2_ hR2_ => ?_)
        refine tKv ?_
        refine tSt (l := xk_144) rfl rfl (fun _ _ _ _ _ => rfl) (Nat.le_of_ble_eq_true rfl) ?_
        refine tK (l := xk_144) rfl rfl (fun _ _ _ _ _ => rfl) ?_
        refine tCa (l := xk_144) rfl rfl (kInvV hR2_ rfl rfl rfl rfl (Nat.le_of_ble_eq_true rfl) (Nat.le_of_ble_eq_true rfl)) ?_
        refine g89 hR2_ (fun R3_ hR3_ => ?_)
        refine tKv ?_
        refine tSt (l := xk_144) rfl rfl (fun _ _ _ _ _ => rfl) (Nat.le_of_ble_eq_true rfl) ?_
        refine tK (l := xk_144) rfl rfl (fun _ _ _ _ _ => rfl) ?_
        refine tIf_eq (l := xk_144) (pc' := 257) rfl rfl rfl (fun hc => ?_) (fun hc => ?_)
        · exfalso
          exact absurd hc (by decide)
        refine tK (l := xk_144) rfl rfl (fun _ _ _ _ _ => rfl) ?_
        refine tIf_le (l := xk_144) (pc' := 257) rfl rfl rfl (fun hc => ?_) (fun hc => ?_)
        rotate_left
        · exfalso
          omega
        refine tK (l := xk_144) rfl rfl (fun _ _ _ _ _ => rfl) ?_
        refine tK (l := xk_144) rfl rfl (fun _ _ _ _ _ => rfl) ?_
        refine tIc_ge (l := xk_144) (pc' := 257) rfl rfl rfl (fun hc => ?_) (fun hc => ?_)
        rotate_left
        · exfalso
          omega
        refine tK (l := xk_144) rfl rfl (fun _ _ _ _ _ => rfl) ?_
        refine tIf_le (l := xk_144) (pc' := 257) rfl rfl rfl (fun hc => ?_) (fun hc => ?_)
        rotate_left
        · exfalso
          omega
        refine tK (l := xk_144) rfl rfl (fun _ _ _ _ _ => rfl) ?_
        refine tK (l := xk_144) rfl rfl (fun _ _ _ _ _ => rfl) ?_
        refine tIc_ge (l := xk_144) (pc' := 257) rfl rfl rfl (fun hc => ?_) (fun hc => ?_)
        rotate_left
        · exfalso
          omega
        refine tK (l := xk_144) rfl rfl (fun _ _ _ _ _ => rfl) ?_
        refine tK (l := xk_144) rfl rfl (fun _ _ _ _ _ => rfl) ?_
        refine tIc_ne (l := xk_144) (pc' := 215) rfl rfl rfl (fun hc => ?_) (fun hc => ?_)
        rotate_left
        · exfalso
          omega
        refine tK (l := xk_144) rfl rfl (fun _ _ _ _ _ => rfl) ?_
        refine tK (l := xk_144) rfl rfl (fun _ _ _ _ _ => rfl) ?_
        refine tIc_le (l := xk_144) (pc' := 257) rfl rfl rfl (fun hc => ?_) (fun hc => ?_)
        rotate_left
        · exfalso
          have := h5 hq
          omega
        refine tK (l := xk_144) rfl rfl (fun _ _ _ _ _ => rfl) ?_
        refine tK (l := xk_144) rfl rfl (fun _ _ _ _ _ => rfl) ?_
        refine tIc_ne (l := xk_144) (pc' := 226) rfl rfl rfl (fun hc => ?_) (fun hc => ?_)
        · exfalso
          omega
        refine tK (l := xk_144) rfl rfl (fun _ _ _ _ _ => rfl) ?_
        refine tK (l := xk_144) rfl rfl (fun _ _ _ _ _ => rfl) ?_
        refine tIc_ne (l := xk_144) (pc' := 238) rfl rfl rfl (fun hc => ?_) (fun hc => ?_)
        · exfalso
          omega
        refine tK (l := xk_144) rfl rfl (fun _ _ _ _ _ => rfl) ?_
        refine tK (l := xk_144) rfl rfl (fun _ _ _ _ _ => rfl) ?_
        refine tIc_ne (l := xk_144) (pc' := 253) rfl rfl rfl (fun hc => ?_) (fun hc => ?_)
        · exfalso
          omega
        refine tK (l := xk_144) rfl rfl (fun _ _ _ _ _ => rfl) ?_
        refine tK (l := xk_144) rfl rfl (fun _ _ _ _ _ => rfl) ?_
        refine tSt (l := xk_144) rfl rfl (fun _ _ _ _ _ => rfl) (Nat.le_of_ble_eq_true rfl) ?_
        refine tK (l := xk_144) rfl rfl (fun _ _ _ _ _ => rfl) ?_
        refine tSt (l := xk_144) rfl rfl (fun _ _ _ _ _ => rfl) (Nat.le_of_ble_eq_true rfl) ?_
        exact kOs_l b3 b2 hQ 5 0 _ (by omega) hR3_
      · skip
        refine tK (l := xk_144) rfl rfl (fun _ _ _ _ _ => rfl) ?_
        refine tCa (l := xk_144) rfl rfl (kInvV hR rfl rfl rfl rfl (Nat.le_of_ble_eq_true rfl) (Nat.le_of_ble_eq_true rfl)) ?_
        refine g88 hR (fun R1_ hR1_ => ?_)
        refine tKv ?_
        refine tIf_ne (l := xk_144) (pc' := 167) rfl rfl rfl (fun hc => ?_) (fun hc => ?_)
        · exfalso
          rw [if_neg (show ¬ (r : Int) = 0 by omega)] at hc
          exact absurd hc (by decide)
        refine tK (l := xk_144) rfl rfl (fun _ _ _ _ _ => rfl) ?_
        refine tCa (l := xk_144) rfl rfl (kInvV hR1_ rfl rfl rfl rfl (Nat.le_of_ble_eq_true rfl) (Nat.le_of_ble_eq_true rfl)) ?_
        refine g105 hz hR1_ (fun R2_ hR2_ => ?_)
        refine tKv ?_
        refine tSt (l := xk_144) rfl rfl (fun _ _ _ _ _ => rfl) (Nat.le_of_ble_eq_true rfl) ?_
        refine tK (l := xk_144) rfl rfl (fun _ _ _ _ _ => rfl) ?_
        refine tCa (l := xk_144) rfl rfl (kInvV hR2_ rfl rfl rfl rfl (Nat.le_of_ble_eq_true rfl) (Nat.le_of_ble_eq_true rfl)) ?_
        refine g89 hR2_ (fun R3_ hR3_ => ?_)
        refine tKv ?_
        refine tSt (l := xk_144) rfl rfl (fun _ _ _ _ _ => rfl) (Nat.le_of_ble_eq_true rfl) ?_
        refine tK (l := xk_144) rfl rfl (fun _ _ _ _ _ => rfl) ?_
        refine tIf_eq (l := xk_144) (pc' := 257) rfl rfl rfl (fun hc => ?_) (fun hc => ?_)
        · exfalso
          exact absurd hc (by decide)
        refine tK (l := xk_144) rfl rfl (fun _ _ _ _ _ => rfl) ?_
        refine tIf_le (l := xk_144) (pc' := 257) rfl rfl rfl (fun hc => ?_) (fun hc => ?_)
        rotate_left
        · exfalso
          omega
        refine tK (l := xk_144) rfl rfl (fun _ _ _ _ _ => rfl) ?_
        refine tK (l := xk_144) rfl rfl (fun _ _ _ _ _ => rfl) ?_
        refine tIc_ge (l := xk_144) (pc' := 257) rfl rfl rfl (fun hc => ?_) (fun hc => ?_)
        rotate_left
        · exfalso
          omega
        refine tK (l := xk_144) rfl rfl (fun _ _ _ _ _ => rfl) ?_
        refine tIf_le (l := xk_144) (pc' := 257) rfl rfl rfl (fun hc => ?_) (fun hc => ?_)
        rotate_left
        · exfalso
          omega
        refine tK (l := xk_144) rfl rfl (fun _ _ _ _ _ => rfl) ?_
        refine tK (l := xk_144) rfl rfl (fun _ _ _ _ _ => rfl) ?_
        refine tIc_ge (l := xk_144) (pc' := 257) rfl rfl rfl (fun hc => ?_) (fun hc => ?_)
        rotate_left
        · exfalso
          omega
        refine tK (l := xk_144) rfl rfl (fun _ _ _ _ _ => rfl) ?_
        refine tK (l := xk_144) rfl rfl (fun _ _ _ _ _ => rfl) ?_
        refine tIc_ne (l := xk_144) (pc' := 215) rfl rfl rfl (fun hc => ?_) (fun hc => ?_)
        · exfalso
          omega
        refine tK (l := xk_144) rfl rfl (fun _ _ _ _ _ => rfl) ?_
        refine tK (l := xk_144) rfl rfl (fun _ _ _ _ _ => rfl) ?_
        refine tIc_ne (l := xk_144) (pc' := 226) rfl rfl rfl (fun hc => ?_) (fun hc => ?_)
        · exfalso
          omega
        refine tK (l := xk_144) rfl rfl (fun _ _ _ _ _ => rfl) ?_
        refine tK (l := xk_144) rfl rfl (fun _ _ _ _ _ => rfl) ?_
        refine tIc_ne (l := xk_144) (pc' := 238) rfl rfl rfl (fun hc => ?_) (fun hc => ?_)
        · exfalso
          omega
        refine tK (l := xk_144) rfl rfl (fun _ _ _ _ _ => rfl) ?_
        refine tK (l := xk_144) rfl rfl (fun _ _ _ _ _ => rfl) ?_
        refine tIc_ne (l := xk_144) (pc' := 253) rfl rfl rfl (fun hc => ?_) (fun hc => ?_)
        · exfalso
          omega
        refine tK (l := xk_144) rfl rfl (fun _ _ _ _ _ => rfl) ?_
        refine tK (l := xk_144) rfl rfl (fun _ _ _ _ _ => rfl) ?_
        refine tSt (l := xk_144) rfl rfl (fun _ _ _ _ _ => rfl) (Nat.le_of_ble_eq_true rfl) ?_
        refine tK (l := xk_144) rfl rfl (fun _ _ _ _ _ => rfl) ?_
        refine tSt (l := xk_144) rfl rfl (fun _ _ _ _ _ => rfl) (Nat.le_of_ble_eq_true rfl) ?_
        exact kOs_l b3 b2 hQ 5 0 _ (by omega) hR3_
  have t137 : ∀ R, hPP zs R ((t1, (f, (ou, (r : Int), pl.map (fun x : Nat => (x : Int)), (stp : Int), (p : Int), (e : Int), (v : Int)), (rn : Int), (fl : Int), (pr : Int)), n1, e1), c2) xo → xT (d + 4) 144 137 (xlo [some (.inr (.inl (some (ob false)))), some (.inl (ou.length : Int)), none, none, none, none]) [] R g Q := by
    intro R hR
    refine tK (l := xk_144) rfl rfl (fun _ _ _ _ _ => rfl) ?_
    refine tK (l := xk_144) rfl rfl (fun _ _ _ _ _ => rfl) ?_
    refine tSt (l := xk_144) rfl rfl (fun _ _ _ _ _ => rfl) (Nat.le_of_ble_eq_true rfl) ?_
    exact t143 R hR
  have t112 : ∀ R, hPP zs R ((t1, (f, (ou, (r : Int), pl.map (fun x : Nat => (x : Int)), (stp : Int), (p : Int), (e : Int), (v : Int)), (rn : Int), (fl : Int), (pr : Int)), n1, e1), c2) xo → xT (d + 4) 144 112 (xlo [some (.inr (.inl (some (ob false)))), some (.inl (ou.length : Int)), none, none, none, none]) [] R g Q := by
    intro R hR
    refine tK (l := xk_144) rfl rfl (fun _ _ _ _ _ => rfl) ?_
    refine tCa (l := xk_144) rfl rfl (kInvV hR rfl rfl rfl rfl (Nat.le_of_ble_eq_true rfl) (Nat.le_of_ble_eq_true rfl)) ?_
    refine g94 hR (fun R1_ hR1_ => ?_)
    refine tKv ?_
    refine tIf_gt (l := xk_144) (pc' := 137) rfl rfl rfl (fun hc => ?_) (fun hc => ?_)
    · skip
      exact t137 _ hR1_
    · skip
      refine tK (l := xk_144) rfl rfl (fun _ _ _ _ _ => rfl) ?_
      refine tIf_ne (l := xk_144) (pc' := 141) rfl rfl rfl (fun hc => ?_) (fun hc => ?_)
      rotate_left
      · exfalso
        have := (hrn (by omega)).1
        omega
      refine tK (l := xk_144) rfl rfl (fun _ _ _ _ _ => rfl) ?_
      refine tCa (l := xk_144) rfl rfl (kInvV hR1_ rfl rfl rfl rfl (Nat.le_of_ble_eq_true rfl) (Nat.le_of_ble_eq_true rfl)) ?_
      refine g90 hR1_ (fun R2_ hR2_ => ?_)
      refine tKv ?_
      refine tIf_ne (l := xk_144) (pc' := 141) rfl rfl rfl (fun hc => ?_) (fun hc => ?_)
      rotate_left
      · exfalso
        have := (hrn (by omega)).2.1
        omega
      refine tK (l := xk_144) rfl rfl (fun _ _ _ _ _ => rfl) ?_
      refine tCa (l := xk_144) rfl rfl (kInvV hR2_ rfl rfl rfl rfl (Nat.le_of_ble_eq_true rfl) (Nat.le_of_ble_eq_true rfl)) ?_
      refine g88 hR2_ (fun R3_ hR3_ => ?_)
      refine tKv ?_
      refine tIf_ne (l := xk_144) (pc' := 141) rfl rfl rfl (fun hc => ?_) (fun hc => ?_)
      rotate_left
      · exfalso
        rw [if_pos (show (r : Int) = 0 by have := (hrn (by omega)).2.2; omega)] at hc
        exact hc rfl
      exact t137 _ hR3_
  refine tEn (ls := [some (.inr (.inl (some (ob false)))), none, none, none, none, none]) (fun k => by match k with | 0 => rfl | 1 => rfl | 2 => rfl | 3 => rfl | 4 => rfl | 5 => rfl | k + 6 => rfl) ?_
  refine tK (l := xk_144) rfl rfl (fun _ _ _ _ _ => rfl) ?_
  refine tCa (l := xk_144) rfl rfl (kInvV hR rfl rfl rfl rfl (Nat.le_of_ble_eq_true rfl) (Nat.le_of_ble_eq_true rfl)) ?_
  refine g87 hR (fun R1_ hR1_ => ?_)
  refine tKv ?_
  refine tSt (l := xk_144) rfl rfl (fun _ _ _ _ _ => rfl) (Nat.le_of_ble_eq_true rfl) ?_
  refine tK (l := xk_144) rfl rfl (fun _ _ _ _ _ => rfl) ?_
  refine tIf_lt (l := xk_144) (pc' := 141) rfl rfl rfl (fun hc => ?_) (fun hc => ?_)
  · exfalso
    omega
  refine tK (l := xk_144) rfl rfl (fun _ _ _ _ _ => rfl) ?_
  refine tK (l := xk_144) rfl rfl (fun _ _ _ _ _ => rfl) ?_
  refine tIc_gt (l := xk_144) (pc' := 141) rfl rfl rfl (fun hc => ?_) (fun hc => ?_)
  · exfalso
    omega
  refine tK (l := xk_144) rfl rfl (fun _ _ _ _ _ => rfl) ?_
  refine tCa (l := xk_144) rfl rfl (kInvV hR1_ rfl rfl rfl rfl (Nat.le_of_ble_eq_true rfl) (Nat.le_of_ble_eq_true rfl)) ?_
  refine g91 hR1_ (fun R2_ hR2_ => ?_)
  refine tKv ?_
  refine tK (l := xk_144) rfl rfl (fun _ _ _ _ _ => rfl) ?_
  refine tCa (l := xk_144) rfl rfl (kInvV hR2_ rfl rfl rfl rfl (Nat.le_of_ble_eq_true rfl) (Nat.le_of_ble_eq_true rfl)) ?_
  refine g92 hR2_ (fun R3_ hR3_ => ?_)
  refine tKv ?_
  refine tK (l := xk_144) rfl rfl (hAdd ⟨by omega, by omega⟩) ?_
  refine tK (l := xk_144) rfl rfl (fun _ _ _ _ _ => rfl) ?_
  refine tCa (l := xk_144) rfl rfl (kInvV hR3_ rfl rfl rfl rfl (Nat.le_of_ble_eq_true rfl) (Nat.le_of_ble_eq_true rfl)) ?_
  refine g93 hR3_ (fun R4_ hR4_ => ?_)
  refine tKv ?_
  refine tK (l := xk_144) rfl rfl (hAdd ⟨by omega, by omega⟩) ?_
  refine tK (l := xk_144) rfl rfl (fun _ _ _ _ _ => rfl) ?_
  refine tIc_ne (l := xk_144) (pc' := 141) rfl rfl rfl (fun hc => ?_) (fun hc => ?_)
  rotate_left
  · exfalso
    omega
  refine tK (l := xk_144) rfl rfl (fun _ _ _ _ _ => rfl) ?_
  refine tCa (l := xk_144) rfl rfl (kInvV hR4_ rfl rfl rfl rfl (Nat.le_of_ble_eq_true rfl) (Nat.le_of_ble_eq_true rfl)) ?_
  refine g90 hR4_ (fun R5_ hR5_ => ?_)
  refine tKv ?_
  refine tIf_lt (l := xk_144) (pc' := 141) rfl rfl rfl (fun hc => ?_) (fun hc => ?_)
  · exfalso
    omega
  refine tK (l := xk_144) rfl rfl (fun _ _ _ _ _ => rfl) ?_
  refine tCa (l := xk_144) rfl rfl (kInvV hR5_ rfl rfl rfl rfl (Nat.le_of_ble_eq_true rfl) (Nat.le_of_ble_eq_true rfl)) ?_
  refine g90 hR5_ (fun R6_ hR6_ => ?_)
  refine tKv ?_
  refine tK (l := xk_144) rfl rfl (fun _ _ _ _ _ => rfl) ?_
  refine tIc_gt (l := xk_144) (pc' := 141) rfl rfl rfl (fun hc => ?_) (fun hc => ?_)
  · exfalso
    omega
  refine tK (l := xk_144) rfl rfl (fun _ _ _ _ _ => rfl) ?_
  refine tCa (l := xk_144) rfl rfl (kInvV hR6_ rfl rfl rfl rfl (Nat.le_of_ble_eq_true rfl) (Nat.le_of_ble_eq_true rfl)) ?_
  refine g91 hR6_ (fun R7_ hR7_ => ?_)
  refine tKv ?_
  refine tK (l := xk_144) rfl rfl (fun _ _ _ _ _ => rfl) ?_
  refine tCa (l := xk_144) rfl rfl (kInvV hR7_ rfl rfl rfl rfl (Nat.le_of_ble_eq_true rfl) (Nat.le_of_ble_eq_true rfl)) ?_
  refine g92 hR7_ (fun R8_ hR8_ => ?_)
  refine tKv ?_
  refine tK (l := xk_144) rfl rfl (hAdd ⟨by omega, by omega⟩) ?_
  refine tK (l := xk_144) rfl rfl (fun _ _ _ _ _ => rfl) ?_
  refine tCa (l := xk_144) rfl rfl (kInvV hR8_ rfl rfl rfl rfl (Nat.le_of_ble_eq_true rfl) (Nat.le_of_ble_eq_true rfl)) ?_
  refine g90 hR8_ (fun R9_ hR9_ => ?_)
  refine tKv ?_
  refine tIc_gt (l := xk_144) (pc' := 141) rfl rfl rfl (fun hc => ?_) (fun hc => ?_)
  · exfalso
    omega
  refine tK (l := xk_144) rfl rfl (fun _ _ _ _ _ => rfl) ?_
  refine tCa (l := xk_144) rfl rfl (kInvV hR9_ rfl rfl rfl rfl (Nat.le_of_ble_eq_true rfl) (Nat.le_of_ble_eq_true rfl)) ?_
  refine g95 hR9_ (fun R10_ hR10_ => ?_)
  refine tKv ?_
  refine tK (l := xk_144) rfl rfl (fun _ _ _ _ _ => rfl) ?_
  refine tCa (l := xk_144) rfl rfl (kInvV hR10_ rfl rfl rfl rfl (Nat.le_of_ble_eq_true rfl) (Nat.le_of_ble_eq_true rfl)) ?_
  refine g94 hR10_ (fun R11_ hR11_ => ?_)
  refine tKv ?_
  refine tIc_gt (l := xk_144) (pc' := 141) rfl rfl rfl (fun hc => ?_) (fun hc => ?_)
  · exfalso
    omega
  refine tK (l := xk_144) rfl rfl (fun _ _ _ _ _ => rfl) ?_
  refine tCa (l := xk_144) rfl rfl (kInvV hR11_ rfl rfl rfl rfl (Nat.le_of_ble_eq_true rfl) (Nat.le_of_ble_eq_true rfl)) ?_
  refine g96 hR11_ (fun R12_ hR12_ => ?_)
  refine tKv ?_
  refine tK (l := xk_144) rfl rfl (fun _ _ _ _ _ => rfl) ?_
  refine tIc_lt (l := xk_144) (pc' := 141) rfl rfl rfl (fun hc => ?_) (fun hc => ?_)
  · exfalso
    omega
  refine tK (l := xk_144) rfl rfl (fun _ _ _ _ _ => rfl) ?_
  refine tCa (l := xk_144) rfl rfl (kInvV hR12_ rfl rfl rfl rfl (Nat.le_of_ble_eq_true rfl) (Nat.le_of_ble_eq_true rfl)) ?_
  refine g99 hsh.1 hR12_ (fun R13_ hR13_ => ?_)
  refine tKv ?_
  refine tK (l := xk_144) rfl rfl (fun _ _ _ _ _ => rfl) ?_
  refine tIf_ne (l := xk_144) (pc' := 98) rfl rfl rfl (fun hc => ?_) (fun hc => ?_)
  · skip
    refine tK (l := xk_144) rfl rfl (fun _ _ _ _ _ => rfl) ?_
    refine tK (l := xk_144) rfl rfl (fun _ _ _ _ _ => rfl) ?_
    refine tK (l := xk_144) rfl rfl (fun _ _ _ _ _ => rfl) ?_
    refine tIf_ne (l := xk_144) (pc' := 141) rfl rfl rfl (fun hc => ?_) (fun hc => ?_)
    rotate_left
    · exfalso
      refine hc ?_
      rw [hsv, if_pos (by omega), dc0]
      exact cm_0
    exact t112 _ hR13_
  · skip
    have hlp : 0 < ou.length := by omega
    have hm := times1 (v := v) (by omega)
    refine tK (l := xk_144) rfl rfl (fun _ _ _ _ _ => rfl) ?_
    refine tCa (l := xk_144) rfl rfl (kInvV hR13_ rfl rfl rfl rfl (Nat.le_of_ble_eq_true rfl) (Nat.le_of_ble_eq_true rfl)) ?_
    refine g93 hR13_ (fun R14_ hR14_ => ?_)
    refine tKv ?_
    refine tK (l := xk_144) rfl rfl (fun _ _ _ _ _ => rfl) ?_
    refine tK (l := xk_144) rfl rfl (fun _ _ _ _ _ => rfl) ?_
    refine tK (l := xk_144) rfl rfl (hDdmul (by rw [hm.1]; exact hm.2)) ?_
    rw [hm.1]
    refine tK (l := xk_144) rfl rfl (fun _ _ _ _ _ => rfl) ?_
    refine tK (l := xk_144) rfl rfl (fun _ _ _ _ _ => rfl) ?_
    refine tK (l := xk_144) rfl rfl (hDddiv (hsh.1 hlp)) ?_
    refine tK (l := xk_144) rfl rfl (fun _ _ _ _ _ => rfl) ?_
    refine tIf_ne (l := xk_144) (pc' := 141) rfl rfl rfl (fun hc => ?_) (fun hc => ?_)
    rotate_left
    · exfalso
      refine hc ?_
      have h9 := hsh.2
      rw [hsv, if_neg (by omega)] at h9 ⊢
      exact h9
    exact t112 _ hR14_
end OSK
theorem kOs {zs : List xV} {xo : Int} {d g B : Nat} {R : xH} {Q : xR → Prop} {s : KS × KS} (hb : B ≤ 1000) (ok : okT B s.1.2.1) (hR : hPP zs R s xo) (hQ : ∀ R2, hPP zs R2 s xo → Q (.inl (some (.inl 1)), R2, g)) : xTC (d + 4) 144 [.inr (.inl (some (ob false)))] R g Q := by
  obtain ⟨⟨t1, ⟨f, oc, a1, a2, a3⟩, n1, e1⟩, c2⟩ := s
  obtain ⟨-, ⟨ou, r, stp, p, e, v, pl, rfl, -, q1, q2, q3, q4, q5, q6, q7, q8, q9, q10, q11⟩, rn, fl, pr, rfl, rfl, rfl, q12, q13, q14, q15, q16⟩ := ok
  exact kOs_x q1 q2 q3 q4 q5 q6 q7 q8 q9 q10 q11 q12 q14 (fun z => by
    obtain ⟨z1, z2, z3⟩ := q16 z
    have z2 : (stp : Int) = 0 := z2
    have z3 : (r : Int) = 0 := z3
    exact ⟨z1, by omega, by omega⟩) ⟨by omega, by omega⟩ hR hQ
