/-! ===== the model's render ===== -/
section MRN
variable {d : Nat} {ph : xH} {zs : List xV} {g : Nat} {Q : xR → Prop} {c : KS}
theorem m185 {D : Cf} (h : hMm zs ph c) (hok : oks c.1) (hov : ∀ v, v < 8 → ∀ s, c.2.1.1 v = some s → oks s) (hw : pWh c.1 = true) (hD : Fin c.1 c.2.1.1 (-1) D) (b1 : 0 ≤ c.2.1.2.2.1 ∧ c.2.1.2.2.1 ≤ 1000000) (b2 : 0 ≤ c.2.1.2.2.2.1 ∧ c.2.1.2.2.2.1 ≤ 1000000) (b3 : 0 ≤ c.2.1.2.2.2.2 ∧ c.2.1.2.2.2.2 ≤ 1000000) (hQ : ∀ ph2, hMm zs ph2 (ndo c (rnd c.2.1 (ocD D))) → hRd ph2 147 0 = 0 → hFd moP ph ph2 → Q (.inl (some (.inl ((ocD D).1.length : Int))), ph2, g)) : xTC (d + 10) 185 [.inr (.inl (some 147))] ph g Q := by
  obtain ⟨w1, w2, w3, w4⟩ := hSzS
  obtain ⟨z1, z2, z3, z4, z5, z6, z7, z8⟩ := hSzM
  have hs := h.1
  have hpl5 : D.2.2.2.length ≤ 5 := by obtain ⟨⟨n9, h9⟩, -⟩ := hD; exact Run_pl h9 (Nat.zero_le _) (Nat.zero_le _)
  refine tEn (ls := [some (.inr (.inl (some 147))), none]) (fun k => by match k with | 0 => rfl | 1 => rfl | k + 2 => rfl) ?_
  refine tK (l := xk_185) rfl rfl (fun _ _ _ _ _ => rfl) ?_
  refine tK (l := xk_185) rfl rfl (fun _ _ _ _ _ => rfl) ?_
  refine tCa (l := xk_185) rfl rfl (hInvV (c := 10) hs rfl rfl rfl rfl rfl (Nat.le_of_ble_eq_true rfl) (Nat.le_of_ble_eq_true rfl)) ?_
  refine s157 h hok hw (fun ph1 k1 f1 hmr hsg h9 => ?_)
  refine tKv ?_
  refine tIf_eq (l := xk_185) (pc' := 12) rfl rfl rfl (fun hc => ?_) (fun hc => ?_)
  · exact absurd hc (by decide)
  · refine tK (l := xk_185) rfl rfl (fun _ _ _ _ _ => rfl) ?_
    refine tK (l := xk_185) rfl rfl (fun _ _ _ _ _ => rfl) ?_
    refine tCa (l := xk_185) rfl rfl (hInvV (c := 10) k1.1 rfl rfl rfl rfl rfl (Nat.le_of_ble_eq_true rfl) (Nat.le_of_ble_eq_true rfl)) ?_
    refine s147z k1 (fun ph2 k2 e0 f2 => ?_)
    refine tKv ?_
    refine tIf_ne (l := xk_185) (pc' := 21) rfl rfl rfl (fun hc => ?_) (fun hc => ?_)
    · exact absurd hc (by decide)
    · refine tK (l := xk_185) rfl rfl (fun _ _ _ _ _ => rfl) ?_
      refine tCa (l := xk_185) rfl rfl (hInvV (c := 10) k2.1 rfl rfl rfl rfl rfl (Nat.le_of_ble_eq_true rfl) (Nat.le_of_ble_eq_true rfl)) ?_
      refine s166 k2 (fun ph3 k3 f3 => ?_)
      refine tKn ?_
      refine tK (l := xk_185) rfl rfl (fun _ _ _ _ _ => rfl) ?_
      refine tK (l := xk_185) rfl rfl (fun _ _ _ _ _ => rfl) ?_
      refine tCa (l := xk_185) rfl rfl (hInvV (c := 10) k3.1 rfl rfl rfl rfl rfl (Nat.le_of_ble_eq_true rfl) (Nat.le_of_ble_eq_true rfl)) ?_
      refine s186k k3 hok hov (fun i x hx => by rw [f3.at (by decide), f2.at (by decide)]; exact hsg i x hx) (by rw [f3.fl (by decide), f2.fl (by decide)]; exact h9) hD (fun ph4 t4 k4 f4 => ?_)
      refine tKn ?_
      have e04 : hRd ph4 147 0 = 0 := by rw [f4.fl (by decide), f3.fl (by decide)]; exact e0
      have fd4 : hFd moP ph ph4 := ((f1.mo.trans f2.mo).trans f3.mo).trans (mFA f4)
      have s4 := k4.1
      have e19 : hRd ph4 147 19 = ((ocD D).1.length : Int) := t4.out
      have e20 : hRd ph4 147 20 = (ocD D).2.1 := t4.rs
      have e22 : hRd ph4 147 22 = (D.2.2.2.length : Int) := t4.2.2.1
      have e23 : hRd ph4 147 23 = (ocD D).2.2.2.1 := t4.1.2.2.2.2.1
      have e24 : hRd ph4 147 24 = (ocD D).2.2.2.2.1 := t4.1.2.2.2.2.2.2.1
      have e25 : hRd ph4 147 25 = (ocD D).2.2.2.2.2.1 := t4.1.2.2.2.2.2.2.2.1
      have e26 : hRd ph4 147 26 = (ocD D).2.2.2.2.2.2 := t4.1.2.2.2.2.2.2.2.2.1
      have ech : ∀ (i : Nat) (x : Int), (ocD D).1[i]? = some x → hRd ph4 153 i = x := t4.1.2.2.2.1.2.2
      have hol : (ocD D).1.length ≤ 200 := t4.1.2.2.2.1.2.1
      have epl : ∀ k x : Nat, D.2.2.2[k]? = some x → hRd ph4 154 k = (x : Int) := t4.2.2.2
      obtain ⟨-, ⟨q0, -, -, -, -, -, -, -, q413, q414, q415⟩, qh, qk, qb⟩ := id k4
      rw [Nat.zero_add] at q413 q414 q415
      simp only [ndo] at q413 q414 q415
      refine tK (l := xk_185) rfl rfl (fun _ _ _ _ _ => rfl) ?_
      refine tK (l := xk_185) rfl rfl (hGetR (o := some 148) k4.1 rfl rfl rfl (by decide) (by decide) rfl) ?_
      refine tK (l := xk_185) rfl rfl (fun _ _ _ _ _ => rfl) ?_
      refine tK (l := xk_185) rfl rfl (fun _ _ _ _ _ => rfl) ?_
      refine tK (l := xk_185) rfl rfl (hGetI k4.1 rfl rfl rfl (by decide) (by decide)) ?_
      rw [e19]
      first | refine tK (l := xk_185) rfl rfl (hIastN k4.1 rfl rfl (by omega)) ?_ | refine tK (l := xk_185) rfl rfl (hIast k4.1 rfl (by omega) (by omega)) ?_
      rw [show Int.toNat 200 = 200 from rfl]
      refine tK (l := xk_185) rfl rfl (fun _ _ _ _ _ => rfl) ?_
      refine tSt (l := xk_185) rfl rfl (fun _ _ _ _ _ => rfl) (Nat.le_of_ble_eq_true rfl) ?_
      have s5 : hSh zs (hUp ph4 148 200 ((ocD D).1.length : Int)) := hShI1 _ s4 rfl rfl
      have r5 := hRd_up (x := ((ocD D).1.length : Int)) s4 (show hKi (hTg 148) 200 = true from rfl) (by omega)
      have f5 : hFM [] [148] ph4 (hUp ph4 148 200 ((ocD D).1.length : Int)) := hFM_a s4 rfl (by omega) (by decide) (by decide)
      have loop2 : ∀ (pha : xH), hSh zs pha → hFM [] [148] ph4 pha → (∀ j, j < 200 ∨ 408 < j → hRd pha 148 j = hRd ph4 148 j) → hRd pha 148 200 = ((ocD D).1.length : Int) → (∀ (j : Nat) (x : Int), (ocD D).1[j]? = some x → hRd pha 148 (201 + j) = x) → hRd pha 148 401 = (ocD D).2.1 → hRd pha 148 402 = (D.2.2.2.length : Int) → ∀ (m i : Nat) (phi : xH), i + m = D.2.2.2.length → hSh zs phi → hFM [] [148] pha phi → (∀ j, j < 403 ∨ 408 < j → hRd phi 148 j = hRd pha 148 j) → (∀ (j x : Nat), j < i → D.2.2.2[j]? = some x → hRd phi 148 (403 + j) = (x : Int)) → xT (d + 10) 185 100 (xlo [some (.inr (.inl (some 147))), some (.inl (i : Int))]) [] phi g Q := by
        intro pha sa fa ha1 ha2 ha3 ha4 ha5 m
        induction m with
        | zero =>
          intro i phi him hs hf hlow hnew
          have fA := fa.trans hf
          have g22 : hRd phi 147 22 = (D.2.2.2.length : Int) := by rw [fA.fl (by decide)]; exact e22
          have g23 : hRd phi 147 23 = (ocD D).2.2.2.1 := by rw [fA.fl (by decide)]; exact e23
          have u1 : hSh zs (hUp phi 148 409 (ocD D).2.2.2.1) := hShI1 _ hs rfl rfl
          have u2 : hSh zs (hUp (hUp phi 148 409 (ocD D).2.2.2.1) 148 410 (ocD D).2.2.2.2.1) := hShI1 _ u1 rfl rfl
          have u3 : hSh zs (hUp (hUp (hUp phi 148 409 (ocD D).2.2.2.1) 148 410 (ocD D).2.2.2.2.1) 148 411 (ocD D).2.2.2.2.2.1) := hShI1 _ u2 rfl rfl
          have u4 : hSh zs (hUp (hUp (hUp (hUp phi 148 409 (ocD D).2.2.2.1) 148 410 (ocD D).2.2.2.2.1) 148 411 (ocD D).2.2.2.2.2.1) 148 412 (ocD D).2.2.2.2.2.2) := hShI1 _ u3 rfl rfl
          have u5 : hSh zs (hUp (hUp (hUp (hUp (hUp phi 148 409 (ocD D).2.2.2.1) 148 410 (ocD D).2.2.2.2.1) 148 411 (ocD D).2.2.2.2.2.1) 148 412 (ocD D).2.2.2.2.2.2) 148 413 (c.2.1.2.2.1 + 1)) := hShI1 _ u4 rfl rfl
          have g24 : hRd (hUp phi 148 409 (ocD D).2.2.2.1) 147 24 = (ocD D).2.2.2.2.1 := by rw [hRd_up hs (a := 148) (k := 409) (x := (ocD D).2.2.2.1) rfl (by omega), if_neg (by omega), fA.fl (by decide)]; exact e24
          have g25 : hRd (hUp (hUp phi 148 409 (ocD D).2.2.2.1) 148 410 (ocD D).2.2.2.2.1) 147 25 = (ocD D).2.2.2.2.2.1 := by rw [hRd_up u1 (a := 148) (k := 410) (x := (ocD D).2.2.2.2.1) rfl (by omega), if_neg (by omega), hRd_up hs (a := 148) (k := 409) (x := (ocD D).2.2.2.1) rfl (by omega), if_neg (by omega), fA.fl (by decide)]; exact e25
          have g26 : hRd (hUp (hUp (hUp phi 148 409 (ocD D).2.2.2.1) 148 410 (ocD D).2.2.2.2.1) 148 411 (ocD D).2.2.2.2.2.1) 147 26 = (ocD D).2.2.2.2.2.2 := by rw [hRd_up u2 (a := 148) (k := 411) (x := (ocD D).2.2.2.2.2.1) rfl (by omega), if_neg (by omega), hRd_up u1 (a := 148) (k := 410) (x := (ocD D).2.2.2.2.1) rfl (by omega), if_neg (by omega), hRd_up hs (a := 148) (k := 409) (x := (ocD D).2.2.2.1) rfl (by omega), if_neg (by omega), fA.fl (by decide)]; exact e26
          have g413 : hRd (hUp (hUp (hUp (hUp phi 148 409 (ocD D).2.2.2.1) 148 410 (ocD D).2.2.2.2.1) 148 411 (ocD D).2.2.2.2.2.1) 148 412 (ocD D).2.2.2.2.2.2) 148 413 = c.2.1.2.2.1 := by rw [hRd_up u3 (a := 148) (k := 412) (x := (ocD D).2.2.2.2.2.2) rfl (by omega), if_neg (by omega), hRd_up u2 (a := 148) (k := 411) (x := (ocD D).2.2.2.2.2.1) rfl (by omega), if_neg (by omega), hRd_up u1 (a := 148) (k := 410) (x := (ocD D).2.2.2.2.1) rfl (by omega), if_neg (by omega), hRd_up hs (a := 148) (k := 409) (x := (ocD D).2.2.2.1) rfl (by omega), if_neg (by omega), hlow _ (by omega), ha1 _ (by omega)]; exact q413
          have g414 : hRd (hUp (hUp (hUp (hUp (hUp phi 148 409 (ocD D).2.2.2.1) 148 410 (ocD D).2.2.2.2.1) 148 411 (ocD D).2.2.2.2.2.1) 148 412 (ocD D).2.2.2.2.2.2) 148 413 (c.2.1.2.2.1 + 1)) 148 414 = c.2.1.2.2.2.1 := by rw [hRd_up u4 (a := 148) (k := 413) (x := (c.2.1.2.2.1 + 1)) rfl (by omega), if_neg (by omega), hRd_up u3 (a := 148) (k := 412) (x := (ocD D).2.2.2.2.2.2) rfl (by omega), if_neg (by omega), hRd_up u2 (a := 148) (k := 411) (x := (ocD D).2.2.2.2.2.1) rfl (by omega), if_neg (by omega), hRd_up u1 (a := 148) (k := 410) (x := (ocD D).2.2.2.2.1) rfl (by omega), if_neg (by omega), hRd_up hs (a := 148) (k := 409) (x := (ocD D).2.2.2.1) rfl (by omega), if_neg (by omega), hlow _ (by omega), ha1 _ (by omega)]; exact q414
          have g20 : hRd (hUp (hUp (hUp (hUp (hUp phi 148 409 (ocD D).2.2.2.1) 148 410 (ocD D).2.2.2.2.1) 148 411 (ocD D).2.2.2.2.2.1) 148 412 (ocD D).2.2.2.2.2.2) 148 413 (c.2.1.2.2.1 + 1)) 147 20 = (ocD D).2.1 := by rw [hRd_up u4 (a := 148) (k := 413) (x := (c.2.1.2.2.1 + 1)) rfl (by omega), if_neg (by omega), hRd_up u3 (a := 148) (k := 412) (x := (ocD D).2.2.2.2.2.2) rfl (by omega), if_neg (by omega), hRd_up u2 (a := 148) (k := 411) (x := (ocD D).2.2.2.2.2.1) rfl (by omega), if_neg (by omega), hRd_up u1 (a := 148) (k := 410) (x := (ocD D).2.2.2.2.1) rfl (by omega), if_neg (by omega), hRd_up hs (a := 148) (k := 409) (x := (ocD D).2.2.2.1) rfl (by omega), if_neg (by omega), fA.fl (by decide)]; exact e20
          refine tK (l := xk_185) rfl rfl (fun _ _ _ _ _ => rfl) ?_
          refine tK (l := xk_185) rfl rfl (fun _ _ _ _ _ => rfl) ?_
          refine tK (l := xk_185) rfl rfl (hGetI hs rfl rfl rfl (by decide) (by decide)) ?_
          rw [g22]
          refine tIc_ge (l := xk_185) (pc' := 130) rfl rfl rfl (fun hc => ?_) (fun hc => ?_)
          · have hc105 := hc
            exfalso; omega
          · have hc105 := hc
            refine tK (l := xk_185) rfl rfl (fun _ _ _ _ _ => rfl) ?_
            refine tK (l := xk_185) rfl rfl (hGetR (o := some 148) hs rfl rfl rfl (by decide) (by decide) rfl) ?_
            refine tK (l := xk_185) rfl rfl (fun _ _ _ _ _ => rfl) ?_
            refine tK (l := xk_185) rfl rfl (fun _ _ _ _ _ => rfl) ?_
            refine tK (l := xk_185) rfl rfl (hGetI hs rfl rfl rfl (by decide) (by decide)) ?_
            rw [g23]
            first | refine tK (l := xk_185) rfl rfl (hIastN hs rfl rfl (by omega)) ?_ | refine tK (l := xk_185) rfl rfl (hIast hs rfl (by omega) (by omega)) ?_
            rw [show Int.toNat 409 = 409 from rfl]
            refine tK (l := xk_185) rfl rfl (fun _ _ _ _ _ => rfl) ?_
            refine tK (l := xk_185) rfl rfl (hGetR (o := some 148) (hShI1 _ hs rfl rfl) rfl rfl rfl (by decide) (by decide) rfl) ?_
            refine tK (l := xk_185) rfl rfl (fun _ _ _ _ _ => rfl) ?_
            refine tK (l := xk_185) rfl rfl (fun _ _ _ _ _ => rfl) ?_
            refine tK (l := xk_185) rfl rfl (hGetI (hShI1 _ hs rfl rfl) rfl rfl rfl (by decide) (by decide)) ?_
            rw [g24]
            first | refine tK (l := xk_185) rfl rfl (hIastN (hShI1 _ hs rfl rfl) rfl rfl (by omega)) ?_ | refine tK (l := xk_185) rfl rfl (hIast (hShI1 _ hs rfl rfl) rfl (by omega) (by omega)) ?_
            rw [show Int.toNat 410 = 410 from rfl]
            refine tK (l := xk_185) rfl rfl (fun _ _ _ _ _ => rfl) ?_
            refine tK (l := xk_185) rfl rfl (hGetR (o := some 148) (hShI1 _ (hShI1 _ hs rfl rfl) rfl rfl) rfl rfl rfl (by decide) (by decide) rfl) ?_
            refine tK (l := xk_185) rfl rfl (fun _ _ _ _ _ => rfl) ?_
            refine tK (l := xk_185) rfl rfl (fun _ _ _ _ _ => rfl) ?_
            refine tK (l := xk_185) rfl rfl (hGetI (hShI1 _ (hShI1 _ hs rfl rfl) rfl rfl) rfl rfl rfl (by decide) (by decide)) ?_
            rw [g25]
            first | refine tK (l := xk_185) rfl rfl (hIastN (hShI1 _ (hShI1 _ hs rfl rfl) rfl rfl) rfl rfl (by omega)) ?_ | refine tK (l := xk_185) rfl rfl (hIast (hShI1 _ (hShI1 _ hs rfl rfl) rfl rfl) rfl (by omega) (by omega)) ?_
            rw [show Int.toNat 411 = 411 from rfl]
            refine tK (l := xk_185) rfl rfl (fun _ _ _ _ _ => rfl) ?_
            refine tK (l := xk_185) rfl rfl (hGetR (o := some 148) (hShI1 _ (hShI1 _ (hShI1 _ hs rfl rfl) rfl rfl) rfl rfl) rfl rfl rfl (by decide) (by decide) rfl) ?_
            refine tK (l := xk_185) rfl rfl (fun _ _ _ _ _ => rfl) ?_
            refine tK (l := xk_185) rfl rfl (fun _ _ _ _ _ => rfl) ?_
            refine tK (l := xk_185) rfl rfl (hGetI (hShI1 _ (hShI1 _ (hShI1 _ hs rfl rfl) rfl rfl) rfl rfl) rfl rfl rfl (by decide) (by decide)) ?_
            rw [g26]
            first | refine tK (l := xk_185) rfl rfl (hIastN (hShI1 _ (hShI1 _ (hShI1 _ hs rfl rfl) rfl rfl) rfl rfl) rfl rfl (by omega)) ?_ | refine tK (l := xk_185) rfl rfl (hIast (hShI1 _ (hShI1 _ (hShI1 _ hs rfl rfl) rfl rfl) rfl rfl) rfl (by omega) (by omega)) ?_
            rw [show Int.toNat 412 = 412 from rfl]
            refine tK (l := xk_185) rfl rfl (fun _ _ _ _ _ => rfl) ?_
            refine tK (l := xk_185) rfl rfl (hGetR (o := some 148) (hShI1 _ (hShI1 _ (hShI1 _ (hShI1 _ hs rfl rfl) rfl rfl) rfl rfl) rfl rfl) rfl rfl rfl (by decide) (by decide) rfl) ?_
            refine tK (l := xk_185) rfl rfl (fun _ _ _ _ _ => rfl) ?_
            refine tK (l := xk_185) rfl rfl (fun _ _ _ _ _ => rfl) ?_
            first | refine tK (l := xk_185) rfl rfl (hIaldN (hShI1 _ (hShI1 _ (hShI1 _ (hShI1 _ hs rfl rfl) rfl rfl) rfl rfl) rfl rfl) rfl rfl (by omega)) ?_ | refine tK (l := xk_185) rfl rfl (hIald (hShI1 _ (hShI1 _ (hShI1 _ (hShI1 _ hs rfl rfl) rfl rfl) rfl rfl) rfl rfl) rfl (by omega) (by omega)) ?_
            rw [show Int.toNat 413 = 413 from rfl, g413]
            refine tK (l := xk_185) rfl rfl (fun _ _ _ _ _ => rfl) ?_
            refine tK (l := xk_185) rfl rfl (hAdd ⟨by omega, by omega⟩) ?_
            first | refine tK (l := xk_185) rfl rfl (hIastN (hShI1 _ (hShI1 _ (hShI1 _ (hShI1 _ hs rfl rfl) rfl rfl) rfl rfl) rfl rfl) rfl rfl (by omega)) ?_ | refine tK (l := xk_185) rfl rfl (hIast (hShI1 _ (hShI1 _ (hShI1 _ (hShI1 _ hs rfl rfl) rfl rfl) rfl rfl) rfl rfl) rfl (by omega) (by omega)) ?_
            rw [show Int.toNat 413 = 413 from rfl]
            refine tK (l := xk_185) rfl rfl (fun _ _ _ _ _ => rfl) ?_
            refine tK (l := xk_185) rfl rfl (hGetR (o := some 148) (hShI1 _ (hShI1 _ (hShI1 _ (hShI1 _ (hShI1 _ hs rfl rfl) rfl rfl) rfl rfl) rfl rfl) rfl rfl) rfl rfl rfl (by decide) (by decide) rfl) ?_
            refine tK (l := xk_185) rfl rfl (fun _ _ _ _ _ => rfl) ?_
            refine tK (l := xk_185) rfl rfl (fun _ _ _ _ _ => rfl) ?_
            first | refine tK (l := xk_185) rfl rfl (hIaldN (hShI1 _ (hShI1 _ (hShI1 _ (hShI1 _ (hShI1 _ hs rfl rfl) rfl rfl) rfl rfl) rfl rfl) rfl rfl) rfl rfl (by omega)) ?_ | refine tK (l := xk_185) rfl rfl (hIald (hShI1 _ (hShI1 _ (hShI1 _ (hShI1 _ (hShI1 _ hs rfl rfl) rfl rfl) rfl rfl) rfl rfl) rfl rfl) rfl (by omega) (by omega)) ?_
            rw [show Int.toNat 414 = 414 from rfl, g414]
            refine tK (l := xk_185) rfl rfl (fun _ _ _ _ _ => rfl) ?_
            refine tK (l := xk_185) rfl rfl (hGetI (hShI1 _ (hShI1 _ (hShI1 _ (hShI1 _ (hShI1 _ hs rfl rfl) rfl rfl) rfl rfl) rfl rfl) rfl rfl) rfl rfl rfl (by decide) (by decide)) ?_
            rw [g20]
            refine tIf_eq (l := xk_185) (pc' := 210) rfl rfl rfl (fun hc => ?_) (fun hc => ?_)
            · have hc203 := hc
              have hc203 := hc
              have hr : (ocD D).2.1 = 0 := hc203
              have u6 : hSh zs (hUp (hUp (hUp (hUp (hUp (hUp phi 148 409 (ocD D).2.2.2.1) 148 410 (ocD D).2.2.2.2.1) 148 411 (ocD D).2.2.2.2.2.1) 148 412 (ocD D).2.2.2.2.2.2) 148 413 (c.2.1.2.2.1 + 1)) 148 414 (c.2.1.2.2.2.1 + 0)) := hShI1 _ u5 rfl rfl
              have g415 : hRd (hUp (hUp (hUp (hUp (hUp (hUp phi 148 409 (ocD D).2.2.2.1) 148 410 (ocD D).2.2.2.2.1) 148 411 (ocD D).2.2.2.2.2.1) 148 412 (ocD D).2.2.2.2.2.2) 148 413 (c.2.1.2.2.1 + 1)) 148 414 (c.2.1.2.2.2.1 + 0)) 148 415 = c.2.1.2.2.2.2 := by rw [hRd_up u5 (a := 148) (k := 414) (x := (c.2.1.2.2.2.1 + 0)) rfl (by omega), if_neg (by omega), hRd_up u4 (a := 148) (k := 413) (x := (c.2.1.2.2.1 + 1)) rfl (by omega), if_neg (by omega), hRd_up u3 (a := 148) (k := 412) (x := (ocD D).2.2.2.2.2.2) rfl (by omega), if_neg (by omega), hRd_up u2 (a := 148) (k := 411) (x := (ocD D).2.2.2.2.2.1) rfl (by omega), if_neg (by omega), hRd_up u1 (a := 148) (k := 410) (x := (ocD D).2.2.2.2.1) rfl (by omega), if_neg (by omega), hRd_up hs (a := 148) (k := 409) (x := (ocD D).2.2.2.1) rfl (by omega), if_neg (by omega), hlow _ (by omega), ha1 _ (by omega)]; exact q415
              have g19 : hRd (hUp (hUp (hUp (hUp (hUp (hUp phi 148 409 (ocD D).2.2.2.1) 148 410 (ocD D).2.2.2.2.1) 148 411 (ocD D).2.2.2.2.2.1) 148 412 (ocD D).2.2.2.2.2.2) 148 413 (c.2.1.2.2.1 + 1)) 148 414 (c.2.1.2.2.2.1 + 0)) 147 19 = ((ocD D).1.length : Int) := by rw [hRd_up u5 (a := 148) (k := 414) (x := (c.2.1.2.2.2.1 + 0)) rfl (by omega), if_neg (by omega), hRd_up u4 (a := 148) (k := 413) (x := (c.2.1.2.2.1 + 1)) rfl (by omega), if_neg (by omega), hRd_up u3 (a := 148) (k := 412) (x := (ocD D).2.2.2.2.2.2) rfl (by omega), if_neg (by omega), hRd_up u2 (a := 148) (k := 411) (x := (ocD D).2.2.2.2.2.1) rfl (by omega), if_neg (by omega), hRd_up u1 (a := 148) (k := 410) (x := (ocD D).2.2.2.2.1) rfl (by omega), if_neg (by omega), hRd_up hs (a := 148) (k := 409) (x := (ocD D).2.2.2.1) rfl (by omega), if_neg (by omega), fA.fl (by decide)]; exact e19
              refine tK (l := xk_185) rfl rfl (fun _ _ _ _ _ => rfl) ?_
              refine tK (l := xk_185) rfl rfl (hAdd ⟨by omega, by omega⟩) ?_
              first | refine tK (l := xk_185) rfl rfl (hIastN (hShI1 _ (hShI1 _ (hShI1 _ (hShI1 _ (hShI1 _ hs rfl rfl) rfl rfl) rfl rfl) rfl rfl) rfl rfl) rfl rfl (by omega)) ?_ | refine tK (l := xk_185) rfl rfl (hIast (hShI1 _ (hShI1 _ (hShI1 _ (hShI1 _ (hShI1 _ hs rfl rfl) rfl rfl) rfl rfl) rfl rfl) rfl rfl) rfl (by omega) (by omega)) ?_
              rw [show Int.toNat 414 = 414 from rfl]
              refine tK (l := xk_185) rfl rfl (fun _ _ _ _ _ => rfl) ?_
              refine tK (l := xk_185) rfl rfl (hGetR (o := some 148) (hShI1 _ (hShI1 _ (hShI1 _ (hShI1 _ (hShI1 _ (hShI1 _ hs rfl rfl) rfl rfl) rfl rfl) rfl rfl) rfl rfl) rfl rfl) rfl rfl rfl (by decide) (by decide) rfl) ?_
              refine tK (l := xk_185) rfl rfl (fun _ _ _ _ _ => rfl) ?_
              refine tK (l := xk_185) rfl rfl (fun _ _ _ _ _ => rfl) ?_
              first | refine tK (l := xk_185) rfl rfl (hIaldN (hShI1 _ (hShI1 _ (hShI1 _ (hShI1 _ (hShI1 _ (hShI1 _ hs rfl rfl) rfl rfl) rfl rfl) rfl rfl) rfl rfl) rfl rfl) rfl rfl (by omega)) ?_ | refine tK (l := xk_185) rfl rfl (hIald (hShI1 _ (hShI1 _ (hShI1 _ (hShI1 _ (hShI1 _ (hShI1 _ hs rfl rfl) rfl rfl) rfl rfl) rfl rfl) rfl rfl) rfl rfl) rfl (by omega) (by omega)) ?_
              rw [show Int.toNat 415 = 415 from rfl, g415]
              refine tK (l := xk_185) rfl rfl (fun _ _ _ _ _ => rfl) ?_
              refine tK (l := xk_185) rfl rfl (hGetI (hShI1 _ (hShI1 _ (hShI1 _ (hShI1 _ (hShI1 _ (hShI1 _ hs rfl rfl) rfl rfl) rfl rfl) rfl rfl) rfl rfl) rfl rfl) rfl rfl rfl (by decide) (by decide)) ?_
              rw [g19]
              refine tK (l := xk_185) rfl rfl (hAdd ⟨by omega, by omega⟩) ?_
              first | refine tK (l := xk_185) rfl rfl (hIastN (hShI1 _ (hShI1 _ (hShI1 _ (hShI1 _ (hShI1 _ (hShI1 _ hs rfl rfl) rfl rfl) rfl rfl) rfl rfl) rfl rfl) rfl rfl) rfl rfl (by omega)) ?_ | refine tK (l := xk_185) rfl rfl (hIast (hShI1 _ (hShI1 _ (hShI1 _ (hShI1 _ (hShI1 _ (hShI1 _ hs rfl rfl) rfl rfl) rfl rfl) rfl rfl) rfl rfl) rfl rfl) rfl (by omega) (by omega)) ?_
              rw [show Int.toNat 415 = 415 from rfl]
              refine tK (l := xk_185) rfl rfl (fun _ _ _ _ _ => rfl) ?_
              refine tK (l := xk_185) rfl rfl (hGetI (hShI1 _ (hShI1 _ (hShI1 _ (hShI1 _ (hShI1 _ (hShI1 _ (hShI1 _ hs rfl rfl) rfl rfl) rfl rfl) rfl rfl) rfl rfl) rfl rfl) rfl rfl) rfl rfl rfl (by decide) (by decide)) ?_
              refine tRt (l := xk_185) rfl rfl (fun _ _ _ _ _ => rfl) ?_
              have rd : ∀ b j, hRd (hUp (hUp (hUp (hUp (hUp (hUp (hUp phi 148 409 (ocD D).2.2.2.1) 148 410 (ocD D).2.2.2.2.1) 148 411 (ocD D).2.2.2.2.2.1) 148 412 (ocD D).2.2.2.2.2.2) 148 413 (c.2.1.2.2.1 + 1)) 148 414 (c.2.1.2.2.2.1 + 0)) 148 415 (c.2.1.2.2.2.2 + ((ocD D).1.length : Int))) b j = if b = 148 ∧ j = 415 then (c.2.1.2.2.2.2 + ((ocD D).1.length : Int)) else if b = 148 ∧ j = 414 then (c.2.1.2.2.2.1 + 0) else if b = 148 ∧ j = 413 then (c.2.1.2.2.1 + 1) else if b = 148 ∧ j = 412 then (ocD D).2.2.2.2.2.2 else if b = 148 ∧ j = 411 then (ocD D).2.2.2.2.2.1 else if b = 148 ∧ j = 410 then (ocD D).2.2.2.2.1 else if b = 148 ∧ j = 409 then (ocD D).2.2.2.1 else hRd phi b j := fun b j => by rw [hRd_up u6 (a := 148) (k := 415) (x := (c.2.1.2.2.2.2 + ((ocD D).1.length : Int))) rfl (by omega), hRd_up u5 (a := 148) (k := 414) (x := (c.2.1.2.2.2.1 + 0)) rfl (by omega), hRd_up u4 (a := 148) (k := 413) (x := (c.2.1.2.2.1 + 1)) rfl (by omega), hRd_up u3 (a := 148) (k := 412) (x := (ocD D).2.2.2.2.2.2) rfl (by omega), hRd_up u2 (a := 148) (k := 411) (x := (ocD D).2.2.2.2.2.1) rfl (by omega), hRd_up u1 (a := 148) (k := 410) (x := (ocD D).2.2.2.2.1) rfl (by omega), hRd_up hs (a := 148) (k := 409) (x := (ocD D).2.2.2.1) rfl (by omega)]
              have fz : hFM [] [148] phi (hUp (hUp (hUp (hUp (hUp (hUp (hUp phi 148 409 (ocD D).2.2.2.1) 148 410 (ocD D).2.2.2.2.1) 148 411 (ocD D).2.2.2.2.2.1) 148 412 (ocD D).2.2.2.2.2.2) 148 413 (c.2.1.2.2.1 + 1)) 148 414 (c.2.1.2.2.2.1 + 0)) 148 415 (c.2.1.2.2.2.2 + ((ocD D).1.length : Int))) := ((((((hFM_a hs rfl (by omega) (by decide) (by decide)).trans (hFM_a u1 rfl (by omega) (by decide) (by decide))).trans (hFM_a u2 rfl (by omega) (by decide) (by decide))).trans (hFM_a u3 rfl (by omega) (by decide) (by decide))).trans (hFM_a u4 rfl (by omega) (by decide) (by decide))).trans (hFM_a u5 rfl (by omega) (by decide) (by decide))).trans (hFM_a u6 rfl (by omega) (by decide) (by decide))
              have fB : hFM [] [148] ph4 (hUp (hUp (hUp (hUp (hUp (hUp (hUp phi 148 409 (ocD D).2.2.2.1) 148 410 (ocD D).2.2.2.2.1) 148 411 (ocD D).2.2.2.2.2.1) 148 412 (ocD D).2.2.2.2.2.2) 148 413 (c.2.1.2.2.1 + 1)) 148 414 (c.2.1.2.2.2.1 + 0)) 148 415 (c.2.1.2.2.2.2 + ((ocD D).1.length : Int))) := fA.trans fz
              have rlo : ∀ j, j < 409 → hRd (hUp (hUp (hUp (hUp (hUp (hUp (hUp phi 148 409 (ocD D).2.2.2.1) 148 410 (ocD D).2.2.2.2.1) 148 411 (ocD D).2.2.2.2.2.1) 148 412 (ocD D).2.2.2.2.2.2) 148 413 (c.2.1.2.2.1 + 1)) 148 414 (c.2.1.2.2.2.1 + 0)) 148 415 (c.2.1.2.2.2.2 + ((ocD D).1.length : Int))) 148 j = hRd phi 148 j := fun j hj => by rw [rd, if_neg (by omega), if_neg (by omega), if_neg (by omega), if_neg (by omega), if_neg (by omega), if_neg (by omega), if_neg (by omega)]
              have g19b : hRd (hUp (hUp (hUp (hUp (hUp (hUp (hUp phi 148 409 (ocD D).2.2.2.1) 148 410 (ocD D).2.2.2.2.1) 148 411 (ocD D).2.2.2.2.2.1) 148 412 (ocD D).2.2.2.2.2.2) 148 413 (c.2.1.2.2.1 + 1)) 148 414 (c.2.1.2.2.2.1 + 0)) 148 415 (c.2.1.2.2.2.2 + ((ocD D).1.length : Int))) 147 19 = ((ocD D).1.length : Int) := by rw [fB.fl (by decide)]; exact e19
              have key : hMm zs (hUp (hUp (hUp (hUp (hUp (hUp (hUp phi 148 409 (ocD D).2.2.2.1) 148 410 (ocD D).2.2.2.2.1) 148 411 (ocD D).2.2.2.2.2.1) 148 412 (ocD D).2.2.2.2.2.2) 148 413 (c.2.1.2.2.1 + 1)) 148 414 (c.2.1.2.2.2.1 + 0)) 148 415 (c.2.1.2.2.2.2 + ((ocD D).1.length : Int))) (ndo c (rnd c.2.1 (ocD D))) := by
                obtain ⟨qh1, qh2, qh3⟩ := qh
                obtain ⟨qk1, qk2⟩ := qk
                obtain ⟨qb1, qb2, qb3⟩ := qb
                refine ⟨(hShI1 _ (hShI1 _ (hShI1 _ (hShI1 _ (hShI1 _ (hShI1 _ (hShI1 _ hs rfl rfl) rfl rfl) rfl rfl) rfl rfl) rfl rfl) rfl rfl) rfl rfl), ⟨fun v hv => (q0 v hv).cp (fun j hj => by rw [rlo _ (by omega), hlow _ (by omega), ha1 _ (by omega)]), ⟨?_, hol, fun i x hx => ?_⟩, ?_, ⟨?_, (show (D.2.2.2.map (fun x : Nat => (x : Int))).length ≤ 5 by rw [List.length_map]; exact hpl5), fun i x hx => ?_⟩, ?_, ?_, ?_, ?_, ?_, ?_, ?_⟩, ⟨by rw [fB.fl (by decide)]; exact qh1, qh2, fun k s hk => (qh3 k s hk).cp (fun j _ => fB.at (by decide) _)⟩, ⟨by rw [fB.fl (by decide)]; exact qk1, fun s hs9 => (qk2 s hs9).cp (fun j _ => fB.at (by decide) _)⟩, ⟨by rw [fB.fl (by decide)]; exact qb1, qb2, fun i x hx => by rw [fB.at (by decide)]; exact qb3 i x hx⟩⟩
                · rw [Nat.zero_add, rlo _ (by omega), hlow _ (by omega)]; exact ha2
                · have := (List.getElem?_eq_some_iff.mp hx).1
                  simp only [ndo, rnd] at this
                  rw [Nat.zero_add, rlo _ (by omega), hlow _ (by omega)]; exact ha3 i x hx
                · rw [Nat.zero_add, rlo _ (by omega), hlow _ (by omega)]; exact ha4
                · rw [Nat.zero_add, rlo _ (by omega), hlow _ (by omega), ha5]; simp [ndo, rnd, ocD]
                · have hx : (D.2.2.2.map (fun x : Nat => (x : Int)))[i]? = some x := hx
                  simp only [List.getElem?_map, Option.map_eq_some_iff] at hx
                  obtain ⟨y, hy, rfl⟩ := hx
                  have := (List.getElem?_eq_some_iff.mp hy).1
                  rw [Nat.zero_add, rlo _ (by omega)]; exact hnew i y (by omega) hy
                · rw [Nat.zero_add, rd, if_neg (by omega), if_neg (by omega), if_neg (by omega), if_neg (by omega), if_neg (by omega), if_neg (by omega), if_pos ⟨rfl, rfl⟩]; rfl
                · rw [Nat.zero_add, rd, if_neg (by omega), if_neg (by omega), if_neg (by omega), if_neg (by omega), if_neg (by omega), if_pos ⟨rfl, rfl⟩]; rfl
                · rw [Nat.zero_add, rd, if_neg (by omega), if_neg (by omega), if_neg (by omega), if_neg (by omega), if_pos ⟨rfl, rfl⟩]; rfl
                · rw [Nat.zero_add, rd, if_neg (by omega), if_neg (by omega), if_neg (by omega), if_pos ⟨rfl, rfl⟩]; rfl
                · rw [Nat.zero_add, rd, if_neg (by omega), if_neg (by omega), if_pos ⟨rfl, rfl⟩]; rfl
                · rw [Nat.zero_add, rd, if_neg (by omega), if_pos ⟨rfl, rfl⟩]; simp only [ndo, rnd]; rw [if_pos hr]; exact (Int.add_zero _).symm.symm
                · rw [Nat.zero_add, rd, if_pos ⟨rfl, rfl⟩]; rfl
              have hq := hQ _ key (by rw [fB.fl (by decide)]; exact e04) (fd4.trans fB.mo)
              show Q (.inl (some (.inl (hRd (hUp (hUp (hUp (hUp (hUp (hUp (hUp phi 148 409 (ocD D).2.2.2.1) 148 410 (ocD D).2.2.2.2.1) 148 411 (ocD D).2.2.2.2.2.1) 148 412 (ocD D).2.2.2.2.2.2) 148 413 (c.2.1.2.2.1 + 1)) 148 414 (c.2.1.2.2.2.1 + 0)) 148 415 (c.2.1.2.2.2.2 + ((ocD D).1.length : Int))) 147 19))), (hUp (hUp (hUp (hUp (hUp (hUp (hUp phi 148 409 (ocD D).2.2.2.1) 148 410 (ocD D).2.2.2.2.1) 148 411 (ocD D).2.2.2.2.2.1) 148 412 (ocD D).2.2.2.2.2.2) 148 413 (c.2.1.2.2.1 + 1)) 148 414 (c.2.1.2.2.2.1 + 0)) 148 415 (c.2.1.2.2.2.2 + ((ocD D).1.length : Int))), g)
              rw [g19b]
              exact hq
            · have hc203 := hc
              have hc203 := hc
              have hr : ¬ (ocD D).2.1 = 0 := hc203
              have u6 : hSh zs (hUp (hUp (hUp (hUp (hUp (hUp phi 148 409 (ocD D).2.2.2.1) 148 410 (ocD D).2.2.2.2.1) 148 411 (ocD D).2.2.2.2.2.1) 148 412 (ocD D).2.2.2.2.2.2) 148 413 (c.2.1.2.2.1 + 1)) 148 414 (c.2.1.2.2.2.1 + 1)) := hShI1 _ u5 rfl rfl
              have g415 : hRd (hUp (hUp (hUp (hUp (hUp (hUp phi 148 409 (ocD D).2.2.2.1) 148 410 (ocD D).2.2.2.2.1) 148 411 (ocD D).2.2.2.2.2.1) 148 412 (ocD D).2.2.2.2.2.2) 148 413 (c.2.1.2.2.1 + 1)) 148 414 (c.2.1.2.2.2.1 + 1)) 148 415 = c.2.1.2.2.2.2 := by rw [hRd_up u5 (a := 148) (k := 414) (x := (c.2.1.2.2.2.1 + 1)) rfl (by omega), if_neg (by omega), hRd_up u4 (a := 148) (k := 413) (x := (c.2.1.2.2.1 + 1)) rfl (by omega), if_neg (by omega), hRd_up u3 (a := 148) (k := 412) (x := (ocD D).2.2.2.2.2.2) rfl (by omega), if_neg (by omega), hRd_up u2 (a := 148) (k := 411) (x := (ocD D).2.2.2.2.2.1) rfl (by omega), if_neg (by omega), hRd_up u1 (a := 148) (k := 410) (x := (ocD D).2.2.2.2.1) rfl (by omega), if_neg (by omega), hRd_up hs (a := 148) (k := 409) (x := (ocD D).2.2.2.1) rfl (by omega), if_neg (by omega), hlow _ (by omega), ha1 _ (by omega)]; exact q415
              have g19 : hRd (hUp (hUp (hUp (hUp (hUp (hUp phi 148 409 (ocD D).2.2.2.1) 148 410 (ocD D).2.2.2.2.1) 148 411 (ocD D).2.2.2.2.2.1) 148 412 (ocD D).2.2.2.2.2.2) 148 413 (c.2.1.2.2.1 + 1)) 148 414 (c.2.1.2.2.2.1 + 1)) 147 19 = ((ocD D).1.length : Int) := by rw [hRd_up u5 (a := 148) (k := 414) (x := (c.2.1.2.2.2.1 + 1)) rfl (by omega), if_neg (by omega), hRd_up u4 (a := 148) (k := 413) (x := (c.2.1.2.2.1 + 1)) rfl (by omega), if_neg (by omega), hRd_up u3 (a := 148) (k := 412) (x := (ocD D).2.2.2.2.2.2) rfl (by omega), if_neg (by omega), hRd_up u2 (a := 148) (k := 411) (x := (ocD D).2.2.2.2.2.1) rfl (by omega), if_neg (by omega), hRd_up u1 (a := 148) (k := 410) (x := (ocD D).2.2.2.2.1) rfl (by omega), if_neg (by omega), hRd_up hs (a := 148) (k := 409) (x := (ocD D).2.2.2.1) rfl (by omega), if_neg (by omega), fA.fl (by decide)]; exact e19
              refine tK (l := xk_185) rfl rfl (fun _ _ _ _ _ => rfl) ?_
              refine tK (l := xk_185) rfl rfl (fun _ _ _ _ _ => rfl) ?_
              refine tK (l := xk_185) rfl rfl (hAdd ⟨by omega, by omega⟩) ?_
              first | refine tK (l := xk_185) rfl rfl (hIastN (hShI1 _ (hShI1 _ (hShI1 _ (hShI1 _ (hShI1 _ hs rfl rfl) rfl rfl) rfl rfl) rfl rfl) rfl rfl) rfl rfl (by omega)) ?_ | refine tK (l := xk_185) rfl rfl (hIast (hShI1 _ (hShI1 _ (hShI1 _ (hShI1 _ (hShI1 _ hs rfl rfl) rfl rfl) rfl rfl) rfl rfl) rfl rfl) rfl (by omega) (by omega)) ?_
              rw [show Int.toNat 414 = 414 from rfl]
              refine tK (l := xk_185) rfl rfl (fun _ _ _ _ _ => rfl) ?_
              refine tK (l := xk_185) rfl rfl (hGetR (o := some 148) (hShI1 _ (hShI1 _ (hShI1 _ (hShI1 _ (hShI1 _ (hShI1 _ hs rfl rfl) rfl rfl) rfl rfl) rfl rfl) rfl rfl) rfl rfl) rfl rfl rfl (by decide) (by decide) rfl) ?_
              refine tK (l := xk_185) rfl rfl (fun _ _ _ _ _ => rfl) ?_
              refine tK (l := xk_185) rfl rfl (fun _ _ _ _ _ => rfl) ?_
              first | refine tK (l := xk_185) rfl rfl (hIaldN (hShI1 _ (hShI1 _ (hShI1 _ (hShI1 _ (hShI1 _ (hShI1 _ hs rfl rfl) rfl rfl) rfl rfl) rfl rfl) rfl rfl) rfl rfl) rfl rfl (by omega)) ?_ | refine tK (l := xk_185) rfl rfl (hIald (hShI1 _ (hShI1 _ (hShI1 _ (hShI1 _ (hShI1 _ (hShI1 _ hs rfl rfl) rfl rfl) rfl rfl) rfl rfl) rfl rfl) rfl rfl) rfl (by omega) (by omega)) ?_
              rw [show Int.toNat 415 = 415 from rfl, g415]
              refine tK (l := xk_185) rfl rfl (fun _ _ _ _ _ => rfl) ?_
              refine tK (l := xk_185) rfl rfl (hGetI (hShI1 _ (hShI1 _ (hShI1 _ (hShI1 _ (hShI1 _ (hShI1 _ hs rfl rfl) rfl rfl) rfl rfl) rfl rfl) rfl rfl) rfl rfl) rfl rfl rfl (by decide) (by decide)) ?_
              rw [g19]
              refine tK (l := xk_185) rfl rfl (hAdd ⟨by omega, by omega⟩) ?_
              first | refine tK (l := xk_185) rfl rfl (hIastN (hShI1 _ (hShI1 _ (hShI1 _ (hShI1 _ (hShI1 _ (hShI1 _ hs rfl rfl) rfl rfl) rfl rfl) rfl rfl) rfl rfl) rfl rfl) rfl rfl (by omega)) ?_ | refine tK (l := xk_185) rfl rfl (hIast (hShI1 _ (hShI1 _ (hShI1 _ (hShI1 _ (hShI1 _ (hShI1 _ hs rfl rfl) rfl rfl) rfl rfl) rfl rfl) rfl rfl) rfl rfl) rfl (by omega) (by omega)) ?_
              rw [show Int.toNat 415 = 415 from rfl]
              refine tK (l := xk_185) rfl rfl (fun _ _ _ _ _ => rfl) ?_
              refine tK (l := xk_185) rfl rfl (hGetI (hShI1 _ (hShI1 _ (hShI1 _ (hShI1 _ (hShI1 _ (hShI1 _ (hShI1 _ hs rfl rfl) rfl rfl) rfl rfl) rfl rfl) rfl rfl) rfl rfl) rfl rfl) rfl rfl rfl (by decide) (by decide)) ?_
              refine tRt (l := xk_185) rfl rfl (fun _ _ _ _ _ => rfl) ?_
              have rd : ∀ b j, hRd (hUp (hUp (hUp (hUp (hUp (hUp (hUp phi 148 409 (ocD D).2.2.2.1) 148 410 (ocD D).2.2.2.2.1) 148 411 (ocD D).2.2.2.2.2.1) 148 412 (ocD D).2.2.2.2.2.2) 148 413 (c.2.1.2.2.1 + 1)) 148 414 (c.2.1.2.2.2.1 + 1)) 148 415 (c.2.1.2.2.2.2 + ((ocD D).1.length : Int))) b j = if b = 148 ∧ j = 415 then (c.2.1.2.2.2.2 + ((ocD D).1.length : Int)) else if b = 148 ∧ j = 414 then (c.2.1.2.2.2.1 + 1) else if b = 148 ∧ j = 413 then (c.2.1.2.2.1 + 1) else if b = 148 ∧ j = 412 then (ocD D).2.2.2.2.2.2 else if b = 148 ∧ j = 411 then (ocD D).2.2.2.2.2.1 else if b = 148 ∧ j = 410 then (ocD D).2.2.2.2.1 else if b = 148 ∧ j = 409 then (ocD D).2.2.2.1 else hRd phi b j := fun b j => by rw [hRd_up u6 (a := 148) (k := 415) (x := (c.2.1.2.2.2.2 + ((ocD D).1.length : Int))) rfl (by omega), hRd_up u5 (a := 148) (k := 414) (x := (c.2.1.2.2.2.1 + 1)) rfl (by omega), hRd_up u4 (a := 148) (k := 413) (x := (c.2.1.2.2.1 + 1)) rfl (by omega), hRd_up u3 (a := 148) (k := 412) (x := (ocD D).2.2.2.2.2.2) rfl (by omega), hRd_up u2 (a := 148) (k := 411) (x := (ocD D).2.2.2.2.2.1) rfl (by omega), hRd_up u1 (a := 148) (k := 410) (x := (ocD D).2.2.2.2.1) rfl (by omega), hRd_up hs (a := 148) (k := 409) (x := (ocD D).2.2.2.1) rfl (by omega)]
              have fz : hFM [] [148] phi (hUp (hUp (hUp (hUp (hUp (hUp (hUp phi 148 409 (ocD D).2.2.2.1) 148 410 (ocD D).2.2.2.2.1) 148 411 (ocD D).2.2.2.2.2.1) 148 412 (ocD D).2.2.2.2.2.2) 148 413 (c.2.1.2.2.1 + 1)) 148 414 (c.2.1.2.2.2.1 + 1)) 148 415 (c.2.1.2.2.2.2 + ((ocD D).1.length : Int))) := ((((((hFM_a hs rfl (by omega) (by decide) (by decide)).trans (hFM_a u1 rfl (by omega) (by decide) (by decide))).trans (hFM_a u2 rfl (by omega) (by decide) (by decide))).trans (hFM_a u3 rfl (by omega) (by decide) (by decide))).trans (hFM_a u4 rfl (by omega) (by decide) (by decide))).trans (hFM_a u5 rfl (by omega) (by decide) (by decide))).trans (hFM_a u6 rfl (by omega) (by decide) (by decide))
              have fB : hFM [] [148] ph4 (hUp (hUp (hUp (hUp (hUp (hUp (hUp phi 148 409 (ocD D).2.2.2.1) 148 410 (ocD D).2.2.2.2.1) 148 411 (ocD D).2.2.2.2.2.1) 148 412 (ocD D).2.2.2.2.2.2) 148 413 (c.2.1.2.2.1 + 1)) 148 414 (c.2.1.2.2.2.1 + 1)) 148 415 (c.2.1.2.2.2.2 + ((ocD D).1.length : Int))) := fA.trans fz
              have rlo : ∀ j, j < 409 → hRd (hUp (hUp (hUp (hUp (hUp (hUp (hUp phi 148 409 (ocD D).2.2.2.1) 148 410 (ocD D).2.2.2.2.1) 148 411 (ocD D).2.2.2.2.2.1) 148 412 (ocD D).2.2.2.2.2.2) 148 413 (c.2.1.2.2.1 + 1)) 148 414 (c.2.1.2.2.2.1 + 1)) 148 415 (c.2.1.2.2.2.2 + ((ocD D).1.length : Int))) 148 j = hRd phi 148 j := fun j hj => by rw [rd, if_neg (by omega), if_neg (by omega), if_neg (by omega), if_neg (by omega), if_neg (by omega), if_neg (by omega), if_neg (by omega)]
              have g19b : hRd (hUp (hUp (hUp (hUp (hUp (hUp (hUp phi 148 409 (ocD D).2.2.2.1) 148 410 (ocD D).2.2.2.2.1) 148 411 (ocD D).2.2.2.2.2.1) 148 412 (ocD D).2.2.2.2.2.2) 148 413 (c.2.1.2.2.1 + 1)) 148 414 (c.2.1.2.2.2.1 + 1)) 148 415 (c.2.1.2.2.2.2 + ((ocD D).1.length : Int))) 147 19 = ((ocD D).1.length : Int) := by rw [fB.fl (by decide)]; exact e19
              have key : hMm zs (hUp (hUp (hUp (hUp (hUp (hUp (hUp phi 148 409 (ocD D).2.2.2.1) 148 410 (ocD D).2.2.2.2.1) 148 411 (ocD D).2.2.2.2.2.1) 148 412 (ocD D).2.2.2.2.2.2) 148 413 (c.2.1.2.2.1 + 1)) 148 414 (c.2.1.2.2.2.1 + 1)) 148 415 (c.2.1.2.2.2.2 + ((ocD D).1.length : Int))) (ndo c (rnd c.2.1 (ocD D))) := by
                obtain ⟨qh1, qh2, qh3⟩ := qh
                obtain ⟨qk1, qk2⟩ := qk
                obtain ⟨qb1, qb2, qb3⟩ := qb
                refine ⟨(hShI1 _ (hShI1 _ (hShI1 _ (hShI1 _ (hShI1 _ (hShI1 _ (hShI1 _ hs rfl rfl) rfl rfl) rfl rfl) rfl rfl) rfl rfl) rfl rfl) rfl rfl), ⟨fun v hv => (q0 v hv).cp (fun j hj => by rw [rlo _ (by omega), hlow _ (by omega), ha1 _ (by omega)]), ⟨?_, hol, fun i x hx => ?_⟩, ?_, ⟨?_, (show (D.2.2.2.map (fun x : Nat => (x : Int))).length ≤ 5 by rw [List.length_map]; exact hpl5), fun i x hx => ?_⟩, ?_, ?_, ?_, ?_, ?_, ?_, ?_⟩, ⟨by rw [fB.fl (by decide)]; exact qh1, qh2, fun k s hk => (qh3 k s hk).cp (fun j _ => fB.at (by decide) _)⟩, ⟨by rw [fB.fl (by decide)]; exact qk1, fun s hs9 => (qk2 s hs9).cp (fun j _ => fB.at (by decide) _)⟩, ⟨by rw [fB.fl (by decide)]; exact qb1, qb2, fun i x hx => by rw [fB.at (by decide)]; exact qb3 i x hx⟩⟩
                · rw [Nat.zero_add, rlo _ (by omega), hlow _ (by omega)]; exact ha2
                · have := (List.getElem?_eq_some_iff.mp hx).1
                  simp only [ndo, rnd] at this
                  rw [Nat.zero_add, rlo _ (by omega), hlow _ (by omega)]; exact ha3 i x hx
                · rw [Nat.zero_add, rlo _ (by omega), hlow _ (by omega)]; exact ha4
                · rw [Nat.zero_add, rlo _ (by omega), hlow _ (by omega), ha5]; simp [ndo, rnd, ocD]
                · have hx : (D.2.2.2.map (fun x : Nat => (x : Int)))[i]? = some x := hx
                  simp only [List.getElem?_map, Option.map_eq_some_iff] at hx
                  obtain ⟨y, hy, rfl⟩ := hx
                  have := (List.getElem?_eq_some_iff.mp hy).1
                  rw [Nat.zero_add, rlo _ (by omega)]; exact hnew i y (by omega) hy
                · rw [Nat.zero_add, rd, if_neg (by omega), if_neg (by omega), if_neg (by omega), if_neg (by omega), if_neg (by omega), if_neg (by omega), if_pos ⟨rfl, rfl⟩]; rfl
                · rw [Nat.zero_add, rd, if_neg (by omega), if_neg (by omega), if_neg (by omega), if_neg (by omega), if_neg (by omega), if_pos ⟨rfl, rfl⟩]; rfl
                · rw [Nat.zero_add, rd, if_neg (by omega), if_neg (by omega), if_neg (by omega), if_neg (by omega), if_pos ⟨rfl, rfl⟩]; rfl
                · rw [Nat.zero_add, rd, if_neg (by omega), if_neg (by omega), if_neg (by omega), if_pos ⟨rfl, rfl⟩]; rfl
                · rw [Nat.zero_add, rd, if_neg (by omega), if_neg (by omega), if_pos ⟨rfl, rfl⟩]; rfl
                · rw [Nat.zero_add, rd, if_neg (by omega), if_pos ⟨rfl, rfl⟩]; simp only [ndo, rnd]; rw [if_neg hr]
                · rw [Nat.zero_add, rd, if_pos ⟨rfl, rfl⟩]; rfl
              have hq := hQ _ key (by rw [fB.fl (by decide)]; exact e04) (fd4.trans fB.mo)
              show Q (.inl (some (.inl (hRd (hUp (hUp (hUp (hUp (hUp (hUp (hUp phi 148 409 (ocD D).2.2.2.1) 148 410 (ocD D).2.2.2.2.1) 148 411 (ocD D).2.2.2.2.2.1) 148 412 (ocD D).2.2.2.2.2.2) 148 413 (c.2.1.2.2.1 + 1)) 148 414 (c.2.1.2.2.2.1 + 1)) 148 415 (c.2.1.2.2.2.2 + ((ocD D).1.length : Int))) 147 19))), (hUp (hUp (hUp (hUp (hUp (hUp (hUp phi 148 409 (ocD D).2.2.2.1) 148 410 (ocD D).2.2.2.2.1) 148 411 (ocD D).2.2.2.2.2.1) 148 412 (ocD D).2.2.2.2.2.2) 148 413 (c.2.1.2.2.1 + 1)) 148 414 (c.2.1.2.2.2.1 + 1)) 148 415 (c.2.1.2.2.2.2 + ((ocD D).1.length : Int))), g)
              rw [g19b]
              exact hq
        | succ m ih =>
          intro i phi him hs hf hlow hnew
          have fA := fa.trans hf
          have g22 : hRd phi 147 22 = (D.2.2.2.length : Int) := by rw [fA.fl (by decide)]; exact e22
          obtain ⟨x, hx⟩ : ∃ x, D.2.2.2[i]? = some x := ⟨_, List.getElem?_eq_getElem (by omega)⟩
          have e54 : hRd phi 154 i = (x : Int) := by rw [fA.at (by decide)]; exact epl i x hx
          refine tK (l := xk_185) rfl rfl (fun _ _ _ _ _ => rfl) ?_
          refine tK (l := xk_185) rfl rfl (fun _ _ _ _ _ => rfl) ?_
          refine tK (l := xk_185) rfl rfl (hGetI hs rfl rfl rfl (by decide) (by decide)) ?_
          rw [g22]
          refine tIc_ge (l := xk_185) (pc' := 130) rfl rfl rfl (fun hc => ?_) (fun hc => ?_)
          · have hc105 := hc
            refine tK (l := xk_185) rfl rfl (fun _ _ _ _ _ => rfl) ?_
            refine tK (l := xk_185) rfl rfl (hGetR (o := some 148) hs rfl rfl rfl (by decide) (by decide) rfl) ?_
            refine tK (l := xk_185) rfl rfl (fun _ _ _ _ _ => rfl) ?_
            refine tK (l := xk_185) rfl rfl (fun _ _ _ _ _ => rfl) ?_
            refine tK (l := xk_185) rfl rfl (hAdd ⟨by omega, by omega⟩) ?_
            rw [show (403 : Int) + (i : Int) = ((403 + i : Nat) : Int) by omega]
            refine tK (l := xk_185) rfl rfl (fun _ _ _ _ _ => rfl) ?_
            refine tK (l := xk_185) rfl rfl (hGetR (o := some 154) hs rfl rfl rfl (by decide) (by decide) rfl) ?_
            refine tK (l := xk_185) rfl rfl (fun _ _ _ _ _ => rfl) ?_
            first | refine tK (l := xk_185) rfl rfl (hIaldN hs rfl rfl (by omega)) ?_ | refine tK (l := xk_185) rfl rfl (hIald hs rfl (by omega) (by omega)) ?_
            rw [e54]
            first | refine tK (l := xk_185) rfl rfl (hIastN hs rfl rfl (by omega)) ?_ | refine tK (l := xk_185) rfl rfl (hIast hs rfl (by omega) (by omega)) ?_
            refine tSt (l := xk_185) rfl rfl (hIinc rfl (Nat.le_of_ble_eq_true rfl) ⟨by omega, by omega⟩) (Nat.le_of_ble_eq_true rfl) ?_
            refine tK (l := xk_185) rfl rfl (fun _ _ _ _ _ => rfl) ?_
            have rd := hRd_up (x := (x : Int)) hs (show hKi (hTg 148) (403 + i) = true from rfl) (by omega)
            refine ih (i + 1) _ (by omega) (hShI1 _ hs rfl rfl) (hf.trans (hFM_a hs rfl (by omega) (by decide) (by decide))) (fun j hj => by rw [rd, if_neg (by omega)]; exact hlow j hj) (fun j y hj hy => ?_)
            rw [rd]
            by_cases e : j = i
            · rw [if_pos ⟨rfl, by rw [e]⟩]; subst e; rw [hx] at hy; cases hy; rfl
            · rw [if_neg (by omega)]; exact hnew j y (by omega) hy
          · have hc105 := hc
            exfalso; omega
      have loop1 : ∀ (m i : Nat) (phi : xH), i + m = (ocD D).1.length → hSh zs phi → hFM [] [148] ph4 phi → (∀ j, j < 200 ∨ 400 < j → hRd phi 148 j = hRd ph4 148 j) → hRd phi 148 200 = ((ocD D).1.length : Int) → (∀ (j : Nat) (x : Int), j < i → (ocD D).1[j]? = some x → hRd phi 148 (201 + j) = x) → xT (d + 10) 185 44 (xlo [some (.inr (.inl (some 147))), some (.inl (i : Int))]) [] phi g Q := by
        intro m
        induction m with
        | zero =>
          intro i phi him hs hf hlow h200 hnew
          have g19 : hRd phi 147 19 = ((ocD D).1.length : Int) := by rw [hf.fl (by decide)]; exact e19
          have g20 : hRd phi 147 20 = (ocD D).2.1 := by rw [hf.fl (by decide)]; exact e20
          have v1 : hSh zs (hUp phi 148 401 (ocD D).2.1) := hShI1 _ hs rfl rfl
          have x1 := hRd_up (x := (ocD D).2.1) hs (show hKi (hTg 148) 401 = true from rfl) (by omega)
          have g22 : hRd (hUp phi 148 401 (ocD D).2.1) 147 22 = (D.2.2.2.length : Int) := by rw [x1, if_neg (by omega), hf.fl (by decide)]; exact e22
          refine tK (l := xk_185) rfl rfl (fun _ _ _ _ _ => rfl) ?_
          refine tK (l := xk_185) rfl rfl (fun _ _ _ _ _ => rfl) ?_
          refine tK (l := xk_185) rfl rfl (hGetI hs rfl rfl rfl (by decide) (by decide)) ?_
          rw [g19]
          refine tIc_ge (l := xk_185) (pc' := 74) rfl rfl rfl (fun hc => ?_) (fun hc => ?_)
          · have hc49 := hc
            exfalso; omega
          · have hc49 := hc
            refine tK (l := xk_185) rfl rfl (fun _ _ _ _ _ => rfl) ?_
            refine tK (l := xk_185) rfl rfl (hGetR (o := some 148) hs rfl rfl rfl (by decide) (by decide) rfl) ?_
            refine tK (l := xk_185) rfl rfl (fun _ _ _ _ _ => rfl) ?_
            refine tK (l := xk_185) rfl rfl (fun _ _ _ _ _ => rfl) ?_
            refine tK (l := xk_185) rfl rfl (hGetI hs rfl rfl rfl (by decide) (by decide)) ?_
            rw [g20]
            first | refine tK (l := xk_185) rfl rfl (hIastN hs rfl rfl (by omega)) ?_ | refine tK (l := xk_185) rfl rfl (hIast hs rfl (by omega) (by omega)) ?_
            rw [show Int.toNat 401 = 401 from rfl]
            refine tK (l := xk_185) rfl rfl (fun _ _ _ _ _ => rfl) ?_
            refine tK (l := xk_185) rfl rfl (hGetR (o := some 148) (hShI1 _ hs rfl rfl) rfl rfl rfl (by decide) (by decide) rfl) ?_
            refine tK (l := xk_185) rfl rfl (fun _ _ _ _ _ => rfl) ?_
            refine tK (l := xk_185) rfl rfl (fun _ _ _ _ _ => rfl) ?_
            refine tK (l := xk_185) rfl rfl (hGetI (hShI1 _ hs rfl rfl) rfl rfl rfl (by decide) (by decide)) ?_
            rw [g22]
            first | refine tK (l := xk_185) rfl rfl (hIastN (hShI1 _ hs rfl rfl) rfl rfl (by omega)) ?_ | refine tK (l := xk_185) rfl rfl (hIast (hShI1 _ hs rfl rfl) rfl (by omega) (by omega)) ?_
            rw [show Int.toNat 402 = 402 from rfl]
            refine tK (l := xk_185) rfl rfl (fun _ _ _ _ _ => rfl) ?_
            refine tSt (l := xk_185) rfl rfl (fun _ _ _ _ _ => rfl) (Nat.le_of_ble_eq_true rfl) ?_
            have v2 : hSh zs (hUp (hUp phi 148 401 (ocD D).2.1) 148 402 (D.2.2.2.length : Int)) := hShI1 _ v1 rfl rfl
            have x2 := hRd_up (x := (D.2.2.2.length : Int)) v1 (show hKi (hTg 148) 402 = true from rfl) (by omega)
            have fb : hFM [] [148] phi (hUp (hUp phi 148 401 (ocD D).2.1) 148 402 (D.2.2.2.length : Int)) := (hFM_a hs rfl (by omega) (by decide) (by decide)).trans (hFM_a v1 rfl (by omega) (by decide) (by decide))
            exact loop2 (hUp (hUp phi 148 401 (ocD D).2.1) 148 402 (D.2.2.2.length : Int)) v2 (hf.trans fb) (fun j hj => by rw [x2, if_neg (by omega), x1, if_neg (by omega)]; exact hlow j (by omega)) (by rw [x2, if_neg (by omega), x1, if_neg (by omega)]; exact h200) (fun j x hx => by rw [x2, if_neg (by have := (List.getElem?_eq_some_iff.mp hx).1; omega), x1, if_neg (by have := (List.getElem?_eq_some_iff.mp hx).1; omega)]; exact hnew j x (by have := (List.getElem?_eq_some_iff.mp hx).1; omega) hx) (by rw [x2, if_neg (by omega), x1, if_pos ⟨rfl, rfl⟩]) (by rw [x2, if_pos ⟨rfl, rfl⟩]) D.2.2.2.length 0 _ (by omega) v2 hFM.refl (fun _ _ => rfl) (fun j x hj => absurd hj (by omega))
        | succ m ih =>
          intro i phi him hs hf hlow h200 hnew
          have g19 : hRd phi 147 19 = ((ocD D).1.length : Int) := by rw [hf.fl (by decide)]; exact e19
          obtain ⟨x, hx⟩ : ∃ x, (ocD D).1[i]? = some x := ⟨_, List.getElem?_eq_getElem (by omega)⟩
          have e53 : hRd phi 153 i = x := by rw [hf.at (by decide)]; exact ech i x hx
          refine tK (l := xk_185) rfl rfl (fun _ _ _ _ _ => rfl) ?_
          refine tK (l := xk_185) rfl rfl (fun _ _ _ _ _ => rfl) ?_
          refine tK (l := xk_185) rfl rfl (hGetI hs rfl rfl rfl (by decide) (by decide)) ?_
          rw [g19]
          refine tIc_ge (l := xk_185) (pc' := 74) rfl rfl rfl (fun hc => ?_) (fun hc => ?_)
          · have hc49 := hc
            refine tK (l := xk_185) rfl rfl (fun _ _ _ _ _ => rfl) ?_
            refine tK (l := xk_185) rfl rfl (hGetR (o := some 148) hs rfl rfl rfl (by decide) (by decide) rfl) ?_
            refine tK (l := xk_185) rfl rfl (fun _ _ _ _ _ => rfl) ?_
            refine tK (l := xk_185) rfl rfl (fun _ _ _ _ _ => rfl) ?_
            refine tK (l := xk_185) rfl rfl (hAdd ⟨by omega, by omega⟩) ?_
            rw [show (201 : Int) + (i : Int) = ((201 + i : Nat) : Int) by omega]
            refine tK (l := xk_185) rfl rfl (fun _ _ _ _ _ => rfl) ?_
            refine tK (l := xk_185) rfl rfl (hGetR (o := some 153) hs rfl rfl rfl (by decide) (by decide) rfl) ?_
            refine tK (l := xk_185) rfl rfl (fun _ _ _ _ _ => rfl) ?_
            first | refine tK (l := xk_185) rfl rfl (hIaldN hs rfl rfl (by omega)) ?_ | refine tK (l := xk_185) rfl rfl (hIald hs rfl (by omega) (by omega)) ?_
            rw [e53]
            first | refine tK (l := xk_185) rfl rfl (hIastN hs rfl rfl (by omega)) ?_ | refine tK (l := xk_185) rfl rfl (hIast hs rfl (by omega) (by omega)) ?_
            refine tSt (l := xk_185) rfl rfl (hIinc rfl (Nat.le_of_ble_eq_true rfl) ⟨by omega, by omega⟩) (Nat.le_of_ble_eq_true rfl) ?_
            refine tK (l := xk_185) rfl rfl (fun _ _ _ _ _ => rfl) ?_
            have rd := hRd_up (x := x) hs (show hKi (hTg 148) (201 + i) = true from rfl) (by omega)
            refine ih (i + 1) _ (by omega) (hShI1 _ hs rfl rfl) (hf.trans (hFM_a hs rfl (by omega) (by decide) (by decide))) (fun j hj => by rw [rd, if_neg (by omega)]; exact hlow j hj) (by rw [rd, if_neg (by omega)]; exact h200) (fun j y hj hy => ?_)
            rw [rd]
            by_cases e : j = i
            · rw [if_pos ⟨rfl, by rw [e]⟩]; subst e; rw [hx] at hy; cases hy; rfl
            · rw [if_neg (by omega)]; exact hnew j y (by omega) hy
          · have hc49 := hc
            exfalso; omega
      exact loop1 (ocD D).1.length 0 _ (by omega) s5 f5 (fun j hj => by rw [r5, if_neg (by omega)]) (by rw [r5, if_pos ⟨rfl, rfl⟩]) (fun j x hj => absurd hj (by omega))
end MRN
