/-! ===== areAlike ===== -/
section ALK
variable {zs : List xV} {R : xH} {xo : Int} {d g B : Nat} {Q : xR → Prop} {t1 t2 : List Int} {st : SS} {n1 n2 : Option SS} {e1 e2 : List SS}
theorem kAl_c {v : Nat} {w : List Int} (hv8 : v < 8) (hv : st.1 v = some w) (hl : w.length ≤ 24) (hK : ∀ R2 (j : Int), hPP zs R2 ((t1, st, n1, e1), (t2, st, n2, e2)) xo → xT (d + 5) 143 261 (xlo [some (.inr (.inl (some (ob false)))), some (.inr (.inl (some (ob true)))), some (.inl 1), some (.inl (v : Int)), some (.inl j)]) [] R2 g Q) : ∀ (n j : Nat) (R : xH), w.length - j ≤ n → hPP zs R ((t1, st, n1, e1), (t2, st, n2, e2)) xo → xT (d + 5) 143 210 (xlo [some (.inr (.inl (some (ob false)))), some (.inr (.inl (some (ob true)))), some (.inl 1), some (.inl (v : Int)), some (.inl (j : Int))]) [] R g Q := by
  intro n
  induction n with
  | zero =>
    intro j R hn hR
    refine tK (l := xk_143) rfl rfl (fun _ _ _ _ _ => rfl) ?_
    refine tIf_eq (l := xk_143) (pc' := 261) rfl rfl rfl (fun hc => ?_) (fun hc => ?_)
    · exfalso
      exact absurd hc (by decide)
    refine tK (l := xk_143) rfl rfl (fun _ _ _ _ _ => rfl) ?_
    refine tK (l := xk_143) rfl rfl (fun _ _ _ _ _ => rfl) ?_
    refine tCa (l := xk_143) rfl rfl (kInvV hR rfl rfl rfl rfl (Nat.le_of_ble_eq_true rfl) (Nat.le_of_ble_eq_true rfl)) ?_
    refine k107 (s := ((t1, st, n1, e1), (t2, st, n2, e2))) false hv8 hR (fun R1_ hR1_ => ?_)
    refine tKv ?_
    refine tIf_eq (l := xk_143) (pc' := 261) rfl rfl rfl (fun hc => ?_) (fun hc => ?_)
    · exfalso
      rw [show (gt2 false ((t1, st, n1, e1), (t2, st, n2, e2))).2.1.1 v = some w from hv] at hc
      exact absurd hc (show ¬ ((1 : Int) = 0) by decide)
    refine tK (l := xk_143) rfl rfl (fun _ _ _ _ _ => rfl) ?_
    refine tK (l := xk_143) rfl rfl (fun _ _ _ _ _ => rfl) ?_
    refine tK (l := xk_143) rfl rfl (fun _ _ _ _ _ => rfl) ?_
    refine tCa (l := xk_143) rfl rfl (kInvV hR1_ rfl rfl rfl rfl (Nat.le_of_ble_eq_true rfl) (Nat.le_of_ble_eq_true rfl)) ?_
    refine k136 (s := ((t1, st, n1, e1), (t2, st, n2, e2))) false hv8 hv hR1_ (fun R2_ hR2_ => ?_)
    refine tKv ?_
    refine tIc_ge (l := xk_143) (pc' := 261) rfl rfl rfl (fun hc => ?_) (fun hc => ?_)
    · exfalso
      omega
    exact hK _ _ hR2_
  | succ n ih =>
    intro j R hn hR
    refine tK (l := xk_143) rfl rfl (fun _ _ _ _ _ => rfl) ?_
    refine tIf_eq (l := xk_143) (pc' := 261) rfl rfl rfl (fun hc => ?_) (fun hc => ?_)
    · exfalso
      exact absurd hc (by decide)
    refine tK (l := xk_143) rfl rfl (fun _ _ _ _ _ => rfl) ?_
    refine tK (l := xk_143) rfl rfl (fun _ _ _ _ _ => rfl) ?_
    refine tCa (l := xk_143) rfl rfl (kInvV hR rfl rfl rfl rfl (Nat.le_of_ble_eq_true rfl) (Nat.le_of_ble_eq_true rfl)) ?_
    refine k107 (s := ((t1, st, n1, e1), (t2, st, n2, e2))) false hv8 hR (fun R1_ hR1_ => ?_)
    refine tKv ?_
    refine tIf_eq (l := xk_143) (pc' := 261) rfl rfl rfl (fun hc => ?_) (fun hc => ?_)
    · exfalso
      rw [show (gt2 false ((t1, st, n1, e1), (t2, st, n2, e2))).2.1.1 v = some w from hv] at hc
      exact absurd hc (show ¬ ((1 : Int) = 0) by decide)
    refine tK (l := xk_143) rfl rfl (fun _ _ _ _ _ => rfl) ?_
    refine tK (l := xk_143) rfl rfl (fun _ _ _ _ _ => rfl) ?_
    refine tK (l := xk_143) rfl rfl (fun _ _ _ _ _ => rfl) ?_
    refine tCa (l := xk_143) rfl rfl (kInvV hR1_ rfl rfl rfl rfl (Nat.le_of_ble_eq_true rfl) (Nat.le_of_ble_eq_true rfl)) ?_
    refine k136 (s := ((t1, st, n1, e1), (t2, st, n2, e2))) false hv8 hv hR1_ (fun R2_ hR2_ => ?_)
    refine tKv ?_
    refine tIc_ge (l := xk_143) (pc' := 261) rfl rfl rfl (fun hc => ?_) (fun hc => ?_)
    · skip
      have hlt : j < w.length := by omega
      have hx : w[j]? = some w[j] := List.getElem?_eq_getElem hlt
      refine tK (l := xk_143) rfl rfl (fun _ _ _ _ _ => rfl) ?_
      refine tK (l := xk_143) rfl rfl (fun _ _ _ _ _ => rfl) ?_
      refine tK (l := xk_143) rfl rfl (fun _ _ _ _ _ => rfl) ?_
      refine tCa (l := xk_143) rfl rfl (kInvV hR2_ rfl rfl rfl rfl (Nat.le_of_ble_eq_true rfl) (Nat.le_of_ble_eq_true rfl)) ?_
      refine k137 (s := ((t1, st, n1, e1), (t2, st, n2, e2))) false hv8 hv hx hR2_ (fun R3_ hR3_ => ?_)
      refine tKv ?_
      refine tK (l := xk_143) rfl rfl (fun _ _ _ _ _ => rfl) ?_
      refine tK (l := xk_143) rfl rfl (fun _ _ _ _ _ => rfl) ?_
      refine tK (l := xk_143) rfl rfl (fun _ _ _ _ _ => rfl) ?_
      refine tCa (l := xk_143) rfl rfl (kInvV hR3_ rfl rfl rfl rfl (Nat.le_of_ble_eq_true rfl) (Nat.le_of_ble_eq_true rfl)) ?_
      refine k137 (s := ((t1, st, n1, e1), (t2, st, n2, e2))) true hv8 hv hx hR3_ (fun R4_ hR4_ => ?_)
      refine tKv ?_
      refine tIc_ne (l := xk_143) (pc' := 253) rfl rfl rfl (fun hc => ?_) (fun hc => ?_)
      rotate_left
      · exfalso
        exact hc rfl
      refine tK (l := xk_143) rfl rfl (fun _ _ _ _ _ => rfl) ?_
      refine tK (l := xk_143) rfl rfl (fun _ _ _ _ _ => rfl) ?_
      refine tSt (l := xk_143) rfl rfl (fun _ _ _ _ _ => rfl) (Nat.le_of_ble_eq_true rfl) ?_
      refine tSt (l := xk_143) rfl rfl (hIinc rfl (Nat.le_of_ble_eq_true rfl) ⟨by omega, by omega⟩) (Nat.le_of_ble_eq_true rfl) ?_
      refine tK (l := xk_143) rfl rfl (fun _ _ _ _ _ => rfl) ?_
      have e9 : (j : Int) + 1 = ((j + 1 : Nat) : Int) := by omega
      have h9 := ih (j + 1) _ (by omega) hR4_
      rw [← e9] at h9
      exact h9
    · skip
      exact hK _ _ hR2_
theorem kAl_b (hst : okT B st) (hQ : ∀ R2, hPP zs R2 ((t1, st, n1, e1), (t2, st, n2, e2)) xo → Q (.inl (some (.inl 1)), R2, g)) : ∀ (n v : Nat) (R : xH) (c4 : Option xV), 8 - v ≤ n → hPP zs R ((t1, st, n1, e1), (t2, st, n2, e2)) xo → xT (d + 5) 143 157 (xlo [some (.inr (.inl (some (ob false)))), some (.inr (.inl (some (ob true)))), some (.inl 1), some (.inl (v : Int)), c4]) [] R g Q := by
  intro n
  induction n with
  | zero =>
    intro v R c4 hn hR
    refine tK (l := xk_143) rfl rfl (fun _ _ _ _ _ => rfl) ?_
    refine tK (l := xk_143) rfl rfl (fun _ _ _ _ _ => rfl) ?_
    refine tIc_ge (l := xk_143) (pc' := 267) rfl rfl rfl (fun hc => ?_) (fun hc => ?_)
    · exfalso
      omega
    refine tK (l := xk_143) rfl rfl (fun _ _ _ _ _ => rfl) ?_
    refine tRt (l := xk_143) rfl rfl (fun _ _ _ _ _ => rfl) ?_
    exact hQ R hR
  | succ n ih =>
    intro v R c4 hn hR
    refine tK (l := xk_143) rfl rfl (fun _ _ _ _ _ => rfl) ?_
    refine tK (l := xk_143) rfl rfl (fun _ _ _ _ _ => rfl) ?_
    refine tIc_ge (l := xk_143) (pc' := 267) rfl rfl rfl (fun hc => ?_) (fun hc => ?_)
    · skip
      have hv8 : v < 8 := by omega
      have hK : ∀ R2 (j : Int), hPP zs R2 ((t1, st, n1, e1), (t2, st, n2, e2)) xo → xT (d + 5) 143 261 (xlo [some (.inr (.inl (some (ob false)))), some (.inr (.inl (some (ob true)))), some (.inl 1), some (.inl (v : Int)), some (.inl j)]) [] R2 g Q := by
        intro R2 j hR2
        refine tSt (l := xk_143) rfl rfl (hIinc rfl (Nat.le_of_ble_eq_true rfl) ⟨by omega, by omega⟩) (Nat.le_of_ble_eq_true rfl) ?_
        refine tK (l := xk_143) rfl rfl (fun _ _ _ _ _ => rfl) ?_
        have e9 : (v : Int) + 1 = ((v + 1 : Nat) : Int) := by omega
        have h9 := ih (v + 1) R2 (some (.inl j)) (by omega) hR2
        rw [← e9] at h9
        exact h9
      cases hv : st.1 v with
      | none =>
        refine tK (l := xk_143) rfl rfl (fun _ _ _ _ _ => rfl) ?_
        refine tIf_eq (l := xk_143) (pc' := 267) rfl rfl rfl (fun hc => ?_) (fun hc => ?_)
        · exfalso
          exact absurd hc (by decide)
        refine tK (l := xk_143) rfl rfl (fun _ _ _ _ _ => rfl) ?_
        refine tK (l := xk_143) rfl rfl (fun _ _ _ _ _ => rfl) ?_
        refine tCa (l := xk_143) rfl rfl (kInvV hR rfl rfl rfl rfl (Nat.le_of_ble_eq_true rfl) (Nat.le_of_ble_eq_true rfl)) ?_
        refine k107 (s := ((t1, st, n1, e1), (t2, st, n2, e2))) false hv8 hR (fun R1_ hR1_ => ?_)
        refine tKv ?_
        refine tK (l := xk_143) rfl rfl (fun _ _ _ _ _ => rfl) ?_
        refine tK (l := xk_143) rfl rfl (fun _ _ _ _ _ => rfl) ?_
        refine tCa (l := xk_143) rfl rfl (kInvV hR1_ rfl rfl rfl rfl (Nat.le_of_ble_eq_true rfl) (Nat.le_of_ble_eq_true rfl)) ?_
        refine k107 (s := ((t1, st, n1, e1), (t2, st, n2, e2))) true hv8 hR1_ (fun R2_ hR2_ => ?_)
        refine tKv ?_
        refine tIc_ne (l := xk_143) (pc' := 205) rfl rfl rfl (fun hc => ?_) (fun hc => ?_)
        rotate_left
        · exfalso
          exact hc rfl
        refine tK (l := xk_143) rfl rfl (fun _ _ _ _ _ => rfl) ?_
        refine tK (l := xk_143) rfl rfl (fun _ _ _ _ _ => rfl) ?_
        refine tCa (l := xk_143) rfl rfl (kInvV hR2_ rfl rfl rfl rfl (Nat.le_of_ble_eq_true rfl) (Nat.le_of_ble_eq_true rfl)) ?_
        refine k107 (s := ((t1, st, n1, e1), (t2, st, n2, e2))) false hv8 hR2_ (fun R3_ hR3_ => ?_)
        refine tKv ?_
        refine tIf_eq (l := xk_143) (pc' := 201) rfl rfl rfl (fun hc => ?_) (fun hc => ?_)
        rotate_left
        · exfalso
          rw [show (gt2 false ((t1, st, n1, e1), (t2, st, n2, e2))).2.1.1 v = none from hv] at hc
          exact hc rfl
        refine tK (l := xk_143) rfl rfl (fun _ _ _ _ _ => rfl) ?_
        refine tK (l := xk_143) rfl rfl (fun _ _ _ _ _ => rfl) ?_
        refine tSt (l := xk_143) rfl rfl (fun _ _ _ _ _ => rfl) (Nat.le_of_ble_eq_true rfl) ?_
        refine tK (l := xk_143) rfl rfl (fun _ _ _ _ _ => rfl) ?_
        refine tSt (l := xk_143) rfl rfl (fun _ _ _ _ _ => rfl) (Nat.le_of_ble_eq_true rfl) ?_
        refine tK (l := xk_143) rfl rfl (fun _ _ _ _ _ => rfl) ?_
        refine tIf_eq (l := xk_143) (pc' := 261) rfl rfl rfl (fun hc => ?_) (fun hc => ?_)
        · exfalso
          exact absurd hc (by decide)
        refine tK (l := xk_143) rfl rfl (fun _ _ _ _ _ => rfl) ?_
        refine tK (l := xk_143) rfl rfl (fun _ _ _ _ _ => rfl) ?_
        refine tCa (l := xk_143) rfl rfl (kInvV hR3_ rfl rfl rfl rfl (Nat.le_of_ble_eq_true rfl) (Nat.le_of_ble_eq_true rfl)) ?_
        refine k107 (s := ((t1, st, n1, e1), (t2, st, n2, e2))) false hv8 hR3_ (fun R4_ hR4_ => ?_)
        refine tKv ?_
        refine tIf_eq (l := xk_143) (pc' := 261) rfl rfl rfl (fun hc => ?_) (fun hc => ?_)
        rotate_left
        · exfalso
          rw [show (gt2 false ((t1, st, n1, e1), (t2, st, n2, e2))).2.1.1 v = none from hv] at hc
          exact hc rfl
        exact hK _ _ hR4_
      | some w =>
        refine tK (l := xk_143) rfl rfl (fun _ _ _ _ _ => rfl) ?_
        refine tIf_eq (l := xk_143) (pc' := 267) rfl rfl rfl (fun hc => ?_) (fun hc => ?_)
        · exfalso
          exact absurd hc (by decide)
        refine tK (l := xk_143) rfl rfl (fun _ _ _ _ _ => rfl) ?_
        refine tK (l := xk_143) rfl rfl (fun _ _ _ _ _ => rfl) ?_
        refine tCa (l := xk_143) rfl rfl (kInvV hR rfl rfl rfl rfl (Nat.le_of_ble_eq_true rfl) (Nat.le_of_ble_eq_true rfl)) ?_
        refine k107 (s := ((t1, st, n1, e1), (t2, st, n2, e2))) false hv8 hR (fun R1_ hR1_ => ?_)
        refine tKv ?_
        refine tK (l := xk_143) rfl rfl (fun _ _ _ _ _ => rfl) ?_
        refine tK (l := xk_143) rfl rfl (fun _ _ _ _ _ => rfl) ?_
        refine tCa (l := xk_143) rfl rfl (kInvV hR1_ rfl rfl rfl rfl (Nat.le_of_ble_eq_true rfl) (Nat.le_of_ble_eq_true rfl)) ?_
        refine k107 (s := ((t1, st, n1, e1), (t2, st, n2, e2))) true hv8 hR1_ (fun R2_ hR2_ => ?_)
        refine tKv ?_
        refine tIc_ne (l := xk_143) (pc' := 205) rfl rfl rfl (fun hc => ?_) (fun hc => ?_)
        rotate_left
        · exfalso
          exact hc rfl
        refine tK (l := xk_143) rfl rfl (fun _ _ _ _ _ => rfl) ?_
        refine tK (l := xk_143) rfl rfl (fun _ _ _ _ _ => rfl) ?_
        refine tCa (l := xk_143) rfl rfl (kInvV hR2_ rfl rfl rfl rfl (Nat.le_of_ble_eq_true rfl) (Nat.le_of_ble_eq_true rfl)) ?_
        refine k107 (s := ((t1, st, n1, e1), (t2, st, n2, e2))) false hv8 hR2_ (fun R3_ hR3_ => ?_)
        refine tKv ?_
        refine tIf_eq (l := xk_143) (pc' := 201) rfl rfl rfl (fun hc => ?_) (fun hc => ?_)
        · exfalso
          rw [show (gt2 false ((t1, st, n1, e1), (t2, st, n2, e2))).2.1.1 v = some w from hv] at hc
          exact absurd hc (show ¬ ((1 : Int) = 0) by decide)
        refine tK (l := xk_143) rfl rfl (fun _ _ _ _ _ => rfl) ?_
        refine tK (l := xk_143) rfl rfl (fun _ _ _ _ _ => rfl) ?_
        refine tCa (l := xk_143) rfl rfl (kInvV hR3_ rfl rfl rfl rfl (Nat.le_of_ble_eq_true rfl) (Nat.le_of_ble_eq_true rfl)) ?_
        refine k136 (s := ((t1, st, n1, e1), (t2, st, n2, e2))) false hv8 hv hR3_ (fun R4_ hR4_ => ?_)
        refine tKv ?_
        refine tK (l := xk_143) rfl rfl (fun _ _ _ _ _ => rfl) ?_
        refine tK (l := xk_143) rfl rfl (fun _ _ _ _ _ => rfl) ?_
        refine tCa (l := xk_143) rfl rfl (kInvV hR4_ rfl rfl rfl rfl (Nat.le_of_ble_eq_true rfl) (Nat.le_of_ble_eq_true rfl)) ?_
        refine k136 (s := ((t1, st, n1, e1), (t2, st, n2, e2))) true hv8 hv hR4_ (fun R5_ hR5_ => ?_)
        refine tKv ?_
        refine tIc_ne (l := xk_143) (pc' := 205) rfl rfl rfl (fun hc => ?_) (fun hc => ?_)
        rotate_left
        · exfalso
          exact hc rfl
        refine tK (l := xk_143) rfl rfl (fun _ _ _ _ _ => rfl) ?_
        refine tK (l := xk_143) rfl rfl (fun _ _ _ _ _ => rfl) ?_
        refine tSt (l := xk_143) rfl rfl (fun _ _ _ _ _ => rfl) (Nat.le_of_ble_eq_true rfl) ?_
        refine tK (l := xk_143) rfl rfl (fun _ _ _ _ _ => rfl) ?_
        refine tSt (l := xk_143) rfl rfl (fun _ _ _ _ _ => rfl) (Nat.le_of_ble_eq_true rfl) ?_
        exact kAl_c hv8 hv (hst.1 v hv8 w hv).2 hK 24 0 _ (by have := (hst.1 v hv8 w hv).2; omega) hR5_
    · skip
      refine tK (l := xk_143) rfl rfl (fun _ _ _ _ _ => rfl) ?_
      refine tRt (l := xk_143) rfl rfl (fun _ _ _ _ _ => rfl) ?_
      exact hQ R hR
theorem kAl_a (hst : okT B st) (h200 : st.2.1.1.length ≤ 200) (hQ : ∀ R2, hPP zs R2 ((t1, st, n1, e1), (t2, st, n2, e2)) xo → Q (.inl (some (.inl 1)), R2, g)) : ∀ (n k : Nat) (R : xH) (c4 : Option xV), st.2.1.1.length - k ≤ n → hPP zs R ((t1, st, n1, e1), (t2, st, n2, e2)) xo → xT (d + 5) 143 118 (xlo [some (.inr (.inl (some (ob false)))), some (.inr (.inl (some (ob true)))), some (.inl 1), some (.inl (k : Int)), c4]) [] R g Q := by
  intro n
  induction n with
  | zero =>
    intro k R c4 hn hR
    refine tK (l := xk_143) rfl rfl (fun _ _ _ _ _ => rfl) ?_
    refine tK (l := xk_143) rfl rfl (fun _ _ _ _ _ => rfl) ?_
    refine tCa (l := xk_143) rfl rfl (kInvV hR rfl rfl rfl rfl (Nat.le_of_ble_eq_true rfl) (Nat.le_of_ble_eq_true rfl)) ?_
    refine k87 (s := ((t1, st, n1, e1), (t2, st, n2, e2))) false hR (fun R1_ hR1_ => ?_)
    refine tKv ?_
    refine tIc_ge (l := xk_143) (pc' := 155) rfl rfl rfl (fun hc => ?_) (fun hc => ?_)
    · exfalso
      have : (((gt2 false ((t1, st, n1, e1), (t2, st, n2, e2))).2.1.2.1.1.length : Nat) : Int) = (st.2.1.1.length : Int) := rfl
      omega
    refine tK (l := xk_143) rfl rfl (fun _ _ _ _ _ => rfl) ?_
    refine tSt (l := xk_143) rfl rfl (fun _ _ _ _ _ => rfl) (Nat.le_of_ble_eq_true rfl) ?_
    exact kAl_b hst hQ 8 0 _ _ (by decide) hR1_
  | succ n ih =>
    intro k R c4 hn hR
    refine tK (l := xk_143) rfl rfl (fun _ _ _ _ _ => rfl) ?_
    refine tK (l := xk_143) rfl rfl (fun _ _ _ _ _ => rfl) ?_
    refine tCa (l := xk_143) rfl rfl (kInvV hR rfl rfl rfl rfl (Nat.le_of_ble_eq_true rfl) (Nat.le_of_ble_eq_true rfl)) ?_
    refine k87 (s := ((t1, st, n1, e1), (t2, st, n2, e2))) false hR (fun R1_ hR1_ => ?_)
    refine tKv ?_
    refine tIc_ge (l := xk_143) (pc' := 155) rfl rfl rfl (fun hc => ?_) (fun hc => ?_)
    · skip
      have hlt : k < st.2.1.1.length := by
        have : (((gt2 false ((t1, st, n1, e1), (t2, st, n2, e2))).2.1.2.1.1.length : Nat) : Int) = (st.2.1.1.length : Int) := rfl
        omega
      have hx : st.2.1.1[k]? = some st.2.1.1[k] := List.getElem?_eq_getElem hlt
      refine tK (l := xk_143) rfl rfl (fun _ _ _ _ _ => rfl) ?_
      refine tIf_eq (l := xk_143) (pc' := 155) rfl rfl rfl (fun hc => ?_) (fun hc => ?_)
      · exfalso
        exact absurd hc (by decide)
      refine tK (l := xk_143) rfl rfl (fun _ _ _ _ _ => rfl) ?_
      refine tK (l := xk_143) rfl rfl (fun _ _ _ _ _ => rfl) ?_
      refine tCa (l := xk_143) rfl rfl (kInvV hR1_ rfl rfl rfl rfl (Nat.le_of_ble_eq_true rfl) (Nat.le_of_ble_eq_true rfl)) ?_
      refine k139 (s := ((t1, st, n1, e1), (t2, st, n2, e2))) false hx hR1_ (fun R2_ hR2_ => ?_)
      refine tKv ?_
      refine tK (l := xk_143) rfl rfl (fun _ _ _ _ _ => rfl) ?_
      refine tK (l := xk_143) rfl rfl (fun _ _ _ _ _ => rfl) ?_
      refine tCa (l := xk_143) rfl rfl (kInvV hR2_ rfl rfl rfl rfl (Nat.le_of_ble_eq_true rfl) (Nat.le_of_ble_eq_true rfl)) ?_
      refine k139 (s := ((t1, st, n1, e1), (t2, st, n2, e2))) true hx hR2_ (fun R3_ hR3_ => ?_)
      refine tKv ?_
      refine tIc_ne (l := xk_143) (pc' := 147) rfl rfl rfl (fun hc => ?_) (fun hc => ?_)
      rotate_left
      · exfalso
        exact hc rfl
      refine tK (l := xk_143) rfl rfl (fun _ _ _ _ _ => rfl) ?_
      refine tK (l := xk_143) rfl rfl (fun _ _ _ _ _ => rfl) ?_
      refine tSt (l := xk_143) rfl rfl (fun _ _ _ _ _ => rfl) (Nat.le_of_ble_eq_true rfl) ?_
      refine tSt (l := xk_143) rfl rfl (hIinc rfl (Nat.le_of_ble_eq_true rfl) ⟨by omega, by omega⟩) (Nat.le_of_ble_eq_true rfl) ?_
      refine tK (l := xk_143) rfl rfl (fun _ _ _ _ _ => rfl) ?_
      have e9 : (k : Int) + 1 = ((k + 1 : Nat) : Int) := by omega
      have h9 := ih (k + 1) _ c4 (by omega) hR3_
      rw [← e9] at h9
      exact h9
    · skip
      refine tK (l := xk_143) rfl rfl (fun _ _ _ _ _ => rfl) ?_
      refine tSt (l := xk_143) rfl rfl (fun _ _ _ _ _ => rfl) (Nat.le_of_ble_eq_true rfl) ?_
      exact kAl_b hst hQ 8 0 _ _ (by decide) hR1_
theorem kAl (hst : okT B st) (hR : hPP zs R ((t1, st, n1, e1), (t2, st, n2, e2)) xo) (hQ : ∀ R2, hPP zs R2 ((t1, st, n1, e1), (t2, st, n2, e2)) xo → Q (.inl (some (.inl 1)), R2, g)) : xTC (d + 5) 143 [.inr (.inl (some (ob false))), .inr (.inl (some (ob true)))] R g Q := by
  have h200 : st.2.1.1.length ≤ 200 := by
    obtain ⟨-, ⟨ou, r, s9, p, e, v9, pl, e9, h1, h2, -⟩, -⟩ := hst
    rw [e9]; exact h2
  refine tEn (ls := [some (.inr (.inl (some (ob false)))), some (.inr (.inl (some (ob true)))), none, none, none]) (fun k => by match k with | 0 => rfl | 1 => rfl | 2 => rfl | 3 => rfl | 4 => rfl | k + 5 => rfl) ?_
  refine tK (l := xk_143) rfl rfl (fun _ _ _ _ _ => rfl) ?_
  refine tCa (l := xk_143) rfl rfl (kInvV hR rfl rfl rfl rfl (Nat.le_of_ble_eq_true rfl) (Nat.le_of_ble_eq_true rfl)) ?_
  refine k87 (s := ((t1, st, n1, e1), (t2, st, n2, e2))) false hR (fun R1_ hR1_ => ?_)
  refine tKv ?_
  refine tK (l := xk_143) rfl rfl (fun _ _ _ _ _ => rfl) ?_
  refine tCa (l := xk_143) rfl rfl (kInvV hR1_ rfl rfl rfl rfl (Nat.le_of_ble_eq_true rfl) (Nat.le_of_ble_eq_true rfl)) ?_
  refine k87 (s := ((t1, st, n1, e1), (t2, st, n2, e2))) true hR1_ (fun R2_ hR2_ => ?_)
  refine tKv ?_
  refine tIc_ne (l := xk_143) (pc' := 114) rfl rfl rfl (fun hc => ?_) (fun hc => ?_)
  rotate_left
  · exfalso
    exact hc rfl
  refine tK (l := xk_143) rfl rfl (fun _ _ _ _ _ => rfl) ?_
  refine tCa (l := xk_143) rfl rfl (kInvV hR2_ rfl rfl rfl rfl (Nat.le_of_ble_eq_true rfl) (Nat.le_of_ble_eq_true rfl)) ?_
  refine k88 (s := ((t1, st, n1, e1), (t2, st, n2, e2))) false hR2_ (fun R3_ hR3_ => ?_)
  refine tKv ?_
  refine tK (l := xk_143) rfl rfl (fun _ _ _ _ _ => rfl) ?_
  refine tCa (l := xk_143) rfl rfl (kInvV hR3_ rfl rfl rfl rfl (Nat.le_of_ble_eq_true rfl) (Nat.le_of_ble_eq_true rfl)) ?_
  refine k88 (s := ((t1, st, n1, e1), (t2, st, n2, e2))) true hR3_ (fun R4_ hR4_ => ?_)
  refine tKv ?_
  refine tIc_ne (l := xk_143) (pc' := 114) rfl rfl rfl (fun hc => ?_) (fun hc => ?_)
  rotate_left
  · exfalso
    exact hc rfl
  refine tK (l := xk_143) rfl rfl (fun _ _ _ _ _ => rfl) ?_
  refine tCa (l := xk_143) rfl rfl (kInvV hR4_ rfl rfl rfl rfl (Nat.le_of_ble_eq_true rfl) (Nat.le_of_ble_eq_true rfl)) ?_
  refine k89 (s := ((t1, st, n1, e1), (t2, st, n2, e2))) false hR4_ (fun R5_ hR5_ => ?_)
  refine tKv ?_
  refine tK (l := xk_143) rfl rfl (fun _ _ _ _ _ => rfl) ?_
  refine tCa (l := xk_143) rfl rfl (kInvV hR5_ rfl rfl rfl rfl (Nat.le_of_ble_eq_true rfl) (Nat.le_of_ble_eq_true rfl)) ?_
  refine k89 (s := ((t1, st, n1, e1), (t2, st, n2, e2))) true hR5_ (fun R6_ hR6_ => ?_)
  refine tKv ?_
  refine tIc_ne (l := xk_143) (pc' := 114) rfl rfl rfl (fun hc => ?_) (fun hc => ?_)
  rotate_left
  · exfalso
    exact hc rfl
  refine tK (l := xk_143) rfl rfl (fun _ _ _ _ _ => rfl) ?_
  refine tCa (l := xk_143) rfl rfl (kInvV hR6_ rfl rfl rfl rfl (Nat.le_of_ble_eq_true rfl) (Nat.le_of_ble_eq_true rfl)) ?_
  refine k90 (s := ((t1, st, n1, e1), (t2, st, n2, e2))) false hR6_ (fun R7_ hR7_ => ?_)
  refine tKv ?_
  refine tK (l := xk_143) rfl rfl (fun _ _ _ _ _ => rfl) ?_
  refine tCa (l := xk_143) rfl rfl (kInvV hR7_ rfl rfl rfl rfl (Nat.le_of_ble_eq_true rfl) (Nat.le_of_ble_eq_true rfl)) ?_
  refine k90 (s := ((t1, st, n1, e1), (t2, st, n2, e2))) true hR7_ (fun R8_ hR8_ => ?_)
  refine tKv ?_
  refine tIc_ne (l := xk_143) (pc' := 114) rfl rfl rfl (fun hc => ?_) (fun hc => ?_)
  rotate_left
  · exfalso
    exact hc rfl
  refine tK (l := xk_143) rfl rfl (fun _ _ _ _ _ => rfl) ?_
  refine tCa (l := xk_143) rfl rfl (kInvV hR8_ rfl rfl rfl rfl (Nat.le_of_ble_eq_true rfl) (Nat.le_of_ble_eq_true rfl)) ?_
  refine k91 (s := ((t1, st, n1, e1), (t2, st, n2, e2))) false hR8_ (fun R9_ hR9_ => ?_)
  refine tKv ?_
  refine tK (l := xk_143) rfl rfl (fun _ _ _ _ _ => rfl) ?_
  refine tCa (l := xk_143) rfl rfl (kInvV hR9_ rfl rfl rfl rfl (Nat.le_of_ble_eq_true rfl) (Nat.le_of_ble_eq_true rfl)) ?_
  refine k91 (s := ((t1, st, n1, e1), (t2, st, n2, e2))) true hR9_ (fun R10_ hR10_ => ?_)
  refine tKv ?_
  refine tIc_ne (l := xk_143) (pc' := 114) rfl rfl rfl (fun hc => ?_) (fun hc => ?_)
  rotate_left
  · exfalso
    exact hc rfl
  refine tK (l := xk_143) rfl rfl (fun _ _ _ _ _ => rfl) ?_
  refine tCa (l := xk_143) rfl rfl (kInvV hR10_ rfl rfl rfl rfl (Nat.le_of_ble_eq_true rfl) (Nat.le_of_ble_eq_true rfl)) ?_
  refine k92 (s := ((t1, st, n1, e1), (t2, st, n2, e2))) false hR10_ (fun R11_ hR11_ => ?_)
  refine tKv ?_
  refine tK (l := xk_143) rfl rfl (fun _ _ _ _ _ => rfl) ?_
  refine tCa (l := xk_143) rfl rfl (kInvV hR11_ rfl rfl rfl rfl (Nat.le_of_ble_eq_true rfl) (Nat.le_of_ble_eq_true rfl)) ?_
  refine k92 (s := ((t1, st, n1, e1), (t2, st, n2, e2))) true hR11_ (fun R12_ hR12_ => ?_)
  refine tKv ?_
  refine tIc_ne (l := xk_143) (pc' := 114) rfl rfl rfl (fun hc => ?_) (fun hc => ?_)
  rotate_left
  · exfalso
    exact hc rfl
  refine tK (l := xk_143) rfl rfl (fun _ _ _ _ _ => rfl) ?_
  refine tCa (l := xk_143) rfl rfl (kInvV hR12_ rfl rfl rfl rfl (Nat.le_of_ble_eq_true rfl) (Nat.le_of_ble_eq_true rfl)) ?_
  refine k93 (s := ((t1, st, n1, e1), (t2, st, n2, e2))) false hR12_ (fun R13_ hR13_ => ?_)
  refine tKv ?_
  refine tK (l := xk_143) rfl rfl (fun _ _ _ _ _ => rfl) ?_
  refine tCa (l := xk_143) rfl rfl (kInvV hR13_ rfl rfl rfl rfl (Nat.le_of_ble_eq_true rfl) (Nat.le_of_ble_eq_true rfl)) ?_
  refine k93 (s := ((t1, st, n1, e1), (t2, st, n2, e2))) true hR13_ (fun R14_ hR14_ => ?_)
  refine tKv ?_
  refine tIc_ne (l := xk_143) (pc' := 114) rfl rfl rfl (fun hc => ?_) (fun hc => ?_)
  rotate_left
  · exfalso
    exact hc rfl
  refine tK (l := xk_143) rfl rfl (fun _ _ _ _ _ => rfl) ?_
  refine tCa (l := xk_143) rfl rfl (kInvV hR14_ rfl rfl rfl rfl (Nat.le_of_ble_eq_true rfl) (Nat.le_of_ble_eq_true rfl)) ?_
  refine k94 (s := ((t1, st, n1, e1), (t2, st, n2, e2))) false hR14_ (fun R15_ hR15_ => ?_)
  refine tKv ?_
  refine tK (l := xk_143) rfl rfl (fun _ _ _ _ _ => rfl) ?_
  refine tCa (l := xk_143) rfl rfl (kInvV hR15_ rfl rfl rfl rfl (Nat.le_of_ble_eq_true rfl) (Nat.le_of_ble_eq_true rfl)) ?_
  refine k94 (s := ((t1, st, n1, e1), (t2, st, n2, e2))) true hR15_ (fun R16_ hR16_ => ?_)
  refine tKv ?_
  refine tIc_ne (l := xk_143) (pc' := 114) rfl rfl rfl (fun hc => ?_) (fun hc => ?_)
  rotate_left
  · exfalso
    exact hc rfl
  refine tK (l := xk_143) rfl rfl (fun _ _ _ _ _ => rfl) ?_
  refine tCa (l := xk_143) rfl rfl (kInvV hR16_ rfl rfl rfl rfl (Nat.le_of_ble_eq_true rfl) (Nat.le_of_ble_eq_true rfl)) ?_
  refine k95 (s := ((t1, st, n1, e1), (t2, st, n2, e2))) false hR16_ (fun R17_ hR17_ => ?_)
  refine tKv ?_
  refine tK (l := xk_143) rfl rfl (fun _ _ _ _ _ => rfl) ?_
  refine tCa (l := xk_143) rfl rfl (kInvV hR17_ rfl rfl rfl rfl (Nat.le_of_ble_eq_true rfl) (Nat.le_of_ble_eq_true rfl)) ?_
  refine k95 (s := ((t1, st, n1, e1), (t2, st, n2, e2))) true hR17_ (fun R18_ hR18_ => ?_)
  refine tKv ?_
  refine tIc_ne (l := xk_143) (pc' := 114) rfl rfl rfl (fun hc => ?_) (fun hc => ?_)
  rotate_left
  · exfalso
    exact hc rfl
  refine tK (l := xk_143) rfl rfl (fun _ _ _ _ _ => rfl) ?_
  refine tCa (l := xk_143) rfl rfl (kInvV hR18_ rfl rfl rfl rfl (Nat.le_of_ble_eq_true rfl) (Nat.le_of_ble_eq_true rfl)) ?_
  refine k96 (s := ((t1, st, n1, e1), (t2, st, n2, e2))) false hR18_ (fun R19_ hR19_ => ?_)
  refine tKv ?_
  refine tK (l := xk_143) rfl rfl (fun _ _ _ _ _ => rfl) ?_
  refine tCa (l := xk_143) rfl rfl (kInvV hR19_ rfl rfl rfl rfl (Nat.le_of_ble_eq_true rfl) (Nat.le_of_ble_eq_true rfl)) ?_
  refine k96 (s := ((t1, st, n1, e1), (t2, st, n2, e2))) true hR19_ (fun R20_ hR20_ => ?_)
  refine tKv ?_
  refine tIc_ne (l := xk_143) (pc' := 114) rfl rfl rfl (fun hc => ?_) (fun hc => ?_)
  rotate_left
  · exfalso
    exact hc rfl
  refine tK (l := xk_143) rfl rfl (fun _ _ _ _ _ => rfl) ?_
  refine tK (l := xk_143) rfl rfl (fun _ _ _ _ _ => rfl) ?_
  refine tSt (l := xk_143) rfl rfl (fun _ _ _ _ _ => rfl) (Nat.le_of_ble_eq_true rfl) ?_
  refine tK (l := xk_143) rfl rfl (fun _ _ _ _ _ => rfl) ?_
  refine tSt (l := xk_143) rfl rfl (fun _ _ _ _ _ => rfl) (Nat.le_of_ble_eq_true rfl) ?_
  exact kAl_a hst h200 hQ 200 0 _ none (by omega) hR20_
end ALK
