/-! ===== types ===== -/
section TYP
variable {zs : List xV} {R : xH} {s : KS × KS} {xo : Int} {d g B : Nat} {Q : xR → Prop} {t : List Int} {u1 u2 : SS × Option SS × List SS}
theorem kTy_l {x w so nm many : Int} (hw : w = 0 ∨ w = 1) (hs : 0 ≤ so ∧ so < 9) (hn : 97 ≤ nm ∧ nm ≤ 101) (hm : many ≤ 5) (hQ : ∀ R2 t2, oks t2 → t2.length ≤ 60 → hPP zs R2 ((t2, u1), (t2, u2)) xo → Q (.inl none, R2, g)) : ∀ (n : Nat) (k told : Int) (t : List Int) (R : xH) (c9 c10 c11 : Option xV), many - k ≤ n → 0 ≤ k → oks t → t.length ≤ 60 → hPP zs R ((t, u1), (t, u2)) xo → xT (d + 5) 104 49 (xlo [some (.inr (.inl (some (ob false)))), some (.inr (.inl (some (ob true)))), some (.inl x), some (.inl w), some (.inl so), some (.inl nm), some (.inl told), some (.inl many), some (.inl k), c9, c10, c11]) [] R g Q := by
  intro n
  induction n with
  | zero =>
    intro k told t R c9 c10 c11 hk h0 ht hl hR
    refine tK (l := xk_104) rfl rfl (fun _ _ _ _ _ => rfl) ?_
    refine tK (l := xk_104) rfl rfl (fun _ _ _ _ _ => rfl) ?_
    refine tIc_ge (l := xk_104) (pc' := 238) rfl rfl rfl (fun hc => ?_) (fun hc => ?_)
    · exfalso
      omega
    refine tRt (l := xk_104) rfl rfl (fun _ _ _ _ _ => rfl) ?_
    exact hQ R t ht hl hR
  | succ n ih =>
    intro k told t R c9 c10 c11 hk h0 ht hl hR
    refine tK (l := xk_104) rfl rfl (fun _ _ _ _ _ => rfl) ?_
    refine tK (l := xk_104) rfl rfl (fun _ _ _ _ _ => rfl) ?_
    refine tIc_ge (l := xk_104) (pc' := 238) rfl rfl rfl (fun hc => ?_) (fun hc => ?_)
    · skip
      refine tK (l := xk_104) rfl rfl (fun _ _ _ _ _ => rfl) ?_
      refine tCa (l := xk_104) rfl rfl (kInvV hR rfl rfl rfl rfl (Nat.le_of_ble_eq_true rfl) (Nat.le_of_ble_eq_true rfl)) ?_
      refine k83 false hR (fun R1 hR1 => ?_)
      refine tKv ?_
      refine tK (l := xk_104) rfl rfl (fun _ _ _ _ _ => rfl) ?_
      refine tIc_ge (l := xk_104) (pc' := 238) rfl rfl rfl (fun hc => ?_) (fun hc => ?_)
      · skip
        have hlt : t.length < 60 := by
          have h9 : ¬ (60 : Int) ≤ (t.length : Int) := by
            intro q
            exact absurd hc (by first | exact Int.not_lt.mpr q | exact fun z => z q)
          omega
        have tC : ∀ sg ls cd : Int, 33 ≤ cd ∧ cd ≤ 126 → xT (d + 5) 104 215 (xlo [some (.inr (.inl (some (ob false)))), some (.inr (.inl (some (ob true)))), some (.inl x), some (.inl w), some (.inl so), some (.inl nm), some (.inl told), some (.inl many), some (.inl k), some (.inl sg), some (.inl ls), c11]) [.inl cd] R1 g Q := by
          intro sg ls cd hcd
          refine tSt (l := xk_104) rfl rfl (fun _ _ _ _ _ => rfl) (Nat.le_of_ble_eq_true rfl) ?_
          refine tK (l := xk_104) rfl rfl (fun _ _ _ _ _ => rfl) ?_
          refine tK (l := xk_104) rfl rfl (fun _ _ _ _ _ => rfl) ?_
          refine tCa (l := xk_104) rfl rfl (kInvV hR1 rfl rfl rfl rfl (Nat.le_of_ble_eq_true rfl) (Nat.le_of_ble_eq_true rfl)) ?_
          refine k126 (s := ((t, u1), (t, u2))) false hcd (show t.length < 60 by omega) hR1 (fun R2 hR2 => ?_)
          have hR2 : hPP zs R2 ((t ++ [cd], u1), (t, u2)) xo := hR2
          refine tKv ?_
          refine tK (l := xk_104) rfl rfl (fun _ _ _ _ _ => rfl) ?_
          refine tK (l := xk_104) rfl rfl (fun _ _ _ _ _ => rfl) ?_
          refine tCa (l := xk_104) rfl rfl (kInvV hR2 rfl rfl rfl rfl (Nat.le_of_ble_eq_true rfl) (Nat.le_of_ble_eq_true rfl)) ?_
          refine k126 (s := ((t ++ [cd], u1), (t, u2))) true hcd (show t.length < 60 by omega) hR2 (fun R3 hR3 => ?_)
          have hR3 : hPP zs R3 ((t ++ [cd], u1), (t ++ [cd], u2)) xo := hR3
          refine tKv ?_
          have hl1 : ((t ++ [cd]).length : Int) ≤ 60 := by simp only [List.length_append, List.length_cons, List.length_nil]; omega
          have hl2 : (((gt2 true ((t ++ [cd], u1), (t, u2))).1 ++ [cd]).length : Int) ≤ 60 := hl1
          have hl3 : (((gt2 false ((t, u1), (t, u2))).1 ++ [cd]).length : Int) ≤ 60 := hl1
          refine tK (l := xk_104) rfl rfl (hAdd ⟨by omega, by omega⟩) ?_
          refine tSt (l := xk_104) rfl rfl (fun _ _ _ _ _ => rfl) (Nat.le_of_ble_eq_true rfl) ?_
          refine tSt (l := xk_104) rfl rfl (hIinc rfl (Nat.le_of_ble_eq_true rfl) ⟨by omega, by omega⟩) (Nat.le_of_ble_eq_true rfl) ?_
          refine tK (l := xk_104) rfl rfl (fun _ _ _ _ _ => rfl) ?_
          exact ih (k + 1) _ (t ++ [cd]) R3 _ _ _ (by omega) (by omega) (oks_snoc ht hcd) (by simp only [List.length_append, List.length_cons, List.length_nil]; omega) hR3
        have tL : ∀ sg ls : Int, 33 ≤ sg ∧ sg ≤ 126 → 33 ≤ ls ∧ ls ≤ 126 → xT (d + 5) 104 148 (xlo [some (.inr (.inl (some (ob false)))), some (.inr (.inl (some (ob true)))), some (.inl x), some (.inl w), some (.inl so), some (.inl nm), some (.inl told), some (.inl many), some (.inl k), some (.inl sg), c10, c11]) [.inl ls] R1 g Q := by
          intro sg ls hsg hls
          refine tSt (l := xk_104) rfl rfl (fun _ _ _ _ _ => rfl) (Nat.le_of_ble_eq_true rfl) ?_
          refine tK (l := xk_104) rfl rfl (fun _ _ _ _ _ => rfl) ?_
          refine tIf_ne (l := xk_104) (pc' := 160) rfl rfl rfl (fun hc => ?_) (fun hc => ?_)
          · skip
            refine tK (l := xk_104) rfl rfl (fun _ _ _ _ _ => rfl) ?_
            refine tK (l := xk_104) rfl rfl (fun _ _ _ _ _ => rfl) ?_
            exact tC sg ls _ ⟨by omega, by omega⟩
          · skip
            refine tK (l := xk_104) rfl rfl (fun _ _ _ _ _ => rfl) ?_
            refine tK (l := xk_104) rfl rfl (fun _ _ _ _ _ => rfl) ?_
            refine tIc_ne (l := xk_104) (pc' := 181) rfl rfl rfl (fun hc => ?_) (fun hc => ?_)
            · skip
              refine tK (l := xk_104) rfl rfl (fun _ _ _ _ _ => rfl) ?_
              refine tIf_ne (l := xk_104) (pc' := 176) rfl rfl rfl (fun hc => ?_) (fun hc => ?_)
              · skip
                refine tK (l := xk_104) rfl rfl (fun _ _ _ _ _ => rfl) ?_
                refine tK (l := xk_104) rfl rfl (fun _ _ _ _ _ => rfl) ?_
                exact tC sg ls _ ⟨by omega, by omega⟩
              · skip
                refine tK (l := xk_104) rfl rfl (fun _ _ _ _ _ => rfl) ?_
                refine tK (l := xk_104) rfl rfl (fun _ _ _ _ _ => rfl) ?_
                exact tC sg ls _ ⟨by omega, by omega⟩
            · skip
              refine tK (l := xk_104) rfl rfl (fun _ _ _ _ _ => rfl) ?_
              refine tIf_ne (l := xk_104) (pc' := 191) rfl rfl rfl (fun hc => ?_) (fun hc => ?_)
              · skip
                refine tK (l := xk_104) rfl rfl (fun _ _ _ _ _ => rfl) ?_
                refine tK (l := xk_104) rfl rfl (fun _ _ _ _ _ => rfl) ?_
                exact tC sg ls _ ⟨by omega, by omega⟩
              · skip
                refine tK (l := xk_104) rfl rfl (fun _ _ _ _ _ => rfl) ?_
                refine tK (l := xk_104) rfl rfl (fun _ _ _ _ _ => rfl) ?_
                refine tIc_ne (l := xk_104) (pc' := 202) rfl rfl rfl (fun hc => ?_) (fun hc => ?_)
                · skip
                  refine tK (l := xk_104) rfl rfl (fun _ _ _ _ _ => rfl) ?_
                  refine tK (l := xk_104) rfl rfl (fun _ _ _ _ _ => rfl) ?_
                  exact tC sg ls _ ⟨by omega, by omega⟩
                · skip
                  refine tK (l := xk_104) rfl rfl (fun _ _ _ _ _ => rfl) ?_
                  refine tK (l := xk_104) rfl rfl (fun _ _ _ _ _ => rfl) ?_
                  refine tIc_ne (l := xk_104) (pc' := 213) rfl rfl rfl (fun hc => ?_) (fun hc => ?_)
                  · skip
                    refine tK (l := xk_104) rfl rfl (fun _ _ _ _ _ => rfl) ?_
                    refine tK (l := xk_104) rfl rfl (fun _ _ _ _ _ => rfl) ?_
                    exact tC sg ls _ ⟨by omega, by omega⟩
                  · skip
                    refine tK (l := xk_104) rfl rfl (fun _ _ _ _ _ => rfl) ?_
                    exact tC sg ls _ ⟨by omega, by omega⟩
        have tS : ∀ sg : Int, 33 ≤ sg ∧ sg ≤ 126 → xT (d + 5) 104 113 (xlo [some (.inr (.inl (some (ob false)))), some (.inr (.inl (some (ob true)))), some (.inl x), some (.inl w), some (.inl so), some (.inl nm), some (.inl told), some (.inl many), some (.inl k), c9, c10, c11]) [.inl sg] R1 g Q := by
          intro sg hsg
          refine tSt (l := xk_104) rfl rfl (fun _ _ _ _ _ => rfl) (Nat.le_of_ble_eq_true rfl) ?_
          refine tK (l := xk_104) rfl rfl (fun _ _ _ _ _ => rfl) ?_
          refine tK (l := xk_104) rfl rfl (fun _ _ _ _ _ => rfl) ?_
          refine tIc_ge (l := xk_104) (pc' := 126) rfl rfl rfl (fun hc => ?_) (fun hc => ?_)
          · skip
            refine tK (l := xk_104) rfl rfl (fun _ _ _ _ _ => rfl) ?_
            refine tK (l := xk_104) rfl rfl (fun _ _ _ _ _ => rfl) ?_
            exact tL sg _ hsg ⟨by decide, by decide⟩
          · skip
            refine tK (l := xk_104) rfl rfl (fun _ _ _ _ _ => rfl) ?_
            refine tK (l := xk_104) rfl rfl (fun _ _ _ _ _ => rfl) ?_
            refine tIc_ne (l := xk_104) (pc' := 137) rfl rfl rfl (fun hc => ?_) (fun hc => ?_)
            · skip
              refine tK (l := xk_104) rfl rfl (fun _ _ _ _ _ => rfl) ?_
              refine tK (l := xk_104) rfl rfl (fun _ _ _ _ _ => rfl) ?_
              exact tL sg _ hsg ⟨by decide, by decide⟩
            · skip
              refine tK (l := xk_104) rfl rfl (fun _ _ _ _ _ => rfl) ?_
              refine tIf_eq (l := xk_104) (pc' := 146) rfl rfl rfl (fun hc => ?_) (fun hc => ?_)
              · skip
                refine tK (l := xk_104) rfl rfl (fun _ _ _ _ _ => rfl) ?_
                exact tL sg _ hsg ⟨by decide, by decide⟩
              · skip
                refine tK (l := xk_104) rfl rfl (fun _ _ _ _ _ => rfl) ?_
                refine tK (l := xk_104) rfl rfl (fun _ _ _ _ _ => rfl) ?_
                exact tL sg _ hsg ⟨by decide, by decide⟩
        refine tK (l := xk_104) rfl rfl (fun _ _ _ _ _ => rfl) ?_
        refine tK (l := xk_104) rfl rfl (fun _ _ _ _ _ => rfl) ?_
        refine tIc_ne (l := xk_104) (pc' := 76) rfl rfl rfl (fun hc => ?_) (fun hc => ?_)
        · skip
          refine tK (l := xk_104) rfl rfl (fun _ _ _ _ _ => rfl) ?_
          refine tK (l := xk_104) rfl rfl (fun _ _ _ _ _ => rfl) ?_
          exact tS _ ⟨by decide, by decide⟩
        · skip
          refine tK (l := xk_104) rfl rfl (fun _ _ _ _ _ => rfl) ?_
          refine tK (l := xk_104) rfl rfl (fun _ _ _ _ _ => rfl) ?_
          refine tIc_ne (l := xk_104) (pc' := 87) rfl rfl rfl (fun hc => ?_) (fun hc => ?_)
          · skip
            refine tK (l := xk_104) rfl rfl (fun _ _ _ _ _ => rfl) ?_
            refine tK (l := xk_104) rfl rfl (fun _ _ _ _ _ => rfl) ?_
            exact tS _ ⟨by decide, by decide⟩
          · skip
            refine tK (l := xk_104) rfl rfl (fun _ _ _ _ _ => rfl) ?_
            refine tK (l := xk_104) rfl rfl (fun _ _ _ _ _ => rfl) ?_
            refine tIc_ge (l := xk_104) (pc' := 99) rfl rfl rfl (fun hc => ?_) (fun hc => ?_)
            · skip
              refine tK (l := xk_104) rfl rfl (fun _ _ _ _ _ => rfl) ?_
              refine tK (l := xk_104) rfl rfl (fun _ _ _ _ _ => rfl) ?_
              exact tS _ ⟨by decide, by decide⟩
            · skip
              refine tK (l := xk_104) rfl rfl (fun _ _ _ _ _ => rfl) ?_
              refine tK (l := xk_104) rfl rfl (fun _ _ _ _ _ => rfl) ?_
              refine tIc_ne (l := xk_104) (pc' := 111) rfl rfl rfl (fun hc => ?_) (fun hc => ?_)
              · skip
                refine tK (l := xk_104) rfl rfl (fun _ _ _ _ _ => rfl) ?_
                refine tK (l := xk_104) rfl rfl (fun _ _ _ _ _ => rfl) ?_
                exact tS _ ⟨by decide, by decide⟩
              · skip
                refine tK (l := xk_104) rfl rfl (fun _ _ _ _ _ => rfl) ?_
                exact tS _ ⟨by decide, by decide⟩
      · skip
        refine tRt (l := xk_104) rfl rfl (fun _ _ _ _ _ => rfl) ?_
        exact hQ R1 t ht hl hR1
    · skip
      refine tRt (l := xk_104) rfl rfl (fun _ _ _ _ _ => rfl) ?_
      exact hQ R t ht hl hR
theorem kTy {x w : Int} (hw : w = 0 ∨ w = 1) (ht : oks t) (hl : t.length ≤ 60) (hR : hPP zs R ((t, u1), (t, u2)) xo) (hQ : ∀ R2 t2, oks t2 → t2.length ≤ 60 → hPP zs R2 ((t2, u1), (t2, u2)) xo → Q (.inl none, R2, g)) : xTC (d + 5) 104 [.inr (.inl (some (ob false))), .inr (.inl (some (ob true))), .inl x, .inl w] R g Q := by
  refine tEn (ls := [some (.inr (.inl (some (ob false)))), some (.inr (.inl (some (ob true)))), some (.inl x), some (.inl w), none, none, none, none, none, none, none, none]) (fun k => by match k with | 0 => rfl | 1 => rfl | 2 => rfl | 3 => rfl | 4 => rfl | 5 => rfl | 6 => rfl | 7 => rfl | 8 => rfl | 9 => rfl | 10 => rfl | 11 => rfl | k + 12 => rfl) ?_
  have hs := lo_in (v := x) (n := 9) (by decide)
  have hn := lo_in (v := (Int32.ofInt x >>> (Int32.ofInt 4 &&& 31)).toInt) (n := 5) (by decide)
  refine tK (l := xk_104) rfl rfl (fun _ _ _ _ _ => rfl) ?_
  refine tK (l := xk_104) rfl rfl (fun _ _ _ _ _ => rfl) ?_
  refine tCa (l := xk_104) rfl rfl (hInvS rfl rfl rfl rfl (Nat.le_of_ble_eq_true rfl) (Nat.le_of_ble_eq_true rfl)) ?_
  refine kLow (by decide) ?_
  refine tKv ?_
  refine tSt (l := xk_104) rfl rfl (fun _ _ _ _ _ => rfl) (Nat.le_of_ble_eq_true rfl) ?_
  refine tK (l := xk_104) rfl rfl (fun _ _ _ _ _ => rfl) ?_
  refine tK (l := xk_104) rfl rfl (fun _ _ _ _ _ => rfl) ?_
  refine tK (l := xk_104) rfl rfl (fun _ _ _ _ _ => rfl) ?_
  refine tK (l := xk_104) rfl rfl (fun _ _ _ _ _ => rfl) ?_
  refine tK (l := xk_104) rfl rfl (fun _ _ _ _ _ => rfl) ?_
  refine tCa (l := xk_104) rfl rfl (hInvS rfl rfl rfl rfl (Nat.le_of_ble_eq_true rfl) (Nat.le_of_ble_eq_true rfl)) ?_
  refine kLow (by decide) ?_
  refine tKv ?_
  refine tK (l := xk_104) rfl rfl (hAdd ⟨by omega, by omega⟩) ?_
  refine tSt (l := xk_104) rfl rfl (fun _ _ _ _ _ => rfl) (Nat.le_of_ble_eq_true rfl) ?_
  refine tK (l := xk_104) rfl rfl (fun _ _ _ _ _ => rfl) ?_
  refine tSt (l := xk_104) rfl rfl (fun _ _ _ _ _ => rfl) (Nat.le_of_ble_eq_true rfl) ?_
  refine tK (l := xk_104) rfl rfl (fun _ _ _ _ _ => rfl) ?_
  refine tK (l := xk_104) rfl rfl (fun _ _ _ _ _ => rfl) ?_
  refine tIc_ge (l := xk_104) (pc' := 33) rfl rfl rfl (fun hc => ?_) (fun hc => ?_)
  · skip
    refine tK (l := xk_104) rfl rfl (fun _ _ _ _ _ => rfl) ?_
    refine tK (l := xk_104) rfl rfl (fun _ _ _ _ _ => rfl) ?_
    refine tSt (l := xk_104) rfl rfl (fun _ _ _ _ _ => rfl) (Nat.le_of_ble_eq_true rfl) ?_
    refine tK (l := xk_104) rfl rfl (fun _ _ _ _ _ => rfl) ?_
    refine tSt (l := xk_104) rfl rfl (fun _ _ _ _ _ => rfl) (Nat.le_of_ble_eq_true rfl) ?_
    exact kTy_l hw hs ⟨by omega, by omega⟩ (by decide) hQ 5 0 0 t R none none none (by decide) (by decide) ht hl hR
  · skip
    refine tK (l := xk_104) rfl rfl (fun _ _ _ _ _ => rfl) ?_
    refine tK (l := xk_104) rfl rfl (fun _ _ _ _ _ => rfl) ?_
    refine tIc_ge (l := xk_104) (pc' := 43) rfl rfl rfl (fun hc => ?_) (fun hc => ?_)
    · skip
      refine tK (l := xk_104) rfl rfl (fun _ _ _ _ _ => rfl) ?_
      refine tK (l := xk_104) rfl rfl (fun _ _ _ _ _ => rfl) ?_
      refine tSt (l := xk_104) rfl rfl (fun _ _ _ _ _ => rfl) (Nat.le_of_ble_eq_true rfl) ?_
      refine tK (l := xk_104) rfl rfl (fun _ _ _ _ _ => rfl) ?_
      refine tSt (l := xk_104) rfl rfl (fun _ _ _ _ _ => rfl) (Nat.le_of_ble_eq_true rfl) ?_
      exact kTy_l hw hs ⟨by omega, by omega⟩ (by decide) hQ 5 0 0 t R none none none (by decide) (by decide) ht hl hR
    · skip
      refine tK (l := xk_104) rfl rfl (fun _ _ _ _ _ => rfl) ?_
      refine tSt (l := xk_104) rfl rfl (fun _ _ _ _ _ => rfl) (Nat.le_of_ble_eq_true rfl) ?_
      refine tK (l := xk_104) rfl rfl (fun _ _ _ _ _ => rfl) ?_
      refine tSt (l := xk_104) rfl rfl (fun _ _ _ _ _ => rfl) (Nat.le_of_ble_eq_true rfl) ?_
      exact kTy_l hw hs ⟨by omega, by omega⟩ (by decide) hQ 5 0 0 t R none none none (by decide) (by decide) ht hl hR
/-! ===== fills ===== -/
theorem kFi_2 {x op : Int} (ho : op ≤ 8) (hQ : ∀ R2 t2, oks t2 → t2.length ≤ 60 → hPP zs R2 ((t2, u1), (t2, u2)) xo → Q (.inl none, R2, g)) : ∀ (n : Nat) (k told : Int) (t : List Int) (R : xH) (c6 c7 : Option xV), op - k ≤ n → 0 ≤ k → oks t → t.length ≤ 60 → hPP zs R ((t, u1), (t, u2)) xo → xT (d + 6) 125 107 (xlo [some (.inr (.inl (some (ob false)))), some (.inr (.inl (some (ob true)))), some (.inl x), some (.inl told), some (.inl op), some (.inl k), c6, c7]) [] R g Q := by
  intro n
  induction n with
  | zero =>
    intro k told t R c6 c7 hk h0 ht hl hR
    refine tK (l := xk_125) rfl rfl (fun _ _ _ _ _ => rfl) ?_
    refine tK (l := xk_125) rfl rfl (fun _ _ _ _ _ => rfl) ?_
    refine tIc_ge (l := xk_125) (pc' := 143) rfl rfl rfl (fun hc => ?_) (fun hc => ?_)
    · exfalso
      omega
    refine tRt (l := xk_125) rfl rfl (fun _ _ _ _ _ => rfl) ?_
    exact hQ R t ht hl hR
  | succ n ih =>
    intro k told t R c6 c7 hk h0 ht hl hR
    refine tK (l := xk_125) rfl rfl (fun _ _ _ _ _ => rfl) ?_
    refine tK (l := xk_125) rfl rfl (fun _ _ _ _ _ => rfl) ?_
    refine tIc_ge (l := xk_125) (pc' := 143) rfl rfl rfl (fun hc => ?_) (fun hc => ?_)
    · skip
      refine tK (l := xk_125) rfl rfl (fun _ _ _ _ _ => rfl) ?_
      refine tCa (l := xk_125) rfl rfl (kInvV hR rfl rfl rfl rfl (Nat.le_of_ble_eq_true rfl) (Nat.le_of_ble_eq_true rfl)) ?_
      refine k83 false hR (fun R1 hR1 => ?_)
      refine tKv ?_
      refine tK (l := xk_125) rfl rfl (fun _ _ _ _ _ => rfl) ?_
      refine tIc_ge (l := xk_125) (pc' := 143) rfl rfl rfl (fun hc => ?_) (fun hc => ?_)
      · skip
        have hlt : t.length < 60 := by
          have h9 : ¬ (60 : Int) ≤ (t.length : Int) := by
            intro q
            exact absurd hc (by first | exact Int.not_lt.mpr q | exact fun z => z q)
          omega
        refine tK (l := xk_125) rfl rfl (fun _ _ _ _ _ => rfl) ?_
        refine tK (l := xk_125) rfl rfl (fun _ _ _ _ _ => rfl) ?_
        refine tCa (l := xk_125) rfl rfl (kInvV hR1 rfl rfl rfl rfl (Nat.le_of_ble_eq_true rfl) (Nat.le_of_ble_eq_true rfl)) ?_
        refine k126 (s := ((t, u1), (t, u2))) false ⟨by decide, by decide⟩ (show t.length < 60 by omega) hR1 (fun R2 hR2 => ?_)
        have hR2 : hPP zs R2 ((t ++ [125], u1), (t, u2)) xo := hR2
        refine tKv ?_
        refine tK (l := xk_125) rfl rfl (fun _ _ _ _ _ => rfl) ?_
        refine tK (l := xk_125) rfl rfl (fun _ _ _ _ _ => rfl) ?_
        refine tCa (l := xk_125) rfl rfl (kInvV hR2 rfl rfl rfl rfl (Nat.le_of_ble_eq_true rfl) (Nat.le_of_ble_eq_true rfl)) ?_
        refine k126 (s := ((t ++ [125], u1), (t, u2))) true ⟨by decide, by decide⟩ (show t.length < 60 by omega) hR2 (fun R3 hR3 => ?_)
        have hR3 : hPP zs R3 ((t ++ [125], u1), (t ++ [125], u2)) xo := hR3
        refine tKv ?_
        have hl1 : ((t ++ [(125 : Int)]).length : Int) ≤ 60 := by simp only [List.length_append, List.length_cons, List.length_nil]; omega
        have hl2 : (((gt2 true ((t ++ [125], u1), (t, u2))).1 ++ [125]).length : Int) ≤ 60 := hl1
        have hl3 : (((gt2 false ((t, u1), (t, u2))).1 ++ [125]).length : Int) ≤ 60 := hl1
        refine tK (l := xk_125) rfl rfl (hAdd ⟨by omega, by omega⟩) ?_
        refine tSt (l := xk_125) rfl rfl (fun _ _ _ _ _ => rfl) (Nat.le_of_ble_eq_true rfl) ?_
        refine tSt (l := xk_125) rfl rfl (hIinc rfl (Nat.le_of_ble_eq_true rfl) ⟨by omega, by omega⟩) (Nat.le_of_ble_eq_true rfl) ?_
        refine tK (l := xk_125) rfl rfl (fun _ _ _ _ _ => rfl) ?_
        exact ih (k + 1) _ (t ++ [125]) R3 _ _ (by omega) (by omega) (oks_snoc ht ⟨by decide, by decide⟩) (by simp only [List.length_append, List.length_cons, List.length_nil]; omega) hR3
      · skip
        refine tRt (l := xk_125) rfl rfl (fun _ _ _ _ _ => rfl) ?_
        exact hQ R1 t ht hl hR1
    · skip
      refine tRt (l := xk_125) rfl rfl (fun _ _ _ _ _ => rfl) ?_
      exact hQ R t ht hl hR
theorem kFi_1 {x : Int} (hQ : ∀ R2 t2, oks t2 → t2.length ≤ 60 → hPP zs R2 ((t2, u1), (t2, u2)) xo → Q (.inl none, R2, g)) : ∀ (n : Nat) (k op told : Int) (t : List Int) (R : xH) (c6 c7 : Option xV), 8 - k ≤ n → 0 ≤ k → k ≤ 8 → 0 ≤ op → op ≤ k → oks t → t.length ≤ 60 → hPP zs R ((t, u1), (t, u2)) xo → xT (d + 6) 125 16 (xlo [some (.inr (.inl (some (ob false)))), some (.inr (.inl (some (ob true)))), some (.inl x), some (.inl told), some (.inl op), some (.inl k), c6, c7]) [] R g Q := by
  intro n
  induction n with
  | zero =>
    intro k op told t R c6 c7 hk h0 h8 ho1 ho2 ht hl hR
    refine tK (l := xk_125) rfl rfl (fun _ _ _ _ _ => rfl) ?_
    refine tK (l := xk_125) rfl rfl (fun _ _ _ _ _ => rfl) ?_
    refine tIc_ge (l := xk_125) (pc' := 104) rfl rfl rfl (fun hc => ?_) (fun hc => ?_)
    · exfalso
      omega
    refine tK (l := xk_125) rfl rfl (fun _ _ _ _ _ => rfl) ?_
    refine tSt (l := xk_125) rfl rfl (fun _ _ _ _ _ => rfl) (Nat.le_of_ble_eq_true rfl) ?_
    exact kFi_2 (by omega) hQ 8 0 told t R _ _ (by omega) (by decide) ht hl hR
  | succ n ih =>
    intro k op told t R c6 c7 hk h0 h8 ho1 ho2 ht hl hR
    refine tK (l := xk_125) rfl rfl (fun _ _ _ _ _ => rfl) ?_
    refine tK (l := xk_125) rfl rfl (fun _ _ _ _ _ => rfl) ?_
    refine tIc_ge (l := xk_125) (pc' := 104) rfl rfl rfl (fun hc => ?_) (fun hc => ?_)
    · skip
      refine tK (l := xk_125) rfl rfl (fun _ _ _ _ _ => rfl) ?_
      refine tCa (l := xk_125) rfl rfl (kInvV hR rfl rfl rfl rfl (Nat.le_of_ble_eq_true rfl) (Nat.le_of_ble_eq_true rfl)) ?_
      refine k83 false hR (fun R1 hR1 => ?_)
      refine tKv ?_
      refine tK (l := xk_125) rfl rfl (fun _ _ _ _ _ => rfl) ?_
      refine tIc_ge (l := xk_125) (pc' := 104) rfl rfl rfl (fun hc => ?_) (fun hc => ?_)
      · skip
        have tW : ∀ pt wi : Int, wi = 0 ∨ wi = 1 → xT (d + 6) 125 72 (xlo [some (.inr (.inl (some (ob false)))), some (.inr (.inl (some (ob true)))), some (.inl x), some (.inl told), some (.inl op), some (.inl k), some (.inl pt), c7]) [.inl wi] R1 g Q := by
          intro pt wi hwi
          refine tSt (l := xk_125) rfl rfl (fun _ _ _ _ _ => rfl) (Nat.le_of_ble_eq_true rfl) ?_
          refine tK (l := xk_125) rfl rfl (fun _ _ _ _ _ => rfl) ?_
          refine tK (l := xk_125) rfl rfl (fun _ _ _ _ _ => rfl) ?_
          refine tK (l := xk_125) rfl rfl (fun _ _ _ _ _ => rfl) ?_
          refine tK (l := xk_125) rfl rfl (fun _ _ _ _ _ => rfl) ?_
          refine tCa (l := xk_125) rfl rfl (hInvS rfl rfl rfl rfl (Nat.le_of_ble_eq_true rfl) (Nat.le_of_ble_eq_true rfl)) ?_
          refine kTy hwi ht hl hR1 (fun R2 t2 ht2 hl2 hR2 => ?_)
          refine tKn ?_
          refine tK (l := xk_125) rfl rfl (fun _ _ _ _ _ => rfl) ?_
          refine tK (l := xk_125) rfl rfl (fun _ _ _ _ _ => rfl) ?_
          refine tIf_eq (l := xk_125) (pc' := 94) rfl rfl rfl (fun hc => ?_) (fun hc => ?_)
          · skip
            refine tK (l := xk_125) rfl rfl (fun _ _ _ _ _ => rfl) ?_
            refine tK (l := xk_125) rfl rfl (hAdd ⟨by omega, by omega⟩) ?_
            refine tSt (l := xk_125) rfl rfl (fun _ _ _ _ _ => rfl) (Nat.le_of_ble_eq_true rfl) ?_
            refine tSt (l := xk_125) rfl rfl (hIinc rfl (Nat.le_of_ble_eq_true rfl) ⟨by omega, by omega⟩) (Nat.le_of_ble_eq_true rfl) ?_
            refine tK (l := xk_125) rfl rfl (fun _ _ _ _ _ => rfl) ?_
            exact ih (k + 1) _ told t2 R2 _ _ (by omega) (by omega) (by omega) (by omega) (by omega) ht2 hl2 hR2
          · skip
            refine tK (l := xk_125) rfl rfl (fun _ _ _ _ _ => rfl) ?_
            refine tK (l := xk_125) rfl rfl (fun _ _ _ _ _ => rfl) ?_
            refine tK (l := xk_125) rfl rfl (hAdd ⟨by omega, by omega⟩) ?_
            refine tSt (l := xk_125) rfl rfl (fun _ _ _ _ _ => rfl) (Nat.le_of_ble_eq_true rfl) ?_
            refine tSt (l := xk_125) rfl rfl (hIinc rfl (Nat.le_of_ble_eq_true rfl) ⟨by omega, by omega⟩) (Nat.le_of_ble_eq_true rfl) ?_
            refine tK (l := xk_125) rfl rfl (fun _ _ _ _ _ => rfl) ?_
            exact ih (k + 1) _ told t2 R2 _ _ (by omega) (by omega) (by omega) (by omega) (by omega) ht2 hl2 hR2
        refine tK (l := xk_125) rfl rfl (fun _ _ _ _ _ => rfl) ?_
        refine tK (l := xk_125) rfl rfl (fun _ _ _ _ _ => rfl) ?_
        refine tK (l := xk_125) rfl rfl (fun _ _ _ _ _ => rfl) ?_
        refine tK (l := xk_125) rfl rfl (hMul ⟨by omega, by omega⟩) ?_
        refine tK (l := xk_125) rfl rfl (fun _ _ _ _ _ => rfl) ?_
        refine tK (l := xk_125) rfl rfl (fun _ _ _ _ _ => rfl) ?_
        refine tK (l := xk_125) rfl rfl (fun _ _ _ _ _ => rfl) ?_
        refine tK (l := xk_125) rfl rfl (fun _ _ _ _ _ => rfl) ?_
        refine tK (l := xk_125) rfl rfl (hMul ⟨by omega, by omega⟩) ?_
        refine tK (l := xk_125) rfl rfl (fun _ _ _ _ _ => rfl) ?_
        refine tK (l := xk_125) rfl rfl (fun _ _ _ _ _ => rfl) ?_
        refine tSt (l := xk_125) rfl rfl (fun _ _ _ _ _ => rfl) (Nat.le_of_ble_eq_true rfl) ?_
        refine tK (l := xk_125) rfl rfl (fun _ _ _ _ _ => rfl) ?_
        refine tK (l := xk_125) rfl rfl (fun _ _ _ _ _ => rfl) ?_
        refine tK (l := xk_125) rfl rfl (fun _ _ _ _ _ => rfl) ?_
        refine tK (l := xk_125) rfl rfl (fun _ _ _ _ _ => rfl) ?_
        refine tK (l := xk_125) rfl rfl (fun _ _ _ _ _ => rfl) ?_
        refine tIf_ne (l := xk_125) (pc' := 71) rfl rfl rfl (fun hc => ?_) (fun hc => ?_)
        · skip
          refine tK (l := xk_125) rfl rfl (fun _ _ _ _ _ => rfl) ?_
          refine tK (l := xk_125) rfl rfl (fun _ _ _ _ _ => rfl) ?_
          refine tCa (l := xk_125) rfl rfl (hInvS rfl rfl rfl rfl (Nat.le_of_ble_eq_true rfl) (Nat.le_of_ble_eq_true rfl)) ?_
          refine kLow (by decide) ?_
          refine tKv ?_
          refine tK (l := xk_125) rfl rfl (fun _ _ _ _ _ => rfl) ?_
          refine tIc_le (l := xk_125) (pc' := 71) rfl rfl rfl (fun hc => ?_) (fun hc => ?_)
          · skip
            refine tK (l := xk_125) rfl rfl (fun _ _ _ _ _ => rfl) ?_
            refine tK (l := xk_125) rfl rfl (fun _ _ _ _ _ => rfl) ?_
            exact tW _ _ (by decide)
          · skip
            refine tK (l := xk_125) rfl rfl (fun _ _ _ _ _ => rfl) ?_
            exact tW _ _ (by decide)
        · skip
          refine tK (l := xk_125) rfl rfl (fun _ _ _ _ _ => rfl) ?_
          exact tW _ _ (by decide)
      · skip
        refine tK (l := xk_125) rfl rfl (fun _ _ _ _ _ => rfl) ?_
        refine tSt (l := xk_125) rfl rfl (fun _ _ _ _ _ => rfl) (Nat.le_of_ble_eq_true rfl) ?_
        exact kFi_2 (by omega) hQ 8 0 told t R1 _ _ (by omega) (by decide) ht hl hR1
    · skip
      refine tK (l := xk_125) rfl rfl (fun _ _ _ _ _ => rfl) ?_
      refine tSt (l := xk_125) rfl rfl (fun _ _ _ _ _ => rfl) (Nat.le_of_ble_eq_true rfl) ?_
      exact kFi_2 (by omega) hQ 8 0 told t R _ _ (by omega) (by decide) ht hl hR
theorem kFi {x : Int} (hl : t.length ≤ 60) (hR : hPP zs R ((t, u1), (t, u2)) xo) (hQ : ∀ R2 t2, oks t2 → t2.length ≤ 60 → hPP zs R2 ((t2, u1), (t2, u2)) xo → Q (.inl none, R2, g)) : xTC (d + 6) 125 [.inr (.inl (some (ob false))), .inr (.inl (some (ob true))), .inl x] R g Q := by
  refine tEn (ls := [some (.inr (.inl (some (ob false)))), some (.inr (.inl (some (ob true)))), some (.inl x), none, none, none, none, none]) (fun k => by match k with | 0 => rfl | 1 => rfl | 2 => rfl | 3 => rfl | 4 => rfl | 5 => rfl | 6 => rfl | 7 => rfl | k + 8 => rfl) ?_
  refine tK (l := xk_125) rfl rfl (fun _ _ _ _ _ => rfl) ?_
  refine tCa (l := xk_125) rfl rfl (kInvV hR rfl rfl rfl rfl (Nat.le_of_ble_eq_true rfl) (Nat.le_of_ble_eq_true rfl)) ?_
  refine k82 false hR (fun R1 hR1 => ?_)
  have hR1 : hPP zs R1 (([], u1), (t, u2)) xo := hR1
  refine tKv ?_
  refine tK (l := xk_125) rfl rfl (fun _ _ _ _ _ => rfl) ?_
  refine tCa (l := xk_125) rfl rfl (kInvV hR1 rfl rfl rfl rfl (Nat.le_of_ble_eq_true rfl) (Nat.le_of_ble_eq_true rfl)) ?_
  refine k82 true hR1 (fun R2 hR2 => ?_)
  have hR2 : hPP zs R2 (([], u1), ([], u2)) xo := hR2
  refine tKv ?_
  have hl1 : (t.length : Int) ≤ 60 := by omega
  have hl2 : ((gt2 true (([], u1), (t, u2))).1.length : Int) ≤ 60 := hl1
  have hl3 : ((gt2 false ((t, u1), (t, u2))).1.length : Int) ≤ 60 := hl1
  refine tK (l := xk_125) rfl rfl (hAdd ⟨by omega, by omega⟩) ?_
  refine tSt (l := xk_125) rfl rfl (fun _ _ _ _ _ => rfl) (Nat.le_of_ble_eq_true rfl) ?_
  refine tK (l := xk_125) rfl rfl (fun _ _ _ _ _ => rfl) ?_
  refine tSt (l := xk_125) rfl rfl (fun _ _ _ _ _ => rfl) (Nat.le_of_ble_eq_true rfl) ?_
  refine tK (l := xk_125) rfl rfl (fun _ _ _ _ _ => rfl) ?_
  refine tSt (l := xk_125) rfl rfl (fun _ _ _ _ _ => rfl) (Nat.le_of_ble_eq_true rfl) ?_
  exact kFi_1 hQ 8 0 0 _ [] R2 _ _ (by decide) (by decide) (by decide) (by decide) (by decide) (fun c h => by cases h) (by decide) hR2
end TYP
/-! ===== act ===== -/
theorem kAct_t (x i w a v : Int) (hi : i = 0 ∨ i = 1) (hw : 0 ≤ w ∧ w < 24) : ∃ (k : Nat) (a2 y : Int), ∀ (b : Bool) (zs : List xV) (s : KS × KS) (xo : Int) (d g : Nat) (R : xH) (Q : xR → Prop), hPP zs R s xo → okK 1000 (gt2 b s) → (pWh (gt2 b s).1 = true → ∃ D, Fin (gt2 b s).1 (gt2 b s).2.1.1 (-1) D) → (∀ R2 res, CH (gt2 b s).1 (gt2 b s).2.1 a2 y k res → hPP zs R2 (pt2 b s (app (gt2 b s) res)) (ouR xo res) → Q (.inl (some (.inl (cdR res))), R2, g + exR res)) → xT (d + 1226) 142 70 (xlo [some (.inr (.inl (some (ob b)))), some (.inl v), some (.inr (.inl (some 293))), some (.inl x), some (.inl i), some (.inl w), some (.inl a)]) [] R g Q := by
  by_cases h8 : w < 8
  · rcases hi with rfl | rfl
    · skip
      refine ⟨0, a, lo (Int32.ofInt x >>> (Int32.ofInt 4 &&& 31)).toInt 140, fun b zs s xo d g R Q hR ok hex hQ => ?_⟩
      refine tK (l := xk_142) rfl rfl (fun _ _ _ _ _ => rfl) ?_
      refine tK (l := xk_142) rfl rfl (fun _ _ _ _ _ => rfl) ?_
      refine tIc_ge (l := xk_142) (pc' := 109) rfl rfl rfl (fun hc => ?_) (fun hc => ?_)
      rotate_left
      · exfalso
        omega
      refine tK (l := xk_142) rfl rfl (fun _ _ _ _ _ => rfl) ?_
      refine tK (l := xk_142) rfl rfl (fun _ _ _ _ _ => rfl) ?_
      refine tK (l := xk_142) rfl rfl (fun _ _ _ _ _ => rfl) ?_
      refine tK (l := xk_142) rfl rfl (fun _ _ _ _ _ => rfl) ?_
      refine tIf_eq (l := xk_142) (pc' := 95) rfl rfl rfl (fun hc => ?_) (fun hc => ?_)
      rotate_left
      · exfalso
        exact hc rfl
      refine tK (l := xk_142) rfl rfl (fun _ _ _ _ _ => rfl) ?_
      refine tK (l := xk_142) rfl rfl (fun _ _ _ _ _ => rfl) ?_
      refine tK (l := xk_142) rfl rfl (fun _ _ _ _ _ => rfl) ?_
      refine tK (l := xk_142) rfl rfl (fun _ _ _ _ _ => rfl) ?_
      refine tCa (l := xk_142) rfl rfl (hInvS rfl rfl rfl rfl (Nat.le_of_ble_eq_true rfl) (Nat.le_of_ble_eq_true rfl)) ?_
      refine kLow (by decide) ?_
      refine tKv ?_
      refine tK (l := xk_142) rfl rfl (fun _ _ _ _ _ => rfl) ?_
      refine tCa (l := xk_142) rfl rfl (hInvS rfl rfl rfl rfl (Nat.le_of_ble_eq_true rfl) (Nat.le_of_ble_eq_true rfl)) ?_
      refine kch_0 b hR ok (fun R2 res hc h2 => ?_)
      refine tKv ?_
      refine tRt (l := xk_142) rfl rfl (fun _ _ _ _ _ => rfl) ?_
      exact hQ R2 res hc h2
    · obtain ⟨y, hy⟩ := kSign (Int32.ofInt x >>> (Int32.ofInt 4 &&& 31)).toInt
      refine ⟨0, a, y, fun b zs s xo d g R Q hR ok hex hQ => ?_⟩
      refine tK (l := xk_142) rfl rfl (fun _ _ _ _ _ => rfl) ?_
      refine tK (l := xk_142) rfl rfl (fun _ _ _ _ _ => rfl) ?_
      refine tIc_ge (l := xk_142) (pc' := 109) rfl rfl rfl (fun hc => ?_) (fun hc => ?_)
      rotate_left
      · exfalso
        omega
      refine tK (l := xk_142) rfl rfl (fun _ _ _ _ _ => rfl) ?_
      refine tK (l := xk_142) rfl rfl (fun _ _ _ _ _ => rfl) ?_
      refine tK (l := xk_142) rfl rfl (fun _ _ _ _ _ => rfl) ?_
      refine tK (l := xk_142) rfl rfl (fun _ _ _ _ _ => rfl) ?_
      refine tIf_eq (l := xk_142) (pc' := 95) rfl rfl rfl (fun hc => ?_) (fun hc => ?_)
      · exfalso
        exact absurd hc (by decide)
      refine tK (l := xk_142) rfl rfl (fun _ _ _ _ _ => rfl) ?_
      refine tK (l := xk_142) rfl rfl (fun _ _ _ _ _ => rfl) ?_
      refine tK (l := xk_142) rfl rfl (fun _ _ _ _ _ => rfl) ?_
      refine tCa (l := xk_142) rfl rfl (hInvS rfl rfl rfl rfl (Nat.le_of_ble_eq_true rfl) (Nat.le_of_ble_eq_true rfl)) ?_
      refine hy _ _ _ _ ?_
      refine tKv ?_
      refine tK (l := xk_142) rfl rfl (fun _ _ _ _ _ => rfl) ?_
      refine tK (l := xk_142) rfl rfl (fun _ _ _ _ _ => rfl) ?_
      refine tCa (l := xk_142) rfl rfl (hInvS rfl rfl rfl rfl (Nat.le_of_ble_eq_true rfl) (Nat.le_of_ble_eq_true rfl)) ?_
      refine kch_0 b hR ok (fun R2 res hc h2 => ?_)
      refine tKv ?_
      refine tRt (l := xk_142) rfl rfl (fun _ _ _ _ _ => rfl) ?_
      exact hQ R2 res hc h2
  · by_cases h16 : w < 16
    · skip
      refine ⟨7, 0, 0, fun b zs s xo d g R Q hR ok hex hQ => ?_⟩
      refine tK (l := xk_142) rfl rfl (fun _ _ _ _ _ => rfl) ?_
      refine tK (l := xk_142) rfl rfl (fun _ _ _ _ _ => rfl) ?_
      refine tIc_ge (l := xk_142) (pc' := 109) rfl rfl rfl (fun hc => ?_) (fun hc => ?_)
      · exfalso
        omega
      refine tK (l := xk_142) rfl rfl (fun _ _ _ _ _ => rfl) ?_
      refine tK (l := xk_142) rfl rfl (fun _ _ _ _ _ => rfl) ?_
      refine tIc_ge (l := xk_142) (pc' := 128) rfl rfl rfl (fun hc => ?_) (fun hc => ?_)
      rotate_left
      · exfalso
        omega
      refine tK (l := xk_142) rfl rfl (fun _ _ _ _ _ => rfl) ?_
      refine tK (l := xk_142) rfl rfl (fun _ _ _ _ _ => rfl) ?_
      refine tK (l := xk_142) rfl rfl (fun _ _ _ _ _ => rfl) ?_
      refine tK (l := xk_142) rfl rfl (fun _ _ _ _ _ => rfl) ?_
      refine tK (l := xk_142) rfl rfl (fun _ _ _ _ _ => rfl) ?_
      refine tCa (l := xk_142) rfl rfl (hInvS rfl rfl rfl rfl (Nat.le_of_ble_eq_true rfl) (Nat.le_of_ble_eq_true rfl)) ?_
      refine kch_7 b hR ok hex (fun R2 res hc h2 => ?_)
      refine tKv ?_
      refine tK (l := xk_142) rfl rfl (fun _ _ _ _ _ => rfl) ?_
      refine tRt (l := xk_142) rfl rfl (fun _ _ _ _ _ => rfl) ?_
      exact hQ R2 res hc h2
    · by_cases h169 : w = 16
      · skip
        refine ⟨1, a, 0, fun b zs s xo d g R Q hR ok hex hQ => ?_⟩
        refine tK (l := xk_142) rfl rfl (fun _ _ _ _ _ => rfl) ?_
        refine tK (l := xk_142) rfl rfl (fun _ _ _ _ _ => rfl) ?_
        refine tIc_ge (l := xk_142) (pc' := 109) rfl rfl rfl (fun hc => ?_) (fun hc => ?_)
        · exfalso
          omega
        refine tK (l := xk_142) rfl rfl (fun _ _ _ _ _ => rfl) ?_
        refine tK (l := xk_142) rfl rfl (fun _ _ _ _ _ => rfl) ?_
        refine tIc_ge (l := xk_142) (pc' := 128) rfl rfl rfl (fun hc => ?_) (fun hc => ?_)
        · exfalso
          omega
        refine tK (l := xk_142) rfl rfl (fun _ _ _ _ _ => rfl) ?_
        refine tK (l := xk_142) rfl rfl (fun _ _ _ _ _ => rfl) ?_
        refine tIc_ne (l := xk_142) (pc' := 147) rfl rfl rfl (fun hc => ?_) (fun hc => ?_)
        rotate_left
        · exfalso
          omega
        refine tK (l := xk_142) rfl rfl (fun _ _ _ _ _ => rfl) ?_
        refine tK (l := xk_142) rfl rfl (fun _ _ _ _ _ => rfl) ?_
        refine tK (l := xk_142) rfl rfl (fun _ _ _ _ _ => rfl) ?_
        refine tK (l := xk_142) rfl rfl (fun _ _ _ _ _ => rfl) ?_
        refine tK (l := xk_142) rfl rfl (fun _ _ _ _ _ => rfl) ?_
        refine tCa (l := xk_142) rfl rfl (hInvS rfl rfl rfl rfl (Nat.le_of_ble_eq_true rfl) (Nat.le_of_ble_eq_true rfl)) ?_
        refine kch_1 b hR ok (fun R2 res hc h2 => ?_)
        refine tKv ?_
        refine tK (l := xk_142) rfl rfl (fun _ _ _ _ _ => rfl) ?_
        refine tRt (l := xk_142) rfl rfl (fun _ _ _ _ _ => rfl) ?_
        exact hQ R2 res hc h2
      · by_cases h179 : w = 17
        · skip
          refine ⟨2, a, 0, fun b zs s xo d g R Q hR ok hex hQ => ?_⟩
          refine tK (l := xk_142) rfl rfl (fun _ _ _ _ _ => rfl) ?_
          refine tK (l := xk_142) rfl rfl (fun _ _ _ _ _ => rfl) ?_
          refine tIc_ge (l := xk_142) (pc' := 109) rfl rfl rfl (fun hc => ?_) (fun hc => ?_)
          · exfalso
            omega
          refine tK (l := xk_142) rfl rfl (fun _ _ _ _ _ => rfl) ?_
          refine tK (l := xk_142) rfl rfl (fun _ _ _ _ _ => rfl) ?_
          refine tIc_ge (l := xk_142) (pc' := 128) rfl rfl rfl (fun hc => ?_) (fun hc => ?_)
          · exfalso
            omega
          refine tK (l := xk_142) rfl rfl (fun _ _ _ _ _ => rfl) ?_
          refine tK (l := xk_142) rfl rfl (fun _ _ _ _ _ => rfl) ?_
          refine tIc_ne (l := xk_142) (pc' := 147) rfl rfl rfl (fun hc => ?_) (fun hc => ?_)
          · exfalso
            omega
          refine tK (l := xk_142) rfl rfl (fun _ _ _ _ _ => rfl) ?_
          refine tK (l := xk_142) rfl rfl (fun _ _ _ _ _ => rfl) ?_
          refine tIc_ne (l := xk_142) (pc' := 166) rfl rfl rfl (fun hc => ?_) (fun hc => ?_)
          rotate_left
          · exfalso
            omega
          refine tK (l := xk_142) rfl rfl (fun _ _ _ _ _ => rfl) ?_
          refine tK (l := xk_142) rfl rfl (fun _ _ _ _ _ => rfl) ?_
          refine tK (l := xk_142) rfl rfl (fun _ _ _ _ _ => rfl) ?_
          refine tK (l := xk_142) rfl rfl (fun _ _ _ _ _ => rfl) ?_
          refine tK (l := xk_142) rfl rfl (fun _ _ _ _ _ => rfl) ?_
          refine tCa (l := xk_142) rfl rfl (hInvS rfl rfl rfl rfl (Nat.le_of_ble_eq_true rfl) (Nat.le_of_ble_eq_true rfl)) ?_
          refine kch_2 b hR ok (fun R2 res hc h2 => ?_)
          refine tKv ?_
          refine tK (l := xk_142) rfl rfl (fun _ _ _ _ _ => rfl) ?_
          refine tRt (l := xk_142) rfl rfl (fun _ _ _ _ _ => rfl) ?_
          exact hQ R2 res hc h2
        · by_cases h189 : w = 18
          · rcases hi with rfl | rfl
            · skip
              refine ⟨3, a, lo (Int32.ofInt x >>> (Int32.ofInt 4 &&& 31)).toInt 9, fun b zs s xo d g R Q hR ok hex hQ => ?_⟩
              refine tK (l := xk_142) rfl rfl (fun _ _ _ _ _ => rfl) ?_
              refine tK (l := xk_142) rfl rfl (fun _ _ _ _ _ => rfl) ?_
              refine tIc_ge (l := xk_142) (pc' := 109) rfl rfl rfl (fun hc => ?_) (fun hc => ?_)
              · exfalso
                omega
              refine tK (l := xk_142) rfl rfl (fun _ _ _ _ _ => rfl) ?_
              refine tK (l := xk_142) rfl rfl (fun _ _ _ _ _ => rfl) ?_
              refine tIc_ge (l := xk_142) (pc' := 128) rfl rfl rfl (fun hc => ?_) (fun hc => ?_)
              · exfalso
                omega
              refine tK (l := xk_142) rfl rfl (fun _ _ _ _ _ => rfl) ?_
              refine tK (l := xk_142) rfl rfl (fun _ _ _ _ _ => rfl) ?_
              refine tIc_ne (l := xk_142) (pc' := 147) rfl rfl rfl (fun hc => ?_) (fun hc => ?_)
              · exfalso
                omega
              refine tK (l := xk_142) rfl rfl (fun _ _ _ _ _ => rfl) ?_
              refine tK (l := xk_142) rfl rfl (fun _ _ _ _ _ => rfl) ?_
              refine tIc_ne (l := xk_142) (pc' := 166) rfl rfl rfl (fun hc => ?_) (fun hc => ?_)
              · exfalso
                omega
              refine tK (l := xk_142) rfl rfl (fun _ _ _ _ _ => rfl) ?_
              refine tK (l := xk_142) rfl rfl (fun _ _ _ _ _ => rfl) ?_
              refine tIc_ne (l := xk_142) (pc' := 202) rfl rfl rfl (fun hc => ?_) (fun hc => ?_)
              rotate_left
              · exfalso
                omega
              refine tK (l := xk_142) rfl rfl (fun _ _ _ _ _ => rfl) ?_
              refine tK (l := xk_142) rfl rfl (fun _ _ _ _ _ => rfl) ?_
              refine tK (l := xk_142) rfl rfl (fun _ _ _ _ _ => rfl) ?_
              refine tK (l := xk_142) rfl rfl (fun _ _ _ _ _ => rfl) ?_
              refine tK (l := xk_142) rfl rfl (fun _ _ _ _ _ => rfl) ?_
              refine tK (l := xk_142) rfl rfl (fun _ _ _ _ _ => rfl) ?_
              refine tK (l := xk_142) rfl rfl (fun _ _ _ _ _ => rfl) ?_
              refine tIf_eq (l := xk_142) (pc' := 190) rfl rfl rfl (fun hc => ?_) (fun hc => ?_)
              rotate_left
              · exfalso
                exact hc rfl
              refine tK (l := xk_142) rfl rfl (fun _ _ _ _ _ => rfl) ?_
              refine tCa (l := xk_142) rfl rfl (hInvS rfl rfl rfl rfl (Nat.le_of_ble_eq_true rfl) (Nat.le_of_ble_eq_true rfl)) ?_
              refine kLow (by decide) ?_
              refine tKv ?_
              refine tK (l := xk_142) rfl rfl (fun _ _ _ _ _ => rfl) ?_
              refine tCa (l := xk_142) rfl rfl (hInvS rfl rfl rfl rfl (Nat.le_of_ble_eq_true rfl) (Nat.le_of_ble_eq_true rfl)) ?_
              refine kch_3 b hR ok (fun R2 res hc h2 => ?_)
              refine tKv ?_
              refine tK (l := xk_142) rfl rfl (fun _ _ _ _ _ => rfl) ?_
              refine tRt (l := xk_142) rfl rfl (fun _ _ _ _ _ => rfl) ?_
              exact hQ R2 res hc h2
            · skip
              refine ⟨3, a, lo (Int32.ofInt x >>> (Int32.ofInt 4 &&& 31)).toInt 8, fun b zs s xo d g R Q hR ok hex hQ => ?_⟩
              refine tK (l := xk_142) rfl rfl (fun _ _ _ _ _ => rfl) ?_
              refine tK (l := xk_142) rfl rfl (fun _ _ _ _ _ => rfl) ?_
              refine tIc_ge (l := xk_142) (pc' := 109) rfl rfl rfl (fun hc => ?_) (fun hc => ?_)
              · exfalso
                omega
              refine tK (l := xk_142) rfl rfl (fun _ _ _ _ _ => rfl) ?_
              refine tK (l := xk_142) rfl rfl (fun _ _ _ _ _ => rfl) ?_
              refine tIc_ge (l := xk_142) (pc' := 128) rfl rfl rfl (fun hc => ?_) (fun hc => ?_)
              · exfalso
                omega
              refine tK (l := xk_142) rfl rfl (fun _ _ _ _ _ => rfl) ?_
              refine tK (l := xk_142) rfl rfl (fun _ _ _ _ _ => rfl) ?_
              refine tIc_ne (l := xk_142) (pc' := 147) rfl rfl rfl (fun hc => ?_) (fun hc => ?_)
              · exfalso
                omega
              refine tK (l := xk_142) rfl rfl (fun _ _ _ _ _ => rfl) ?_
              refine tK (l := xk_142) rfl rfl (fun _ _ _ _ _ => rfl) ?_
              refine tIc_ne (l := xk_142) (pc' := 166) rfl rfl rfl (fun hc => ?_) (fun hc => ?_)
              · exfalso
                omega
              refine tK (l := xk_142) rfl rfl (fun _ _ _ _ _ => rfl) ?_
              refine tK (l := xk_142) rfl rfl (fun _ _ _ _ _ => rfl) ?_
              refine tIc_ne (l := xk_142) (pc' := 202) rfl rfl rfl (fun hc => ?_) (fun hc => ?_)
              rotate_left
              · exfalso
                omega
              refine tK (l := xk_142) rfl rfl (fun _ _ _ _ _ => rfl) ?_
              refine tK (l := xk_142) rfl rfl (fun _ _ _ _ _ => rfl) ?_
              refine tK (l := xk_142) rfl rfl (fun _ _ _ _ _ => rfl) ?_
              refine tK (l := xk_142) rfl rfl (fun _ _ _ _ _ => rfl) ?_
              refine tK (l := xk_142) rfl rfl (fun _ _ _ _ _ => rfl) ?_
              refine tK (l := xk_142) rfl rfl (fun _ _ _ _ _ => rfl) ?_
              refine tK (l := xk_142) rfl rfl (fun _ _ _ _ _ => rfl) ?_
              refine tIf_eq (l := xk_142) (pc' := 190) rfl rfl rfl (fun hc => ?_) (fun hc => ?_)
              · exfalso
                exact absurd hc (by decide)
              refine tK (l := xk_142) rfl rfl (fun _ _ _ _ _ => rfl) ?_
              refine tK (l := xk_142) rfl rfl (fun _ _ _ _ _ => rfl) ?_
              refine tCa (l := xk_142) rfl rfl (hInvS rfl rfl rfl rfl (Nat.le_of_ble_eq_true rfl) (Nat.le_of_ble_eq_true rfl)) ?_
              refine kLow (by decide) ?_
              refine tKv ?_
              refine tK (l := xk_142) rfl rfl (fun _ _ _ _ _ => rfl) ?_
              refine tCa (l := xk_142) rfl rfl (hInvS rfl rfl rfl rfl (Nat.le_of_ble_eq_true rfl) (Nat.le_of_ble_eq_true rfl)) ?_
              refine kch_3 b hR ok (fun R2 res hc h2 => ?_)
              refine tKv ?_
              refine tK (l := xk_142) rfl rfl (fun _ _ _ _ _ => rfl) ?_
              refine tRt (l := xk_142) rfl rfl (fun _ _ _ _ _ => rfl) ?_
              exact hQ R2 res hc h2
          · by_cases h199 : w = 19
            · skip
              refine ⟨4, a, 0, fun b zs s xo d g R Q hR ok hex hQ => ?_⟩
              refine tK (l := xk_142) rfl rfl (fun _ _ _ _ _ => rfl) ?_
              refine tK (l := xk_142) rfl rfl (fun _ _ _ _ _ => rfl) ?_
              refine tIc_ge (l := xk_142) (pc' := 109) rfl rfl rfl (fun hc => ?_) (fun hc => ?_)
              · exfalso
                omega
              refine tK (l := xk_142) rfl rfl (fun _ _ _ _ _ => rfl) ?_
              refine tK (l := xk_142) rfl rfl (fun _ _ _ _ _ => rfl) ?_
              refine tIc_ge (l := xk_142) (pc' := 128) rfl rfl rfl (fun hc => ?_) (fun hc => ?_)
              · exfalso
                omega
              refine tK (l := xk_142) rfl rfl (fun _ _ _ _ _ => rfl) ?_
              refine tK (l := xk_142) rfl rfl (fun _ _ _ _ _ => rfl) ?_
              refine tIc_ne (l := xk_142) (pc' := 147) rfl rfl rfl (fun hc => ?_) (fun hc => ?_)
              · exfalso
                omega
              refine tK (l := xk_142) rfl rfl (fun _ _ _ _ _ => rfl) ?_
              refine tK (l := xk_142) rfl rfl (fun _ _ _ _ _ => rfl) ?_
              refine tIc_ne (l := xk_142) (pc' := 166) rfl rfl rfl (fun hc => ?_) (fun hc => ?_)
              · exfalso
                omega
              refine tK (l := xk_142) rfl rfl (fun _ _ _ _ _ => rfl) ?_
              refine tK (l := xk_142) rfl rfl (fun _ _ _ _ _ => rfl) ?_
              refine tIc_ne (l := xk_142) (pc' := 202) rfl rfl rfl (fun hc => ?_) (fun hc => ?_)
              · exfalso
                omega
              refine tK (l := xk_142) rfl rfl (fun _ _ _ _ _ => rfl) ?_
              refine tK (l := xk_142) rfl rfl (fun _ _ _ _ _ => rfl) ?_
              refine tIc_ne (l := xk_142) (pc' := 221) rfl rfl rfl (fun hc => ?_) (fun hc => ?_)
              rotate_left
              · exfalso
                omega
              refine tK (l := xk_142) rfl rfl (fun _ _ _ _ _ => rfl) ?_
              refine tK (l := xk_142) rfl rfl (fun _ _ _ _ _ => rfl) ?_
              refine tK (l := xk_142) rfl rfl (fun _ _ _ _ _ => rfl) ?_
              refine tK (l := xk_142) rfl rfl (fun _ _ _ _ _ => rfl) ?_
              refine tK (l := xk_142) rfl rfl (fun _ _ _ _ _ => rfl) ?_
              refine tCa (l := xk_142) rfl rfl (hInvS rfl rfl rfl rfl (Nat.le_of_ble_eq_true rfl) (Nat.le_of_ble_eq_true rfl)) ?_
              refine kch_4 b hR ok (fun R2 res hc h2 => ?_)
              refine tKv ?_
              refine tK (l := xk_142) rfl rfl (fun _ _ _ _ _ => rfl) ?_
              refine tRt (l := xk_142) rfl rfl (fun _ _ _ _ _ => rfl) ?_
              exact hQ R2 res hc h2
            · by_cases h22 : w < 22
              · skip
                refine ⟨5, a, 0, fun b zs s xo d g R Q hR ok hex hQ => ?_⟩
                refine tK (l := xk_142) rfl rfl (fun _ _ _ _ _ => rfl) ?_
                refine tK (l := xk_142) rfl rfl (fun _ _ _ _ _ => rfl) ?_
                refine tIc_ge (l := xk_142) (pc' := 109) rfl rfl rfl (fun hc => ?_) (fun hc => ?_)
                · exfalso
                  omega
                refine tK (l := xk_142) rfl rfl (fun _ _ _ _ _ => rfl) ?_
                refine tK (l := xk_142) rfl rfl (fun _ _ _ _ _ => rfl) ?_
                refine tIc_ge (l := xk_142) (pc' := 128) rfl rfl rfl (fun hc => ?_) (fun hc => ?_)
                · exfalso
                  omega
                refine tK (l := xk_142) rfl rfl (fun _ _ _ _ _ => rfl) ?_
                refine tK (l := xk_142) rfl rfl (fun _ _ _ _ _ => rfl) ?_
                refine tIc_ne (l := xk_142) (pc' := 147) rfl rfl rfl (fun hc => ?_) (fun hc => ?_)
                · exfalso
                  omega
                refine tK (l := xk_142) rfl rfl (fun _ _ _ _ _ => rfl) ?_
                refine tK (l := xk_142) rfl rfl (fun _ _ _ _ _ => rfl) ?_
                refine tIc_ne (l := xk_142) (pc' := 166) rfl rfl rfl (fun hc => ?_) (fun hc => ?_)
                · exfalso
                  omega
                refine tK (l := xk_142) rfl rfl (fun _ _ _ _ _ => rfl) ?_
                refine tK (l := xk_142) rfl rfl (fun _ _ _ _ _ => rfl) ?_
                refine tIc_ne (l := xk_142) (pc' := 202) rfl rfl rfl (fun hc => ?_) (fun hc => ?_)
                · exfalso
                  omega
                refine tK (l := xk_142) rfl rfl (fun _ _ _ _ _ => rfl) ?_
                refine tK (l := xk_142) rfl rfl (fun _ _ _ _ _ => rfl) ?_
                refine tIc_ne (l := xk_142) (pc' := 221) rfl rfl rfl (fun hc => ?_) (fun hc => ?_)
                · exfalso
                  omega
                refine tK (l := xk_142) rfl rfl (fun _ _ _ _ _ => rfl) ?_
                refine tK (l := xk_142) rfl rfl (fun _ _ _ _ _ => rfl) ?_
                refine tIc_ge (l := xk_142) (pc' := 240) rfl rfl rfl (fun hc => ?_) (fun hc => ?_)
                rotate_left
                · exfalso
                  omega
                refine tK (l := xk_142) rfl rfl (fun _ _ _ _ _ => rfl) ?_
                refine tK (l := xk_142) rfl rfl (fun _ _ _ _ _ => rfl) ?_
                refine tK (l := xk_142) rfl rfl (fun _ _ _ _ _ => rfl) ?_
                refine tK (l := xk_142) rfl rfl (fun _ _ _ _ _ => rfl) ?_
                refine tK (l := xk_142) rfl rfl (fun _ _ _ _ _ => rfl) ?_
                refine tCa (l := xk_142) rfl rfl (hInvS rfl rfl rfl rfl (Nat.le_of_ble_eq_true rfl) (Nat.le_of_ble_eq_true rfl)) ?_
                refine kch_5 b hR ok (fun R2 res hc h2 => ?_)
                refine tKv ?_
                refine tK (l := xk_142) rfl rfl (fun _ _ _ _ _ => rfl) ?_
                refine tRt (l := xk_142) rfl rfl (fun _ _ _ _ _ => rfl) ?_
                exact hQ R2 res hc h2
              · skip
                refine ⟨6, a, 0, fun b zs s xo d g R Q hR ok hex hQ => ?_⟩
                refine tK (l := xk_142) rfl rfl (fun _ _ _ _ _ => rfl) ?_
                refine tK (l := xk_142) rfl rfl (fun _ _ _ _ _ => rfl) ?_
                refine tIc_ge (l := xk_142) (pc' := 109) rfl rfl rfl (fun hc => ?_) (fun hc => ?_)
                · exfalso
                  omega
                refine tK (l := xk_142) rfl rfl (fun _ _ _ _ _ => rfl) ?_
                refine tK (l := xk_142) rfl rfl (fun _ _ _ _ _ => rfl) ?_
                refine tIc_ge (l := xk_142) (pc' := 128) rfl rfl rfl (fun hc => ?_) (fun hc => ?_)
                · exfalso
                  omega
                refine tK (l := xk_142) rfl rfl (fun _ _ _ _ _ => rfl) ?_
                refine tK (l := xk_142) rfl rfl (fun _ _ _ _ _ => rfl) ?_
                refine tIc_ne (l := xk_142) (pc' := 147) rfl rfl rfl (fun hc => ?_) (fun hc => ?_)
                · exfalso
                  omega
                refine tK (l := xk_142) rfl rfl (fun _ _ _ _ _ => rfl) ?_
                refine tK (l := xk_142) rfl rfl (fun _ _ _ _ _ => rfl) ?_
                refine tIc_ne (l := xk_142) (pc' := 166) rfl rfl rfl (fun hc => ?_) (fun hc => ?_)
                · exfalso
                  omega
                refine tK (l := xk_142) rfl rfl (fun _ _ _ _ _ => rfl) ?_
                refine tK (l := xk_142) rfl rfl (fun _ _ _ _ _ => rfl) ?_
                refine tIc_ne (l := xk_142) (pc' := 202) rfl rfl rfl (fun hc => ?_) (fun hc => ?_)
                · exfalso
                  omega
                refine tK (l := xk_142) rfl rfl (fun _ _ _ _ _ => rfl) ?_
                refine tK (l := xk_142) rfl rfl (fun _ _ _ _ _ => rfl) ?_
                refine tIc_ne (l := xk_142) (pc' := 221) rfl rfl rfl (fun hc => ?_) (fun hc => ?_)
                · exfalso
                  omega
                refine tK (l := xk_142) rfl rfl (fun _ _ _ _ _ => rfl) ?_
                refine tK (l := xk_142) rfl rfl (fun _ _ _ _ _ => rfl) ?_
                refine tIc_ge (l := xk_142) (pc' := 240) rfl rfl rfl (fun hc => ?_) (fun hc => ?_)
                · exfalso
                  omega
                refine tK (l := xk_142) rfl rfl (fun _ _ _ _ _ => rfl) ?_
                refine tK (l := xk_142) rfl rfl (fun _ _ _ _ _ => rfl) ?_
                refine tK (l := xk_142) rfl rfl (fun _ _ _ _ _ => rfl) ?_
                refine tK (l := xk_142) rfl rfl (fun _ _ _ _ _ => rfl) ?_
                refine tK (l := xk_142) rfl rfl (fun _ _ _ _ _ => rfl) ?_
                refine tCa (l := xk_142) rfl rfl (hInvS rfl rfl rfl rfl (Nat.le_of_ble_eq_true rfl) (Nat.le_of_ble_eq_true rfl)) ?_
                refine kch_6 b hR ok (fun R2 res hc h2 => ?_)
                refine tKv ?_
                refine tRt (l := xk_142) rfl rfl (fun _ _ _ _ _ => rfl) ?_
                exact hQ R2 res hc h2
theorem kAct (v : Int) : ∃ (k : Nat) (a y : Int), ∀ (b : Bool) (zs : List xV) (s : KS × KS) (xo : Int) (d g : Nat) (R : xH) (Q : xR → Prop), hPP zs R s xo → okK 1000 (gt2 b s) → (pWh (gt2 b s).1 = true → ∃ D, Fin (gt2 b s).1 (gt2 b s).2.1.1 (-1) D) → (∀ R2 res, CH (gt2 b s).1 (gt2 b s).2.1 a y k res → hPP zs R2 (pt2 b s (app (gt2 b s) res)) (ouR xo res) → Q (.inl (some (.inl (cdR res))), R2, g + exR res)) → xTC (d + 1226) 142 [.inr (.inl (some (ob b))), .inl v, .inr (.inl (some 293))] R g Q := by
  have hw := lo_in (v := v) (n := 24) (by decide)
  by_cases hi : 0 < lo (Int32.ofInt v >>> (Int32.ofInt 22 &&& 31)).toInt 9
  · by_cases hb : (Int32.ofInt (Int32.ofInt (Int32.ofInt v >>> (Int32.ofInt 5 &&& 31)).toInt >>> (Int32.ofInt 12 &&& 31)).toInt &&& Int32.ofInt 1).toInt = 0
    · obtain ⟨k, a2, y, h⟩ := kAct_t (Int32.ofInt v >>> (Int32.ofInt 5 &&& 31)).toInt 1 (lo v 24) (lo (Int32.ofInt v >>> (Int32.ofInt 5 &&& 31)).toInt 4) v (by decide) hw
      refine ⟨k, a2, y, fun b zs s xo d g R Q hR ok hex hQ => ?_⟩
      refine tEn (ls := [some (.inr (.inl (some (ob b)))), some (.inl v), some (.inr (.inl (some 293))), none, none, none, none]) (fun k => by match k with | 0 => rfl | 1 => rfl | 2 => rfl | 3 => rfl | 4 => rfl | 5 => rfl | 6 => rfl | k + 7 => rfl) ?_
      refine tK (l := xk_142) rfl rfl (fun _ _ _ _ _ => rfl) ?_
      refine tK (l := xk_142) rfl rfl (fun _ _ _ _ _ => rfl) ?_
      refine tK (l := xk_142) rfl rfl (fun _ _ _ _ _ => rfl) ?_
      refine tSt (l := xk_142) rfl rfl (fun _ _ _ _ _ => rfl) (Nat.le_of_ble_eq_true rfl) ?_
      refine tK (l := xk_142) rfl rfl (fun _ _ _ _ _ => rfl) ?_
      refine tK (l := xk_142) rfl rfl (fun _ _ _ _ _ => rfl) ?_
      refine tK (l := xk_142) rfl rfl (fun _ _ _ _ _ => rfl) ?_
      refine tK (l := xk_142) rfl rfl (fun _ _ _ _ _ => rfl) ?_
      refine tCa (l := xk_142) rfl rfl (hInvS rfl rfl rfl rfl (Nat.le_of_ble_eq_true rfl) (Nat.le_of_ble_eq_true rfl)) ?_
      refine kLow (by decide) ?_
      refine tKv ?_
      refine tIf_le (l := xk_142) (pc' := 20) rfl rfl rfl (fun hc => ?_) (fun hc => ?_)
      rotate_left
      · exfalso
        first | exact hc hi | exact hi hc
      refine tK (l := xk_142) rfl rfl (fun _ _ _ _ _ => rfl) ?_
      refine tK (l := xk_142) rfl rfl (fun _ _ _ _ _ => rfl) ?_
      refine tSt (l := xk_142) rfl rfl (fun _ _ _ _ _ => rfl) (Nat.le_of_ble_eq_true rfl) ?_
      refine tK (l := xk_142) rfl rfl (fun _ _ _ _ _ => rfl) ?_
      refine tK (l := xk_142) rfl rfl (fun _ _ _ _ _ => rfl) ?_
      refine tCa (l := xk_142) rfl rfl (hInvS rfl rfl rfl rfl (Nat.le_of_ble_eq_true rfl) (Nat.le_of_ble_eq_true rfl)) ?_
      refine kLow (by decide) ?_
      refine tKv ?_
      refine tSt (l := xk_142) rfl rfl (fun _ _ _ _ _ => rfl) (Nat.le_of_ble_eq_true rfl) ?_
      refine tK (l := xk_142) rfl rfl (fun _ _ _ _ _ => rfl) ?_
      refine tK (l := xk_142) rfl rfl (fun _ _ _ _ _ => rfl) ?_
      refine tIf_eq (l := xk_142) (pc' := 42) rfl rfl rfl (fun hc => ?_) (fun hc => ?_)
      · exfalso
        exact absurd hc (by decide)
      refine tK (l := xk_142) rfl rfl (fun _ _ _ _ _ => rfl) ?_
      refine tK (l := xk_142) rfl rfl (fun _ _ _ _ _ => rfl) ?_
      refine tCa (l := xk_142) rfl rfl (hInvS rfl rfl rfl rfl (Nat.le_of_ble_eq_true rfl) (Nat.le_of_ble_eq_true rfl)) ?_
      refine kLow (by decide) ?_
      refine tKv ?_
      refine tSt (l := xk_142) rfl rfl (fun _ _ _ _ _ => rfl) (Nat.le_of_ble_eq_true rfl) ?_
      refine tK (l := xk_142) rfl rfl (fun _ _ _ _ _ => rfl) ?_
      refine tK (l := xk_142) rfl rfl (fun _ _ _ _ _ => rfl) ?_
      refine tK (l := xk_142) rfl rfl (fun _ _ _ _ _ => rfl) ?_
      refine tK (l := xk_142) rfl rfl (fun _ _ _ _ _ => rfl) ?_
      refine tK (l := xk_142) rfl rfl (fun _ _ _ _ _ => rfl) ?_
      refine tIf_ne (l := xk_142) (pc' := 66) rfl rfl rfl (fun hc => ?_) (fun hc => ?_)
      rotate_left
      · exfalso
        exact hc hb
      refine tK (l := xk_142) rfl rfl (fun _ _ _ _ _ => rfl) ?_
      refine tK (l := xk_142) rfl rfl (fun _ _ _ _ _ => rfl) ?_
      refine tCa (l := xk_142) rfl rfl (hInvS rfl rfl rfl rfl (Nat.le_of_ble_eq_true rfl) (Nat.le_of_ble_eq_true rfl)) ?_
      refine kLow (by decide) ?_
      refine tKv ?_
      refine tK (l := xk_142) rfl rfl (fun _ _ _ _ _ => rfl) ?_
      refine tSt (l := xk_142) rfl rfl (fun _ _ _ _ _ => rfl) (Nat.le_of_ble_eq_true rfl) ?_
      exact h b zs s xo d g R Q hR ok hex hQ
    · obtain ⟨k, a2, y, h⟩ := kAct_t (Int32.ofInt v >>> (Int32.ofInt 5 &&& 31)).toInt 1 (lo v 24) (lo (Int32.ofInt v >>> (Int32.ofInt 5 &&& 31)).toInt 8) v (by decide) hw
      refine ⟨k, a2, y, fun b zs s xo d g R Q hR ok hex hQ => ?_⟩
      refine tEn (ls := [some (.inr (.inl (some (ob b)))), some (.inl v), some (.inr (.inl (some 293))), none, none, none, none]) (fun k => by match k with | 0 => rfl | 1 => rfl | 2 => rfl | 3 => rfl | 4 => rfl | 5 => rfl | 6 => rfl | k + 7 => rfl) ?_
      refine tK (l := xk_142) rfl rfl (fun _ _ _ _ _ => rfl) ?_
      refine tK (l := xk_142) rfl rfl (fun _ _ _ _ _ => rfl) ?_
      refine tK (l := xk_142) rfl rfl (fun _ _ _ _ _ => rfl) ?_
      refine tSt (l := xk_142) rfl rfl (fun _ _ _ _ _ => rfl) (Nat.le_of_ble_eq_true rfl) ?_
      refine tK (l := xk_142) rfl rfl (fun _ _ _ _ _ => rfl) ?_
      refine tK (l := xk_142) rfl rfl (fun _ _ _ _ _ => rfl) ?_
      refine tK (l := xk_142) rfl rfl (fun _ _ _ _ _ => rfl) ?_
      refine tK (l := xk_142) rfl rfl (fun _ _ _ _ _ => rfl) ?_
      refine tCa (l := xk_142) rfl rfl (hInvS rfl rfl rfl rfl (Nat.le_of_ble_eq_true rfl) (Nat.le_of_ble_eq_true rfl)) ?_
      refine kLow (by decide) ?_
      refine tKv ?_
      refine tIf_le (l := xk_142) (pc' := 20) rfl rfl rfl (fun hc => ?_) (fun hc => ?_)
      rotate_left
      · exfalso
        first | exact hc hi | exact hi hc
      refine tK (l := xk_142) rfl rfl (fun _ _ _ _ _ => rfl) ?_
      refine tK (l := xk_142) rfl rfl (fun _ _ _ _ _ => rfl) ?_
      refine tSt (l := xk_142) rfl rfl (fun _ _ _ _ _ => rfl) (Nat.le_of_ble_eq_true rfl) ?_
      refine tK (l := xk_142) rfl rfl (fun _ _ _ _ _ => rfl) ?_
      refine tK (l := xk_142) rfl rfl (fun _ _ _ _ _ => rfl) ?_
      refine tCa (l := xk_142) rfl rfl (hInvS rfl rfl rfl rfl (Nat.le_of_ble_eq_true rfl) (Nat.le_of_ble_eq_true rfl)) ?_
      refine kLow (by decide) ?_
      refine tKv ?_
      refine tSt (l := xk_142) rfl rfl (fun _ _ _ _ _ => rfl) (Nat.le_of_ble_eq_true rfl) ?_
      refine tK (l := xk_142) rfl rfl (fun _ _ _ _ _ => rfl) ?_
      refine tK (l := xk_142) rfl rfl (fun _ _ _ _ _ => rfl) ?_
      refine tIf_eq (l := xk_142) (pc' := 42) rfl rfl rfl (fun hc => ?_) (fun hc => ?_)
      · exfalso
        exact absurd hc (by decide)
      refine tK (l := xk_142) rfl rfl (fun _ _ _ _ _ => rfl) ?_
      refine tK (l := xk_142) rfl rfl (fun _ _ _ _ _ => rfl) ?_
      refine tCa (l := xk_142) rfl rfl (hInvS rfl rfl rfl rfl (Nat.le_of_ble_eq_true rfl) (Nat.le_of_ble_eq_true rfl)) ?_
      refine kLow (by decide) ?_
      refine tKv ?_
      refine tSt (l := xk_142) rfl rfl (fun _ _ _ _ _ => rfl) (Nat.le_of_ble_eq_true rfl) ?_
      refine tK (l := xk_142) rfl rfl (fun _ _ _ _ _ => rfl) ?_
      refine tK (l := xk_142) rfl rfl (fun _ _ _ _ _ => rfl) ?_
      refine tK (l := xk_142) rfl rfl (fun _ _ _ _ _ => rfl) ?_
      refine tK (l := xk_142) rfl rfl (fun _ _ _ _ _ => rfl) ?_
      refine tK (l := xk_142) rfl rfl (fun _ _ _ _ _ => rfl) ?_
      refine tIf_ne (l := xk_142) (pc' := 66) rfl rfl rfl (fun hc => ?_) (fun hc => ?_)
      · exfalso
        exact hb hc
      refine tK (l := xk_142) rfl rfl (fun _ _ _ _ _ => rfl) ?_
      refine tSt (l := xk_142) rfl rfl (fun _ _ _ _ _ => rfl) (Nat.le_of_ble_eq_true rfl) ?_
      exact h b zs s xo d g R Q hR ok hex hQ
  · by_cases hb : (Int32.ofInt (Int32.ofInt (Int32.ofInt v >>> (Int32.ofInt 5 &&& 31)).toInt >>> (Int32.ofInt 12 &&& 31)).toInt &&& Int32.ofInt 1).toInt = 0
    · obtain ⟨k, a2, y, h⟩ := kAct_t (Int32.ofInt v >>> (Int32.ofInt 5 &&& 31)).toInt 0 (lo v 24) (lo (Int32.ofInt v >>> (Int32.ofInt 5 &&& 31)).toInt 4) v (by decide) hw
      refine ⟨k, a2, y, fun b zs s xo d g R Q hR ok hex hQ => ?_⟩
      refine tEn (ls := [some (.inr (.inl (some (ob b)))), some (.inl v), some (.inr (.inl (some 293))), none, none, none, none]) (fun k => by match k with | 0 => rfl | 1 => rfl | 2 => rfl | 3 => rfl | 4 => rfl | 5 => rfl | 6 => rfl | k + 7 => rfl) ?_
      refine tK (l := xk_142) rfl rfl (fun _ _ _ _ _ => rfl) ?_
      refine tK (l := xk_142) rfl rfl (fun _ _ _ _ _ => rfl) ?_
      refine tK (l := xk_142) rfl rfl (fun _ _ _ _ _ => rfl) ?_
      refine tSt (l := xk_142) rfl rfl (fun _ _ _ _ _ => rfl) (Nat.le_of_ble_eq_true rfl) ?_
      refine tK (l := xk_142) rfl rfl (fun _ _ _ _ _ => rfl) ?_
      refine tK (l := xk_142) rfl rfl (fun _ _ _ _ _ => rfl) ?_
      refine tK (l := xk_142) rfl rfl (fun _ _ _ _ _ => rfl) ?_
      refine tK (l := xk_142) rfl rfl (fun _ _ _ _ _ => rfl) ?_
      refine tCa (l := xk_142) rfl rfl (hInvS rfl rfl rfl rfl (Nat.le_of_ble_eq_true rfl) (Nat.le_of_ble_eq_true rfl)) ?_
      refine kLow (by decide) ?_
      refine tKv ?_
      refine tIf_le (l := xk_142) (pc' := 20) rfl rfl rfl (fun hc => ?_) (fun hc => ?_)
      · exfalso
        first | exact hc hi | exact hi hc
      refine tK (l := xk_142) rfl rfl (fun _ _ _ _ _ => rfl) ?_
      refine tSt (l := xk_142) rfl rfl (fun _ _ _ _ _ => rfl) (Nat.le_of_ble_eq_true rfl) ?_
      refine tK (l := xk_142) rfl rfl (fun _ _ _ _ _ => rfl) ?_
      refine tK (l := xk_142) rfl rfl (fun _ _ _ _ _ => rfl) ?_
      refine tCa (l := xk_142) rfl rfl (hInvS rfl rfl rfl rfl (Nat.le_of_ble_eq_true rfl) (Nat.le_of_ble_eq_true rfl)) ?_
      refine kLow (by decide) ?_
      refine tKv ?_
      refine tSt (l := xk_142) rfl rfl (fun _ _ _ _ _ => rfl) (Nat.le_of_ble_eq_true rfl) ?_
      refine tK (l := xk_142) rfl rfl (fun _ _ _ _ _ => rfl) ?_
      refine tK (l := xk_142) rfl rfl (fun _ _ _ _ _ => rfl) ?_
      refine tIf_eq (l := xk_142) (pc' := 42) rfl rfl rfl (fun hc => ?_) (fun hc => ?_)
      rotate_left
      · exfalso
        exact hc rfl
      refine tK (l := xk_142) rfl rfl (fun _ _ _ _ _ => rfl) ?_
      refine tCa (l := xk_142) rfl rfl (hInvS rfl rfl rfl rfl (Nat.le_of_ble_eq_true rfl) (Nat.le_of_ble_eq_true rfl)) ?_
      refine kLow (by decide) ?_
      refine tKv ?_
      refine tSt (l := xk_142) rfl rfl (fun _ _ _ _ _ => rfl) (Nat.le_of_ble_eq_true rfl) ?_
      refine tK (l := xk_142) rfl rfl (fun _ _ _ _ _ => rfl) ?_
      refine tK (l := xk_142) rfl rfl (fun _ _ _ _ _ => rfl) ?_
      refine tK (l := xk_142) rfl rfl (fun _ _ _ _ _ => rfl) ?_
      refine tK (l := xk_142) rfl rfl (fun _ _ _ _ _ => rfl) ?_
      refine tK (l := xk_142) rfl rfl (fun _ _ _ _ _ => rfl) ?_
      refine tIf_ne (l := xk_142) (pc' := 66) rfl rfl rfl (fun hc => ?_) (fun hc => ?_)
      rotate_left
      · exfalso
        exact hc hb
      refine tK (l := xk_142) rfl rfl (fun _ _ _ _ _ => rfl) ?_
      refine tK (l := xk_142) rfl rfl (fun _ _ _ _ _ => rfl) ?_
      refine tCa (l := xk_142) rfl rfl (hInvS rfl rfl rfl rfl (Nat.le_of_ble_eq_true rfl) (Nat.le_of_ble_eq_true rfl)) ?_
      refine kLow (by decide) ?_
      refine tKv ?_
      refine tK (l := xk_142) rfl rfl (fun _ _ _ _ _ => rfl) ?_
      refine tSt (l := xk_142) rfl rfl (fun _ _ _ _ _ => rfl) (Nat.le_of_ble_eq_true rfl) ?_
      exact h b zs s xo d g R Q hR ok hex hQ
    · obtain ⟨k, a2, y, h⟩ := kAct_t (Int32.ofInt v >>> (Int32.ofInt 5 &&& 31)).toInt 0 (lo v 24) (lo (Int32.ofInt v >>> (Int32.ofInt 5 &&& 31)).toInt 10) v (by decide) hw
      refine ⟨k, a2, y, fun b zs s xo d g R Q hR ok hex hQ => ?_⟩
      refine tEn (ls := [some (.inr (.inl (some (ob b)))), some (.inl v), some (.inr (.inl (some 293))), none, none, none, none]) (fun k => by match k with | 0 => rfl | 1 => rfl | 2 => rfl | 3 => rfl | 4 => rfl | 5 => rfl | 6 => rfl | k + 7 => rfl) ?_
      refine tK (l := xk_142) rfl rfl (fun _ _ _ _ _ => rfl) ?_
      refine tK (l := xk_142) rfl rfl (fun _ _ _ _ _ => rfl) ?_
      refine tK (l := xk_142) rfl rfl (fun _ _ _ _ _ => rfl) ?_
      refine tSt (l := xk_142) rfl rfl (fun _ _ _ _ _ => rfl) (Nat.le_of_ble_eq_true rfl) ?_
      refine tK (l := xk_142) rfl rfl (fun _ _ _ _ _ => rfl) ?_
      refine tK (l := xk_142) rfl rfl (fun _ _ _ _ _ => rfl) ?_
      refine tK (l := xk_142) rfl rfl (fun _ _ _ _ _ => rfl) ?_
      refine tK (l := xk_142) rfl rfl (fun _ _ _ _ _ => rfl) ?_
      refine tCa (l := xk_142) rfl rfl (hInvS rfl rfl rfl rfl (Nat.le_of_ble_eq_true rfl) (Nat.le_of_ble_eq_true rfl)) ?_
      refine kLow (by decide) ?_
      refine tKv ?_
      refine tIf_le (l := xk_142) (pc' := 20) rfl rfl rfl (fun hc => ?_) (fun hc => ?_)
      · exfalso
        first | exact hc hi | exact hi hc
      refine tK (l := xk_142) rfl rfl (fun _ _ _ _ _ => rfl) ?_
      refine tSt (l := xk_142) rfl rfl (fun _ _ _ _ _ => rfl) (Nat.le_of_ble_eq_true rfl) ?_
      refine tK (l := xk_142) rfl rfl (fun _ _ _ _ _ => rfl) ?_
      refine tK (l := xk_142) rfl rfl (fun _ _ _ _ _ => rfl) ?_
      refine tCa (l := xk_142) rfl rfl (hInvS rfl rfl rfl rfl (Nat.le_of_ble_eq_true rfl) (Nat.le_of_ble_eq_true rfl)) ?_
      refine kLow (by decide) ?_
      refine tKv ?_
      refine tSt (l := xk_142) rfl rfl (fun _ _ _ _ _ => rfl) (Nat.le_of_ble_eq_true rfl) ?_
      refine tK (l := xk_142) rfl rfl (fun _ _ _ _ _ => rfl) ?_
      refine tK (l := xk_142) rfl rfl (fun _ _ _ _ _ => rfl) ?_
      refine tIf_eq (l := xk_142) (pc' := 42) rfl rfl rfl (fun hc => ?_) (fun hc => ?_)
      rotate_left
      · exfalso
        exact hc rfl
      refine tK (l := xk_142) rfl rfl (fun _ _ _ _ _ => rfl) ?_
      refine tCa (l := xk_142) rfl rfl (hInvS rfl rfl rfl rfl (Nat.le_of_ble_eq_true rfl) (Nat.le_of_ble_eq_true rfl)) ?_
      refine kLow (by decide) ?_
      refine tKv ?_
      refine tSt (l := xk_142) rfl rfl (fun _ _ _ _ _ => rfl) (Nat.le_of_ble_eq_true rfl) ?_
      refine tK (l := xk_142) rfl rfl (fun _ _ _ _ _ => rfl) ?_
      refine tK (l := xk_142) rfl rfl (fun _ _ _ _ _ => rfl) ?_
      refine tK (l := xk_142) rfl rfl (fun _ _ _ _ _ => rfl) ?_
      refine tK (l := xk_142) rfl rfl (fun _ _ _ _ _ => rfl) ?_
      refine tK (l := xk_142) rfl rfl (fun _ _ _ _ _ => rfl) ?_
      refine tIf_ne (l := xk_142) (pc' := 66) rfl rfl rfl (fun hc => ?_) (fun hc => ?_)
      · exfalso
        exact hb hc
      refine tK (l := xk_142) rfl rfl (fun _ _ _ _ _ => rfl) ?_
      refine tSt (l := xk_142) rfl rfl (fun _ _ _ _ _ => rfl) (Nat.le_of_ble_eq_true rfl) ?_
      exact h b zs s xo d g R Q hR ok hex hQ
