/-! ===== the class's hash ===== -/
def hw (h v : Int64) : Int64 := 31 * h + v
def hi (h : Int64) (x : Int) : Int64 := hw h (Int64.ofInt x)
def hL (h : Int64) (l : List Int) : Int64 := l.foldl hi h
theorem hL_app (h : Int64) (a b : List Int) : hL h (a ++ b) = hL (hL h a) b := List.foldl_append
theorem hL_cons (h : Int64) (x : Int) (l : List Int) : hL h (x :: l) = hL (hi h x) l := rfl
theorem hL_nil (h : Int64) : hL h [] = h := rfl
theorem hL_one (h : Int64) (x : Int) : hi h x = hL h [x] := rfl
def oL (st : SS) : List Int := ((st.2.1.1.length : Int) :: st.2.1.1) ++ ((if st.2.1.2.1 = 0 then [0] else [1, st.2.1.2.1]) ++ (((st.2.1.2.2.1.length : Int) :: st.2.1.2.2.1) ++ [st.2.1.2.2.2.1, st.2.1.2.2.2.2.1, st.2.1.2.2.2.2.2.1, st.2.1.2.2.2.2.2.2, st.2.2.1, st.2.2.2.1, st.2.2.2.2]))
def vL (v : Option (List Int)) : List Int := match v with
  | none => [0]
  | some v => 1 :: (((v.length : Int) :: v) ++ [if pWh v = true then 1 else 0, ((esc v).length : Int), (v.length : Int)])
section HSH
variable {d : Nat} {ph : xH} {zs : List xV} {g : Nat} {Q : xR → Prop} {c : KS} {h0 : Int64}
theorem s103 {v : Int64} (hQ : Q (.inl (some (.inr (.inr (.inl (hw h0 v))))), ph, g)) : xTC d 103 [.inr (.inr (.inl h0)), .inr (.inr (.inl v))] ph g Q := by
  refine tEn (ls := [some (.inr (.inr (.inl h0))), none, some (.inr (.inr (.inl v))), none]) (fun k => by match k with | 0 => rfl | 1 => rfl | 2 => rfl | 3 => rfl | k + 4 => rfl) ?_
  refine tK (l := xk_103) rfl rfl (fun _ _ _ _ _ => rfl) ?_
  refine tK (l := xk_103) rfl rfl (fun _ _ _ _ _ => rfl) ?_
  refine tK (l := xk_103) rfl rfl (fun _ _ _ _ _ => rfl) ?_
  refine tK (l := xk_103) rfl rfl (fun _ _ _ _ _ => rfl) ?_
  refine tK (l := xk_103) rfl rfl (fun _ _ _ _ _ => rfl) ?_
  refine tRt (l := xk_103) rfl rfl (fun _ _ _ _ _ => rfl) ?_
  exact hQ
theorem s104_0 (hQ : Q (.inl (some (.inr (.inr (.inl (hi h0 0))))), ph, g)) : xTC (d + 1) 104 [.inr (.inr (.inl h0)), .inl 0] ph g Q := by
  refine tEn (ls := [some (.inr (.inr (.inl h0))), none, some (.inl 0)]) (fun k => by match k with | 0 => rfl | 1 => rfl | 2 => rfl | k + 3 => rfl) ?_
  refine tK (l := xk_104) rfl rfl (fun _ _ _ _ _ => rfl) ?_
  refine tK (l := xk_104) rfl rfl (fun _ _ _ _ _ => rfl) ?_
  refine tIf_eq (l := xk_104) (pc' := 9) rfl rfl rfl (fun hc => ?_) (fun hc => ?_)
  · refine tK (l := xk_104) rfl rfl (fun _ _ _ _ _ => rfl) ?_
    refine tCa (l := xk_104) rfl rfl (hInvS rfl rfl rfl rfl (Nat.le_of_ble_eq_true rfl) (Nat.le_of_ble_eq_true rfl)) ?_
    refine s103 ?_
    refine tKv ?_
    refine tRt (l := xk_104) rfl rfl (fun _ _ _ _ _ => rfl) ?_
    exact hQ
  · exact absurd rfl hc
theorem s104_1 (hQ : Q (.inl (some (.inr (.inr (.inl (hi h0 1))))), ph, g)) : xTC (d + 1) 104 [.inr (.inr (.inl h0)), .inl 1] ph g Q := by
  refine tEn (ls := [some (.inr (.inr (.inl h0))), none, some (.inl 1)]) (fun k => by match k with | 0 => rfl | 1 => rfl | 2 => rfl | k + 3 => rfl) ?_
  refine tK (l := xk_104) rfl rfl (fun _ _ _ _ _ => rfl) ?_
  refine tK (l := xk_104) rfl rfl (fun _ _ _ _ _ => rfl) ?_
  refine tIf_eq (l := xk_104) (pc' := 9) rfl rfl rfl (fun hc => ?_) (fun hc => ?_)
  · exact absurd hc (by decide)
  · refine tK (l := xk_104) rfl rfl (fun _ _ _ _ _ => rfl) ?_
    refine tK (l := xk_104) rfl rfl (fun _ _ _ _ _ => rfl) ?_
    refine tCa (l := xk_104) rfl rfl (hInvS rfl rfl rfl rfl (Nat.le_of_ble_eq_true rfl) (Nat.le_of_ble_eq_true rfl)) ?_
    refine s103 ?_
    refine tKv ?_
    refine tRt (l := xk_104) rfl rfl (fun _ _ _ _ _ => rfl) ?_
    exact hQ
theorem s102 {t r : Nat} {s : List Int} (hs : hSh zs ph) (ht : hTg t = 8) (hw9 : hTW ph t) (hr : r < hRw t) (hv : hTo ph t r = some s) (hQ : Q (.inl (some (.inr (.inr (.inl (hL h0 ((s.length : Int) :: s)))))), ph, g)) : xTC (d + 1) 102 [.inr (.inr (.inl h0)), .inr (.inl (some t)), .inl (r : Int)] ph g Q := by
  have hz := hTx_sz ht
  have hsl := hTo_len hw9 hr hv
  have loop : ∀ (m i : Nat), i + m = s.length → xT (d + 1) 102 19 (xlo [some (.inr (.inr (.inl h0))), none, some (.inr (.inl (some t))), some (.inl (r : Int)), some (.inl (s.length : Int)), some (.inr (.inr (.inl (hL (hi h0 (s.length : Int)) (s.take i))))), none, some (.inl (i : Int))]) [] ph g Q := by
    intro m
    induction m with
    | zero =>
      intro i him
      rw [show i = s.length by omega, List.take_length]
      refine tK (l := xk_102) rfl rfl (fun _ _ _ _ _ => rfl) ?_
      refine tK (l := xk_102) rfl rfl (fun _ _ _ _ _ => rfl) ?_
      refine tIc_ge (l := xk_102) (pc' := 47) rfl rfl rfl (fun hc => ?_) (fun hc => ?_)
      · exfalso; omega
      · refine tK (l := xk_102) rfl rfl (fun _ _ _ _ _ => rfl) ?_
        refine tRt (l := xk_102) rfl rfl (fun _ _ _ _ _ => rfl) ?_
        exact hQ
    | succ m ih =>
      intro i him
      obtain ⟨x, hx⟩ : ∃ x, s[i]? = some x := ⟨_, List.getElem?_eq_getElem (by omega)⟩
      have hnx := ih (i + 1) (by omega)
      rw [show s.take (i + 1) = s.take i ++ [x] by rw [List.take_add_one, hx]; rfl, hL_app] at hnx
      refine tK (l := xk_102) rfl rfl (fun _ _ _ _ _ => rfl) ?_
      refine tK (l := xk_102) rfl rfl (fun _ _ _ _ _ => rfl) ?_
      refine tIc_ge (l := xk_102) (pc' := 47) rfl rfl rfl (fun hc => ?_) (fun hc => ?_)
      · refine tK (l := xk_102) rfl rfl (fun _ _ _ _ _ => rfl) ?_
        refine tK (l := xk_102) rfl rfl (fun _ _ _ _ _ => rfl) ?_
        refine tK (l := xk_102) rfl rfl (fun _ _ _ _ _ => rfl) ?_
        refine tK (l := xk_102) rfl rfl (fun _ _ _ _ _ => rfl) ?_
        refine tCa (l := xk_102) rfl rfl (hInvV (c := 8) hs rfl rfl rfl ht rfl (Nat.le_of_ble_eq_true rfl) (Nat.le_of_ble_eq_true rfl)) ?_
        refine a76 hs ht hw9 hr hv hx ?_
        refine tKv ?_
        refine tK (l := xk_102) rfl rfl (fun _ _ _ _ _ => rfl) ?_
        refine tCa (l := xk_102) rfl rfl (hInvS rfl rfl rfl rfl (Nat.le_of_ble_eq_true rfl) (Nat.le_of_ble_eq_true rfl)) ?_
        refine s103 ?_
        refine tKv ?_
        refine tSt2 (l := xk_102) rfl rfl (fun _ _ _ _ _ => rfl) (Nat.le_of_ble_eq_true rfl) ?_
        refine tSt (l := xk_102) rfl rfl (hIinc rfl (Nat.le_of_ble_eq_true rfl) ⟨by omega, by omega⟩) (Nat.le_of_ble_eq_true rfl) ?_
        refine tK (l := xk_102) rfl rfl (fun _ _ _ _ _ => rfl) ?_
        exact hnx
      · exfalso; omega
  refine tEn (ls := [some (.inr (.inr (.inl h0))), none, some (.inr (.inl (some t))), some (.inl (r : Int)), none, none, none, none]) (fun k => by match k with | 0 => rfl | 1 => rfl | 2 => rfl | 3 => rfl | 4 => rfl | 5 => rfl | 6 => rfl | 7 => rfl | k + 8 => rfl) ?_
  refine tK (l := xk_102) rfl rfl (fun _ _ _ _ _ => rfl) ?_
  refine tK (l := xk_102) rfl rfl (fun _ _ _ _ _ => rfl) ?_
  refine tCa (l := xk_102) rfl rfl (hInvV (c := 8) hs rfl rfl rfl ht rfl (Nat.le_of_ble_eq_true rfl) (Nat.le_of_ble_eq_true rfl)) ?_
  refine a75 hs ht hw9 hr hv ?_
  refine tKv ?_
  simp only [hLo]
  refine tSt (l := xk_102) rfl rfl (fun _ _ _ _ _ => rfl) (Nat.le_of_ble_eq_true rfl) ?_
  refine tK (l := xk_102) rfl rfl (fun _ _ _ _ _ => rfl) ?_
  refine tK (l := xk_102) rfl rfl (fun _ _ _ _ _ => rfl) ?_
  refine tK (l := xk_102) rfl rfl (fun _ _ _ _ _ => rfl) ?_
  refine tCa (l := xk_102) rfl rfl (hInvS rfl rfl rfl rfl (Nat.le_of_ble_eq_true rfl) (Nat.le_of_ble_eq_true rfl)) ?_
  refine s103 ?_
  refine tKv ?_
  refine tSt2 (l := xk_102) rfl rfl (fun _ _ _ _ _ => rfl) (Nat.le_of_ble_eq_true rfl) ?_
  refine tK (l := xk_102) rfl rfl (fun _ _ _ _ _ => rfl) ?_
  refine tSt (l := xk_102) rfl rfl (fun _ _ _ _ _ => rfl) (Nat.le_of_ble_eq_true rfl) ?_
  exact loop s.length 0 (by omega)
theorem s101 (h : hKl zs ph c) (hQ : Q (.inl (some (.inr (.inr (.inl (hL h0 (oL c.2.1 ++ [(c.2.2.2.length : Int)])))))), ph, g)) : xTC (d + 2) 101 [.inr (.inl (some 1)), .inr (.inr (.inl h0))] ph g Q := by
  have hs := h.1
  have hp5 := h.oc.2.2.2.1
  have tail : ∀ (h1 : Int64) (o5 : Option xV), h1 = hL h0 (((c.2.1.2.1.1.length : Int) :: c.2.1.2.1.1) ++ (if c.2.1.2.1.2.1 = 0 then [0] else [1, c.2.1.2.1.2.1])) → xT (d + 2) 101 42 (xlo [some (.inr (.inl (some 1))), some (.inr (.inr (.inl h0))), none, some (.inr (.inr (.inl h1))), none, o5]) [] ph g Q := by
    intro h1 o5 hh
    have loop : ∀ (m i : Nat), i + m = c.2.1.2.1.2.2.1.length → xT (d + 2) 101 55 (xlo [some (.inr (.inl (some 1))), some (.inr (.inr (.inl h0))), none, some (.inr (.inr (.inl (hL (hi h1 (c.2.1.2.1.2.2.1.length : Int)) (c.2.1.2.1.2.2.1.take i))))), none, some (.inl (i : Int))]) [] ph g Q := by
      intro m
      induction m with
      | zero =>
        intro i him
        rw [show i = c.2.1.2.1.2.2.1.length by omega, List.take_length]
        refine tK (l := xk_101) rfl rfl (fun _ _ _ _ _ => rfl) ?_
        refine tK (l := xk_101) rfl rfl (fun _ _ _ _ _ => rfl) ?_
        refine tCa (l := xk_101) rfl rfl (hInvV (c := 9) hs rfl rfl rfl rfl rfl (Nat.le_of_ble_eq_true rfl) (Nat.le_of_ble_eq_true rfl)) ?_
        refine c89 h ?_
        refine tKv ?_
        refine tIc_ge (l := xk_101) (pc' := 82) rfl rfl rfl (fun hc => ?_) (fun hc => ?_)
        · exfalso; omega
        · refine tK (l := xk_101) rfl rfl (fun _ _ _ _ _ => rfl) ?_
          refine tK (l := xk_101) rfl rfl (fun _ _ _ _ _ => rfl) ?_
          refine tCa (l := xk_101) rfl rfl (hInvV (c := 9) hs rfl rfl rfl rfl rfl (Nat.le_of_ble_eq_true rfl) (Nat.le_of_ble_eq_true rfl)) ?_
          refine c90 h ?_
          refine tKv ?_
          refine tK (l := xk_101) rfl rfl (fun _ _ _ _ _ => rfl) ?_
          refine tCa (l := xk_101) rfl rfl (hInvS rfl rfl rfl rfl (Nat.le_of_ble_eq_true rfl) (Nat.le_of_ble_eq_true rfl)) ?_
          refine s103 ?_
          refine tKv ?_
          refine tSt2 (l := xk_101) rfl rfl (fun _ _ _ _ _ => rfl) (Nat.le_of_ble_eq_true rfl) ?_
          refine tK (l := xk_101) rfl rfl (fun _ _ _ _ _ => rfl) ?_
          refine tK (l := xk_101) rfl rfl (fun _ _ _ _ _ => rfl) ?_
          refine tCa (l := xk_101) rfl rfl (hInvV (c := 9) hs rfl rfl rfl rfl rfl (Nat.le_of_ble_eq_true rfl) (Nat.le_of_ble_eq_true rfl)) ?_
          refine c91 h ?_
          refine tKv ?_
          refine tK (l := xk_101) rfl rfl (fun _ _ _ _ _ => rfl) ?_
          refine tCa (l := xk_101) rfl rfl (hInvS rfl rfl rfl rfl (Nat.le_of_ble_eq_true rfl) (Nat.le_of_ble_eq_true rfl)) ?_
          refine s103 ?_
          refine tKv ?_
          refine tSt2 (l := xk_101) rfl rfl (fun _ _ _ _ _ => rfl) (Nat.le_of_ble_eq_true rfl) ?_
          refine tK (l := xk_101) rfl rfl (fun _ _ _ _ _ => rfl) ?_
          refine tK (l := xk_101) rfl rfl (fun _ _ _ _ _ => rfl) ?_
          refine tCa (l := xk_101) rfl rfl (hInvV (c := 9) hs rfl rfl rfl rfl rfl (Nat.le_of_ble_eq_true rfl) (Nat.le_of_ble_eq_true rfl)) ?_
          refine c92 h ?_
          refine tKv ?_
          refine tK (l := xk_101) rfl rfl (fun _ _ _ _ _ => rfl) ?_
          refine tCa (l := xk_101) rfl rfl (hInvS rfl rfl rfl rfl (Nat.le_of_ble_eq_true rfl) (Nat.le_of_ble_eq_true rfl)) ?_
          refine s103 ?_
          refine tKv ?_
          refine tSt2 (l := xk_101) rfl rfl (fun _ _ _ _ _ => rfl) (Nat.le_of_ble_eq_true rfl) ?_
          refine tK (l := xk_101) rfl rfl (fun _ _ _ _ _ => rfl) ?_
          refine tK (l := xk_101) rfl rfl (fun _ _ _ _ _ => rfl) ?_
          refine tCa (l := xk_101) rfl rfl (hInvV (c := 9) hs rfl rfl rfl rfl rfl (Nat.le_of_ble_eq_true rfl) (Nat.le_of_ble_eq_true rfl)) ?_
          refine c93 h ?_
          refine tKv ?_
          refine tK (l := xk_101) rfl rfl (fun _ _ _ _ _ => rfl) ?_
          refine tCa (l := xk_101) rfl rfl (hInvS rfl rfl rfl rfl (Nat.le_of_ble_eq_true rfl) (Nat.le_of_ble_eq_true rfl)) ?_
          refine s103 ?_
          refine tKv ?_
          refine tSt2 (l := xk_101) rfl rfl (fun _ _ _ _ _ => rfl) (Nat.le_of_ble_eq_true rfl) ?_
          refine tK (l := xk_101) rfl rfl (fun _ _ _ _ _ => rfl) ?_
          refine tK (l := xk_101) rfl rfl (fun _ _ _ _ _ => rfl) ?_
          refine tCa (l := xk_101) rfl rfl (hInvV (c := 9) hs rfl rfl rfl rfl rfl (Nat.le_of_ble_eq_true rfl) (Nat.le_of_ble_eq_true rfl)) ?_
          refine c94 h ?_
          refine tKv ?_
          refine tK (l := xk_101) rfl rfl (fun _ _ _ _ _ => rfl) ?_
          refine tCa (l := xk_101) rfl rfl (hInvS rfl rfl rfl rfl (Nat.le_of_ble_eq_true rfl) (Nat.le_of_ble_eq_true rfl)) ?_
          refine s103 ?_
          refine tKv ?_
          refine tSt2 (l := xk_101) rfl rfl (fun _ _ _ _ _ => rfl) (Nat.le_of_ble_eq_true rfl) ?_
          refine tK (l := xk_101) rfl rfl (fun _ _ _ _ _ => rfl) ?_
          refine tK (l := xk_101) rfl rfl (fun _ _ _ _ _ => rfl) ?_
          refine tCa (l := xk_101) rfl rfl (hInvV (c := 9) hs rfl rfl rfl rfl rfl (Nat.le_of_ble_eq_true rfl) (Nat.le_of_ble_eq_true rfl)) ?_
          refine c95 h ?_
          refine tKv ?_
          refine tK (l := xk_101) rfl rfl (fun _ _ _ _ _ => rfl) ?_
          refine tCa (l := xk_101) rfl rfl (hInvS rfl rfl rfl rfl (Nat.le_of_ble_eq_true rfl) (Nat.le_of_ble_eq_true rfl)) ?_
          refine s103 ?_
          refine tKv ?_
          refine tSt2 (l := xk_101) rfl rfl (fun _ _ _ _ _ => rfl) (Nat.le_of_ble_eq_true rfl) ?_
          refine tK (l := xk_101) rfl rfl (fun _ _ _ _ _ => rfl) ?_
          refine tK (l := xk_101) rfl rfl (fun _ _ _ _ _ => rfl) ?_
          refine tCa (l := xk_101) rfl rfl (hInvV (c := 9) hs rfl rfl rfl rfl rfl (Nat.le_of_ble_eq_true rfl) (Nat.le_of_ble_eq_true rfl)) ?_
          refine c96 h ?_
          refine tKv ?_
          refine tK (l := xk_101) rfl rfl (fun _ _ _ _ _ => rfl) ?_
          refine tCa (l := xk_101) rfl rfl (hInvS rfl rfl rfl rfl (Nat.le_of_ble_eq_true rfl) (Nat.le_of_ble_eq_true rfl)) ?_
          refine s103 ?_
          refine tKv ?_
          refine tSt2 (l := xk_101) rfl rfl (fun _ _ _ _ _ => rfl) (Nat.le_of_ble_eq_true rfl) ?_
          refine tK (l := xk_101) rfl rfl (fun _ _ _ _ _ => rfl) ?_
          refine tK (l := xk_101) rfl rfl (fun _ _ _ _ _ => rfl) ?_
          refine tCa (l := xk_101) rfl rfl (hInvV (c := 9) hs rfl rfl rfl rfl rfl (Nat.le_of_ble_eq_true rfl) (Nat.le_of_ble_eq_true rfl)) ?_
          refine c98 h ?_
          refine tKv ?_
          refine tK (l := xk_101) rfl rfl (fun _ _ _ _ _ => rfl) ?_
          refine tCa (l := xk_101) rfl rfl (hInvS rfl rfl rfl rfl (Nat.le_of_ble_eq_true rfl) (Nat.le_of_ble_eq_true rfl)) ?_
          refine s103 ?_
          refine tKv ?_
          refine tRt (l := xk_101) rfl rfl (fun _ _ _ _ _ => rfl) ?_
          subst hh
          have e9 : oL c.2.1 ++ [(c.2.2.2.length : Int)] = (((c.2.1.2.1.1.length : Int) :: c.2.1.2.1.1) ++ (if c.2.1.2.1.2.1 = 0 then [0] else [1, c.2.1.2.1.2.1])) ++ (((c.2.1.2.1.2.2.1.length : Int) :: c.2.1.2.1.2.2.1) ++ [c.2.1.2.1.2.2.2.1, c.2.1.2.1.2.2.2.2.1, c.2.1.2.1.2.2.2.2.2.1, c.2.1.2.1.2.2.2.2.2.2, c.2.1.2.2.1, c.2.1.2.2.2.1, c.2.1.2.2.2.2, (c.2.2.2.length : Int)]) := by unfold oL; simp only [List.append_assoc, List.cons_append, List.nil_append]
          rw [e9, hL_app, hL_app, hL_cons] at hQ
          exact hQ
      | succ m ih =>
        intro i him
        obtain ⟨x, hx⟩ : ∃ x, c.2.1.2.1.2.2.1[i]? = some x := ⟨_, List.getElem?_eq_getElem (by omega)⟩
        have hnx := ih (i + 1) (by omega)
        rw [show c.2.1.2.1.2.2.1.take (i + 1) = c.2.1.2.1.2.2.1.take i ++ [x] by rw [List.take_add_one, hx]; rfl, hL_app] at hnx
        refine tK (l := xk_101) rfl rfl (fun _ _ _ _ _ => rfl) ?_
        refine tK (l := xk_101) rfl rfl (fun _ _ _ _ _ => rfl) ?_
        refine tCa (l := xk_101) rfl rfl (hInvV (c := 9) hs rfl rfl rfl rfl rfl (Nat.le_of_ble_eq_true rfl) (Nat.le_of_ble_eq_true rfl)) ?_
        refine c89 h ?_
        refine tKv ?_
        refine tIc_ge (l := xk_101) (pc' := 82) rfl rfl rfl (fun hc => ?_) (fun hc => ?_)
        · refine tK (l := xk_101) rfl rfl (fun _ _ _ _ _ => rfl) ?_
          refine tK (l := xk_101) rfl rfl (fun _ _ _ _ _ => rfl) ?_
          refine tK (l := xk_101) rfl rfl (fun _ _ _ _ _ => rfl) ?_
          refine tCa (l := xk_101) rfl rfl (hInvV (c := 9) hs rfl rfl rfl rfl rfl (Nat.le_of_ble_eq_true rfl) (Nat.le_of_ble_eq_true rfl)) ?_
          refine c106 h hx ?_
          refine tKv ?_
          refine tK (l := xk_101) rfl rfl (fun _ _ _ _ _ => rfl) ?_
          refine tCa (l := xk_101) rfl rfl (hInvS rfl rfl rfl rfl (Nat.le_of_ble_eq_true rfl) (Nat.le_of_ble_eq_true rfl)) ?_
          refine s103 ?_
          refine tKv ?_
          refine tSt2 (l := xk_101) rfl rfl (fun _ _ _ _ _ => rfl) (Nat.le_of_ble_eq_true rfl) ?_
          refine tSt (l := xk_101) rfl rfl (hIinc rfl (Nat.le_of_ble_eq_true rfl) ⟨by omega, by omega⟩) (Nat.le_of_ble_eq_true rfl) ?_
          refine tK (l := xk_101) rfl rfl (fun _ _ _ _ _ => rfl) ?_
          exact hnx
        · exfalso; omega
    refine tK (l := xk_101) rfl rfl (fun _ _ _ _ _ => rfl) ?_
    refine tK (l := xk_101) rfl rfl (fun _ _ _ _ _ => rfl) ?_
    refine tCa (l := xk_101) rfl rfl (hInvV (c := 9) hs rfl rfl rfl rfl rfl (Nat.le_of_ble_eq_true rfl) (Nat.le_of_ble_eq_true rfl)) ?_
    refine c89 h ?_
    refine tKv ?_
    refine tK (l := xk_101) rfl rfl (fun _ _ _ _ _ => rfl) ?_
    refine tCa (l := xk_101) rfl rfl (hInvS rfl rfl rfl rfl (Nat.le_of_ble_eq_true rfl) (Nat.le_of_ble_eq_true rfl)) ?_
    refine s103 ?_
    refine tKv ?_
    refine tSt2 (l := xk_101) rfl rfl (fun _ _ _ _ _ => rfl) (Nat.le_of_ble_eq_true rfl) ?_
    refine tK (l := xk_101) rfl rfl (fun _ _ _ _ _ => rfl) ?_
    refine tSt (l := xk_101) rfl rfl (fun _ _ _ _ _ => rfl) (Nat.le_of_ble_eq_true rfl) ?_
    exact loop c.2.1.2.1.2.2.1.length 0 (by omega)
  refine tEn (ls := [some (.inr (.inl (some 1))), some (.inr (.inr (.inl h0))), none, none, none, none]) (fun k => by match k with | 0 => rfl | 1 => rfl | 2 => rfl | 3 => rfl | 4 => rfl | 5 => rfl | k + 6 => rfl) ?_
  by_cases hr : c.2.1.2.1.2.1 = 0
  · refine tK (l := xk_101) rfl rfl (fun _ _ _ _ _ => rfl) ?_
    refine tK (l := xk_101) rfl rfl (fun _ _ _ _ _ => rfl) ?_
    refine tK (l := xk_101) rfl rfl (hGetR (o := some 73) hs rfl rfl rfl (by decide) (by decide) rfl) ?_
    refine tK (l := xk_101) rfl rfl (hGetR (o := some 77) hs rfl rfl rfl (by decide) (by decide) rfl) ?_
    refine tK (l := xk_101) rfl rfl (hGetR (o := some 78) hs rfl rfl rfl (by decide) (by decide) rfl) ?_
    refine tK (l := xk_101) rfl rfl (fun _ _ _ _ _ => rfl) ?_
    refine tCa (l := xk_101) rfl rfl (hInvS rfl rfl rfl rfl (Nat.le_of_ble_eq_true rfl) (Nat.le_of_ble_eq_true rfl)) ?_
    refine s102 (r := 0) hs rfl h.oc.1 (by decide) h.oc.2.1 ?_
    refine tKv ?_
    refine tSt2 (l := xk_101) rfl rfl (fun _ _ _ _ _ => rfl) (Nat.le_of_ble_eq_true rfl) ?_
    refine tK (l := xk_101) rfl rfl (fun _ _ _ _ _ => rfl) ?_
    refine tK (l := xk_101) rfl rfl (fun _ _ _ _ _ => rfl) ?_
    refine tCa (l := xk_101) rfl rfl (hInvV (c := 9) hs rfl rfl rfl rfl rfl (Nat.le_of_ble_eq_true rfl) (Nat.le_of_ble_eq_true rfl)) ?_
    refine c88 h ?_
    refine tKv ?_
    rw [if_pos hr]
    refine tCa (l := xk_101) rfl rfl (hInvS rfl rfl rfl rfl (Nat.le_of_ble_eq_true rfl) (Nat.le_of_ble_eq_true rfl)) ?_
    refine s104_0 ?_
    refine tKv ?_
    refine tSt2 (l := xk_101) rfl rfl (fun _ _ _ _ _ => rfl) (Nat.le_of_ble_eq_true rfl) ?_
    refine tK (l := xk_101) rfl rfl (fun _ _ _ _ _ => rfl) ?_
    refine tCa (l := xk_101) rfl rfl (hInvV (c := 9) hs rfl rfl rfl rfl rfl (Nat.le_of_ble_eq_true rfl) (Nat.le_of_ble_eq_true rfl)) ?_
    refine c88 h ?_
    refine tKv ?_
    rw [if_pos hr]
    refine tIf_eq (l := xk_101) (pc' := 42) rfl rfl rfl (fun hc => ?_) (fun hc => ?_)
    · refine tail _ _ ?_
      rw [if_pos hr, hL_app]
      rfl
    · exact absurd rfl hc
  · refine tK (l := xk_101) rfl rfl (fun _ _ _ _ _ => rfl) ?_
    refine tK (l := xk_101) rfl rfl (fun _ _ _ _ _ => rfl) ?_
    refine tK (l := xk_101) rfl rfl (hGetR (o := some 73) hs rfl rfl rfl (by decide) (by decide) rfl) ?_
    refine tK (l := xk_101) rfl rfl (hGetR (o := some 77) hs rfl rfl rfl (by decide) (by decide) rfl) ?_
    refine tK (l := xk_101) rfl rfl (hGetR (o := some 78) hs rfl rfl rfl (by decide) (by decide) rfl) ?_
    refine tK (l := xk_101) rfl rfl (fun _ _ _ _ _ => rfl) ?_
    refine tCa (l := xk_101) rfl rfl (hInvS rfl rfl rfl rfl (Nat.le_of_ble_eq_true rfl) (Nat.le_of_ble_eq_true rfl)) ?_
    refine s102 (r := 0) hs rfl h.oc.1 (by decide) h.oc.2.1 ?_
    refine tKv ?_
    refine tSt2 (l := xk_101) rfl rfl (fun _ _ _ _ _ => rfl) (Nat.le_of_ble_eq_true rfl) ?_
    refine tK (l := xk_101) rfl rfl (fun _ _ _ _ _ => rfl) ?_
    refine tK (l := xk_101) rfl rfl (fun _ _ _ _ _ => rfl) ?_
    refine tCa (l := xk_101) rfl rfl (hInvV (c := 9) hs rfl rfl rfl rfl rfl (Nat.le_of_ble_eq_true rfl) (Nat.le_of_ble_eq_true rfl)) ?_
    refine c88 h ?_
    refine tKv ?_
    rw [if_neg hr]
    refine tCa (l := xk_101) rfl rfl (hInvS rfl rfl rfl rfl (Nat.le_of_ble_eq_true rfl) (Nat.le_of_ble_eq_true rfl)) ?_
    refine s104_1 ?_
    refine tKv ?_
    refine tSt2 (l := xk_101) rfl rfl (fun _ _ _ _ _ => rfl) (Nat.le_of_ble_eq_true rfl) ?_
    refine tK (l := xk_101) rfl rfl (fun _ _ _ _ _ => rfl) ?_
    refine tCa (l := xk_101) rfl rfl (hInvV (c := 9) hs rfl rfl rfl rfl rfl (Nat.le_of_ble_eq_true rfl) (Nat.le_of_ble_eq_true rfl)) ?_
    refine c88 h ?_
    refine tKv ?_
    rw [if_neg hr]
    refine tIf_eq (l := xk_101) (pc' := 42) rfl rfl rfl (fun hc => ?_) (fun hc => ?_)
    · exact absurd hc (by decide)
    · refine tK (l := xk_101) rfl rfl (fun _ _ _ _ _ => rfl) ?_
      refine tK (l := xk_101) rfl rfl (fun _ _ _ _ _ => rfl) ?_
      refine tCa (l := xk_101) rfl rfl (hInvV (c := 9) hs rfl rfl rfl rfl rfl (Nat.le_of_ble_eq_true rfl) (Nat.le_of_ble_eq_true rfl)) ?_
      refine c105 h hr ?_
      refine tKv ?_
      refine tK (l := xk_101) rfl rfl (fun _ _ _ _ _ => rfl) ?_
      refine tCa (l := xk_101) rfl rfl (hInvS rfl rfl rfl rfl (Nat.le_of_ble_eq_true rfl) (Nat.le_of_ble_eq_true rfl)) ?_
      refine s103 ?_
      refine tKv ?_
      refine tSt2 (l := xk_101) rfl rfl (fun _ _ _ _ _ => rfl) (Nat.le_of_ble_eq_true rfl) ?_
      refine tail _ _ ?_
      rw [if_neg hr, hL_app]
      rfl
end HSH
