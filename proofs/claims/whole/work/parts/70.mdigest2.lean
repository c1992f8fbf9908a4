/-! ===== the model's digest ===== -/
section MD2
variable {d : Nat} {ph : xH} {zs : List xV} {g : Nat} {Q : xR → Prop} {c : KS}
theorem oL_5 : (hL 4349 (oL c.2.1 ++ [(c.2.2.2.length : Int)])) = hL (hL (hL (hL (hL 4349 ((c.2.1.2.1.1.length : Int) :: c.2.1.2.1.1)) (if c.2.1.2.1.2.1 = 0 then [0] else [1, c.2.1.2.1.2.1])) ((c.2.1.2.1.2.2.1.length : Int) :: c.2.1.2.1.2.2.1)) (o7 c.2.1)) [(c.2.2.2.length : Int)] := by
  unfold oL o7
  rw [hL_app, hL_app, hL_app, hL_app]
theorem m227 {B : Nat} {D1 D3 : Cf} (h : hMm zs ph c) (ho : okKS B c) (hD : pWh c.1 = true → Fin c.1 c.2.1.1 (-1) D1 ∧ Fin c.1 c.2.1.1 (-1) D3) (hQ : ∀ ph2, hMm zs ph2 c → hRd ph2 147 0 = 0 → hFw moP ph ph2 → Q (.inl (some (.inr (.inr (.inl (dgv c D1 D3))))), ph2, g)) : xTC (d + 10) 227 [.inr (.inl (some 147))] ph g Q := by
  obtain ⟨w1, w2, w3, w4⟩ := hSzS
  obtain ⟨⟨hok, hl60⟩, hos, -, -, -⟩ := id ho
  obtain ⟨hsd, hsp⟩ := shV_ok hos
  obtain ⟨t1, t2, t3⟩ := h.thr (x := 0)
  have t4 : hFw moP ph (hUp ph 147 0 0) := t3.mo.fw
  have lp9 : ∀ (m i : Nat) (phi : xH), i + m = c.1.length → hMm zs phi c → hRl phi 147 44 = hL (hi (hw (hL (hL (hL (hL 4349 (oL c.2.1 ++ [(c.2.2.2.length : Int)])) (vsL c.2.1.1 8)) (tL c D1 D3)) [((pRes c.1).1 : Int)]) (bitD (shV c.2.1))) (c.1.length : Int)) (c.1.take i) → hFz (hUp ph 147 0 0) phi → xT (d + 10) 227 208 (xlo [some (.inr (.inl (some 147))), some (.inl (i : Int))]) [] phi g Q := by
    intro m
    induction m with
    | zero =>
      intro i phi him hk hek hf
      have hs := hk.1
      obtain ⟨-, -, -, -, ⟨hu1, hu2, hu3⟩⟩ := id hk
      rw [show c.1.take i = c.1 from List.take_of_length_le (by omega)] at hek
      refine tK (l := xk_227) rfl rfl (fun _ _ _ _ _ => rfl) ?_
      refine tK (l := xk_227) rfl rfl (fun _ _ _ _ _ => rfl) ?_
      refine tK (l := xk_227) rfl rfl (hGetI hs rfl rfl rfl (by decide) (by decide)) ?_
      rw [hu1]
      refine tIc_ge (l := xk_227) (pc' := 233) rfl rfl rfl (fun hc => ?_) (fun hc => ?_)
      · exfalso; omega
      · refine tK (l := xk_227) rfl rfl (fun _ _ _ _ _ => rfl) ?_
        refine tK (l := xk_227) rfl rfl (hGetL hs rfl rfl rfl (by decide) (by decide)) ?_
        rw [hek]
        refine tRt (l := xk_227) rfl rfl (fun _ _ _ _ _ => rfl) ?_
        exact hQ phi hk (hf.2.trans t2) (t4.trans hf.1)
    | succ m ih =>
      intro i phi him hk hek hf
      have hs := hk.1
      obtain ⟨-, -, -, -, ⟨hu1, hu2, hu3⟩⟩ := id hk
      have hx := List.getElem?_eq_getElem (show i < c.1.length by omega)
      generalize c.1[i]'(by omega) = x at hx
      refine tK (l := xk_227) rfl rfl (fun _ _ _ _ _ => rfl) ?_
      refine tK (l := xk_227) rfl rfl (fun _ _ _ _ _ => rfl) ?_
      refine tK (l := xk_227) rfl rfl (hGetI hs rfl rfl rfl (by decide) (by decide)) ?_
      rw [hu1]
      refine tIc_ge (l := xk_227) (pc' := 233) rfl rfl rfl (fun hc => ?_) (fun hc => ?_)
      · refine tK (l := xk_227) rfl rfl (fun _ _ _ _ _ => rfl) ?_
        refine tK (l := xk_227) rfl rfl (fun _ _ _ _ _ => rfl) ?_
        refine tK (l := xk_227) rfl rfl (hGetR (o := some 151) hs rfl rfl rfl (by decide) (by decide) rfl) ?_
        refine tK (l := xk_227) rfl rfl (fun _ _ _ _ _ => rfl) ?_
        first | refine tK (l := xk_227) rfl rfl (hIaldN hs rfl rfl (by omega)) ?_ | refine tK (l := xk_227) rfl rfl (hIald hs rfl (by omega) (by omega)) ?_
        rw [hu3 i x hx]
        refine tK (l := xk_227) rfl rfl (fun _ _ _ _ _ => rfl) ?_
        refine tCa (l := xk_227) rfl rfl (hInvV (c := 10) hs rfl rfl rfl rfl rfl (Nat.le_of_ble_eq_true rfl) (Nat.le_of_ble_eq_true rfl)) ?_
        refine s228 hk hek (fun ph2 k2 e2 f2 => ?_)
        refine tKn ?_
        refine tSt (l := xk_227) rfl rfl (hIinc rfl (Nat.le_of_ble_eq_true rfl) ⟨by omega, by omega⟩) (Nat.le_of_ble_eq_true rfl) ?_
        refine tK (l := xk_227) rfl rfl (fun _ _ _ _ _ => rfl) ?_
        exact ih (i + 1) ph2 (by omega) k2 (by rw [hL_tk hx]; exact e2) (hf.trans f2.z)
      · exfalso; omega
  have tl8 : ∀ (x1 : Option xV) (phi : xH), hMm zs phi c → hRl phi 147 44 = (hL (hL 4349 (oL c.2.1 ++ [(c.2.2.2.length : Int)])) (vsL c.2.1.1 8)) → hFz (hUp ph 147 0 0) phi → xT (d + 10) 227 182 (xlo [some (.inr (.inl (some 147))), x1]) [] phi g Q := by
    intro x1 phi hk hek hf
    have hs := hk.1
    cases hw9 : pWh c.1 with
    | false =>
      refine tK (l := xk_227) rfl rfl (fun _ _ _ _ _ => rfl) ?_
      refine tCa (l := xk_227) rfl rfl (hInvV (c := 10) hs rfl rfl rfl rfl rfl (Nat.le_of_ble_eq_true rfl) (Nat.le_of_ble_eq_true rfl)) ?_
      refine s230n (D := D1) (D3 := D3) hk hok hw9 hek (fun ph2 k2 e2 f2 => ?_)
      refine tKn ?_
      refine tK (l := xk_227) rfl rfl (fun _ _ _ _ _ => rfl) ?_
      refine tK (l := xk_227) rfl rfl (fun _ _ _ _ _ => rfl) ?_
      refine tCa (l := xk_227) rfl rfl (hInvV (c := 10) k2.1 rfl rfl rfl rfl rfl (Nat.le_of_ble_eq_true rfl) (Nat.le_of_ble_eq_true rfl)) ?_
      refine s226 k2 hsd ?_
      refine tKv ?_
      refine tCa (l := xk_227) rfl rfl (hInvS rfl rfl rfl rfl (Nat.le_of_ble_eq_true rfl) (Nat.le_of_ble_eq_true rfl)) ?_
      refine s231 hsp ?_
      refine tKv ?_
      refine tCa (l := xk_227) rfl rfl (hInvV (c := 10) k2.1 rfl rfl rfl rfl rfl (Nat.le_of_ble_eq_true rfl) (Nat.le_of_ble_eq_true rfl)) ?_
      refine s228 k2 e2 (fun ph3 k3 e3 f3 => ?_)
      refine tKn ?_
      refine tK (l := xk_227) rfl rfl (fun _ _ _ _ _ => rfl) ?_
      refine tK (l := xk_227) rfl rfl (fun _ _ _ _ _ => rfl) ?_
      refine tK (l := xk_227) rfl rfl (hGetI k3.1 rfl rfl rfl (by decide) (by decide)) ?_
      obtain ⟨-, -, -, -, ⟨hu1, hu2, hu3⟩⟩ := id k3
      rw [hu1]
      refine tK (l := xk_227) rfl rfl (fun _ _ _ _ _ => rfl) ?_
      refine tCa (l := xk_227) rfl rfl (hInvV (c := 10) k3.1 rfl rfl rfl rfl rfl (Nat.le_of_ble_eq_true rfl) (Nat.le_of_ble_eq_true rfl)) ?_
      refine s228 k3 e3 (fun ph4 k4 e4 f4 => ?_)
      refine tKn ?_
      refine tK (l := xk_227) rfl rfl (fun _ _ _ _ _ => rfl) ?_
      refine tSt (l := xk_227) rfl rfl (fun _ _ _ _ _ => rfl) (Nat.le_of_ble_eq_true rfl) ?_
      exact lp9 c.1.length 0 ph4 (by omega) k4 e4 (((hf.trans f2).trans f3.z).trans f4.z)
    | true =>
      obtain ⟨hD1, hD2⟩ := hD hw9
      refine tK (l := xk_227) rfl rfl (fun _ _ _ _ _ => rfl) ?_
      refine tCa (l := xk_227) rfl rfl (hInvV (c := 10) hs rfl rfl rfl rfl rfl (Nat.le_of_ble_eq_true rfl) (Nat.le_of_ble_eq_true rfl)) ?_
      refine s230 hk hok (fun v hv s hs => (hos.1 v hv s hs).1) hw9 hD1 hD2 hek (fun ph2 k2 e2 f2 => ?_)
      refine tKn ?_
      refine tK (l := xk_227) rfl rfl (fun _ _ _ _ _ => rfl) ?_
      refine tK (l := xk_227) rfl rfl (fun _ _ _ _ _ => rfl) ?_
      refine tCa (l := xk_227) rfl rfl (hInvV (c := 10) k2.1 rfl rfl rfl rfl rfl (Nat.le_of_ble_eq_true rfl) (Nat.le_of_ble_eq_true rfl)) ?_
      refine s226 k2 hsd ?_
      refine tKv ?_
      refine tCa (l := xk_227) rfl rfl (hInvS rfl rfl rfl rfl (Nat.le_of_ble_eq_true rfl) (Nat.le_of_ble_eq_true rfl)) ?_
      refine s231 hsp ?_
      refine tKv ?_
      refine tCa (l := xk_227) rfl rfl (hInvV (c := 10) k2.1 rfl rfl rfl rfl rfl (Nat.le_of_ble_eq_true rfl) (Nat.le_of_ble_eq_true rfl)) ?_
      refine s228 k2 e2 (fun ph3 k3 e3 f3 => ?_)
      refine tKn ?_
      refine tK (l := xk_227) rfl rfl (fun _ _ _ _ _ => rfl) ?_
      refine tK (l := xk_227) rfl rfl (fun _ _ _ _ _ => rfl) ?_
      refine tK (l := xk_227) rfl rfl (hGetI k3.1 rfl rfl rfl (by decide) (by decide)) ?_
      obtain ⟨-, -, -, -, ⟨hu1, hu2, hu3⟩⟩ := id k3
      rw [hu1]
      refine tK (l := xk_227) rfl rfl (fun _ _ _ _ _ => rfl) ?_
      refine tCa (l := xk_227) rfl rfl (hInvV (c := 10) k3.1 rfl rfl rfl rfl rfl (Nat.le_of_ble_eq_true rfl) (Nat.le_of_ble_eq_true rfl)) ?_
      refine s228 k3 e3 (fun ph4 k4 e4 f4 => ?_)
      refine tKn ?_
      refine tK (l := xk_227) rfl rfl (fun _ _ _ _ _ => rfl) ?_
      refine tSt (l := xk_227) rfl rfl (fun _ _ _ _ _ => rfl) (Nat.le_of_ble_eq_true rfl) ?_
      exact lp9 c.1.length 0 ph4 (by omega) k4 e4 (((hf.trans f2).trans f3.z).trans f4.z)
  have lp8 : ∀ (m v : Nat) (phi : xH), v + m = 8 → hMm zs phi c → hRl phi 147 44 = hL (hL 4349 (oL c.2.1 ++ [(c.2.2.2.length : Int)])) (vsL c.2.1.1 v) → hFz (hUp ph 147 0 0) phi → xT (d + 10) 227 165 (xlo [some (.inr (.inl (some 147))), some (.inl (v : Int))]) [] phi g Q := by
    intro m
    induction m with
    | zero =>
      intro v phi hvm hk hek hf
      have hs := hk.1
      have hv8 : v = 8 := by omega
      subst hv8
      refine tK (l := xk_227) rfl rfl (fun _ _ _ _ _ => rfl) ?_
      refine tK (l := xk_227) rfl rfl (fun _ _ _ _ _ => rfl) ?_
      refine tIc_ge (l := xk_227) (pc' := 182) rfl rfl rfl (fun hc => ?_) (fun hc => ?_)
      · exfalso; omega
      · exact tl8 _ phi hk hek hf
    | succ m ih =>
      intro v phi hvm hk hek hf
      have hs := hk.1
      have hv8 : v < 8 := by omega
      cases hv : c.2.1.1 v with
      | none =>
        refine tK (l := xk_227) rfl rfl (fun _ _ _ _ _ => rfl) ?_
        refine tK (l := xk_227) rfl rfl (fun _ _ _ _ _ => rfl) ?_
        refine tIc_ge (l := xk_227) (pc' := 182) rfl rfl rfl (fun hc => ?_) (fun hc => ?_)
        · refine tK (l := xk_227) rfl rfl (fun _ _ _ _ _ => rfl) ?_
          refine tK (l := xk_227) rfl rfl (fun _ _ _ _ _ => rfl) ?_
          refine tCa (l := xk_227) rfl rfl (hInvV (c := 10) hs rfl rfl rfl rfl rfl (Nat.le_of_ble_eq_true rfl) (Nat.le_of_ble_eq_true rfl)) ?_
          refine s229n hk hv8 hv hek (fun ph2 k2 e2 f2 => ?_)
          refine tKn ?_
          refine tSt (l := xk_227) rfl rfl (hIinc rfl (Nat.le_of_ble_eq_true rfl) ⟨by omega, by omega⟩) (Nat.le_of_ble_eq_true rfl) ?_
          refine tK (l := xk_227) rfl rfl (fun _ _ _ _ _ => rfl) ?_
          exact ih (v + 1) ph2 (by omega) k2 (by simp only [vsL]; rw [hL_app, hv]; exact e2) (hf.trans f2)
        · exfalso; omega
      | some w =>
        refine tK (l := xk_227) rfl rfl (fun _ _ _ _ _ => rfl) ?_
        refine tK (l := xk_227) rfl rfl (fun _ _ _ _ _ => rfl) ?_
        refine tIc_ge (l := xk_227) (pc' := 182) rfl rfl rfl (fun hc => ?_) (fun hc => ?_)
        · refine tK (l := xk_227) rfl rfl (fun _ _ _ _ _ => rfl) ?_
          refine tK (l := xk_227) rfl rfl (fun _ _ _ _ _ => rfl) ?_
          refine tCa (l := xk_227) rfl rfl (hInvV (c := 10) hs rfl rfl rfl rfl rfl (Nat.le_of_ble_eq_true rfl) (Nat.le_of_ble_eq_true rfl)) ?_
          refine s229 hk hv8 hv (hos.1 v hv8 w hv).1 hek (fun ph2 k2 e2 f2 => ?_)
          refine tKn ?_
          refine tSt (l := xk_227) rfl rfl (hIinc rfl (Nat.le_of_ble_eq_true rfl) ⟨by omega, by omega⟩) (Nat.le_of_ble_eq_true rfl) ?_
          refine tK (l := xk_227) rfl rfl (fun _ _ _ _ _ => rfl) ?_
          exact ih (v + 1) ph2 (by omega) k2 (by simp only [vsL]; rw [hL_app, hv]; exact e2) (hf.trans f2)
        · exfalso; omega
  have tl7 : ∀ (x1 : Option xV) (phi : xH), hMm zs phi c → hRl phi 147 44 = (hL (hL (hL (hL 4349 ((c.2.1.2.1.1.length : Int) :: c.2.1.2.1.1)) (if c.2.1.2.1.2.1 = 0 then [0] else [1, c.2.1.2.1.2.1])) ((c.2.1.2.1.2.2.1.length : Int) :: c.2.1.2.1.2.2.1)) (o7 c.2.1)) → hFz (hUp ph 147 0 0) phi → xT (d + 10) 227 154 (xlo [some (.inr (.inl (some 147))), x1]) [] phi g Q := by
    intro x1 phi hk hek hf
    have hs := hk.1
    obtain ⟨-, -, ⟨hh1, hh2, -⟩, -, -⟩ := id hk
    refine tK (l := xk_227) rfl rfl (fun _ _ _ _ _ => rfl) ?_
    refine tK (l := xk_227) rfl rfl (fun _ _ _ _ _ => rfl) ?_
    refine tK (l := xk_227) rfl rfl (hGetI hs rfl rfl rfl (by decide) (by decide)) ?_
    rw [hh1]
    refine tK (l := xk_227) rfl rfl (fun _ _ _ _ _ => rfl) ?_
    refine tCa (l := xk_227) rfl rfl (hInvV (c := 10) hs rfl rfl rfl rfl rfl (Nat.le_of_ble_eq_true rfl) (Nat.le_of_ble_eq_true rfl)) ?_
    refine s228 hk hek (fun ph2 k2 e2 f2 => ?_)
    refine tKn ?_
    refine tK (l := xk_227) rfl rfl (fun _ _ _ _ _ => rfl) ?_
    refine tSt (l := xk_227) rfl rfl (fun _ _ _ _ _ => rfl) (Nat.le_of_ble_eq_true rfl) ?_
    exact lp8 8 0 ph2 (by omega) k2 (by rw [oL_5]; exact e2) (hf.trans f2.z)
  have lp7 : ∀ (m i : Nat) (phi : xH), i + m = (o7 c.2.1).length → hMm zs phi c → hRl phi 147 44 = hL (hL (hL (hL 4349 ((c.2.1.2.1.1.length : Int) :: c.2.1.2.1.1)) (if c.2.1.2.1.2.1 = 0 then [0] else [1, c.2.1.2.1.2.1])) ((c.2.1.2.1.2.2.1.length : Int) :: c.2.1.2.1.2.2.1)) ((o7 c.2.1).take i) → hFz (hUp ph 147 0 0) phi → xT (d + 10) 227 130 (xlo [some (.inr (.inl (some 147))), some (.inl (409 + (i : Int)))]) [] phi g Q := by
    intro m
    induction m with
    | zero =>
      intro i phi him hk hek hf
      have hs := hk.1
      obtain ⟨q1, q2, q3, q4, q5, q6⟩ := hk.oc
      have hb0 := q1 0 _ rfl
      have hb2 := q4 0 _ rfl
      obtain ⟨-, -, ⟨hh1, hh2, -⟩, -, ⟨hu1, hu2, hu3⟩⟩ := id hk
      rw [show (o7 c.2.1).take i = (o7 c.2.1) from List.take_of_length_le (by omega)] at hek
      simp only [List.length_cons, o7, List.length_nil] at him
      refine tK (l := xk_227) rfl rfl (fun _ _ _ _ _ => rfl) ?_
      refine tK (l := xk_227) rfl rfl (fun _ _ _ _ _ => rfl) ?_
      refine tIc_gt (l := xk_227) (pc' := 154) rfl rfl rfl (fun hc => ?_) (fun hc => ?_)
      · exact tl7 _ phi hk hek hf
      · exfalso; omega
    | succ m ih =>
      intro i phi him hk hek hf
      have hs := hk.1
      obtain ⟨q1, q2, q3, q4, q5, q6⟩ := hk.oc
      have hb0 := q1 0 _ rfl
      have hb2 := q4 0 _ rfl
      obtain ⟨-, -, ⟨hh1, hh2, -⟩, -, ⟨hu1, hu2, hu3⟩⟩ := id hk
      have hx := List.getElem?_eq_getElem (show i < (o7 c.2.1).length by omega)
      generalize (o7 c.2.1)[i]'(by omega) = x at hx
      have hr := q6 i x hx
      simp only [List.length_cons, o7, List.length_nil] at him
      refine tK (l := xk_227) rfl rfl (fun _ _ _ _ _ => rfl) ?_
      refine tK (l := xk_227) rfl rfl (fun _ _ _ _ _ => rfl) ?_
      refine tIc_gt (l := xk_227) (pc' := 154) rfl rfl rfl (fun hc => ?_) (fun hc => ?_)
      · exfalso; omega
      · refine tK (l := xk_227) rfl rfl (fun _ _ _ _ _ => rfl) ?_
        refine tK (l := xk_227) rfl rfl (fun _ _ _ _ _ => rfl) ?_
        refine tK (l := xk_227) rfl rfl (hGetR (o := some 148) hs rfl rfl rfl (by decide) (by decide) rfl) ?_
        refine tK (l := xk_227) rfl rfl (fun _ _ _ _ _ => rfl) ?_
        rw [show (409 : Int) + (i : Int) = ((409 + i : Nat) : Int) by omega]
        first | refine tK (l := xk_227) rfl rfl (hIaldN hs rfl rfl (by omega)) ?_ | refine tK (l := xk_227) rfl rfl (hIald hs rfl (by omega) (by omega)) ?_
        rw [hr]
        refine tK (l := xk_227) rfl rfl (fun _ _ _ _ _ => rfl) ?_
        refine tCa (l := xk_227) rfl rfl (hInvV (c := 10) hs rfl rfl rfl rfl rfl (Nat.le_of_ble_eq_true rfl) (Nat.le_of_ble_eq_true rfl)) ?_
        refine s228 hk hek (fun ph2 k2 e2 f2 => ?_)
        refine tKn ?_
        refine tSt (l := xk_227) rfl rfl (hIinc rfl (Nat.le_of_ble_eq_true rfl) ⟨by omega, by omega⟩) (Nat.le_of_ble_eq_true rfl) ?_
        refine tK (l := xk_227) rfl rfl (fun _ _ _ _ _ => rfl) ?_
        exact ih (i + 1) ph2 (by simp only [List.length_cons, o7, List.length_nil]; omega) k2 (by rw [hL_tk hx]; exact e2) (hf.trans f2.z)
  have lp3 : ∀ (m i : Nat) (phi : xH), i + m = ((c.2.1.2.1.2.2.1.length : Int) :: c.2.1.2.1.2.2.1).length → hMm zs phi c → hRl phi 147 44 = hL (hL (hL 4349 ((c.2.1.2.1.1.length : Int) :: c.2.1.2.1.1)) (if c.2.1.2.1.2.1 = 0 then [0] else [1, c.2.1.2.1.2.1])) (((c.2.1.2.1.2.2.1.length : Int) :: c.2.1.2.1.2.2.1).take i) → hFz (hUp ph 147 0 0) phi → xT (d + 10) 227 93 (xlo [some (.inr (.inl (some 147))), some (.inl ((i : Int)))]) [] phi g Q := by
    intro m
    induction m with
    | zero =>
      intro i phi him hk hek hf
      have hs := hk.1
      obtain ⟨q1, q2, q3, q4, q5, q6⟩ := hk.oc
      have hb0 := q1 0 _ rfl
      have hb2 := q4 0 _ rfl
      obtain ⟨-, -, ⟨hh1, hh2, -⟩, -, ⟨hu1, hu2, hu3⟩⟩ := id hk
      rw [show ((c.2.1.2.1.2.2.1.length : Int) :: c.2.1.2.1.2.2.1).take i = ((c.2.1.2.1.2.2.1.length : Int) :: c.2.1.2.1.2.2.1) from List.take_of_length_le (by omega)] at hek
      simp only [List.length_cons, o7, List.length_nil] at him
      refine tK (l := xk_227) rfl rfl (fun _ _ _ _ _ => rfl) ?_
      refine tK (l := xk_227) rfl rfl (fun _ _ _ _ _ => rfl) ?_
      refine tK (l := xk_227) rfl rfl (hGetR (o := some 148) hs rfl rfl rfl (by decide) (by decide) rfl) ?_
      refine tK (l := xk_227) rfl rfl (fun _ _ _ _ _ => rfl) ?_
      first | refine tK (l := xk_227) rfl rfl (hIaldN hs rfl rfl (by omega)) ?_ | refine tK (l := xk_227) rfl rfl (hIald hs rfl (by omega) (by omega)) ?_
      rw [show Int.toNat 402 = 402 from rfl, hb2]
      refine tIc_gt (l := xk_227) (pc' := 126) rfl rfl rfl (fun hc => ?_) (fun hc => ?_)
      · refine tK (l := xk_227) rfl rfl (fun _ _ _ _ _ => rfl) ?_
        refine tSt (l := xk_227) rfl rfl (fun _ _ _ _ _ => rfl) (Nat.le_of_ble_eq_true rfl) ?_
        exact lp7 7 0 phi rfl hk hek hf
      · exfalso; omega
    | succ m ih =>
      intro i phi him hk hek hf
      have hs := hk.1
      obtain ⟨q1, q2, q3, q4, q5, q6⟩ := hk.oc
      have hb0 := q1 0 _ rfl
      have hb2 := q4 0 _ rfl
      obtain ⟨-, -, ⟨hh1, hh2, -⟩, -, ⟨hu1, hu2, hu3⟩⟩ := id hk
      have hx := List.getElem?_eq_getElem (show i < ((c.2.1.2.1.2.2.1.length : Int) :: c.2.1.2.1.2.2.1).length by omega)
      generalize ((c.2.1.2.1.2.2.1.length : Int) :: c.2.1.2.1.2.2.1)[i]'(by omega) = x at hx
      have hr := q4 i x hx
      simp only [List.length_cons, o7, List.length_nil] at him
      refine tK (l := xk_227) rfl rfl (fun _ _ _ _ _ => rfl) ?_
      refine tK (l := xk_227) rfl rfl (fun _ _ _ _ _ => rfl) ?_
      refine tK (l := xk_227) rfl rfl (hGetR (o := some 148) hs rfl rfl rfl (by decide) (by decide) rfl) ?_
      refine tK (l := xk_227) rfl rfl (fun _ _ _ _ _ => rfl) ?_
      first | refine tK (l := xk_227) rfl rfl (hIaldN hs rfl rfl (by omega)) ?_ | refine tK (l := xk_227) rfl rfl (hIald hs rfl (by omega) (by omega)) ?_
      rw [show Int.toNat 402 = 402 from rfl, hb2]
      refine tIc_gt (l := xk_227) (pc' := 126) rfl rfl rfl (fun hc => ?_) (fun hc => ?_)
      · exfalso; omega
      · refine tK (l := xk_227) rfl rfl (fun _ _ _ _ _ => rfl) ?_
        refine tK (l := xk_227) rfl rfl (fun _ _ _ _ _ => rfl) ?_
        refine tK (l := xk_227) rfl rfl (hGetR (o := some 148) hs rfl rfl rfl (by decide) (by decide) rfl) ?_
        refine tK (l := xk_227) rfl rfl (fun _ _ _ _ _ => rfl) ?_
        refine tK (l := xk_227) rfl rfl (fun _ _ _ _ _ => rfl) ?_
        refine tK (l := xk_227) rfl rfl (hAdd ⟨by omega, by omega⟩) ?_
        rw [show (402 : Int) + (i : Int) = ((402 + i : Nat) : Int) by omega]
        first | refine tK (l := xk_227) rfl rfl (hIaldN hs rfl rfl (by omega)) ?_ | refine tK (l := xk_227) rfl rfl (hIald hs rfl (by omega) (by omega)) ?_
        rw [hr]
        refine tK (l := xk_227) rfl rfl (fun _ _ _ _ _ => rfl) ?_
        refine tCa (l := xk_227) rfl rfl (hInvV (c := 10) hs rfl rfl rfl rfl rfl (Nat.le_of_ble_eq_true rfl) (Nat.le_of_ble_eq_true rfl)) ?_
        refine s228 hk hek (fun ph2 k2 e2 f2 => ?_)
        refine tKn ?_
        refine tSt (l := xk_227) rfl rfl (hIinc rfl (Nat.le_of_ble_eq_true rfl) ⟨by omega, by omega⟩) (Nat.le_of_ble_eq_true rfl) ?_
        refine tK (l := xk_227) rfl rfl (fun _ _ _ _ _ => rfl) ?_
        exact ih (i + 1) ph2 (by simp only [List.length_cons, o7, List.length_nil]; omega) k2 (by rw [hL_tk hx]; exact e2) (hf.trans f2.z)
  have tl2 : ∀ (x1 : Option xV) (phi : xH), hMm zs phi c → hRl phi 147 44 = (hL 4349 ((c.2.1.2.1.1.length : Int) :: c.2.1.2.1.1)) → hFz (hUp ph 147 0 0) phi → xT (d + 10) 227 47 (xlo [some (.inr (.inl (some 147))), x1]) [] phi g Q := by
    intro x1 phi hk hek hf
    have hs := hk.1
    have e401 := hk.oc.2.2.1
    refine tK (l := xk_227) rfl rfl (fun _ _ _ _ _ => rfl) ?_
    refine tK (l := xk_227) rfl rfl (fun _ _ _ _ _ => rfl) ?_
    refine tK (l := xk_227) rfl rfl (hGetR (o := some 148) hs rfl rfl rfl (by decide) (by decide) rfl) ?_
    refine tK (l := xk_227) rfl rfl (fun _ _ _ _ _ => rfl) ?_
    first | refine tK (l := xk_227) rfl rfl (hIaldN hs rfl rfl (by omega)) ?_ | refine tK (l := xk_227) rfl rfl (hIald hs rfl (by omega) (by omega)) ?_
    rw [show Int.toNat 401 = 401 from rfl, e401]
    refine tIf_eq (l := xk_227) (pc' := 63) rfl rfl rfl (fun hc => ?_) (fun hc => ?_)
    · refine tK (l := xk_227) rfl rfl (fun _ _ _ _ _ => rfl) ?_
      refine tCa (l := xk_227) rfl rfl (hInvV (c := 10) hs rfl rfl rfl rfl rfl (Nat.le_of_ble_eq_true rfl) (Nat.le_of_ble_eq_true rfl)) ?_
      refine s228 hk hek (fun ph2 k2 e2 f2 => ?_)
      refine tKn ?_
      refine tK (l := xk_227) rfl rfl (fun _ _ _ _ _ => rfl) ?_
      refine tK (l := xk_227) rfl rfl (hGetR (o := some 148) k2.1 rfl rfl rfl (by decide) (by decide) rfl) ?_
      refine tK (l := xk_227) rfl rfl (fun _ _ _ _ _ => rfl) ?_
      first | refine tK (l := xk_227) rfl rfl (hIaldN k2.1 rfl rfl (by omega)) ?_ | refine tK (l := xk_227) rfl rfl (hIald k2.1 rfl (by omega) (by omega)) ?_
      have f401 := k2.oc.2.2.1
      rw [show Int.toNat 401 = 401 from rfl, f401]
      refine tIf_eq (l := xk_227) (pc' := 91) rfl rfl rfl (fun hc => ?_) (fun hc => ?_)
      · refine tK (l := xk_227) rfl rfl (fun _ _ _ _ _ => rfl) ?_
        refine tSt (l := xk_227) rfl rfl (fun _ _ _ _ _ => rfl) (Nat.le_of_ble_eq_true rfl) ?_
        refine lp3 _ 0 ph2 (Nat.zero_add _) k2 ?_ (hf.trans f2.z)
        rw [if_pos (by omega)]
        exact e2
      · exact absurd hc (by omega)
    · refine tK (l := xk_227) rfl rfl (fun _ _ _ _ _ => rfl) ?_
      refine tK (l := xk_227) rfl rfl (fun _ _ _ _ _ => rfl) ?_
      refine tCa (l := xk_227) rfl rfl (hInvV (c := 10) hs rfl rfl rfl rfl rfl (Nat.le_of_ble_eq_true rfl) (Nat.le_of_ble_eq_true rfl)) ?_
      refine s228 hk hek (fun ph2 k2 e2 f2 => ?_)
      refine tKn ?_
      refine tK (l := xk_227) rfl rfl (fun _ _ _ _ _ => rfl) ?_
      refine tK (l := xk_227) rfl rfl (hGetR (o := some 148) k2.1 rfl rfl rfl (by decide) (by decide) rfl) ?_
      refine tK (l := xk_227) rfl rfl (fun _ _ _ _ _ => rfl) ?_
      first | refine tK (l := xk_227) rfl rfl (hIaldN k2.1 rfl rfl (by omega)) ?_ | refine tK (l := xk_227) rfl rfl (hIald k2.1 rfl (by omega) (by omega)) ?_
      have f401 := k2.oc.2.2.1
      rw [show Int.toNat 401 = 401 from rfl, f401]
      refine tIf_eq (l := xk_227) (pc' := 91) rfl rfl rfl (fun hc => ?_) (fun hc => ?_)
      · exact absurd hc (by omega)
      · refine tK (l := xk_227) rfl rfl (fun _ _ _ _ _ => rfl) ?_
        refine tK (l := xk_227) rfl rfl (fun _ _ _ _ _ => rfl) ?_
        refine tK (l := xk_227) rfl rfl (hGetR (o := some 148) k2.1 rfl rfl rfl (by decide) (by decide) rfl) ?_
        refine tK (l := xk_227) rfl rfl (fun _ _ _ _ _ => rfl) ?_
        first | refine tK (l := xk_227) rfl rfl (hIaldN k2.1 rfl rfl (by omega)) ?_ | refine tK (l := xk_227) rfl rfl (hIald k2.1 rfl (by omega) (by omega)) ?_
        rw [show Int.toNat 401 = 401 from rfl, f401]
        refine tK (l := xk_227) rfl rfl (fun _ _ _ _ _ => rfl) ?_
        refine tCa (l := xk_227) rfl rfl (hInvV (c := 10) k2.1 rfl rfl rfl rfl rfl (Nat.le_of_ble_eq_true rfl) (Nat.le_of_ble_eq_true rfl)) ?_
        refine s228 k2 e2 (fun ph3 k3 e3 f3 => ?_)
        refine tKn ?_
        refine tK (l := xk_227) rfl rfl (fun _ _ _ _ _ => rfl) ?_
        refine tSt (l := xk_227) rfl rfl (fun _ _ _ _ _ => rfl) (Nat.le_of_ble_eq_true rfl) ?_
        refine lp3 _ 0 ph3 (Nat.zero_add _) k3 ?_ ((hf.trans f2.z).trans f3.z)
        rw [if_neg (by omega)]
        exact e3
  have lp1 : ∀ (m i : Nat) (phi : xH), i + m = ((c.2.1.2.1.1.length : Int) :: c.2.1.2.1.1).length → hMm zs phi c → hRl phi 147 44 = hL 4349 (((c.2.1.2.1.1.length : Int) :: c.2.1.2.1.1).take i) → hFz (hUp ph 147 0 0) phi → xT (d + 10) 227 14 (xlo [some (.inr (.inl (some 147))), some (.inl ((i : Int)))]) [] phi g Q := by
    intro m
    induction m with
    | zero =>
      intro i phi him hk hek hf
      have hs := hk.1
      obtain ⟨q1, q2, q3, q4, q5, q6⟩ := hk.oc
      have hb0 := q1 0 _ rfl
      have hb2 := q4 0 _ rfl
      obtain ⟨-, -, ⟨hh1, hh2, -⟩, -, ⟨hu1, hu2, hu3⟩⟩ := id hk
      rw [show ((c.2.1.2.1.1.length : Int) :: c.2.1.2.1.1).take i = ((c.2.1.2.1.1.length : Int) :: c.2.1.2.1.1) from List.take_of_length_le (by omega)] at hek
      simp only [List.length_cons, o7, List.length_nil] at him
      refine tK (l := xk_227) rfl rfl (fun _ _ _ _ _ => rfl) ?_
      refine tK (l := xk_227) rfl rfl (fun _ _ _ _ _ => rfl) ?_
      refine tK (l := xk_227) rfl rfl (hGetR (o := some 148) hs rfl rfl rfl (by decide) (by decide) rfl) ?_
      refine tK (l := xk_227) rfl rfl (fun _ _ _ _ _ => rfl) ?_
      first | refine tK (l := xk_227) rfl rfl (hIaldN hs rfl rfl (by omega)) ?_ | refine tK (l := xk_227) rfl rfl (hIald hs rfl (by omega) (by omega)) ?_
      rw [show Int.toNat 200 = 200 from rfl, hb0]
      refine tIc_gt (l := xk_227) (pc' := 47) rfl rfl rfl (fun hc => ?_) (fun hc => ?_)
      · exact tl2 _ phi hk hek hf
      · exfalso; omega
    | succ m ih =>
      intro i phi him hk hek hf
      have hs := hk.1
      obtain ⟨q1, q2, q3, q4, q5, q6⟩ := hk.oc
      have hb0 := q1 0 _ rfl
      have hb2 := q4 0 _ rfl
      obtain ⟨-, -, ⟨hh1, hh2, -⟩, -, ⟨hu1, hu2, hu3⟩⟩ := id hk
      have hx := List.getElem?_eq_getElem (show i < ((c.2.1.2.1.1.length : Int) :: c.2.1.2.1.1).length by omega)
      generalize ((c.2.1.2.1.1.length : Int) :: c.2.1.2.1.1)[i]'(by omega) = x at hx
      have hr := q1 i x hx
      simp only [List.length_cons, o7, List.length_nil] at him
      refine tK (l := xk_227) rfl rfl (fun _ _ _ _ _ => rfl) ?_
      refine tK (l := xk_227) rfl rfl (fun _ _ _ _ _ => rfl) ?_
      refine tK (l := xk_227) rfl rfl (hGetR (o := some 148) hs rfl rfl rfl (by decide) (by decide) rfl) ?_
      refine tK (l := xk_227) rfl rfl (fun _ _ _ _ _ => rfl) ?_
      first | refine tK (l := xk_227) rfl rfl (hIaldN hs rfl rfl (by omega)) ?_ | refine tK (l := xk_227) rfl rfl (hIald hs rfl (by omega) (by omega)) ?_
      rw [show Int.toNat 200 = 200 from rfl, hb0]
      refine tIc_gt (l := xk_227) (pc' := 47) rfl rfl rfl (fun hc => ?_) (fun hc => ?_)
      · exfalso; omega
      · refine tK (l := xk_227) rfl rfl (fun _ _ _ _ _ => rfl) ?_
        refine tK (l := xk_227) rfl rfl (fun _ _ _ _ _ => rfl) ?_
        refine tK (l := xk_227) rfl rfl (hGetR (o := some 148) hs rfl rfl rfl (by decide) (by decide) rfl) ?_
        refine tK (l := xk_227) rfl rfl (fun _ _ _ _ _ => rfl) ?_
        refine tK (l := xk_227) rfl rfl (fun _ _ _ _ _ => rfl) ?_
        refine tK (l := xk_227) rfl rfl (hAdd ⟨by omega, by omega⟩) ?_
        rw [show (200 : Int) + (i : Int) = ((200 + i : Nat) : Int) by omega]
        first | refine tK (l := xk_227) rfl rfl (hIaldN hs rfl rfl (by omega)) ?_ | refine tK (l := xk_227) rfl rfl (hIald hs rfl (by omega) (by omega)) ?_
        rw [hr]
        refine tK (l := xk_227) rfl rfl (fun _ _ _ _ _ => rfl) ?_
        refine tCa (l := xk_227) rfl rfl (hInvV (c := 10) hs rfl rfl rfl rfl rfl (Nat.le_of_ble_eq_true rfl) (Nat.le_of_ble_eq_true rfl)) ?_
        refine s228 hk hek (fun ph2 k2 e2 f2 => ?_)
        refine tKn ?_
        refine tSt (l := xk_227) rfl rfl (hIinc rfl (Nat.le_of_ble_eq_true rfl) ⟨by omega, by omega⟩) (Nat.le_of_ble_eq_true rfl) ?_
        refine tK (l := xk_227) rfl rfl (fun _ _ _ _ _ => rfl) ?_
        exact ih (i + 1) ph2 (by simp only [List.length_cons, o7, List.length_nil]; omega) k2 (by rw [hL_tk hx]; exact e2) (hf.trans f2.z)
  have hs := h.1
  refine tEn (ls := [some (.inr (.inl (some 147))), none]) (fun k => by match k with | 0 => rfl | 1 => rfl | k + 2 => rfl) ?_
  refine tK (l := xk_227) rfl rfl (fun _ _ _ _ _ => rfl) ?_
  refine tK (l := xk_227) rfl rfl (fun _ _ _ _ _ => rfl) ?_
  refine tK (l := xk_227) rfl rfl (hPutV hs rfl rfl (by decide) (by decide) rfl) ?_
  refine tK (l := xk_227) rfl rfl (fun _ _ _ _ _ => rfl) ?_
  refine tK (l := xk_227) rfl rfl (fun _ _ _ _ _ => rfl) ?_
  refine tK (l := xk_227) rfl rfl (hPutV (hShI1 _ hs rfl rfl) rfl rfl (by decide) (by decide) rfl) ?_
  refine tK (l := xk_227) rfl rfl (fun _ _ _ _ _ => rfl) ?_
  refine tSt (l := xk_227) rfl rfl (fun _ _ _ _ _ => rfl) (Nat.le_of_ble_eq_true rfl) ?_
  obtain ⟨y1, y2⟩ := hFw_h (x := 4349) t1.1
  exact lp1 _ 0 _ (Nat.zero_add _) (t1.fw (hShL1 _ (hShI1 _ hs rfl rfl) rfl rfl) y1) y2 y1.z
end MD2
