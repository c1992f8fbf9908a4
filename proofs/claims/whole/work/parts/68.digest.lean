/-! ===== the class's digest ===== -/
def vsL (f : Nat → Option (List Int)) : Nat → List Int
  | 0 => []
  | n + 1 => vsL f n ++ vL (f n)
def tL (c : KS) (D1 D3 : Cf) : List Int := if pWh c.1 = true then [1, ((pPs c.1).length : Int), (pDp c.1 : Int), mkU (pPs c.1) 0, mkG (pPs c.1) 0, (mkL (pPs c.1) 0 : Int), ((ocD D1).1.length : Int), ((ocD D1).1.length : Int), (ocD D3).2.1] else [0]
def dgv (c : KS) (D1 D3 : Cf) : Int64 := hL (hw (hL (hL (hL (hL 4349 (oL c.2.1 ++ [(c.2.2.2.length : Int)])) (vsL c.2.1.1 8)) (tL c D1 D3)) [((pRes c.1).1 : Int)]) (bitD (shV c.2.1))) ((c.1.length : Int) :: c.1)
section DGC
variable {d : Nat} {ph : xH} {zs : List xV} {g : Nat} {Q : xR → Prop} {c : KS}
def rsZ : RS := ([], [], [], 0, 0, 0, 0)
theorem c100 {B : Nat} (h : hKl zs ph c) (ho : okKS B c) (hQ : ∀ ph2 D1 D3, (pWh c.1 = true → Fin c.1 c.2.1.1 (-1) D1 ∧ Fin c.1 c.2.1.1 (-1) D3) → hKl zs ph2 c → hFd clP ph ph2 → Q (.inl (some (.inr (.inr (.inl (dgv c D1 D3))))), ph2, g)) : xTC (d + 1225) 100 [.inr (.inl (some 1))] ph g Q := by
  obtain ⟨⟨hok, hl60⟩, hos, -, -, -⟩ := id ho
  obtain ⟨hsd, hsp⟩ := shV_ok hos
  -- the tail
  have fin : ∀ (phi : xH) (hh : Int64) (i : Int) (D1 D3 : Cf), (pWh c.1 = true → Fin c.1 c.2.1.1 (-1) D1 ∧ Fin c.1 c.2.1.1 (-1) D3) → hKl zs phi c → hFd clP ph phi → hh = hL (hL (hL 4349 (oL c.2.1 ++ [(c.2.2.2.length : Int)])) (vsL c.2.1.1 8)) (tL c D1 D3) → xT (d + 1225) 100 180 (xlo [some (.inr (.inl (some 1))), some (.inr (.inr (.inl hh))), none, some (.inl i)]) [] phi g Q := by
    intro phi hh i D1 D3 hD hk hf he
    have hs := hk.1
    refine tK (l := xk_100) rfl rfl (fun _ _ _ _ _ => rfl) ?_
    refine tK (l := xk_100) rfl rfl (fun _ _ _ _ _ => rfl) ?_
    refine tCa (l := xk_100) rfl rfl (hInvV (c := 9) hs rfl rfl rfl rfl rfl (Nat.le_of_ble_eq_true rfl) (Nat.le_of_ble_eq_true rfl)) ?_
    refine c84 hk hl60 (fun ph2 k2 f2 => ?_)
    refine tKv ?_
    refine tK (l := xk_100) rfl rfl (fun _ _ _ _ _ => rfl) ?_
    refine tCa (l := xk_100) rfl rfl (hInvS rfl rfl rfl rfl (Nat.le_of_ble_eq_true rfl) (Nat.le_of_ble_eq_true rfl)) ?_
    refine s103 ?_
    refine tKv ?_
    refine tSt2 (l := xk_100) rfl rfl (fun _ _ _ _ _ => rfl) (Nat.le_of_ble_eq_true rfl) ?_
    refine tK (l := xk_100) rfl rfl (fun _ _ _ _ _ => rfl) ?_
    refine tK (l := xk_100) rfl rfl (fun _ _ _ _ _ => rfl) ?_
    refine tCa (l := xk_100) rfl rfl (hInvV (c := 9) k2.1 rfl rfl rfl rfl rfl (Nat.le_of_ble_eq_true rfl) (Nat.le_of_ble_eq_true rfl)) ?_
    refine c99 k2 hsd ?_
    refine tKv ?_
    refine tCa (l := xk_100) rfl rfl (hInvS rfl rfl rfl rfl (Nat.le_of_ble_eq_true rfl) (Nat.le_of_ble_eq_true rfl)) ?_
    refine s125 hsp ?_
    refine tKv ?_
    refine tCa (l := xk_100) rfl rfl (hInvS rfl rfl rfl rfl (Nat.le_of_ble_eq_true rfl) (Nat.le_of_ble_eq_true rfl)) ?_
    refine s103 ?_
    refine tKv ?_
    refine tSt2 (l := xk_100) rfl rfl (fun _ _ _ _ _ => rfl) (Nat.le_of_ble_eq_true rfl) ?_
    refine tK (l := xk_100) rfl rfl (fun _ _ _ _ _ => rfl) ?_
    refine tK (l := xk_100) rfl rfl (fun _ _ _ _ _ => rfl) ?_
    refine tK (l := xk_100) rfl rfl (hGetR (o := some 2) k2.1 rfl rfl rfl (by decide) (by decide) rfl) ?_
    refine tK (l := xk_100) rfl rfl (fun _ _ _ _ _ => rfl) ?_
    refine tCa (l := xk_100) rfl rfl (hInvS rfl rfl rfl rfl (Nat.le_of_ble_eq_true rfl) (Nat.le_of_ble_eq_true rfl)) ?_
    refine s102 (r := 0) k2.1 rfl k2.2.1.1 (by decide) k2.2.1.2 ?_
    refine tKv ?_
    refine tRt (l := xk_100) rfl rfl (fun _ _ _ _ _ => rfl) ?_
    have hq := hQ ph2 D1 D3 hD k2 (hf.trans f2)
    unfold dgv at hq
    rw [← he] at hq
    exact hq
  have mid : ∀ (phi : xH) (hh : Int64) (i : Int), hKl zs phi c → hFd clP ph phi → hh = hL (hL 4349 (oL c.2.1 ++ [(c.2.2.2.length : Int)])) (vsL c.2.1.1 8) → xT (d + 1225) 100 85 (xlo [some (.inr (.inl (some 1))), some (.inr (.inr (.inl hh))), none, some (.inl i)]) [] phi g Q := by
    intro phi hh i hk hf he
    have hs := hk.1
    cases hw : pWh c.1 with
    | false =>
      refine tK (l := xk_100) rfl rfl (fun _ _ _ _ _ => rfl) ?_
      refine tCa (l := xk_100) rfl rfl (hInvV (c := 9) hs rfl rfl rfl rfl rfl (Nat.le_of_ble_eq_true rfl) (Nat.le_of_ble_eq_true rfl)) ?_
      refine c86 hk hl60 (fun ph2 k2 f2 => ?_)
      refine tKv ?_
      rw [if_neg (by rw [hw]; decide)]
      refine tSt (l := xk_100) rfl rfl (fun _ _ _ _ _ => rfl) (Nat.le_of_ble_eq_true rfl) ?_
      refine tK (l := xk_100) rfl rfl (fun _ _ _ _ _ => rfl) ?_
      refine tK (l := xk_100) rfl rfl (fun _ _ _ _ _ => rfl) ?_
      refine tCa (l := xk_100) rfl rfl (hInvS rfl rfl rfl rfl (Nat.le_of_ble_eq_true rfl) (Nat.le_of_ble_eq_true rfl)) ?_
      refine s104_0 ?_
      refine tKv ?_
      refine tSt2 (l := xk_100) rfl rfl (fun _ _ _ _ _ => rfl) (Nat.le_of_ble_eq_true rfl) ?_
      refine tK (l := xk_100) rfl rfl (fun _ _ _ _ _ => rfl) ?_
      refine tIf_eq (l := xk_100) (pc' := 180) rfl rfl rfl (fun hc => ?_) (fun hc => ?_)
      · refine fin ph2 _ 0 (RU [] rsZ) (RU [] rsZ) (fun q => by rw [hw] at q; cases q) k2 (hf.trans f2) ?_
        unfold tL
        rw [if_neg (by rw [hw]; decide), ← he]
        rfl
      · exact absurd rfl hc
    | true =>
      refine tK (l := xk_100) rfl rfl (fun _ _ _ _ _ => rfl) ?_
      refine tCa (l := xk_100) rfl rfl (hInvV (c := 9) hs rfl rfl rfl rfl rfl (Nat.le_of_ble_eq_true rfl) (Nat.le_of_ble_eq_true rfl)) ?_
      refine c86 hk hl60 (fun ph2 k2 f2 => ?_)
      refine tKv ?_
      rw [if_pos hw]
      refine tSt (l := xk_100) rfl rfl (fun _ _ _ _ _ => rfl) (Nat.le_of_ble_eq_true rfl) ?_
      refine tK (l := xk_100) rfl rfl (fun _ _ _ _ _ => rfl) ?_
      refine tK (l := xk_100) rfl rfl (fun _ _ _ _ _ => rfl) ?_
      refine tCa (l := xk_100) rfl rfl (hInvS rfl rfl rfl rfl (Nat.le_of_ble_eq_true rfl) (Nat.le_of_ble_eq_true rfl)) ?_
      refine s104_1 ?_
      refine tKv ?_
      refine tSt2 (l := xk_100) rfl rfl (fun _ _ _ _ _ => rfl) (Nat.le_of_ble_eq_true rfl) ?_
      refine tK (l := xk_100) rfl rfl (fun _ _ _ _ _ => rfl) ?_
      refine tIf_eq (l := xk_100) (pc' := 180) rfl rfl rfl (fun hc => ?_) (fun hc => ?_)
      · exact absurd hc (by decide)
      · refine tK (l := xk_100) rfl rfl (fun _ _ _ _ _ => rfl) ?_
        refine tK (l := xk_100) rfl rfl (fun _ _ _ _ _ => rfl) ?_
        refine tCa (l := xk_100) rfl rfl (hInvV (c := 9) k2.1 rfl rfl rfl rfl rfl (Nat.le_of_ble_eq_true rfl) (Nat.le_of_ble_eq_true rfl)) ?_
        refine c116 k2 hl60 hw (fun ph3 k3 f3 => ?_)
        refine tKv ?_
        refine tK (l := xk_100) rfl rfl (fun _ _ _ _ _ => rfl) ?_
        refine tCa (l := xk_100) rfl rfl (hInvS rfl rfl rfl rfl (Nat.le_of_ble_eq_true rfl) (Nat.le_of_ble_eq_true rfl)) ?_
        refine s103 ?_
        refine tKv ?_
        refine tSt2 (l := xk_100) rfl rfl (fun _ _ _ _ _ => rfl) (Nat.le_of_ble_eq_true rfl) ?_
        refine tK (l := xk_100) rfl rfl (fun _ _ _ _ _ => rfl) ?_
        refine tK (l := xk_100) rfl rfl (fun _ _ _ _ _ => rfl) ?_
        refine tCa (l := xk_100) rfl rfl (hInvV (c := 9) k3.1 rfl rfl rfl rfl rfl (Nat.le_of_ble_eq_true rfl) (Nat.le_of_ble_eq_true rfl)) ?_
        refine c118 k3 hl60 hw (fun ph4 k4 f4 => ?_)
        refine tKv ?_
        refine tK (l := xk_100) rfl rfl (fun _ _ _ _ _ => rfl) ?_
        refine tCa (l := xk_100) rfl rfl (hInvS rfl rfl rfl rfl (Nat.le_of_ble_eq_true rfl) (Nat.le_of_ble_eq_true rfl)) ?_
        refine s103 ?_
        refine tKv ?_
        refine tSt2 (l := xk_100) rfl rfl (fun _ _ _ _ _ => rfl) (Nat.le_of_ble_eq_true rfl) ?_
        refine tK (l := xk_100) rfl rfl (fun _ _ _ _ _ => rfl) ?_
        refine tK (l := xk_100) rfl rfl (fun _ _ _ _ _ => rfl) ?_
        refine tCa (l := xk_100) rfl rfl (hInvV (c := 9) k4.1 rfl rfl rfl rfl rfl (Nat.le_of_ble_eq_true rfl) (Nat.le_of_ble_eq_true rfl)) ?_
        refine c119 k4 hl60 hw (fun ph5 k5 f5 => ?_)
        refine tKv ?_
        refine tK (l := xk_100) rfl rfl (fun _ _ _ _ _ => rfl) ?_
        refine tCa (l := xk_100) rfl rfl (hInvS rfl rfl rfl rfl (Nat.le_of_ble_eq_true rfl) (Nat.le_of_ble_eq_true rfl)) ?_
        refine s103 ?_
        refine tKv ?_
        refine tSt2 (l := xk_100) rfl rfl (fun _ _ _ _ _ => rfl) (Nat.le_of_ble_eq_true rfl) ?_
        refine tK (l := xk_100) rfl rfl (fun _ _ _ _ _ => rfl) ?_
        refine tK (l := xk_100) rfl rfl (fun _ _ _ _ _ => rfl) ?_
        refine tCa (l := xk_100) rfl rfl (hInvV (c := 9) k5.1 rfl rfl rfl rfl rfl (Nat.le_of_ble_eq_true rfl) (Nat.le_of_ble_eq_true rfl)) ?_
        refine c120 k5 hl60 hw (fun ph6 k6 f6 => ?_)
        refine tKv ?_
        refine tK (l := xk_100) rfl rfl (fun _ _ _ _ _ => rfl) ?_
        refine tCa (l := xk_100) rfl rfl (hInvS rfl rfl rfl rfl (Nat.le_of_ble_eq_true rfl) (Nat.le_of_ble_eq_true rfl)) ?_
        refine s103 ?_
        refine tKv ?_
        refine tSt2 (l := xk_100) rfl rfl (fun _ _ _ _ _ => rfl) (Nat.le_of_ble_eq_true rfl) ?_
        refine tK (l := xk_100) rfl rfl (fun _ _ _ _ _ => rfl) ?_
        refine tK (l := xk_100) rfl rfl (fun _ _ _ _ _ => rfl) ?_
        refine tCa (l := xk_100) rfl rfl (hInvV (c := 9) k6.1 rfl rfl rfl rfl rfl (Nat.le_of_ble_eq_true rfl) (Nat.le_of_ble_eq_true rfl)) ?_
        refine c121 k6 hl60 hw (fun ph7 k7 f7 => ?_)
        refine tKv ?_
        refine tK (l := xk_100) rfl rfl (fun _ _ _ _ _ => rfl) ?_
        refine tCa (l := xk_100) rfl rfl (hInvS rfl rfl rfl rfl (Nat.le_of_ble_eq_true rfl) (Nat.le_of_ble_eq_true rfl)) ?_
        refine s103 ?_
        refine tKv ?_
        refine tSt2 (l := xk_100) rfl rfl (fun _ _ _ _ _ => rfl) (Nat.le_of_ble_eq_true rfl) ?_
        refine tK (l := xk_100) rfl rfl (fun _ _ _ _ _ => rfl) ?_
        refine tK (l := xk_100) rfl rfl (fun _ _ _ _ _ => rfl) ?_
        refine tCa (l := xk_100) rfl rfl (hInvV (c := 9) k7.1 rfl rfl rfl rfl rfl (Nat.le_of_ble_eq_true rfl) (Nat.le_of_ble_eq_true rfl)) ?_
        refine c122 k7 hl60 hok hw (fun ph8 D1 hD1 k8 f8 => ?_)
        refine tKv ?_
        refine tK (l := xk_100) rfl rfl (fun _ _ _ _ _ => rfl) ?_
        refine tCa (l := xk_100) rfl rfl (hInvS rfl rfl rfl rfl (Nat.le_of_ble_eq_true rfl) (Nat.le_of_ble_eq_true rfl)) ?_
        refine s103 ?_
        refine tKv ?_
        refine tSt2 (l := xk_100) rfl rfl (fun _ _ _ _ _ => rfl) (Nat.le_of_ble_eq_true rfl) ?_
        refine tK (l := xk_100) rfl rfl (fun _ _ _ _ _ => rfl) ?_
        refine tK (l := xk_100) rfl rfl (fun _ _ _ _ _ => rfl) ?_
        refine tCa (l := xk_100) rfl rfl (hInvV (c := 9) k8.1 rfl rfl rfl rfl rfl (Nat.le_of_ble_eq_true rfl) (Nat.le_of_ble_eq_true rfl)) ?_
        refine c123d k8 hl60 hok hw hD1 (fun ph9 k9 f9 => ?_)
        refine tKv ?_
        refine tK (l := xk_100) rfl rfl (fun _ _ _ _ _ => rfl) ?_
        refine tCa (l := xk_100) rfl rfl (hInvS rfl rfl rfl rfl (Nat.le_of_ble_eq_true rfl) (Nat.le_of_ble_eq_true rfl)) ?_
        refine s103 ?_
        refine tKv ?_
        refine tSt2 (l := xk_100) rfl rfl (fun _ _ _ _ _ => rfl) (Nat.le_of_ble_eq_true rfl) ?_
        refine tK (l := xk_100) rfl rfl (fun _ _ _ _ _ => rfl) ?_
        refine tK (l := xk_100) rfl rfl (fun _ _ _ _ _ => rfl) ?_
        refine tCa (l := xk_100) rfl rfl (hInvV (c := 9) k9.1 rfl rfl rfl rfl rfl (Nat.le_of_ble_eq_true rfl) (Nat.le_of_ble_eq_true rfl)) ?_
        refine c124 k9 hl60 hok hw (fun ph10 D3 hD3 k10 f10 => ?_)
        refine tKv ?_
        refine tK (l := xk_100) rfl rfl (fun _ _ _ _ _ => rfl) ?_
        refine tCa (l := xk_100) rfl rfl (hInvS rfl rfl rfl rfl (Nat.le_of_ble_eq_true rfl) (Nat.le_of_ble_eq_true rfl)) ?_
        refine s103 ?_
        refine tKv ?_
        refine tSt2 (l := xk_100) rfl rfl (fun _ _ _ _ _ => rfl) (Nat.le_of_ble_eq_true rfl) ?_
        refine fin ph10 _ 1 D1 D3 (fun _ => ⟨hD1, hD3⟩) k10 (((((((((hf.trans f2).trans f3).trans f4).trans f5).trans f6).trans f7).trans f8).trans f9).trans f10) ?_
        unfold tL
        rw [if_pos hw, ← he]
        rfl
  have loop : ∀ (m v : Nat) (phi : xH) (hh : Int64), v + m = 8 → hKl zs phi c → hFd clP ph phi → hh = hL (hL 4349 (oL c.2.1 ++ [(c.2.2.2.length : Int)])) (vsL c.2.1.1 v) → xT (d + 1225) 100 10 (xlo [some (.inr (.inl (some 1))), some (.inr (.inr (.inl hh))), none, some (.inl (v : Int))]) [] phi g Q := by
    intro m
    induction m with
    | zero =>
      intro v phi hh hvm hk hf he
      have hs := hk.1
      have hv8 : v = 8 := by omega
      subst hv8
      refine tK (l := xk_100) rfl rfl (fun _ _ _ _ _ => rfl) ?_
      refine tK (l := xk_100) rfl rfl (fun _ _ _ _ _ => rfl) ?_
      refine tIc_ge (l := xk_100) (pc' := 85) rfl rfl rfl (fun hc => ?_) (fun hc => ?_)
      · exfalso; omega
      · exact mid phi hh _ hk hf he
    | succ m ih =>
      intro v phi hh hvm hk hf he
      have hs := hk.1
      have hv8 : v < 8 := by omega
      cases hv : c.2.1.1 v with
      | none =>
        refine tK (l := xk_100) rfl rfl (fun _ _ _ _ _ => rfl) ?_
        refine tK (l := xk_100) rfl rfl (fun _ _ _ _ _ => rfl) ?_
        refine tIc_ge (l := xk_100) (pc' := 85) rfl rfl rfl (fun hc => ?_) (fun hc => ?_)
        · refine tK (l := xk_100) rfl rfl (fun _ _ _ _ _ => rfl) ?_
          refine tK (l := xk_100) rfl rfl (fun _ _ _ _ _ => rfl) ?_
          refine tK (l := xk_100) rfl rfl (fun _ _ _ _ _ => rfl) ?_
          refine tCa (l := xk_100) rfl rfl (hInvV (c := 9) hs rfl rfl rfl rfl rfl (Nat.le_of_ble_eq_true rfl) (Nat.le_of_ble_eq_true rfl)) ?_
          refine c107 hk hv8 ?_
          refine tKv ?_
          rw [hv]
          simp only [Option.isSome_none, if_neg (show ¬ (false = true) by decide)]
          refine tCa (l := xk_100) rfl rfl (hInvS rfl rfl rfl rfl (Nat.le_of_ble_eq_true rfl) (Nat.le_of_ble_eq_true rfl)) ?_
          refine s104_0 ?_
          refine tKv ?_
          refine tSt2 (l := xk_100) rfl rfl (fun _ _ _ _ _ => rfl) (Nat.le_of_ble_eq_true rfl) ?_
          refine tK (l := xk_100) rfl rfl (fun _ _ _ _ _ => rfl) ?_
          refine tK (l := xk_100) rfl rfl (fun _ _ _ _ _ => rfl) ?_
          refine tCa (l := xk_100) rfl rfl (hInvV (c := 9) hs rfl rfl rfl rfl rfl (Nat.le_of_ble_eq_true rfl) (Nat.le_of_ble_eq_true rfl)) ?_
          refine c107 hk hv8 ?_
          refine tKv ?_
          rw [hv]
          simp only [Option.isSome_none, if_neg (show ¬ (false = true) by decide)]
          refine tIf_eq (l := xk_100) (pc' := 79) rfl rfl rfl (fun hc => ?_) (fun hc => ?_)
          · refine tSt (l := xk_100) rfl rfl (hIinc rfl (Nat.le_of_ble_eq_true rfl) ⟨by omega, by omega⟩) (Nat.le_of_ble_eq_true rfl) ?_
            refine tK (l := xk_100) rfl rfl (fun _ _ _ _ _ => rfl) ?_
            refine ih (v + 1) phi _ (by omega) hk hf ?_
            simp only [vsL]
            rw [hL_app, ← he, hv]
            rfl
          · exact absurd rfl hc
        · exfalso; omega
      | some w =>
        obtain ⟨hokw, hw24⟩ := hos.1 v hv8 w hv
        cases hwh : pWh w with
        | false =>
          refine tK (l := xk_100) rfl rfl (fun _ _ _ _ _ => rfl) ?_
          refine tK (l := xk_100) rfl rfl (fun _ _ _ _ _ => rfl) ?_
          refine tIc_ge (l := xk_100) (pc' := 85) rfl rfl rfl (fun hc => ?_) (fun hc => ?_)
          · refine tK (l := xk_100) rfl rfl (fun _ _ _ _ _ => rfl) ?_
            refine tK (l := xk_100) rfl rfl (fun _ _ _ _ _ => rfl) ?_
            refine tK (l := xk_100) rfl rfl (fun _ _ _ _ _ => rfl) ?_
            refine tCa (l := xk_100) rfl rfl (hInvV (c := 9) hs rfl rfl rfl rfl rfl (Nat.le_of_ble_eq_true rfl) (Nat.le_of_ble_eq_true rfl)) ?_
            refine c107 hk hv8 ?_
            refine tKv ?_
            rw [hv]
            simp only [Option.isSome_some, if_true]
            refine tCa (l := xk_100) rfl rfl (hInvS rfl rfl rfl rfl (Nat.le_of_ble_eq_true rfl) (Nat.le_of_ble_eq_true rfl)) ?_
            refine s104_1 ?_
            refine tKv ?_
            refine tSt2 (l := xk_100) rfl rfl (fun _ _ _ _ _ => rfl) (Nat.le_of_ble_eq_true rfl) ?_
            refine tK (l := xk_100) rfl rfl (fun _ _ _ _ _ => rfl) ?_
            refine tK (l := xk_100) rfl rfl (fun _ _ _ _ _ => rfl) ?_
            refine tCa (l := xk_100) rfl rfl (hInvV (c := 9) hs rfl rfl rfl rfl rfl (Nat.le_of_ble_eq_true rfl) (Nat.le_of_ble_eq_true rfl)) ?_
            refine c107 hk hv8 ?_
            refine tKv ?_
            rw [hv]
            simp only [Option.isSome_some, if_true]
            refine tIf_eq (l := xk_100) (pc' := 79) rfl rfl rfl (fun hc => ?_) (fun hc => ?_)
            · exact absurd hc (by decide)
            · refine tK (l := xk_100) rfl rfl (fun _ _ _ _ _ => rfl) ?_
              refine tK (l := xk_100) rfl rfl (fun _ _ _ _ _ => rfl) ?_
              refine tK (l := xk_100) rfl rfl (hGetR (o := some 73) hs rfl rfl rfl (by decide) (by decide) rfl) ?_
              refine tK (l := xk_100) rfl rfl (hGetR (o := some 74) hs rfl rfl rfl (by decide) (by decide) rfl) ?_
              refine tK (l := xk_100) rfl rfl (fun _ _ _ _ _ => rfl) ?_
              refine tCa (l := xk_100) rfl rfl (hInvS rfl rfl rfl rfl (Nat.le_of_ble_eq_true rfl) (Nat.le_of_ble_eq_true rfl)) ?_
              refine s102 (r := v) hs rfl (hk.val hv8).1 (by have := hRw74; omega) ((hk.val hv8).2.trans hv) ?_
              refine tKv ?_
              refine tSt2 (l := xk_100) rfl rfl (fun _ _ _ _ _ => rfl) (Nat.le_of_ble_eq_true rfl) ?_
              refine tK (l := xk_100) rfl rfl (fun _ _ _ _ _ => rfl) ?_
              refine tK (l := xk_100) rfl rfl (fun _ _ _ _ _ => rfl) ?_
              refine tK (l := xk_100) rfl rfl (fun _ _ _ _ _ => rfl) ?_
              refine tCa (l := xk_100) rfl rfl (hInvV (c := 9) hs rfl rfl rfl rfl rfl (Nat.le_of_ble_eq_true rfl) (Nat.le_of_ble_eq_true rfl)) ?_
              refine c109 hk hv8 hv hw24 (fun ph2 k2 f2 => ?_)
              refine tKv ?_
              rw [if_neg (by rw [hwh]; decide)]
              refine tCa (l := xk_100) rfl rfl (hInvS rfl rfl rfl rfl (Nat.le_of_ble_eq_true rfl) (Nat.le_of_ble_eq_true rfl)) ?_
              refine s104_0 ?_
              refine tKv ?_
              refine tSt2 (l := xk_100) rfl rfl (fun _ _ _ _ _ => rfl) (Nat.le_of_ble_eq_true rfl) ?_
              refine tK (l := xk_100) rfl rfl (fun _ _ _ _ _ => rfl) ?_
              refine tK (l := xk_100) rfl rfl (fun _ _ _ _ _ => rfl) ?_
              refine tK (l := xk_100) rfl rfl (fun _ _ _ _ _ => rfl) ?_
              refine tCa (l := xk_100) rfl rfl (hInvV (c := 9) k2.1 rfl rfl rfl rfl rfl (Nat.le_of_ble_eq_true rfl) (Nat.le_of_ble_eq_true rfl)) ?_
              refine c111 k2 hv8 hv hw24 hokw (fun ph3 k3 f3 => ?_)
              refine tKv ?_
              refine tK (l := xk_100) rfl rfl (fun _ _ _ _ _ => rfl) ?_
              refine tCa (l := xk_100) rfl rfl (hInvS rfl rfl rfl rfl (Nat.le_of_ble_eq_true rfl) (Nat.le_of_ble_eq_true rfl)) ?_
              refine s103 ?_
              refine tKv ?_
              refine tSt2 (l := xk_100) rfl rfl (fun _ _ _ _ _ => rfl) (Nat.le_of_ble_eq_true rfl) ?_
              refine tK (l := xk_100) rfl rfl (fun _ _ _ _ _ => rfl) ?_
              refine tK (l := xk_100) rfl rfl (fun _ _ _ _ _ => rfl) ?_
              refine tK (l := xk_100) rfl rfl (fun _ _ _ _ _ => rfl) ?_
              refine tCa (l := xk_100) rfl rfl (hInvV (c := 9) k3.1 rfl rfl rfl rfl rfl (Nat.le_of_ble_eq_true rfl) (Nat.le_of_ble_eq_true rfl)) ?_
              refine c114 k3 hv8 hv hw24 hokw (fun ph4 k4 f4 => ?_)
              refine tKv ?_
              refine tK (l := xk_100) rfl rfl (fun _ _ _ _ _ => rfl) ?_
              refine tCa (l := xk_100) rfl rfl (hInvS rfl rfl rfl rfl (Nat.le_of_ble_eq_true rfl) (Nat.le_of_ble_eq_true rfl)) ?_
              refine s103 ?_
              refine tKv ?_
              refine tSt2 (l := xk_100) rfl rfl (fun _ _ _ _ _ => rfl) (Nat.le_of_ble_eq_true rfl) ?_
              refine tSt (l := xk_100) rfl rfl (hIinc rfl (Nat.le_of_ble_eq_true rfl) ⟨by omega, by omega⟩) (Nat.le_of_ble_eq_true rfl) ?_
              refine tK (l := xk_100) rfl rfl (fun _ _ _ _ _ => rfl) ?_
              refine ih (v + 1) ph4 _ (by omega) k4 (((hf.trans f2).trans f3).trans f4) ?_
              simp only [vsL]
              rw [hL_app, ← he, hv]
              simp only [vL]
              rw [if_neg (by rw [hwh]; decide)]
              simp only [List.cons_append, hL_cons, hL_app]
              rfl
          · exfalso; omega
        | true =>
          refine tK (l := xk_100) rfl rfl (fun _ _ _ _ _ => rfl) ?_
          refine tK (l := xk_100) rfl rfl (fun _ _ _ _ _ => rfl) ?_
          refine tIc_ge (l := xk_100) (pc' := 85) rfl rfl rfl (fun hc => ?_) (fun hc => ?_)
          · refine tK (l := xk_100) rfl rfl (fun _ _ _ _ _ => rfl) ?_
            refine tK (l := xk_100) rfl rfl (fun _ _ _ _ _ => rfl) ?_
            refine tK (l := xk_100) rfl rfl (fun _ _ _ _ _ => rfl) ?_
            refine tCa (l := xk_100) rfl rfl (hInvV (c := 9) hs rfl rfl rfl rfl rfl (Nat.le_of_ble_eq_true rfl) (Nat.le_of_ble_eq_true rfl)) ?_
            refine c107 hk hv8 ?_
            refine tKv ?_
            rw [hv]
            simp only [Option.isSome_some, if_true]
            refine tCa (l := xk_100) rfl rfl (hInvS rfl rfl rfl rfl (Nat.le_of_ble_eq_true rfl) (Nat.le_of_ble_eq_true rfl)) ?_
            refine s104_1 ?_
            refine tKv ?_
            refine tSt2 (l := xk_100) rfl rfl (fun _ _ _ _ _ => rfl) (Nat.le_of_ble_eq_true rfl) ?_
            refine tK (l := xk_100) rfl rfl (fun _ _ _ _ _ => rfl) ?_
            refine tK (l := xk_100) rfl rfl (fun _ _ _ _ _ => rfl) ?_
            refine tCa (l := xk_100) rfl rfl (hInvV (c := 9) hs rfl rfl rfl rfl rfl (Nat.le_of_ble_eq_true rfl) (Nat.le_of_ble_eq_true rfl)) ?_
            refine c107 hk hv8 ?_
            refine tKv ?_
            rw [hv]
            simp only [Option.isSome_some, if_true]
            refine tIf_eq (l := xk_100) (pc' := 79) rfl rfl rfl (fun hc => ?_) (fun hc => ?_)
            · exact absurd hc (by decide)
            · refine tK (l := xk_100) rfl rfl (fun _ _ _ _ _ => rfl) ?_
              refine tK (l := xk_100) rfl rfl (fun _ _ _ _ _ => rfl) ?_
              refine tK (l := xk_100) rfl rfl (hGetR (o := some 73) hs rfl rfl rfl (by decide) (by decide) rfl) ?_
              refine tK (l := xk_100) rfl rfl (hGetR (o := some 74) hs rfl rfl rfl (by decide) (by decide) rfl) ?_
              refine tK (l := xk_100) rfl rfl (fun _ _ _ _ _ => rfl) ?_
              refine tCa (l := xk_100) rfl rfl (hInvS rfl rfl rfl rfl (Nat.le_of_ble_eq_true rfl) (Nat.le_of_ble_eq_true rfl)) ?_
              refine s102 (r := v) hs rfl (hk.val hv8).1 (by have := hRw74; omega) ((hk.val hv8).2.trans hv) ?_
              refine tKv ?_
              refine tSt2 (l := xk_100) rfl rfl (fun _ _ _ _ _ => rfl) (Nat.le_of_ble_eq_true rfl) ?_
              refine tK (l := xk_100) rfl rfl (fun _ _ _ _ _ => rfl) ?_
              refine tK (l := xk_100) rfl rfl (fun _ _ _ _ _ => rfl) ?_
              refine tK (l := xk_100) rfl rfl (fun _ _ _ _ _ => rfl) ?_
              refine tCa (l := xk_100) rfl rfl (hInvV (c := 9) hs rfl rfl rfl rfl rfl (Nat.le_of_ble_eq_true rfl) (Nat.le_of_ble_eq_true rfl)) ?_
              refine c109 hk hv8 hv hw24 (fun ph2 k2 f2 => ?_)
              refine tKv ?_
              rw [if_pos hwh]
              refine tCa (l := xk_100) rfl rfl (hInvS rfl rfl rfl rfl (Nat.le_of_ble_eq_true rfl) (Nat.le_of_ble_eq_true rfl)) ?_
              refine s104_1 ?_
              refine tKv ?_
              refine tSt2 (l := xk_100) rfl rfl (fun _ _ _ _ _ => rfl) (Nat.le_of_ble_eq_true rfl) ?_
              refine tK (l := xk_100) rfl rfl (fun _ _ _ _ _ => rfl) ?_
              refine tK (l := xk_100) rfl rfl (fun _ _ _ _ _ => rfl) ?_
              refine tK (l := xk_100) rfl rfl (fun _ _ _ _ _ => rfl) ?_
              refine tCa (l := xk_100) rfl rfl (hInvV (c := 9) k2.1 rfl rfl rfl rfl rfl (Nat.le_of_ble_eq_true rfl) (Nat.le_of_ble_eq_true rfl)) ?_
              refine c111 k2 hv8 hv hw24 hokw (fun ph3 k3 f3 => ?_)
              refine tKv ?_
              refine tK (l := xk_100) rfl rfl (fun _ _ _ _ _ => rfl) ?_
              refine tCa (l := xk_100) rfl rfl (hInvS rfl rfl rfl rfl (Nat.le_of_ble_eq_true rfl) (Nat.le_of_ble_eq_true rfl)) ?_
              refine s103 ?_
              refine tKv ?_
              refine tSt2 (l := xk_100) rfl rfl (fun _ _ _ _ _ => rfl) (Nat.le_of_ble_eq_true rfl) ?_
              refine tK (l := xk_100) rfl rfl (fun _ _ _ _ _ => rfl) ?_
              refine tK (l := xk_100) rfl rfl (fun _ _ _ _ _ => rfl) ?_
              refine tK (l := xk_100) rfl rfl (fun _ _ _ _ _ => rfl) ?_
              refine tCa (l := xk_100) rfl rfl (hInvV (c := 9) k3.1 rfl rfl rfl rfl rfl (Nat.le_of_ble_eq_true rfl) (Nat.le_of_ble_eq_true rfl)) ?_
              refine c114 k3 hv8 hv hw24 hokw (fun ph4 k4 f4 => ?_)
              refine tKv ?_
              refine tK (l := xk_100) rfl rfl (fun _ _ _ _ _ => rfl) ?_
              refine tCa (l := xk_100) rfl rfl (hInvS rfl rfl rfl rfl (Nat.le_of_ble_eq_true rfl) (Nat.le_of_ble_eq_true rfl)) ?_
              refine s103 ?_
              refine tKv ?_
              refine tSt2 (l := xk_100) rfl rfl (fun _ _ _ _ _ => rfl) (Nat.le_of_ble_eq_true rfl) ?_
              refine tSt (l := xk_100) rfl rfl (hIinc rfl (Nat.le_of_ble_eq_true rfl) ⟨by omega, by omega⟩) (Nat.le_of_ble_eq_true rfl) ?_
              refine tK (l := xk_100) rfl rfl (fun _ _ _ _ _ => rfl) ?_
              refine ih (v + 1) ph4 _ (by omega) k4 (((hf.trans f2).trans f3).trans f4) ?_
              simp only [vsL]
              rw [hL_app, ← he, hv]
              simp only [vL]
              rw [if_pos hwh]
              simp only [List.cons_append, hL_cons, hL_app]
              rfl
          · exfalso; omega
  refine tEn (ls := [some (.inr (.inl (some 1))), none, none, none]) (fun k => by match k with | 0 => rfl | 1 => rfl | 2 => rfl | 3 => rfl | k + 4 => rfl) ?_
  have hs := h.1
  refine tK (l := xk_100) rfl rfl (fun _ _ _ _ _ => rfl) ?_
  refine tK (l := xk_100) rfl rfl (fun _ _ _ _ _ => rfl) ?_
  refine tCa (l := xk_100) rfl rfl (hInvV (c := 9) hs rfl rfl rfl rfl rfl (Nat.le_of_ble_eq_true rfl) (Nat.le_of_ble_eq_true rfl)) ?_
  refine s101 h ?_
  refine tKv ?_
  refine tSt2 (l := xk_100) rfl rfl (fun _ _ _ _ _ => rfl) (Nat.le_of_ble_eq_true rfl) ?_
  refine tK (l := xk_100) rfl rfl (fun _ _ _ _ _ => rfl) ?_
  refine tSt (l := xk_100) rfl rfl (fun _ _ _ _ _ => rfl) (Nat.le_of_ble_eq_true rfl) ?_
  exact loop 8 0 ph _ (by omega) h hFd.refl rfl
end DGC
