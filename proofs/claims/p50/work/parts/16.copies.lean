/-! ===== texts copied ===== -/
def hCpI (zs : List xV) (ph phi : xH) (t r f q i : Nat) : Prop := hSh zs phi ∧ (∀ a k, ¬ (a = t + 1 ∧ r * hWd t ≤ k ∧ k < r * hWd t + i) → hRd phi a k = hRd ph a k) ∧ (∀ j, j < i → hRd phi (t + 1) (r * hWd t + j) = hCd ph f q j) ∧ (∀ a k, hRl phi a k = hRl ph a k) ∧ (∀ a k, hRs phi a k = hRs ph a k)
theorem mul_uniq {w q r i j : Nat} (hi : i < w) (hj : j < w) (h : q * w + i = r * w + j) : q = r ∧ i = j := by
  rcases Nat.lt_trichotomy q r with h1 | h1 | h1
  · have := Nat.mul_le_mul_right w (show q + 1 ≤ r from h1)
    rw [Nat.succ_mul] at this
    omega
  · subst h1; exact ⟨rfl, by omega⟩
  · have := Nat.mul_le_mul_right w (show r + 1 ≤ q from h1)
    rw [Nat.succ_mul] at this
    omega
theorem hCp_step {zs : List xV} {ph phi : xH} {t r f q i : Nat} (hs : hSh zs phi) (hk : hTg (t + 1) = 101) (hrd : ∀ a k, ¬ (a = t + 1 ∧ r * hWd t ≤ k ∧ k < r * hWd t + i) → hRd phi a k = hRd ph a k) (hcp : ∀ j, j < i → hRd phi (t + 1) (r * hWd t + j) = hCd ph f q j) (hrl : ∀ a k, hRl phi a k = hRl ph a k) (hrs : ∀ a k, hRs phi a k = hRs ph a k) (hch : 0 ≤ hCd phi f q i ∧ hCd phi f q i ≤ 65535) (hsrc : hCd phi f q i = hCd ph f q i) (hz : r * hWd t + i < hSz (t + 1)) :
    (∀ a k, ¬ (a = t + 1 ∧ r * hWd t ≤ k ∧ k < r * hWd t + (i + 1)) → hRd (hUp phi (t + 1) (r * hWd t + i) (hCd phi f q i)) a k = hRd ph a k) ∧ (∀ j, j < i + 1 → hRd (hUp phi (t + 1) (r * hWd t + i) (hCd phi f q i)) (t + 1) (r * hWd t + j) = hCd ph f q j) ∧ (∀ a k, hRl (hUp phi (t + 1) (r * hWd t + i) (hCd phi f q i)) a k = hRl ph a k) ∧ (∀ a k, hRs (hUp phi (t + 1) (r * hWd t + i) (hCd phi f q i)) a k = hRs ph a k) := by
  have hki : hKi (hTg (t + 1)) (r * hWd t + i) = true := by rw [hk]; rfl
  have hr := hRd_up (x := hCd phi f q i) hs hki hz
  refine ⟨fun a k h => ?_, fun j hj => ?_, fun a k => by rw [hRl_up hs hki, hrl], fun a k => by rw [hRs_up hs hki, hrs]⟩
  · rw [hr, if_neg (fun e => h ⟨e.1, by omega⟩)]
    exact hrd a k (fun e => h ⟨e.1, by omega⟩)
  · rw [hr]
    by_cases e : j = i
    · subst e; rw [if_pos ⟨rfl, rfl⟩, hsrc]
    · rw [if_neg (by omega)]; exact hcp j (by omega)
section CPY
variable {d : Nat} {ph : xH} {zs : List xV} {g : Nat} {Q : xR → Prop} {t f r q n : Nat}
theorem s78loop (ht : hTg t = 8) (hf : hTg f = 8) (hw : hTW ph t) (hwf : hTW ph f) (hr : r < hRw t) (hq : q < hRw f) (hn : hRd ph (f + 2) q = (n : Int)) (hnw : n ≤ hWd t)
    (hEnd : ∀ (phi : xH) (o6 : Option xV), hCpI zs ph phi t r f q n → xT (d + 1) 78 85 (xlo [some (.inr (.inl (some t))), some (.inl (r : Int)), some (.inr (.inl (some f))), some (.inl (q : Int)), some (.inl (n : Int)), some (.inl (n : Int)), o6]) [] phi g Q) :
    ∀ (m i : Nat) (phi : xH) (o6 : Option xV), i + m = n → hCpI zs ph phi t r f q i → xT (d + 1) 78 31 (xlo [some (.inr (.inl (some t))), some (.inl (r : Int)), some (.inr (.inl (some f))), some (.inl (q : Int)), some (.inl (n : Int)), some (.inl (i : Int)), o6]) [] phi g Q := by
  intro m
  induction m with
  | zero =>
    intro i phi o6 him hI
    have e : i = n := by omega
    subst e
    obtain ⟨hs, -⟩ := id hI
    have hz := hTx_sz ht
    have hm := hRWI ht hr
    refine tK (l := xk_78) rfl rfl (fun _ _ _ _ _ => rfl) ?_
    refine tK (l := xk_78) rfl rfl (fun _ _ _ _ _ => rfl) ?_
    refine tIc_ge (l := xk_78) (pc' := 85) rfl rfl rfl (fun hc => ?_) (fun hc => ?_)
    · exfalso; omega
    · exact hEnd phi o6 hI
  | succ m ih =>
    intro i phi o6 him hI
    obtain ⟨hs, hrd, hcp, hrl, hrs⟩ := id hI
    have hz := hTx_sz ht
    have hm := hRWI ht hr
    have hwr := hw r hr
    have hwq := hwf q hq
    have hk1 := htg_8_1 ht
    have hfz := hTx_sz hf
    have hlen : ∀ j, hRd phi (f + 2) j = hRd ph (f + 2) j := fun j => hrd _ _ (fun h => by have := htg_8_2 hf; rw [h.1, hk1] at this; omega)
    have hwf2 : hTW phi f := fun j hj => by rw [hlen]; exact hwf j hj
    have hrw : f = t → hWd f = hWd t := fun h => by rw [h]
    have hsrc : hCd phi f q i = hCd ph f q i := by
      unfold hCd
      refine hrd _ _ (fun h => ?_)
      have e : f = t := by omega
      subst e
      obtain ⟨j, hj⟩ : ∃ j, q * hWd f + i = r * hWd f + j := ⟨q * hWd f + i - r * hWd f, by omega⟩
      have := mul_uniq (by omega) (by omega) hj
      omega
    have hch : 0 ≤ hCd phi f q i ∧ hCd phi f q i ≤ 65535 := hRd_ch hs (htg_8_1 hf)
    refine tK (l := xk_78) rfl rfl (fun _ _ _ _ _ => rfl) ?_
    refine tK (l := xk_78) rfl rfl (fun _ _ _ _ _ => rfl) ?_
    refine tIc_ge (l := xk_78) (pc' := 85) rfl rfl rfl (fun hc => ?_) (fun hc => ?_)
    · refine tK (l := xk_78) rfl rfl (fun _ _ _ _ _ => rfl) ?_
      refine tK (l := xk_78) rfl rfl (fun _ _ _ _ _ => rfl) ?_
      refine tK (l := xk_78) rfl rfl (hGetC hs rfl ht rfl (by decide) (by decide) (hCs_8 ht)) ?_
      refine tK (l := xk_78) rfl rfl (hMul ⟨by omega, by omega⟩) ?_
      refine tK (l := xk_78) rfl rfl (fun _ _ _ _ _ => rfl) ?_
      refine tK (l := xk_78) rfl rfl (hAdd ⟨by omega, by omega⟩) ?_
      refine tSt (l := xk_78) rfl rfl (fun _ _ _ _ _ => rfl) (Nat.le_of_ble_eq_true rfl) ?_
      refine tK (l := xk_78) rfl rfl (fun _ _ _ _ _ => rfl) ?_
      refine tIf_lt (l := xk_78) (pc' := 79) rfl rfl rfl (fun hc => ?_) (fun hc => ?_)
      · refine tSt (l := xk_78) rfl rfl (hIinc rfl (Nat.le_of_ble_eq_true rfl) ⟨by omega, by omega⟩) (Nat.le_of_ble_eq_true rfl) ?_
        refine tK (l := xk_78) rfl rfl (fun _ _ _ _ _ => rfl) ?_
        first | (exfalso; omega) | exact ih (i + 1) _ _ (by omega) ⟨hs, hCp_step hs hk1 hrd hcp hrl hrs hch hsrc (by have := hRW hr; omega)⟩
      · refine tK (l := xk_78) rfl rfl (fun _ _ _ _ _ => rfl) ?_
        refine tK (l := xk_78) rfl rfl (fun _ _ _ _ _ => rfl) ?_
        refine tK (l := xk_78) rfl rfl (hGetR (o := some (t + 1)) hs rfl ht rfl (by decide) (by decide) (hrf_8_1 ht)) ?_
        refine tK (l := xk_78) rfl rfl (hAlen1 hs (htg_8_1 ht) (by decide) (by decide)) ?_
        refine tIc_ge (l := xk_78) (pc' := 79) rfl rfl rfl (fun hc => ?_) (fun hc => ?_)
        · refine tK (l := xk_78) rfl rfl (fun _ _ _ _ _ => rfl) ?_
          refine tK (l := xk_78) rfl rfl (hGetR (o := some (t + 1)) hs rfl ht rfl (by decide) (by decide) (hrf_8_1 ht)) ?_
          refine tK (l := xk_78) rfl rfl (fun _ _ _ _ _ => rfl) ?_
          refine tK (l := xk_78) rfl rfl (fun _ _ _ _ _ => rfl) ?_
          refine tK (l := xk_78) rfl rfl (fun _ _ _ _ _ => rfl) ?_
          refine tK (l := xk_78) rfl rfl (fun _ _ _ _ _ => rfl) ?_
          refine tCa (l := xk_78) rfl rfl (hInvV (c := 8) hs rfl rfl rfl hf rfl (Nat.le_of_ble_eq_true rfl) (Nat.le_of_ble_eq_true rfl)) ?_
          refine s76 hs hf hwf2 hq (by rw [hlen, hn]; omega) ?_
          refine tKv ?_
          refine tK (l := xk_78) rfl rfl (hI2c ⟨by omega, by omega⟩) ?_
          first | refine tK (l := xk_78) rfl rfl (hCastN hs (htg_8_1 ht) rfl (by omega) ⟨by omega, by omega⟩) ?_ | refine tK (l := xk_78) rfl rfl (hCast hs (htg_8_1 ht) (by omega) (by omega) ⟨by omega, by omega⟩) ?_
          refine tSt (l := xk_78) rfl rfl (hIinc rfl (Nat.le_of_ble_eq_true rfl) ⟨by omega, by omega⟩) (Nat.le_of_ble_eq_true rfl) ?_
          refine tK (l := xk_78) rfl rfl (fun _ _ _ _ _ => rfl) ?_
          first | (exfalso; omega) | exact ih (i + 1) _ _ (by omega) ⟨(hShC1 _ hs (htg_8_1 ht) rfl ⟨by omega, by omega⟩), hCp_step hs hk1 hrd hcp hrl hrs hch hsrc (by have := hRW hr; omega)⟩
        · refine tSt (l := xk_78) rfl rfl (hIinc rfl (Nat.le_of_ble_eq_true rfl) ⟨by omega, by omega⟩) (Nat.le_of_ble_eq_true rfl) ?_
          refine tK (l := xk_78) rfl rfl (fun _ _ _ _ _ => rfl) ?_
          first | (exfalso; omega) | exact ih (i + 1) _ _ (by omega) ⟨hs, hCp_step hs hk1 hrd hcp hrl hrs hch hsrc (by have := hRW hr; omega)⟩
    · exfalso; omega
theorem a78 (hs : hSh zs ph) (ht : hTg t = 8) (hf : hTg f = 8) (hw : hTW ph t) (hwf : hTW ph f) (hr : r < hRw t) (hq : q < hRw f) {v : Option (List Int)} (hv : hTo ph f q = v) (hl : ∀ s, v = some s → s.length ≤ hWd t) (hQ : ∀ ph2, hTs zs ph ph2 t r v → Q (.inl none, ph2, g)) : xTC (d + 1) 78 [.inr (.inl (some t)), .inl (r : Int), .inr (.inl (some f)), .inl (q : Int)] ph g Q := by
  have hz := hTx_sz ht
  have hm := hRWI ht hr
  have hlo := hTo_lo hwf hq hv
  have hwq := hwf q hq
  have hlv : hLo v ≤ hWd t := by
    cases v with
    | none => show (-1 : Int) ≤ _; omega
    | some s => have := hl s rfl; show (s.length : Int) ≤ _; omega
  refine tEn (ls := [some (.inr (.inl (some t))), some (.inl (r : Int)), some (.inr (.inl (some f))), some (.inl (q : Int)), none, none, none]) (fun k => by match k with | 0 => rfl | 1 => rfl | 2 => rfl | 3 => rfl | 4 => rfl | 5 => rfl | 6 => rfl | k + 7 => rfl) ?_
  have hMain : ∀ (o6 : Option xV) (x : Int), x = hLo v → xT (d + 1) 78 31 (xlo [some (.inr (.inl (some t))), some (.inl (r : Int)), some (.inr (.inl (some f))), some (.inl (q : Int)), some (.inl x), some (.inl 0), o6]) [] ph g Q := by
    intro o6 x hx
    subst hx
    have hwr := hw r hr
    have hk2 := htg_8_2 ht
    cases v with
    | none =>
      refine tK (l := xk_78) rfl rfl (fun _ _ _ _ _ => rfl) ?_
      refine tK (l := xk_78) rfl rfl (fun _ _ _ _ _ => rfl) ?_
      refine tIc_ge (l := xk_78) (pc' := 85) rfl rfl rfl (fun hc => ?_) (fun hc => ?_)
      · exfalso
        have : (0 : Int) < -1 := hc
        omega
      refine tK (l := xk_78) rfl rfl (fun _ _ _ _ _ => rfl) ?_
      · refine tK (l := xk_78) rfl rfl (hGetR (o := some (t + 2)) hs rfl ht rfl (by decide) (by decide) (hrf_8_2 ht)) ?_
        refine tK (l := xk_78) rfl rfl (fun _ _ _ _ _ => rfl) ?_
        refine tK (l := xk_78) rfl rfl (fun _ _ _ _ _ => rfl) ?_
        first | refine tK (l := xk_78) rfl rfl (hIastN hs (htg_8_2 ht) rfl (by omega)) ?_ | refine tK (l := xk_78) rfl rfl (hIast hs (htg_8_2 ht) (by omega) (by omega)) ?_
        refine tRt (l := xk_78) rfl rfl (fun _ _ _ _ _ => rfl) ?_
        exact hQ _ (hTs_len hs ht hw hr (Or.inl rfl))
    | some s =>
      have hn : hRd ph (f + 2) q = (s.length : Int) := hlo
      have hls : s.length ≤ hWd t := hl s rfl
      refine s78loop ht hf hw hwf hr hq hn hls (fun phi o6 hI => ?_) s.length 0 ph o6 (by omega) ⟨hs, fun a k _ => rfl, fun j hj => by omega, fun _ _ => rfl, fun _ _ => rfl⟩
      obtain ⟨hs9, hrd, hcp, hrl, hrs⟩ := hI
      refine tK (l := xk_78) rfl rfl (fun _ _ _ _ _ => rfl) ?_
      refine tK (l := xk_78) rfl rfl (hGetR (o := some (t + 2)) hs9 rfl ht rfl (by decide) (by decide) (hrf_8_2 ht)) ?_
      refine tK (l := xk_78) rfl rfl (fun _ _ _ _ _ => rfl) ?_
      refine tK (l := xk_78) rfl rfl (fun _ _ _ _ _ => rfl) ?_
      first | refine tK (l := xk_78) rfl rfl (hIastN hs9 (htg_8_2 ht) rfl (by omega)) ?_ | refine tK (l := xk_78) rfl rfl (hIast hs9 (htg_8_2 ht) (by omega) (by omega)) ?_
      refine tRt (l := xk_78) rfl rfl (fun _ _ _ _ _ => rfl) ?_
      have hki : hKi (hTg (t + 2)) r = true := by rw [hk2]; rfl
      have hru := hRd_up (x := (s.length : Int)) hs9 hki (by omega)
      have hk1 := htg_8_1 ht
      have e2 : hRd (hUp phi (t + 2) r (s.length : Int)) (t + 2) r = (s.length : Int) := by rw [hru, if_pos ⟨rfl, rfl⟩]
      refine hQ _ (hTs_of (hShI1 _ hs9 hk2 rfl) hw hr (fun a k h1 h2 => ?_) (fun a k => by rw [hRl_up hs9 hki, hrl]) (fun a k => by rw [hRs_up hs9 hki, hrs]) (fun j hj => ?_) (fun i hi => ?_) (by rw [e2]; omega) ?_)
      · rw [hru, if_neg (fun q => h2 q.1)]; exact hrd a k (fun q => h1 q.1)
      · rw [hru, if_neg (fun q => hj q.2)]; exact hrd _ _ (fun q => by omega)
      · rw [hru, if_neg (by omega)]; exact hrd _ _ (fun q => by omega)
      · refine hTo_of e2 (fun k x hk => ?_)
        have hkl : k < s.length := (List.getElem?_eq_some_iff.mp hk).1
        unfold hCd
        rw [hru, if_neg (by omega), hcp k hkl]
        exact (hTo_get hv hk).2
  refine tK (l := xk_78) rfl rfl (fun _ _ _ _ _ => rfl) ?_
  refine tIf_lt (l := xk_78) (pc' := 13) rfl rfl rfl (fun hc => ?_) (fun hc => ?_)
  · refine tRt (l := xk_78) rfl rfl (fun _ _ _ _ _ => rfl) ?_
    exfalso; omega
  · refine tK (l := xk_78) rfl rfl (fun _ _ _ _ _ => rfl) ?_
    refine tK (l := xk_78) rfl rfl (fun _ _ _ _ _ => rfl) ?_
    refine tK (l := xk_78) rfl rfl (hGetR (o := some (t + 2)) hs rfl ht rfl (by decide) (by decide) (hrf_8_2 ht)) ?_
    refine tK (l := xk_78) rfl rfl (hAlen1 hs (htg_8_2 ht) (by decide) (by decide)) ?_
    refine tIc_lt (l := xk_78) (pc' := 14) rfl rfl rfl (fun hc => ?_) (fun hc => ?_)
    · refine tK (l := xk_78) rfl rfl (fun _ _ _ _ _ => rfl) ?_
      refine tK (l := xk_78) rfl rfl (fun _ _ _ _ _ => rfl) ?_
      refine tCa (l := xk_78) rfl rfl (hInvV (c := 8) hs rfl rfl rfl hf rfl (Nat.le_of_ble_eq_true rfl) (Nat.le_of_ble_eq_true rfl)) ?_
      refine s75 hs hf hq ?_
      refine tKv ?_
      rw [hlo]
      refine tK (l := xk_78) rfl rfl (fun _ _ _ _ _ => rfl) ?_
      refine tK (l := xk_78) rfl rfl (hGetC hs rfl ht rfl (by decide) (by decide) (hCs_8 ht)) ?_
      refine tK (l := xk_78) rfl rfl (fun _ _ _ _ _ => rfl) ?_
      refine tSt (l := xk_78) rfl rfl (fun _ _ _ _ _ => rfl) (Nat.le_of_ble_eq_true rfl) ?_
      refine tK (l := xk_78) rfl rfl (fun _ _ _ _ _ => rfl) ?_
      refine tSt (l := xk_78) rfl rfl (fun _ _ _ _ _ => rfl) (Nat.le_of_ble_eq_true rfl) ?_
      exact hMain _ _ (by first | rfl | (split <;> omega))
    · refine tRt (l := xk_78) rfl rfl (fun _ _ _ _ _ => rfl) ?_
      exfalso; omega
end CPY
