/-! ===== the model's calls ===== -/
section MC1
variable {d : Nat} {ph : xH} {zs : List xV} {g : Nat} {Q : xR → Prop} {c : KS}
theorem oks_ch {l : List Int} (h : oks l) : ∀ c ∈ l, 0 ≤ c ∧ c ≤ 65535 := h
def nsp : List Int → Nat
  | [] => 0
  | c :: cs => if spc c = true then nsp cs + 1 else nsp cs
theorem nsp_esc : ∀ v : List Int, (esc v).length = v.length + nsp v := by
  intro v
  induction v with
  | nil => rfl
  | cons c cs ih =>
    simp only [esc, nsp]
    split <;> (simp only [List.length_cons]; omega)
theorem nsp_le : ∀ v : List Int, nsp v ≤ v.length := by
  intro v
  have h1 := nsp_esc v
  have h2 := esc_len v
  omega
theorem nsp_app : ∀ (a b : List Int), nsp (a ++ b) = nsp a + nsp b := by
  intro a b
  have h1 := nsp_esc (a ++ b)
  have h2 := nsp_esc a
  have h3 := nsp_esc b
  rw [esc_app, List.length_append, List.length_append] at h1
  omega
theorem s151 (h : hMm zs ph c) (hok : oks c.1) (hQ : ∀ ph2, hMm zs ph2 c → hFM [9, 10, 11, 12, 13, 14, 15, 16, 17] [152] ph ph2 → hRd ph2 147 17 = (if pWh c.1 = true then 1 else 0) → (pWh c.1 = true → hMr ph2 c.1) → (∀ (i : Nat) (x : Int), c.1[i]? = some x → hRd ph2 152 i = x) → hRd ph2 147 9 = (c.1.length : Int) → Q (.inl (some (.inl ((pRes c.1).1 : Int))), ph2, g)) : xTC (d + 4) 151 [.inr (.inl (some 147))] ph g Q := by
  obtain ⟨w1, w2, w3, w4⟩ := hSzS
  obtain ⟨y1, y2, y3, y4, y5, y6, y7, y8, y9⟩ := hSzO
  obtain ⟨hs, h1, ⟨h2, h3, h4⟩, ⟨h5, h6⟩, ⟨h7, h8, h9⟩⟩ := id h
  have loop : ∀ (m i : Nat) (phi : xH), i + m = c.1.length → hSh zs phi → hFM [] [152] ph phi → (∀ (k : Nat) (x : Int), k < i → c.1[k]? = some x → hRd phi 152 k = x) → xT (d + 4) 151 2 (xlo [some (.inr (.inl (some 147))), some (.inl (i : Int))]) [] phi g Q := by
    intro m
    induction m with
    | zero =>
      intro i phi him hs hf hnew
      have e7 : hRd phi 147 7 = (c.1.length : Int) := by rw [hf.fl (by decide)]; exact h7
      have s2 : hSh zs (hUp phi 147 9 (c.1.length : Int)) := hShI1 _ hs rfl rfl
      have f2 : hFM [9] [] phi (hUp phi 147 9 (c.1.length : Int)) := hFM_f hs rfl (by decide) (by decide)
      have e72 : hRd (hUp phi 147 9 (c.1.length : Int)) 147 7 = (c.1.length : Int) := by rw [f2.fl (by decide)]; exact e7
      refine tK (l := xk_151) rfl rfl (fun _ _ _ _ _ => rfl) ?_
      refine tK (l := xk_151) rfl rfl (fun _ _ _ _ _ => rfl) ?_
      refine tK (l := xk_151) rfl rfl (hGetI hs rfl rfl rfl (by decide) (by decide)) ?_
      rw [e7]
      refine tIc_ge (l := xk_151) (pc' := 28) rfl rfl rfl (fun hc => ?_) (fun hc => ?_)
      · exfalso; omega
      · refine tK (l := xk_151) rfl rfl (fun _ _ _ _ _ => rfl) ?_
        refine tK (l := xk_151) rfl rfl (fun _ _ _ _ _ => rfl) ?_
        refine tK (l := xk_151) rfl rfl (hGetI hs rfl rfl rfl (by decide) (by decide)) ?_
        rw [e7]
        refine tK (l := xk_151) rfl rfl (hPutV hs rfl rfl (by decide) (by decide) rfl) ?_
        refine tK (l := xk_151) rfl rfl (fun _ _ _ _ _ => rfl) ?_
        refine tK (l := xk_151) rfl rfl (fun _ _ _ _ _ => rfl) ?_
        refine tK (l := xk_151) rfl rfl (fun _ _ _ _ _ => rfl) ?_
        refine tK (l := xk_151) rfl rfl (hGetI (hShI1 _ hs rfl rfl) rfl rfl rfl (by decide) (by decide)) ?_
        rw [e72]
        refine tCa (l := xk_151) rfl rfl (hInvV (c := 10) (hShI1 _ hs rfl rfl) rfl rfl rfl rfl rfl (Nat.le_of_ble_eq_true rfl) (Nat.le_of_ble_eq_true rfl)) ?_
        refine s152 (fo := 0) (t := c.1) s2 (fun k x hk => by rw [Nat.zero_add, f2.at (by decide)]; exact hnew k x (by have := (List.getElem?_eq_some_iff.mp hk).1; omega) hk) h8 (by omega) hok (fun ph3 hs3 f3 e17 hmr => ?_)
        refine tKv ?_
        have fA : hFM [9, 10, 11, 12, 13, 14, 15, 16, 17] [152] ph ph3 := ((hf.mono (by decide) (by decide)).trans (f2.mono (by decide) (by decide))).trans (f3.mono (by decide) (by decide))
        refine tRt (l := xk_151) rfl rfl (fun _ _ _ _ _ => rfl) ?_
        exact hQ ph3 (h.fr hs3 fA) fA e17 hmr (fun k x hk => by rw [f3.at (by decide), f2.at (by decide)]; exact hnew k x (by have := (List.getElem?_eq_some_iff.mp hk).1; omega) hk) (by rw [f3.fl (by decide), hRd_up hs rfl (by decide), if_pos ⟨rfl, rfl⟩])
    | succ m ih =>
      intro i phi him hs hf hnew
      have e7 : hRd phi 147 7 = (c.1.length : Int) := by rw [hf.fl (by decide)]; exact h7
      obtain ⟨x, hx⟩ : ∃ x, c.1[i]? = some x := ⟨_, List.getElem?_eq_getElem (by omega)⟩
      have e51 : hRd phi 151 i = x := by rw [hf.at (by decide)]; exact h9 i x hx
      refine tK (l := xk_151) rfl rfl (fun _ _ _ _ _ => rfl) ?_
      refine tK (l := xk_151) rfl rfl (fun _ _ _ _ _ => rfl) ?_
      refine tK (l := xk_151) rfl rfl (hGetI hs rfl rfl rfl (by decide) (by decide)) ?_
      rw [e7]
      refine tIc_ge (l := xk_151) (pc' := 28) rfl rfl rfl (fun hc => ?_) (fun hc => ?_)
      · refine tK (l := xk_151) rfl rfl (fun _ _ _ _ _ => rfl) ?_
        refine tK (l := xk_151) rfl rfl (hGetR (o := some 152) hs rfl rfl rfl (by decide) (by decide) rfl) ?_
        refine tK (l := xk_151) rfl rfl (fun _ _ _ _ _ => rfl) ?_
        refine tK (l := xk_151) rfl rfl (fun _ _ _ _ _ => rfl) ?_
        refine tK (l := xk_151) rfl rfl (hGetR (o := some 151) hs rfl rfl rfl (by decide) (by decide) rfl) ?_
        refine tK (l := xk_151) rfl rfl (fun _ _ _ _ _ => rfl) ?_
        first | refine tK (l := xk_151) rfl rfl (hIaldN hs rfl rfl (by omega)) ?_ | refine tK (l := xk_151) rfl rfl (hIald hs rfl (by omega) (by omega)) ?_
        rw [e51]
        first | refine tK (l := xk_151) rfl rfl (hIastN hs rfl rfl (by omega)) ?_ | refine tK (l := xk_151) rfl rfl (hIast hs rfl (by omega) (by omega)) ?_
        refine tSt (l := xk_151) rfl rfl (hIinc rfl (Nat.le_of_ble_eq_true rfl) ⟨by omega, by omega⟩) (Nat.le_of_ble_eq_true rfl) ?_
        refine tK (l := xk_151) rfl rfl (fun _ _ _ _ _ => rfl) ?_
        have rd := hRd_up (x := x) hs (show hKi (hTg 152) i = true from rfl) (by omega)
        refine ih (i + 1) _ (by omega) (hShI1 _ hs rfl rfl) (hf.trans (hFM_a hs rfl (by omega) (by decide) (by decide))) (fun k x2 hk hk2 => ?_)
        rw [rd]
        by_cases e : k = i
        · rw [if_pos ⟨rfl, e⟩]; subst e; rw [hx] at hk2; exact Option.some.inj hk2
        · rw [if_neg (by omega)]; exact hnew k x2 (by omega) hk2
      · exfalso; omega
  refine tEn (ls := [some (.inr (.inl (some 147))), none]) (fun k => by match k with | 0 => rfl | 1 => rfl | k + 2 => rfl) ?_
  refine tK (l := xk_151) rfl rfl (fun _ _ _ _ _ => rfl) ?_
  refine tSt (l := xk_151) rfl rfl (fun _ _ _ _ _ => rfl) (Nat.le_of_ble_eq_true rfl) ?_
  exact loop c.1.length 0 ph (by omega) hs hFM.refl (fun k x hk => absurd hk (by omega))
theorem s157 (h : hMm zs ph c) (hok : oks c.1) (hw : pWh c.1 = true) (hQ : ∀ ph2, hMm zs ph2 c → hFM [9, 10, 11, 12, 13, 14, 15, 16, 17] [152] ph ph2 → hMr ph2 c.1 → (∀ (i : Nat) (x : Int), c.1[i]? = some x → hRd ph2 152 i = x) → hRd ph2 147 9 = (c.1.length : Int) → Q (.inl (some (.inl 1)), ph2, g)) : xTC (d + 5) 157 [.inr (.inl (some 147))] ph g Q := by
  have hs := h.1
  refine tEn (ls := [some (.inr (.inl (some 147))), none]) (fun k => by match k with | 0 => rfl | 1 => rfl | k + 2 => rfl) ?_
  refine tK (l := xk_157) rfl rfl (fun _ _ _ _ _ => rfl) ?_
  refine tCa (l := xk_157) rfl rfl (hInvV (c := 10) hs rfl rfl rfl rfl rfl (Nat.le_of_ble_eq_true rfl) (Nat.le_of_ble_eq_true rfl)) ?_
  refine s151 h hok (fun ph2 k2 f2 e17 hmr hsg e9 => ?_)
  refine tKv ?_
  rw [if_pos hw] at e17
  refine tSt (l := xk_157) rfl rfl (fun _ _ _ _ _ => rfl) (Nat.le_of_ble_eq_true rfl) ?_
  refine tK (l := xk_157) rfl rfl (fun _ _ _ _ _ => rfl) ?_
  refine tK (l := xk_157) rfl rfl (hGetI k2.1 rfl rfl rfl (by decide) (by decide)) ?_
  rw [e17]
  refine tRt (l := xk_157) rfl rfl (fun _ _ _ _ _ => rfl) ?_
  exact hQ ph2 k2 f2 (hmr hw) hsg e9
theorem s157n (h : hMm zs ph c) (hok : oks c.1) (hw : pWh c.1 = false) (hQ : ∀ ph2, hMm zs ph2 c → hFM [9, 10, 11, 12, 13, 14, 15, 16, 17] [152] ph ph2 → (∀ (i : Nat) (x : Int), c.1[i]? = some x → hRd ph2 152 i = x) → hRd ph2 147 9 = (c.1.length : Int) → Q (.inl (some (.inl 0)), ph2, g)) : xTC (d + 5) 157 [.inr (.inl (some 147))] ph g Q := by
  have hs := h.1
  refine tEn (ls := [some (.inr (.inl (some 147))), none]) (fun k => by match k with | 0 => rfl | 1 => rfl | k + 2 => rfl) ?_
  refine tK (l := xk_157) rfl rfl (fun _ _ _ _ _ => rfl) ?_
  refine tCa (l := xk_157) rfl rfl (hInvV (c := 10) hs rfl rfl rfl rfl rfl (Nat.le_of_ble_eq_true rfl) (Nat.le_of_ble_eq_true rfl)) ?_
  refine s151 h hok (fun ph2 k2 f2 e17 hmr hsg e9 => ?_)
  refine tKv ?_
  rw [if_neg (by rw [hw]; decide)] at e17
  refine tSt (l := xk_157) rfl rfl (fun _ _ _ _ _ => rfl) (Nat.le_of_ble_eq_true rfl) ?_
  refine tK (l := xk_157) rfl rfl (fun _ _ _ _ _ => rfl) ?_
  refine tK (l := xk_157) rfl rfl (hGetI k2.1 rfl rfl rfl (by decide) (by decide)) ?_
  rw [e17]
  refine tRt (l := xk_157) rfl rfl (fun _ _ _ _ _ => rfl) ?_
  exact hQ ph2 k2 f2 hsg e9
theorem s182 (h : hMm zs ph c) {n : Nat} {v : List Int} (hn : n < 8) (hv : c.2.1.1 n = some v) (hokv : oks v) (hQ : ∀ ph2, hMm zs ph2 c → hFM [9, 10, 11, 12, 13, 14, 15, 16, 17] [152] ph ph2 → hRd ph2 147 17 = (if pWh v = true then 1 else 0) → Q (.inl (some (.inl ((pRes v).1 : Int))), ph2, g)) : xTC (d + 4) 182 [.inr (.inl (some 147)), .inl (n : Int)] ph g Q := by
  obtain ⟨w1, w2, w3, w4⟩ := hSzS
  obtain ⟨y1, y2, y3, y4, y5, y6, y7, y8, y9⟩ := hSzO
  have hs := h.1
  have hmv := h.2.1.1 n hn
  rw [hv, Nat.zero_add] at hmv
  obtain ⟨hv24, hv2⟩ := hmv.2 v rfl
  have loop : ∀ (m i : Nat) (phi : xH), i + m = v.length → hSh zs phi → hFM [] [152] ph phi → (∀ (k : Nat) (x : Int), k < i → v[k]? = some x → hRd phi 152 (60 + k) = x) → xT (d + 4) 182 2 (xlo [some (.inr (.inl (some 147))), some (.inl (n : Int)), some (.inl (i : Int))]) [] phi g Q := by
    intro m
    induction m with
    | zero =>
      intro i phi him hs hf hnew
      have hm := h.fr hs hf
      refine tK (l := xk_182) rfl rfl (fun _ _ _ _ _ => rfl) ?_
      refine tK (l := xk_182) rfl rfl (fun _ _ _ _ _ => rfl) ?_
      refine tK (l := xk_182) rfl rfl (fun _ _ _ _ _ => rfl) ?_
      refine tCa (l := xk_182) rfl rfl (hInvV (c := 10) hs rfl rfl rfl rfl rfl (Nat.le_of_ble_eq_true rfl) (Nat.le_of_ble_eq_true rfl)) ?_
      refine s165 hm hn ?_
      refine tKv ?_
      rw [hv]
      simp only [hLo]
      refine tIc_ge (l := xk_182) (pc' := 41) rfl rfl rfl (fun hc => ?_) (fun hc => ?_)
      · exfalso; omega
      · refine tK (l := xk_182) rfl rfl (fun _ _ _ _ _ => rfl) ?_
        refine tK (l := xk_182) rfl rfl (fun _ _ _ _ _ => rfl) ?_
        refine tK (l := xk_182) rfl rfl (fun _ _ _ _ _ => rfl) ?_
        refine tK (l := xk_182) rfl rfl (fun _ _ _ _ _ => rfl) ?_
        refine tCa (l := xk_182) rfl rfl (hInvV (c := 10) hs rfl rfl rfl rfl rfl (Nat.le_of_ble_eq_true rfl) (Nat.le_of_ble_eq_true rfl)) ?_
        refine s165 hm hn ?_
        refine tKv ?_
        rw [hv]
        simp only [hLo]
        refine tCa (l := xk_182) rfl rfl (hInvV (c := 10) hs rfl rfl rfl rfl rfl (Nat.le_of_ble_eq_true rfl) (Nat.le_of_ble_eq_true rfl)) ?_
        refine s152 (fo := 60) (t := v) hs (fun k x hk => hnew k x (by have := (List.getElem?_eq_some_iff.mp hk).1; omega) hk) (by omega) (by omega) hokv (fun ph3 hs3 f3 e17 hmr => ?_)
        refine tKv ?_
        have fA : hFM [9, 10, 11, 12, 13, 14, 15, 16, 17] [152] ph ph3 := (hf.mono (by decide) (by decide)).trans (f3.mono (by decide) (by decide))
        refine tRt (l := xk_182) rfl rfl (fun _ _ _ _ _ => rfl) ?_
        exact hQ ph3 (h.fr hs3 fA) fA e17
    | succ m ih =>
      intro i phi him hs hf hnew
      have hm := h.fr hs hf
      obtain ⟨x, hx⟩ : ∃ x, v[i]? = some x := ⟨_, List.getElem?_eq_getElem (by omega)⟩
      have e48 : hRd phi 148 (25 * n + 1 + i) = x := by rw [hf.at (by decide)]; exact hv2 i x hx
      refine tK (l := xk_182) rfl rfl (fun _ _ _ _ _ => rfl) ?_
      refine tK (l := xk_182) rfl rfl (fun _ _ _ _ _ => rfl) ?_
      refine tK (l := xk_182) rfl rfl (fun _ _ _ _ _ => rfl) ?_
      refine tCa (l := xk_182) rfl rfl (hInvV (c := 10) hs rfl rfl rfl rfl rfl (Nat.le_of_ble_eq_true rfl) (Nat.le_of_ble_eq_true rfl)) ?_
      refine s165 hm hn ?_
      refine tKv ?_
      rw [hv]
      simp only [hLo]
      refine tIc_ge (l := xk_182) (pc' := 41) rfl rfl rfl (fun hc => ?_) (fun hc => ?_)
      · refine tK (l := xk_182) rfl rfl (fun _ _ _ _ _ => rfl) ?_
        refine tK (l := xk_182) rfl rfl (hGetR (o := some 152) hs rfl rfl rfl (by decide) (by decide) rfl) ?_
        refine tK (l := xk_182) rfl rfl (fun _ _ _ _ _ => rfl) ?_
        refine tK (l := xk_182) rfl rfl (fun _ _ _ _ _ => rfl) ?_
        refine tK (l := xk_182) rfl rfl (hAdd ⟨by omega, by omega⟩) ?_
        rw [show (60 : Int) + (i : Int) = ((60 + i : Nat) : Int) by omega]
        refine tK (l := xk_182) rfl rfl (fun _ _ _ _ _ => rfl) ?_
        refine tK (l := xk_182) rfl rfl (hGetR (o := some 148) hs rfl rfl rfl (by decide) (by decide) rfl) ?_
        refine tK (l := xk_182) rfl rfl (fun _ _ _ _ _ => rfl) ?_
        refine tK (l := xk_182) rfl rfl (fun _ _ _ _ _ => rfl) ?_
        refine tK (l := xk_182) rfl rfl (fun _ _ _ _ _ => rfl) ?_
        refine tK (l := xk_182) rfl rfl (hMul ⟨by omega, by omega⟩) ?_
        refine tK (l := xk_182) rfl rfl (hAdd ⟨by omega, by omega⟩) ?_
        refine tK (l := xk_182) rfl rfl (fun _ _ _ _ _ => rfl) ?_
        refine tK (l := xk_182) rfl rfl (hAdd ⟨by omega, by omega⟩) ?_
        refine tK (l := xk_182) rfl rfl (fun _ _ _ _ _ => rfl) ?_
        refine tK (l := xk_182) rfl rfl (hAdd ⟨by omega, by omega⟩) ?_
        rw [show (0 : Int) + 25 * (n : Int) + 1 + (i : Int) = ((25 * n + 1 + i : Nat) : Int) by omega]
        first | refine tK (l := xk_182) rfl rfl (hIaldN hs rfl rfl (by omega)) ?_ | refine tK (l := xk_182) rfl rfl (hIald hs rfl (by omega) (by omega)) ?_
        rw [e48]
        first | refine tK (l := xk_182) rfl rfl (hIastN hs rfl rfl (by omega)) ?_ | refine tK (l := xk_182) rfl rfl (hIast hs rfl (by omega) (by omega)) ?_
        refine tSt (l := xk_182) rfl rfl (hIinc rfl (Nat.le_of_ble_eq_true rfl) ⟨by omega, by omega⟩) (Nat.le_of_ble_eq_true rfl) ?_
        refine tK (l := xk_182) rfl rfl (fun _ _ _ _ _ => rfl) ?_
        have rd := hRd_up (x := x) hs (show hKi (hTg 152) (60 + i) = true from rfl) (by omega)
        refine ih (i + 1) _ (by omega) (hShI1 _ hs rfl rfl) (hf.trans (hFM_a hs rfl (by omega) (by decide) (by decide))) (fun k x2 hk hk2 => ?_)
        rw [rd]
        by_cases e : k = i
        · rw [if_pos ⟨rfl, by rw [e]⟩]; subst e; rw [hx] at hk2; exact Option.some.inj hk2
        · rw [if_neg (by omega)]; exact hnew k x2 (by omega) hk2
      · exfalso; omega
  refine tEn (ls := [some (.inr (.inl (some 147))), some (.inl (n : Int)), none]) (fun k => by match k with | 0 => rfl | 1 => rfl | 2 => rfl | k + 3 => rfl) ?_
  refine tK (l := xk_182) rfl rfl (fun _ _ _ _ _ => rfl) ?_
  refine tSt (l := xk_182) rfl rfl (fun _ _ _ _ _ => rfl) (Nat.le_of_ble_eq_true rfl) ?_
  exact loop v.length 0 ph (by omega) hs hFM.refl (fun k x hk => absurd hk (by omega))
theorem s181 (h : hMm zs ph c) {n : Nat} {v : List Int} (hn : n < 8) (hv : c.2.1.1 n = some v) (hokv : oks v) (hQ : ∀ ph2, hMm zs ph2 c → hFM [9, 10, 11, 12, 13, 14, 15, 16, 17] [152] ph ph2 → Q (.inl (some (.inl (if pWh v = true then 1 else 0))), ph2, g)) : xTC (d + 5) 181 [.inr (.inl (some 147)), .inl (n : Int)] ph g Q := by
  have hs := h.1
  refine tEn (ls := [some (.inr (.inl (some 147))), some (.inl (n : Int)), none]) (fun k => by match k with | 0 => rfl | 1 => rfl | 2 => rfl | k + 3 => rfl) ?_
  by_cases hw : pWh v = true
  · refine tK (l := xk_181) rfl rfl (fun _ _ _ _ _ => rfl) ?_
    refine tK (l := xk_181) rfl rfl (fun _ _ _ _ _ => rfl) ?_
    refine tCa (l := xk_181) rfl rfl (hInvV (c := 10) hs rfl rfl rfl rfl rfl (Nat.le_of_ble_eq_true rfl) (Nat.le_of_ble_eq_true rfl)) ?_
    refine s182 h hn hv hokv (fun ph2 k2 f2 e17 => ?_)
    refine tKv ?_
    rw [if_pos hw] at e17 hQ
    refine tSt (l := xk_181) rfl rfl (fun _ _ _ _ _ => rfl) (Nat.le_of_ble_eq_true rfl) ?_
    refine tK (l := xk_181) rfl rfl (fun _ _ _ _ _ => rfl) ?_
    refine tK (l := xk_181) rfl rfl (hGetI k2.1 rfl rfl rfl (by decide) (by decide)) ?_
    rw [e17]
    refine tRt (l := xk_181) rfl rfl (fun _ _ _ _ _ => rfl) ?_
    exact hQ ph2 k2 f2
  · refine tK (l := xk_181) rfl rfl (fun _ _ _ _ _ => rfl) ?_
    refine tK (l := xk_181) rfl rfl (fun _ _ _ _ _ => rfl) ?_
    refine tCa (l := xk_181) rfl rfl (hInvV (c := 10) hs rfl rfl rfl rfl rfl (Nat.le_of_ble_eq_true rfl) (Nat.le_of_ble_eq_true rfl)) ?_
    refine s182 h hn hv hokv (fun ph2 k2 f2 e17 => ?_)
    refine tKv ?_
    rw [if_neg hw] at e17 hQ
    refine tSt (l := xk_181) rfl rfl (fun _ _ _ _ _ => rfl) (Nat.le_of_ble_eq_true rfl) ?_
    refine tK (l := xk_181) rfl rfl (fun _ _ _ _ _ => rfl) ?_
    refine tK (l := xk_181) rfl rfl (hGetI k2.1 rfl rfl rfl (by decide) (by decide)) ?_
    rw [e17]
    refine tRt (l := xk_181) rfl rfl (fun _ _ _ _ _ => rfl) ?_
    exact hQ ph2 k2 f2
theorem s173 (h : hMm zs ph c) {n : Nat} {v : List Int} (hn : n < 8) (hv : c.2.1.1 n = some v) (hQ : Q (.inl (some (.inl (nsp v : Int))), ph, g)) : xTC (d + 1) 173 [.inr (.inl (some 147)), .inl (n : Int)] ph g Q := by
  obtain ⟨w1, w2, w3, w4⟩ := hSzS
  have hs := h.1
  have hmv := h.2.1.1 n hn
  rw [hv, Nat.zero_add] at hmv
  obtain ⟨hv24, hv2⟩ := hmv.2 v rfl
  have loop : ∀ (m i : Nat), i + m = v.length → xT (d + 1) 173 4 (xlo [some (.inr (.inl (some 147))), some (.inl (n : Int)), some (.inl (nsp (v.take i) : Int)), some (.inl (i : Int))]) [] ph g Q := by
    intro m
    induction m with
    | zero =>
      intro i him
      have hi : i = v.length := by omega
      rw [hi, List.take_length]
      refine tK (l := xk_173) rfl rfl (fun _ _ _ _ _ => rfl) ?_
      refine tK (l := xk_173) rfl rfl (fun _ _ _ _ _ => rfl) ?_
      refine tK (l := xk_173) rfl rfl (fun _ _ _ _ _ => rfl) ?_
      refine tCa (l := xk_173) rfl rfl (hInvV (c := 10) hs rfl rfl rfl rfl rfl (Nat.le_of_ble_eq_true rfl) (Nat.le_of_ble_eq_true rfl)) ?_
      refine s165 h hn ?_
      refine tKv ?_
      rw [hv]
      simp only [hLo]
      refine tIc_ge (l := xk_173) (pc' := 48) rfl rfl rfl (fun hc => ?_) (fun hc => ?_)
      · exfalso; omega
      · refine tK (l := xk_173) rfl rfl (fun _ _ _ _ _ => rfl) ?_
        refine tRt (l := xk_173) rfl rfl (fun _ _ _ _ _ => rfl) ?_
        exact hQ
    | succ m ih =>
      intro i him
      obtain ⟨x, hx⟩ : ∃ x, v[i]? = some x := ⟨_, List.getElem?_eq_getElem (by omega)⟩
      have e48 : hRd ph 148 (25 * n + 1 + i) = x := hv2 i x hx
      have htk : v.take (i + 1) = v.take i ++ [x] := by rw [List.take_add_one, hx]; rfl
      have hnle := nsp_le (v.take i)
      rw [List.length_take] at hnle
      have hnx := ih (i + 1) (by omega)
      rw [htk, nsp_app] at hnx
      cases hsp : spc x with
      | false =>
        refine tK (l := xk_173) rfl rfl (fun _ _ _ _ _ => rfl) ?_
        refine tK (l := xk_173) rfl rfl (fun _ _ _ _ _ => rfl) ?_
        refine tK (l := xk_173) rfl rfl (fun _ _ _ _ _ => rfl) ?_
        refine tCa (l := xk_173) rfl rfl (hInvV (c := 10) hs rfl rfl rfl rfl rfl (Nat.le_of_ble_eq_true rfl) (Nat.le_of_ble_eq_true rfl)) ?_
        refine s165 h hn ?_
        refine tKv ?_
        rw [hv]
        simp only [hLo]
        refine tIc_ge (l := xk_173) (pc' := 48) rfl rfl rfl (fun hc => ?_) (fun hc => ?_)
        · refine tK (l := xk_173) rfl rfl (fun _ _ _ _ _ => rfl) ?_
          refine tK (l := xk_173) rfl rfl (fun _ _ _ _ _ => rfl) ?_
          refine tK (l := xk_173) rfl rfl (hGetR (o := some 148) hs rfl rfl rfl (by decide) (by decide) rfl) ?_
          refine tK (l := xk_173) rfl rfl (fun _ _ _ _ _ => rfl) ?_
          refine tK (l := xk_173) rfl rfl (fun _ _ _ _ _ => rfl) ?_
          refine tK (l := xk_173) rfl rfl (fun _ _ _ _ _ => rfl) ?_
          refine tK (l := xk_173) rfl rfl (hMul ⟨by omega, by omega⟩) ?_
          refine tK (l := xk_173) rfl rfl (hAdd ⟨by omega, by omega⟩) ?_
          refine tK (l := xk_173) rfl rfl (fun _ _ _ _ _ => rfl) ?_
          refine tK (l := xk_173) rfl rfl (hAdd ⟨by omega, by omega⟩) ?_
          refine tK (l := xk_173) rfl rfl (fun _ _ _ _ _ => rfl) ?_
          refine tK (l := xk_173) rfl rfl (hAdd ⟨by omega, by omega⟩) ?_
          rw [show (0 : Int) + 25 * (n : Int) + 1 + (i : Int) = ((25 * n + 1 + i : Nat) : Int) by omega]
          first | refine tK (l := xk_173) rfl rfl (hIaldN hs rfl rfl (by omega)) ?_ | refine tK (l := xk_173) rfl rfl (hIald hs rfl (by omega) (by omega)) ?_
          rw [e48]
          refine tCa (l := xk_173) rfl rfl (hInvS rfl rfl rfl rfl (Nat.le_of_ble_eq_true rfl) (Nat.le_of_ble_eq_true rfl)) ?_
          refine s174 ?_
          refine tKv ?_
          rw [hsp]
          refine tIf_eq (l := xk_173) (pc' := 39) rfl rfl rfl (fun hc => ?_) (fun hc => ?_)
          · refine tK (l := xk_173) rfl rfl (fun _ _ _ _ _ => rfl) ?_
            refine tK (l := xk_173) rfl rfl (hAdd ⟨by omega, by omega⟩) ?_
            rw [show (nsp (v.take i) : Int) + 0 = ((nsp (v.take i) + nsp [x] : Nat) : Int) by simp only [nsp, hsp]; simp]
            refine tSt (l := xk_173) rfl rfl (fun _ _ _ _ _ => rfl) (Nat.le_of_ble_eq_true rfl) ?_
            refine tSt (l := xk_173) rfl rfl (hIinc rfl (Nat.le_of_ble_eq_true rfl) ⟨by omega, by omega⟩) (Nat.le_of_ble_eq_true rfl) ?_
            refine tK (l := xk_173) rfl rfl (fun _ _ _ _ _ => rfl) ?_
            exact hnx
          · exact absurd rfl hc
        · exfalso; omega
      | true =>
        refine tK (l := xk_173) rfl rfl (fun _ _ _ _ _ => rfl) ?_
        refine tK (l := xk_173) rfl rfl (fun _ _ _ _ _ => rfl) ?_
        refine tK (l := xk_173) rfl rfl (fun _ _ _ _ _ => rfl) ?_
        refine tCa (l := xk_173) rfl rfl (hInvV (c := 10) hs rfl rfl rfl rfl rfl (Nat.le_of_ble_eq_true rfl) (Nat.le_of_ble_eq_true rfl)) ?_
        refine s165 h hn ?_
        refine tKv ?_
        rw [hv]
        simp only [hLo]
        refine tIc_ge (l := xk_173) (pc' := 48) rfl rfl rfl (fun hc => ?_) (fun hc => ?_)
        · refine tK (l := xk_173) rfl rfl (fun _ _ _ _ _ => rfl) ?_
          refine tK (l := xk_173) rfl rfl (fun _ _ _ _ _ => rfl) ?_
          refine tK (l := xk_173) rfl rfl (hGetR (o := some 148) hs rfl rfl rfl (by decide) (by decide) rfl) ?_
          refine tK (l := xk_173) rfl rfl (fun _ _ _ _ _ => rfl) ?_
          refine tK (l := xk_173) rfl rfl (fun _ _ _ _ _ => rfl) ?_
          refine tK (l := xk_173) rfl rfl (fun _ _ _ _ _ => rfl) ?_
          refine tK (l := xk_173) rfl rfl (hMul ⟨by omega, by omega⟩) ?_
          refine tK (l := xk_173) rfl rfl (hAdd ⟨by omega, by omega⟩) ?_
          refine tK (l := xk_173) rfl rfl (fun _ _ _ _ _ => rfl) ?_
          refine tK (l := xk_173) rfl rfl (hAdd ⟨by omega, by omega⟩) ?_
          refine tK (l := xk_173) rfl rfl (fun _ _ _ _ _ => rfl) ?_
          refine tK (l := xk_173) rfl rfl (hAdd ⟨by omega, by omega⟩) ?_
          rw [show (0 : Int) + 25 * (n : Int) + 1 + (i : Int) = ((25 * n + 1 + i : Nat) : Int) by omega]
          first | refine tK (l := xk_173) rfl rfl (hIaldN hs rfl rfl (by omega)) ?_ | refine tK (l := xk_173) rfl rfl (hIald hs rfl (by omega) (by omega)) ?_
          rw [e48]
          refine tCa (l := xk_173) rfl rfl (hInvS rfl rfl rfl rfl (Nat.le_of_ble_eq_true rfl) (Nat.le_of_ble_eq_true rfl)) ?_
          refine s174 ?_
          refine tKv ?_
          rw [hsp]
          refine tIf_eq (l := xk_173) (pc' := 39) rfl rfl rfl (fun hc => ?_) (fun hc => ?_)
          · exact absurd hc (by decide)
          · refine tK (l := xk_173) rfl rfl (fun _ _ _ _ _ => rfl) ?_
            refine tK (l := xk_173) rfl rfl (fun _ _ _ _ _ => rfl) ?_
            refine tK (l := xk_173) rfl rfl (hAdd ⟨by omega, by omega⟩) ?_
            rw [show (nsp (v.take i) : Int) + 1 = ((nsp (v.take i) + nsp [x] : Nat) : Int) by simp only [nsp, hsp]; simp]
            refine tSt (l := xk_173) rfl rfl (fun _ _ _ _ _ => rfl) (Nat.le_of_ble_eq_true rfl) ?_
            refine tSt (l := xk_173) rfl rfl (hIinc rfl (Nat.le_of_ble_eq_true rfl) ⟨by omega, by omega⟩) (Nat.le_of_ble_eq_true rfl) ?_
            refine tK (l := xk_173) rfl rfl (fun _ _ _ _ _ => rfl) ?_
            exact hnx
        · exfalso; omega
  refine tEn (ls := [some (.inr (.inl (some 147))), some (.inl (n : Int)), none, none]) (fun k => by match k with | 0 => rfl | 1 => rfl | 2 => rfl | 3 => rfl | k + 4 => rfl) ?_
  refine tK (l := xk_173) rfl rfl (fun _ _ _ _ _ => rfl) ?_
  refine tSt (l := xk_173) rfl rfl (fun _ _ _ _ _ => rfl) (Nat.le_of_ble_eq_true rfl) ?_
  refine tK (l := xk_173) rfl rfl (fun _ _ _ _ _ => rfl) ?_
  refine tSt (l := xk_173) rfl rfl (fun _ _ _ _ _ => rfl) (Nat.le_of_ble_eq_true rfl) ?_
  exact loop v.length 0 (by omega)
theorem m202 (h : hMm zs ph c) (hQ : ∀ ph2, hMm zs ph2 c → hRd ph2 147 0 = 0 → hFd moP ph ph2 → Q (.inl (some (.inl (c.2.1.2.1.1.length : Int))), ph2, g)) : xTC d 202 [.inr (.inl (some 147))] ph g Q := by
  have hs := h.1
  obtain ⟨w1, w2, w3, w4⟩ := hSzS
  obtain ⟨k1, k2, k3⟩ := h.thr (x := 0)
  have e9 : hRd (hUp ph 147 0 0) 148 200 = (c.2.1.2.1.1.length : Int) := by have := k1.2.1.2.1.1; rw [Nat.zero_add] at this; exact this
  refine tEn (ls := [some (.inr (.inl (some 147)))]) (fun k => by match k with | 0 => rfl | k + 1 => rfl) ?_
  refine tK (l := xk_202) rfl rfl (fun _ _ _ _ _ => rfl) ?_
  refine tK (l := xk_202) rfl rfl (fun _ _ _ _ _ => rfl) ?_
  refine tK (l := xk_202) rfl rfl (hPutV hs rfl rfl (by decide) (by decide) rfl) ?_
  refine tK (l := xk_202) rfl rfl (fun _ _ _ _ _ => rfl) ?_
  refine tK (l := xk_202) rfl rfl (hGetR (o := some 148) (hShI1 _ hs rfl rfl) rfl rfl rfl (by decide) (by decide) rfl) ?_
  refine tK (l := xk_202) rfl rfl (fun _ _ _ _ _ => rfl) ?_
  first | refine tK (l := xk_202) rfl rfl (hIaldN (hShI1 _ hs rfl rfl) rfl rfl (by omega)) ?_ | refine tK (l := xk_202) rfl rfl (hIald (hShI1 _ hs rfl rfl) rfl (by omega) (by omega)) ?_
  refine tRt (l := xk_202) rfl rfl (fun _ _ _ _ _ => rfl) ?_
  have hq := hQ _ k1 k2 k3.mo
  rw [← e9] at hq
  exact hq
theorem m206 (h : hMm zs ph c) (hQ : ∀ ph2, hMm zs ph2 c → hRd ph2 147 0 = 0 → hFd moP ph ph2 → Q (.inl (some (.inl (c.2.1.2.1.2.2.1.length : Int))), ph2, g)) : xTC d 206 [.inr (.inl (some 147))] ph g Q := by
  have hs := h.1
  obtain ⟨w1, w2, w3, w4⟩ := hSzS
  obtain ⟨k1, k2, k3⟩ := h.thr (x := 0)
  have e9 : hRd (hUp ph 147 0 0) 148 402 = (c.2.1.2.1.2.2.1.length : Int) := by have := k1.2.1.2.2.2.1.1; rw [Nat.zero_add] at this; exact this
  refine tEn (ls := [some (.inr (.inl (some 147)))]) (fun k => by match k with | 0 => rfl | k + 1 => rfl) ?_
  refine tK (l := xk_206) rfl rfl (fun _ _ _ _ _ => rfl) ?_
  refine tK (l := xk_206) rfl rfl (fun _ _ _ _ _ => rfl) ?_
  refine tK (l := xk_206) rfl rfl (hPutV hs rfl rfl (by decide) (by decide) rfl) ?_
  refine tK (l := xk_206) rfl rfl (fun _ _ _ _ _ => rfl) ?_
  refine tK (l := xk_206) rfl rfl (hGetR (o := some 148) (hShI1 _ hs rfl rfl) rfl rfl rfl (by decide) (by decide) rfl) ?_
  refine tK (l := xk_206) rfl rfl (fun _ _ _ _ _ => rfl) ?_
  first | refine tK (l := xk_206) rfl rfl (hIaldN (hShI1 _ hs rfl rfl) rfl rfl (by omega)) ?_ | refine tK (l := xk_206) rfl rfl (hIald (hShI1 _ hs rfl rfl) rfl (by omega) (by omega)) ?_
  refine tRt (l := xk_206) rfl rfl (fun _ _ _ _ _ => rfl) ?_
  have hq := hQ _ k1 k2 k3.mo
  rw [← e9] at hq
  exact hq
theorem m208 (h : hMm zs ph c) (hQ : ∀ ph2, hMm zs ph2 c → hRd ph2 147 0 = 0 → hFd moP ph ph2 → Q (.inl (some (.inl c.2.1.2.1.2.2.2.1)), ph2, g)) : xTC d 208 [.inr (.inl (some 147))] ph g Q := by
  have hs := h.1
  obtain ⟨w1, w2, w3, w4⟩ := hSzS
  obtain ⟨k1, k2, k3⟩ := h.thr (x := 0)
  have e9 : hRd (hUp ph 147 0 0) 148 409 = c.2.1.2.1.2.2.2.1 := by have := k1.2.1.2.2.2.2.1; rw [Nat.zero_add] at this; exact this
  refine tEn (ls := [some (.inr (.inl (some 147)))]) (fun k => by match k with | 0 => rfl | k + 1 => rfl) ?_
  refine tK (l := xk_208) rfl rfl (fun _ _ _ _ _ => rfl) ?_
  refine tK (l := xk_208) rfl rfl (fun _ _ _ _ _ => rfl) ?_
  refine tK (l := xk_208) rfl rfl (hPutV hs rfl rfl (by decide) (by decide) rfl) ?_
  refine tK (l := xk_208) rfl rfl (fun _ _ _ _ _ => rfl) ?_
  refine tK (l := xk_208) rfl rfl (hGetR (o := some 148) (hShI1 _ hs rfl rfl) rfl rfl rfl (by decide) (by decide) rfl) ?_
  refine tK (l := xk_208) rfl rfl (fun _ _ _ _ _ => rfl) ?_
  first | refine tK (l := xk_208) rfl rfl (hIaldN (hShI1 _ hs rfl rfl) rfl rfl (by omega)) ?_ | refine tK (l := xk_208) rfl rfl (hIald (hShI1 _ hs rfl rfl) rfl (by omega) (by omega)) ?_
  refine tRt (l := xk_208) rfl rfl (fun _ _ _ _ _ => rfl) ?_
  have hq := hQ _ k1 k2 k3.mo
  rw [← e9] at hq
  exact hq
theorem m209 (h : hMm zs ph c) (hQ : ∀ ph2, hMm zs ph2 c → hRd ph2 147 0 = 0 → hFd moP ph ph2 → Q (.inl (some (.inl c.2.1.2.1.2.2.2.2.1)), ph2, g)) : xTC d 209 [.inr (.inl (some 147))] ph g Q := by
  have hs := h.1
  obtain ⟨w1, w2, w3, w4⟩ := hSzS
  obtain ⟨k1, k2, k3⟩ := h.thr (x := 0)
  have e9 : hRd (hUp ph 147 0 0) 148 410 = c.2.1.2.1.2.2.2.2.1 := by have := k1.2.1.2.2.2.2.2.1; rw [Nat.zero_add] at this; exact this
  refine tEn (ls := [some (.inr (.inl (some 147)))]) (fun k => by match k with | 0 => rfl | k + 1 => rfl) ?_
  refine tK (l := xk_209) rfl rfl (fun _ _ _ _ _ => rfl) ?_
  refine tK (l := xk_209) rfl rfl (fun _ _ _ _ _ => rfl) ?_
  refine tK (l := xk_209) rfl rfl (hPutV hs rfl rfl (by decide) (by decide) rfl) ?_
  refine tK (l := xk_209) rfl rfl (fun _ _ _ _ _ => rfl) ?_
  refine tK (l := xk_209) rfl rfl (hGetR (o := some 148) (hShI1 _ hs rfl rfl) rfl rfl rfl (by decide) (by decide) rfl) ?_
  refine tK (l := xk_209) rfl rfl (fun _ _ _ _ _ => rfl) ?_
  first | refine tK (l := xk_209) rfl rfl (hIaldN (hShI1 _ hs rfl rfl) rfl rfl (by omega)) ?_ | refine tK (l := xk_209) rfl rfl (hIald (hShI1 _ hs rfl rfl) rfl (by omega) (by omega)) ?_
  refine tRt (l := xk_209) rfl rfl (fun _ _ _ _ _ => rfl) ?_
  have hq := hQ _ k1 k2 k3.mo
  rw [← e9] at hq
  exact hq
theorem m210 (h : hMm zs ph c) (hQ : ∀ ph2, hMm zs ph2 c → hRd ph2 147 0 = 0 → hFd moP ph ph2 → Q (.inl (some (.inl c.2.1.2.1.2.2.2.2.2.1)), ph2, g)) : xTC d 210 [.inr (.inl (some 147))] ph g Q := by
  have hs := h.1
  obtain ⟨w1, w2, w3, w4⟩ := hSzS
  obtain ⟨k1, k2, k3⟩ := h.thr (x := 0)
  have e9 : hRd (hUp ph 147 0 0) 148 411 = c.2.1.2.1.2.2.2.2.2.1 := by have := k1.2.1.2.2.2.2.2.2.1; rw [Nat.zero_add] at this; exact this
  refine tEn (ls := [some (.inr (.inl (some 147)))]) (fun k => by match k with | 0 => rfl | k + 1 => rfl) ?_
  refine tK (l := xk_210) rfl rfl (fun _ _ _ _ _ => rfl) ?_
  refine tK (l := xk_210) rfl rfl (fun _ _ _ _ _ => rfl) ?_
  refine tK (l := xk_210) rfl rfl (hPutV hs rfl rfl (by decide) (by decide) rfl) ?_
  refine tK (l := xk_210) rfl rfl (fun _ _ _ _ _ => rfl) ?_
  refine tK (l := xk_210) rfl rfl (hGetR (o := some 148) (hShI1 _ hs rfl rfl) rfl rfl rfl (by decide) (by decide) rfl) ?_
  refine tK (l := xk_210) rfl rfl (fun _ _ _ _ _ => rfl) ?_
  first | refine tK (l := xk_210) rfl rfl (hIaldN (hShI1 _ hs rfl rfl) rfl rfl (by omega)) ?_ | refine tK (l := xk_210) rfl rfl (hIald (hShI1 _ hs rfl rfl) rfl (by omega) (by omega)) ?_
  refine tRt (l := xk_210) rfl rfl (fun _ _ _ _ _ => rfl) ?_
  have hq := hQ _ k1 k2 k3.mo
  rw [← e9] at hq
  exact hq
theorem m211 (h : hMm zs ph c) (hQ : ∀ ph2, hMm zs ph2 c → hRd ph2 147 0 = 0 → hFd moP ph ph2 → Q (.inl (some (.inl c.2.1.2.1.2.2.2.2.2.2)), ph2, g)) : xTC d 211 [.inr (.inl (some 147))] ph g Q := by
  have hs := h.1
  obtain ⟨w1, w2, w3, w4⟩ := hSzS
  obtain ⟨k1, k2, k3⟩ := h.thr (x := 0)
  have e9 : hRd (hUp ph 147 0 0) 148 412 = c.2.1.2.1.2.2.2.2.2.2 := by have := k1.2.1.2.2.2.2.2.2.2.1; rw [Nat.zero_add] at this; exact this
  refine tEn (ls := [some (.inr (.inl (some 147)))]) (fun k => by match k with | 0 => rfl | k + 1 => rfl) ?_
  refine tK (l := xk_211) rfl rfl (fun _ _ _ _ _ => rfl) ?_
  refine tK (l := xk_211) rfl rfl (fun _ _ _ _ _ => rfl) ?_
  refine tK (l := xk_211) rfl rfl (hPutV hs rfl rfl (by decide) (by decide) rfl) ?_
  refine tK (l := xk_211) rfl rfl (fun _ _ _ _ _ => rfl) ?_
  refine tK (l := xk_211) rfl rfl (hGetR (o := some 148) (hShI1 _ hs rfl rfl) rfl rfl rfl (by decide) (by decide) rfl) ?_
  refine tK (l := xk_211) rfl rfl (fun _ _ _ _ _ => rfl) ?_
  first | refine tK (l := xk_211) rfl rfl (hIaldN (hShI1 _ hs rfl rfl) rfl rfl (by omega)) ?_ | refine tK (l := xk_211) rfl rfl (hIald (hShI1 _ hs rfl rfl) rfl (by omega) (by omega)) ?_
  refine tRt (l := xk_211) rfl rfl (fun _ _ _ _ _ => rfl) ?_
  have hq := hQ _ k1 k2 k3.mo
  rw [← e9] at hq
  exact hq
theorem m212 (h : hMm zs ph c) (hQ : ∀ ph2, hMm zs ph2 c → hRd ph2 147 0 = 0 → hFd moP ph ph2 → Q (.inl (some (.inl c.2.1.2.2.1)), ph2, g)) : xTC d 212 [.inr (.inl (some 147))] ph g Q := by
  have hs := h.1
  obtain ⟨w1, w2, w3, w4⟩ := hSzS
  obtain ⟨k1, k2, k3⟩ := h.thr (x := 0)
  have e9 : hRd (hUp ph 147 0 0) 148 413 = c.2.1.2.2.1 := by have := k1.2.1.2.2.2.2.2.2.2.2.1; rw [Nat.zero_add] at this; exact this
  refine tEn (ls := [some (.inr (.inl (some 147)))]) (fun k => by match k with | 0 => rfl | k + 1 => rfl) ?_
  refine tK (l := xk_212) rfl rfl (fun _ _ _ _ _ => rfl) ?_
  refine tK (l := xk_212) rfl rfl (fun _ _ _ _ _ => rfl) ?_
  refine tK (l := xk_212) rfl rfl (hPutV hs rfl rfl (by decide) (by decide) rfl) ?_
  refine tK (l := xk_212) rfl rfl (fun _ _ _ _ _ => rfl) ?_
  refine tK (l := xk_212) rfl rfl (hGetR (o := some 148) (hShI1 _ hs rfl rfl) rfl rfl rfl (by decide) (by decide) rfl) ?_
  refine tK (l := xk_212) rfl rfl (fun _ _ _ _ _ => rfl) ?_
  first | refine tK (l := xk_212) rfl rfl (hIaldN (hShI1 _ hs rfl rfl) rfl rfl (by omega)) ?_ | refine tK (l := xk_212) rfl rfl (hIald (hShI1 _ hs rfl rfl) rfl (by omega) (by omega)) ?_
  refine tRt (l := xk_212) rfl rfl (fun _ _ _ _ _ => rfl) ?_
  have hq := hQ _ k1 k2 k3.mo
  rw [← e9] at hq
  exact hq
theorem m213 (h : hMm zs ph c) (hQ : ∀ ph2, hMm zs ph2 c → hRd ph2 147 0 = 0 → hFd moP ph ph2 → Q (.inl (some (.inl c.2.1.2.2.2.1)), ph2, g)) : xTC d 213 [.inr (.inl (some 147))] ph g Q := by
  have hs := h.1
  obtain ⟨w1, w2, w3, w4⟩ := hSzS
  obtain ⟨k1, k2, k3⟩ := h.thr (x := 0)
  have e9 : hRd (hUp ph 147 0 0) 148 414 = c.2.1.2.2.2.1 := by have := k1.2.1.2.2.2.2.2.2.2.2.2.1; rw [Nat.zero_add] at this; exact this
  refine tEn (ls := [some (.inr (.inl (some 147)))]) (fun k => by match k with | 0 => rfl | k + 1 => rfl) ?_
  refine tK (l := xk_213) rfl rfl (fun _ _ _ _ _ => rfl) ?_
  refine tK (l := xk_213) rfl rfl (fun _ _ _ _ _ => rfl) ?_
  refine tK (l := xk_213) rfl rfl (hPutV hs rfl rfl (by decide) (by decide) rfl) ?_
  refine tK (l := xk_213) rfl rfl (fun _ _ _ _ _ => rfl) ?_
  refine tK (l := xk_213) rfl rfl (hGetR (o := some 148) (hShI1 _ hs rfl rfl) rfl rfl rfl (by decide) (by decide) rfl) ?_
  refine tK (l := xk_213) rfl rfl (fun _ _ _ _ _ => rfl) ?_
  first | refine tK (l := xk_213) rfl rfl (hIaldN (hShI1 _ hs rfl rfl) rfl rfl (by omega)) ?_ | refine tK (l := xk_213) rfl rfl (hIald (hShI1 _ hs rfl rfl) rfl (by omega) (by omega)) ?_
  refine tRt (l := xk_213) rfl rfl (fun _ _ _ _ _ => rfl) ?_
  have hq := hQ _ k1 k2 k3.mo
  rw [← e9] at hq
  exact hq
theorem m214 (h : hMm zs ph c) (hQ : ∀ ph2, hMm zs ph2 c → hRd ph2 147 0 = 0 → hFd moP ph ph2 → Q (.inl (some (.inl c.2.1.2.2.2.2)), ph2, g)) : xTC d 214 [.inr (.inl (some 147))] ph g Q := by
  have hs := h.1
  obtain ⟨w1, w2, w3, w4⟩ := hSzS
  obtain ⟨k1, k2, k3⟩ := h.thr (x := 0)
  have e9 : hRd (hUp ph 147 0 0) 148 415 = c.2.1.2.2.2.2 := by have := k1.2.1.2.2.2.2.2.2.2.2.2.2; rw [Nat.zero_add] at this; exact this
  refine tEn (ls := [some (.inr (.inl (some 147)))]) (fun k => by match k with | 0 => rfl | k + 1 => rfl) ?_
  refine tK (l := xk_214) rfl rfl (fun _ _ _ _ _ => rfl) ?_
  refine tK (l := xk_214) rfl rfl (fun _ _ _ _ _ => rfl) ?_
  refine tK (l := xk_214) rfl rfl (hPutV hs rfl rfl (by decide) (by decide) rfl) ?_
  refine tK (l := xk_214) rfl rfl (fun _ _ _ _ _ => rfl) ?_
  refine tK (l := xk_214) rfl rfl (hGetR (o := some 148) (hShI1 _ hs rfl rfl) rfl rfl rfl (by decide) (by decide) rfl) ?_
  refine tK (l := xk_214) rfl rfl (fun _ _ _ _ _ => rfl) ?_
  first | refine tK (l := xk_214) rfl rfl (hIaldN (hShI1 _ hs rfl rfl) rfl rfl (by omega)) ?_ | refine tK (l := xk_214) rfl rfl (hIald (hShI1 _ hs rfl rfl) rfl (by omega) (by omega)) ?_
  refine tRt (l := xk_214) rfl rfl (fun _ _ _ _ _ => rfl) ?_
  have hq := hQ _ k1 k2 k3.mo
  rw [← e9] at hq
  exact hq
theorem m204 (h : hMm zs ph c) (hQ : ∀ ph2, hMm zs ph2 c → hRd ph2 147 0 = 0 → hFd moP ph ph2 → Q (.inl (some (.inl (if c.2.1.2.1.2.1 = 0 then 0 else 1))), ph2, g)) : xTC d 204 [.inr (.inl (some 147))] ph g Q := by
  have hs := h.1
  obtain ⟨w1, w2, w3, w4⟩ := hSzS
  obtain ⟨k1, k2, k3⟩ := h.thr (x := 0)
  have e9 : hRd (hUp ph 147 0 0) 148 401 = c.2.1.2.1.2.1 := by have := k1.2.1.2.2.1; rw [Nat.zero_add] at this; exact this
  refine tEn (ls := [some (.inr (.inl (some 147)))]) (fun k => by match k with | 0 => rfl | k + 1 => rfl) ?_
  refine tK (l := xk_204) rfl rfl (fun _ _ _ _ _ => rfl) ?_
  refine tK (l := xk_204) rfl rfl (fun _ _ _ _ _ => rfl) ?_
  refine tK (l := xk_204) rfl rfl (hPutV hs rfl rfl (by decide) (by decide) rfl) ?_
  refine tK (l := xk_204) rfl rfl (fun _ _ _ _ _ => rfl) ?_
  refine tK (l := xk_204) rfl rfl (hGetR (o := some 148) (hShI1 _ hs rfl rfl) rfl rfl rfl (by decide) (by decide) rfl) ?_
  refine tK (l := xk_204) rfl rfl (fun _ _ _ _ _ => rfl) ?_
  first | refine tK (l := xk_204) rfl rfl (hIaldN (hShI1 _ hs rfl rfl) rfl rfl (by omega)) ?_ | refine tK (l := xk_204) rfl rfl (hIald (hShI1 _ hs rfl rfl) rfl (by omega) (by omega)) ?_
  rw [show Int.toNat 401 = 401 from rfl, e9]
  refine tIf_eq (l := xk_204) (pc' := 20) rfl rfl rfl (fun hc => ?_) (fun hc => ?_)
  · have hc13 := hc
    refine tK (l := xk_204) rfl rfl (fun _ _ _ _ _ => rfl) ?_
    refine tRt (l := xk_204) rfl rfl (fun _ _ _ _ _ => rfl) ?_
    rw [if_pos hc13] at hQ
    exact hQ _ k1 k2 k3.mo
  · have hc13 := hc
    refine tK (l := xk_204) rfl rfl (fun _ _ _ _ _ => rfl) ?_
    refine tK (l := xk_204) rfl rfl (fun _ _ _ _ _ => rfl) ?_
    refine tRt (l := xk_204) rfl rfl (fun _ _ _ _ _ => rfl) ?_
    rw [if_neg hc13] at hQ
    exact hQ _ k1 k2 k3.mo
theorem m149 (h : hMm zs ph c) (hQ : ∀ ph2, hMm zs ph2 c → hRd ph2 147 0 = 0 → hFd moP ph ph2 → Q (.inl (some (.inl (c.1.length : Int))), ph2, g)) : xTC d 149 [.inr (.inl (some 147))] ph g Q := by
  have hs := h.1
  obtain ⟨w1, w2, w3, w4⟩ := hSzS
  obtain ⟨k1, k2, k3⟩ := h.thr (x := 0)
  have e9 := k1.2.2.2.2.1
  refine tEn (ls := [some (.inr (.inl (some 147)))]) (fun k => by match k with | 0 => rfl | k + 1 => rfl) ?_
  refine tK (l := xk_149) rfl rfl (fun _ _ _ _ _ => rfl) ?_
  refine tK (l := xk_149) rfl rfl (fun _ _ _ _ _ => rfl) ?_
  refine tK (l := xk_149) rfl rfl (hPutV hs rfl rfl (by decide) (by decide) rfl) ?_
  refine tK (l := xk_149) rfl rfl (fun _ _ _ _ _ => rfl) ?_
  refine tK (l := xk_149) rfl rfl (hGetI (hShI1 _ hs rfl rfl) rfl rfl rfl (by decide) (by decide)) ?_
  refine tRt (l := xk_149) rfl rfl (fun _ _ _ _ _ => rfl) ?_
  have hq := hQ _ k1 k2 k3.mo
  rw [← e9] at hq
  exact hq
theorem m224 (h : hMm zs ph c) (hQ : ∀ ph2, hMm zs ph2 c → hRd ph2 147 0 = 0 → hFd moP ph ph2 → Q (.inl (some (.inl (c.2.2.2.length : Int))), ph2, g)) : xTC d 224 [.inr (.inl (some 147))] ph g Q := by
  have hs := h.1
  obtain ⟨w1, w2, w3, w4⟩ := hSzS
  obtain ⟨k1, k2, k3⟩ := h.thr (x := 0)
  have e9 := k1.2.2.1.1
  refine tEn (ls := [some (.inr (.inl (some 147)))]) (fun k => by match k with | 0 => rfl | k + 1 => rfl) ?_
  refine tK (l := xk_224) rfl rfl (fun _ _ _ _ _ => rfl) ?_
  refine tK (l := xk_224) rfl rfl (fun _ _ _ _ _ => rfl) ?_
  refine tK (l := xk_224) rfl rfl (hPutV hs rfl rfl (by decide) (by decide) rfl) ?_
  refine tK (l := xk_224) rfl rfl (fun _ _ _ _ _ => rfl) ?_
  refine tK (l := xk_224) rfl rfl (hGetI (hShI1 _ hs rfl rfl) rfl rfl rfl (by decide) (by decide)) ?_
  refine tRt (l := xk_224) rfl rfl (fun _ _ _ _ _ => rfl) ?_
  have hq := hQ _ k1 k2 k3.mo
  rw [← e9] at hq
  exact hq
theorem m144 (h : hMm zs ph c) (hQ : Q (.inl (some (.inl (hRd ph 147 0))), ph, g)) : xTC d 144 [.inr (.inl (some 147))] ph g Q := by
  have hs := h.1
  refine tEn (ls := [some (.inr (.inl (some 147)))]) (fun k => by match k with | 0 => rfl | k + 1 => rfl) ?_
  refine tK (l := xk_144) rfl rfl (fun _ _ _ _ _ => rfl) ?_
  refine tK (l := xk_144) rfl rfl (hGetI hs rfl rfl rfl (by decide) (by decide)) ?_
  refine tRt (l := xk_144) rfl rfl (fun _ _ _ _ _ => rfl) ?_
  exact hQ
theorem m150 (h : hMm zs ph c) (hok : oks c.1) (hQ : ∀ ph2, hMm zs ph2 c → hRd ph2 147 0 = 0 → hFd moP ph ph2 → Q (.inl (some (.inl ((pRes c.1).1 : Int))), ph2, g)) : xTC (d + 5) 150 [.inr (.inl (some 147))] ph g Q := by
  have hs := h.1
  obtain ⟨w1, w2, w3, w4⟩ := hSzS
  obtain ⟨k1, k2, k3⟩ := h.thr (x := 0)
  refine tEn (ls := [some (.inr (.inl (some 147)))]) (fun k => by match k with | 0 => rfl | k + 1 => rfl) ?_
  refine tK (l := xk_150) rfl rfl (fun _ _ _ _ _ => rfl) ?_
  refine tK (l := xk_150) rfl rfl (fun _ _ _ _ _ => rfl) ?_
  refine tK (l := xk_150) rfl rfl (hPutV hs rfl rfl (by decide) (by decide) rfl) ?_
  refine tK (l := xk_150) rfl rfl (fun _ _ _ _ _ => rfl) ?_
  refine tCa (l := xk_150) rfl rfl (hInvV (c := 10) (hShI1 _ hs rfl rfl) rfl rfl rfl rfl rfl (Nat.le_of_ble_eq_true rfl) (Nat.le_of_ble_eq_true rfl)) ?_
  refine s151 k1 hok (fun ph2 k4 f2 e17 hmr hsg e9 => ?_)
  refine tKv ?_
  refine tRt (l := xk_150) rfl rfl (fun _ _ _ _ _ => rfl) ?_
  exact hQ ph2 k4 (by rw [f2.fl (by decide)]; exact k2) (k3.mo.trans f2.mo)
theorem m156 (h : hMm zs ph c) (hok : oks c.1) (hQ : ∀ ph2, hMm zs ph2 c → hRd ph2 147 0 = 0 → hFd moP ph ph2 → Q (.inl (some (.inl (if pWh c.1 = true then 1 else 0))), ph2, g)) : xTC (d + 6) 156 [.inr (.inl (some 147))] ph g Q := by
  have hs := h.1
  obtain ⟨w1, w2, w3, w4⟩ := hSzS
  obtain ⟨k1, k2, k3⟩ := h.thr (x := 0)
  refine tEn (ls := [some (.inr (.inl (some 147)))]) (fun k => by match k with | 0 => rfl | k + 1 => rfl) ?_
  cases hw : pWh c.1 with
  | false =>
    refine tK (l := xk_156) rfl rfl (fun _ _ _ _ _ => rfl) ?_
    refine tK (l := xk_156) rfl rfl (fun _ _ _ _ _ => rfl) ?_
    refine tK (l := xk_156) rfl rfl (hPutV hs rfl rfl (by decide) (by decide) rfl) ?_
    refine tK (l := xk_156) rfl rfl (fun _ _ _ _ _ => rfl) ?_
    refine tCa (l := xk_156) rfl rfl (hInvV (c := 10) (hShI1 _ hs rfl rfl) rfl rfl rfl rfl rfl (Nat.le_of_ble_eq_true rfl) (Nat.le_of_ble_eq_true rfl)) ?_
    refine s157n k1 hok hw (fun ph2 k4 f2 hsg e9 => ?_)
    refine tKv ?_
    refine tRt (l := xk_156) rfl rfl (fun _ _ _ _ _ => rfl) ?_
    rw [hw] at hQ
    exact hQ ph2 k4 (by rw [f2.fl (by decide)]; exact k2) (k3.mo.trans f2.mo)
  | true =>
    refine tK (l := xk_156) rfl rfl (fun _ _ _ _ _ => rfl) ?_
    refine tK (l := xk_156) rfl rfl (fun _ _ _ _ _ => rfl) ?_
    refine tK (l := xk_156) rfl rfl (hPutV hs rfl rfl (by decide) (by decide) rfl) ?_
    refine tK (l := xk_156) rfl rfl (fun _ _ _ _ _ => rfl) ?_
    refine tCa (l := xk_156) rfl rfl (hInvV (c := 10) (hShI1 _ hs rfl rfl) rfl rfl rfl rfl rfl (Nat.le_of_ble_eq_true rfl) (Nat.le_of_ble_eq_true rfl)) ?_
    refine s157 k1 hok hw (fun ph2 k4 f2 hmr hsg e9 => ?_)
    refine tKv ?_
    refine tRt (l := xk_156) rfl rfl (fun _ _ _ _ _ => rfl) ?_
    rw [hw] at hQ
    exact hQ ph2 k4 (by rw [f2.fl (by decide)]; exact k2) (k3.mo.trans f2.mo)
theorem m158 (h : hMm zs ph c) (hok : oks c.1) (hw : pWh c.1 = true) (hQ : ∀ ph2, hMm zs ph2 c → hRd ph2 147 0 = 0 → hFd moP ph ph2 → Q (.inl (some (.inl ((pPs c.1).length : Int))), ph2, g)) : xTC (d + 6) 158 [.inr (.inl (some 147))] ph g Q := by
  have hs := h.1
  refine tEn (ls := [some (.inr (.inl (some 147)))]) (fun k => by match k with | 0 => rfl | k + 1 => rfl) ?_
  refine tK (l := xk_158) rfl rfl (fun _ _ _ _ _ => rfl) ?_
  refine tK (l := xk_158) rfl rfl (fun _ _ _ _ _ => rfl) ?_
  refine tCa (l := xk_158) rfl rfl (hInvV (c := 10) hs rfl rfl rfl rfl rfl (Nat.le_of_ble_eq_true rfl) (Nat.le_of_ble_eq_true rfl)) ?_
  refine s157 h hok hw (fun ph1 k1 f1 hmr hsg e9 => ?_)
  refine tKv ?_
  refine tIf_eq (l := xk_158) (pc' := 12) rfl rfl rfl (fun hc => ?_) (fun hc => ?_)
  · exact absurd hc (by decide)
  · refine tK (l := xk_158) rfl rfl (fun _ _ _ _ _ => rfl) ?_
    refine tK (l := xk_158) rfl rfl (fun _ _ _ _ _ => rfl) ?_
    refine tCa (l := xk_158) rfl rfl (hInvV (c := 10) k1.1 rfl rfl rfl rfl rfl (Nat.le_of_ble_eq_true rfl) (Nat.le_of_ble_eq_true rfl)) ?_
    refine s147z k1 (fun ph2 k2 e0 f2 => ?_)
    refine tKv ?_
    refine tIf_eq (l := xk_158) (pc' := 26) rfl rfl rfl (fun hc => ?_) (fun hc => ?_)
    · exact absurd hc (by decide)
    · refine tK (l := xk_158) rfl rfl (fun _ _ _ _ _ => rfl) ?_
      refine tK (l := xk_158) rfl rfl (hGetI k2.1 rfl rfl rfl (by decide) (by decide)) ?_
      refine tK (l := xk_158) rfl rfl (fun _ _ _ _ _ => rfl) ?_
      refine tRt (l := xk_158) rfl rfl (fun _ _ _ _ _ => rfl) ?_
      have e10 : hRd ph2 147 10 = ((pPs c.1).length : Int) := by rw [f2.fl (by decide)]; exact hmr.1
      have hq := hQ ph2 k2 e0 (f1.mo.trans f2.mo)
      rw [← e10] at hq
      exact hq
theorem m159 (h : hMm zs ph c) (hok : oks c.1) (hw : pWh c.1 = true) (hQ : ∀ ph2, hMm zs ph2 c → hRd ph2 147 0 = 0 → hFd moP ph ph2 → Q (.inl (some (.inl (pDp c.1 : Int))), ph2, g)) : xTC (d + 6) 159 [.inr (.inl (some 147))] ph g Q := by
  have hs := h.1
  refine tEn (ls := [some (.inr (.inl (some 147)))]) (fun k => by match k with | 0 => rfl | k + 1 => rfl) ?_
  refine tK (l := xk_159) rfl rfl (fun _ _ _ _ _ => rfl) ?_
  refine tK (l := xk_159) rfl rfl (fun _ _ _ _ _ => rfl) ?_
  refine tCa (l := xk_159) rfl rfl (hInvV (c := 10) hs rfl rfl rfl rfl rfl (Nat.le_of_ble_eq_true rfl) (Nat.le_of_ble_eq_true rfl)) ?_
  refine s157 h hok hw (fun ph1 k1 f1 hmr hsg e9 => ?_)
  refine tKv ?_
  refine tIf_eq (l := xk_159) (pc' := 12) rfl rfl rfl (fun hc => ?_) (fun hc => ?_)
  · exact absurd hc (by decide)
  · refine tK (l := xk_159) rfl rfl (fun _ _ _ _ _ => rfl) ?_
    refine tK (l := xk_159) rfl rfl (fun _ _ _ _ _ => rfl) ?_
    refine tCa (l := xk_159) rfl rfl (hInvV (c := 10) k1.1 rfl rfl rfl rfl rfl (Nat.le_of_ble_eq_true rfl) (Nat.le_of_ble_eq_true rfl)) ?_
    refine s147z k1 (fun ph2 k2 e0 f2 => ?_)
    refine tKv ?_
    refine tIf_eq (l := xk_159) (pc' := 26) rfl rfl rfl (fun hc => ?_) (fun hc => ?_)
    · exact absurd hc (by decide)
    · refine tK (l := xk_159) rfl rfl (fun _ _ _ _ _ => rfl) ?_
      refine tK (l := xk_159) rfl rfl (hGetI k2.1 rfl rfl rfl (by decide) (by decide)) ?_
      refine tK (l := xk_159) rfl rfl (fun _ _ _ _ _ => rfl) ?_
      refine tRt (l := xk_159) rfl rfl (fun _ _ _ _ _ => rfl) ?_
      have e10 : hRd ph2 147 11 = (pDp c.1 : Int) := by rw [f2.fl (by decide)]; exact hmr.2.1
      have hq := hQ ph2 k2 e0 (f1.mo.trans f2.mo)
      rw [← e10] at hq
      exact hq
theorem m160 (h : hMm zs ph c) (hok : oks c.1) (hw : pWh c.1 = true) (hQ : ∀ ph2, hMm zs ph2 c → hRd ph2 147 0 = 0 → hFd moP ph ph2 → Q (.inl (some (.inl (mkU (pPs c.1) 0))), ph2, g)) : xTC (d + 6) 160 [.inr (.inl (some 147))] ph g Q := by
  have hs := h.1
  refine tEn (ls := [some (.inr (.inl (some 147)))]) (fun k => by match k with | 0 => rfl | k + 1 => rfl) ?_
  refine tK (l := xk_160) rfl rfl (fun _ _ _ _ _ => rfl) ?_
  refine tK (l := xk_160) rfl rfl (fun _ _ _ _ _ => rfl) ?_
  refine tCa (l := xk_160) rfl rfl (hInvV (c := 10) hs rfl rfl rfl rfl rfl (Nat.le_of_ble_eq_true rfl) (Nat.le_of_ble_eq_true rfl)) ?_
  refine s157 h hok hw (fun ph1 k1 f1 hmr hsg e9 => ?_)
  refine tKv ?_
  refine tIf_eq (l := xk_160) (pc' := 12) rfl rfl rfl (fun hc => ?_) (fun hc => ?_)
  · exact absurd hc (by decide)
  · refine tK (l := xk_160) rfl rfl (fun _ _ _ _ _ => rfl) ?_
    refine tK (l := xk_160) rfl rfl (fun _ _ _ _ _ => rfl) ?_
    refine tCa (l := xk_160) rfl rfl (hInvV (c := 10) k1.1 rfl rfl rfl rfl rfl (Nat.le_of_ble_eq_true rfl) (Nat.le_of_ble_eq_true rfl)) ?_
    refine s147z k1 (fun ph2 k2 e0 f2 => ?_)
    refine tKv ?_
    refine tIf_eq (l := xk_160) (pc' := 26) rfl rfl rfl (fun hc => ?_) (fun hc => ?_)
    · exact absurd hc (by decide)
    · refine tK (l := xk_160) rfl rfl (fun _ _ _ _ _ => rfl) ?_
      refine tK (l := xk_160) rfl rfl (hGetI k2.1 rfl rfl rfl (by decide) (by decide)) ?_
      refine tK (l := xk_160) rfl rfl (fun _ _ _ _ _ => rfl) ?_
      refine tRt (l := xk_160) rfl rfl (fun _ _ _ _ _ => rfl) ?_
      have e10 : hRd ph2 147 12 = (mkU (pPs c.1) 0) := by rw [f2.fl (by decide)]; exact hmr.2.2.1
      have hq := hQ ph2 k2 e0 (f1.mo.trans f2.mo)
      rw [← e10] at hq
      exact hq
theorem m161 (h : hMm zs ph c) (hok : oks c.1) (hw : pWh c.1 = true) (hQ : ∀ ph2, hMm zs ph2 c → hRd ph2 147 0 = 0 → hFd moP ph ph2 → Q (.inl (some (.inl (mkG (pPs c.1) 0))), ph2, g)) : xTC (d + 6) 161 [.inr (.inl (some 147))] ph g Q := by
  have hs := h.1
  refine tEn (ls := [some (.inr (.inl (some 147)))]) (fun k => by match k with | 0 => rfl | k + 1 => rfl) ?_
  refine tK (l := xk_161) rfl rfl (fun _ _ _ _ _ => rfl) ?_
  refine tK (l := xk_161) rfl rfl (fun _ _ _ _ _ => rfl) ?_
  refine tCa (l := xk_161) rfl rfl (hInvV (c := 10) hs rfl rfl rfl rfl rfl (Nat.le_of_ble_eq_true rfl) (Nat.le_of_ble_eq_true rfl)) ?_
  refine s157 h hok hw (fun ph1 k1 f1 hmr hsg e9 => ?_)
  refine tKv ?_
  refine tIf_eq (l := xk_161) (pc' := 12) rfl rfl rfl (fun hc => ?_) (fun hc => ?_)
  · exact absurd hc (by decide)
  · refine tK (l := xk_161) rfl rfl (fun _ _ _ _ _ => rfl) ?_
    refine tK (l := xk_161) rfl rfl (fun _ _ _ _ _ => rfl) ?_
    refine tCa (l := xk_161) rfl rfl (hInvV (c := 10) k1.1 rfl rfl rfl rfl rfl (Nat.le_of_ble_eq_true rfl) (Nat.le_of_ble_eq_true rfl)) ?_
    refine s147z k1 (fun ph2 k2 e0 f2 => ?_)
    refine tKv ?_
    refine tIf_eq (l := xk_161) (pc' := 26) rfl rfl rfl (fun hc => ?_) (fun hc => ?_)
    · exact absurd hc (by decide)
    · refine tK (l := xk_161) rfl rfl (fun _ _ _ _ _ => rfl) ?_
      refine tK (l := xk_161) rfl rfl (hGetI k2.1 rfl rfl rfl (by decide) (by decide)) ?_
      refine tK (l := xk_161) rfl rfl (fun _ _ _ _ _ => rfl) ?_
      refine tRt (l := xk_161) rfl rfl (fun _ _ _ _ _ => rfl) ?_
      have e10 : hRd ph2 147 13 = (mkG (pPs c.1) 0) := by rw [f2.fl (by decide)]; exact hmr.2.2.2.1
      have hq := hQ ph2 k2 e0 (f1.mo.trans f2.mo)
      rw [← e10] at hq
      exact hq
theorem m162 (h : hMm zs ph c) (hok : oks c.1) (hw : pWh c.1 = true) (hQ : ∀ ph2, hMm zs ph2 c → hRd ph2 147 0 = 0 → hFd moP ph ph2 → Q (.inl (some (.inl (mkL (pPs c.1) 0 : Int))), ph2, g)) : xTC (d + 6) 162 [.inr (.inl (some 147))] ph g Q := by
  have hs := h.1
  refine tEn (ls := [some (.inr (.inl (some 147)))]) (fun k => by match k with | 0 => rfl | k + 1 => rfl) ?_
  refine tK (l := xk_162) rfl rfl (fun _ _ _ _ _ => rfl) ?_
  refine tK (l := xk_162) rfl rfl (fun _ _ _ _ _ => rfl) ?_
  refine tCa (l := xk_162) rfl rfl (hInvV (c := 10) hs rfl rfl rfl rfl rfl (Nat.le_of_ble_eq_true rfl) (Nat.le_of_ble_eq_true rfl)) ?_
  refine s157 h hok hw (fun ph1 k1 f1 hmr hsg e9 => ?_)
  refine tKv ?_
  refine tIf_eq (l := xk_162) (pc' := 12) rfl rfl rfl (fun hc => ?_) (fun hc => ?_)
  · exact absurd hc (by decide)
  · refine tK (l := xk_162) rfl rfl (fun _ _ _ _ _ => rfl) ?_
    refine tK (l := xk_162) rfl rfl (fun _ _ _ _ _ => rfl) ?_
    refine tCa (l := xk_162) rfl rfl (hInvV (c := 10) k1.1 rfl rfl rfl rfl rfl (Nat.le_of_ble_eq_true rfl) (Nat.le_of_ble_eq_true rfl)) ?_
    refine s147z k1 (fun ph2 k2 e0 f2 => ?_)
    refine tKv ?_
    refine tIf_eq (l := xk_162) (pc' := 26) rfl rfl rfl (fun hc => ?_) (fun hc => ?_)
    · exact absurd hc (by decide)
    · refine tK (l := xk_162) rfl rfl (fun _ _ _ _ _ => rfl) ?_
      refine tK (l := xk_162) rfl rfl (hGetI k2.1 rfl rfl rfl (by decide) (by decide)) ?_
      refine tK (l := xk_162) rfl rfl (fun _ _ _ _ _ => rfl) ?_
      refine tRt (l := xk_162) rfl rfl (fun _ _ _ _ _ => rfl) ?_
      have e10 : hRd ph2 147 14 = (mkL (pPs c.1) 0 : Int) := by rw [f2.fl (by decide)]; exact hmr.2.2.2.2
      have hq := hQ ph2 k2 e0 (f1.mo.trans f2.mo)
      rw [← e10] at hq
      exact hq
theorem m158n (h : hMm zs ph c) (hok : oks c.1) (hw : pWh c.1 = false) (hQ : ∀ ph2, hMm zs ph2 c → hRd ph2 147 0 = 1 → hFd moP ph ph2 → Q (.inl (some (.inl 0)), ph2, g)) : xTC (d + 6) 158 [.inr (.inl (some 147))] ph g Q := by
  have hs := h.1
  refine tEn (ls := [some (.inr (.inl (some 147)))]) (fun k => by match k with | 0 => rfl | k + 1 => rfl) ?_
  refine tK (l := xk_158) rfl rfl (fun _ _ _ _ _ => rfl) ?_
  refine tK (l := xk_158) rfl rfl (fun _ _ _ _ _ => rfl) ?_
  refine tCa (l := xk_158) rfl rfl (hInvV (c := 10) hs rfl rfl rfl rfl rfl (Nat.le_of_ble_eq_true rfl) (Nat.le_of_ble_eq_true rfl)) ?_
  refine s157n h hok hw (fun ph1 k1 f1 hsg e9 => ?_)
  refine tKv ?_
  refine tIf_eq (l := xk_158) (pc' := 12) rfl rfl rfl (fun hc => ?_) (fun hc => ?_)
  · refine tK (l := xk_158) rfl rfl (fun _ _ _ _ _ => rfl) ?_
    refine tCa (l := xk_158) rfl rfl (hInvV (c := 10) k1.1 rfl rfl rfl rfl rfl (Nat.le_of_ble_eq_true rfl) (Nat.le_of_ble_eq_true rfl)) ?_
    refine s147n k1 (show (1 : Int) ≠ 0 by decide) (fun ph2 k2 e0 f2 => ?_)
    refine tKv ?_
    refine tIf_eq (l := xk_158) (pc' := 26) rfl rfl rfl (fun hc => ?_) (fun hc => ?_)
    · refine tK (l := xk_158) rfl rfl (fun _ _ _ _ _ => rfl) ?_
      refine tRt (l := xk_158) rfl rfl (fun _ _ _ _ _ => rfl) ?_
      exact hQ ph2 k2 e0 (f1.mo.trans f2.mo)
    · exact absurd rfl hc
  · exact absurd rfl hc
theorem m159n (h : hMm zs ph c) (hok : oks c.1) (hw : pWh c.1 = false) (hQ : ∀ ph2, hMm zs ph2 c → hRd ph2 147 0 = 1 → hFd moP ph ph2 → Q (.inl (some (.inl 0)), ph2, g)) : xTC (d + 6) 159 [.inr (.inl (some 147))] ph g Q := by
  have hs := h.1
  refine tEn (ls := [some (.inr (.inl (some 147)))]) (fun k => by match k with | 0 => rfl | k + 1 => rfl) ?_
  refine tK (l := xk_159) rfl rfl (fun _ _ _ _ _ => rfl) ?_
  refine tK (l := xk_159) rfl rfl (fun _ _ _ _ _ => rfl) ?_
  refine tCa (l := xk_159) rfl rfl (hInvV (c := 10) hs rfl rfl rfl rfl rfl (Nat.le_of_ble_eq_true rfl) (Nat.le_of_ble_eq_true rfl)) ?_
  refine s157n h hok hw (fun ph1 k1 f1 hsg e9 => ?_)
  refine tKv ?_
  refine tIf_eq (l := xk_159) (pc' := 12) rfl rfl rfl (fun hc => ?_) (fun hc => ?_)
  · refine tK (l := xk_159) rfl rfl (fun _ _ _ _ _ => rfl) ?_
    refine tCa (l := xk_159) rfl rfl (hInvV (c := 10) k1.1 rfl rfl rfl rfl rfl (Nat.le_of_ble_eq_true rfl) (Nat.le_of_ble_eq_true rfl)) ?_
    refine s147n k1 (show (1 : Int) ≠ 0 by decide) (fun ph2 k2 e0 f2 => ?_)
    refine tKv ?_
    refine tIf_eq (l := xk_159) (pc' := 26) rfl rfl rfl (fun hc => ?_) (fun hc => ?_)
    · refine tK (l := xk_159) rfl rfl (fun _ _ _ _ _ => rfl) ?_
      refine tRt (l := xk_159) rfl rfl (fun _ _ _ _ _ => rfl) ?_
      exact hQ ph2 k2 e0 (f1.mo.trans f2.mo)
    · exact absurd rfl hc
  · exact absurd rfl hc
theorem m160n (h : hMm zs ph c) (hok : oks c.1) (hw : pWh c.1 = false) (hQ : ∀ ph2, hMm zs ph2 c → hRd ph2 147 0 = 1 → hFd moP ph ph2 → Q (.inl (some (.inl 0)), ph2, g)) : xTC (d + 6) 160 [.inr (.inl (some 147))] ph g Q := by
  have hs := h.1
  refine tEn (ls := [some (.inr (.inl (some 147)))]) (fun k => by match k with | 0 => rfl | k + 1 => rfl) ?_
  refine tK (l := xk_160) rfl rfl (fun _ _ _ _ _ => rfl) ?_
  refine tK (l := xk_160) rfl rfl (fun _ _ _ _ _ => rfl) ?_
  refine tCa (l := xk_160) rfl rfl (hInvV (c := 10) hs rfl rfl rfl rfl rfl (Nat.le_of_ble_eq_true rfl) (Nat.le_of_ble_eq_true rfl)) ?_
  refine s157n h hok hw (fun ph1 k1 f1 hsg e9 => ?_)
  refine tKv ?_
  refine tIf_eq (l := xk_160) (pc' := 12) rfl rfl rfl (fun hc => ?_) (fun hc => ?_)
  · refine tK (l := xk_160) rfl rfl (fun _ _ _ _ _ => rfl) ?_
    refine tCa (l := xk_160) rfl rfl (hInvV (c := 10) k1.1 rfl rfl rfl rfl rfl (Nat.le_of_ble_eq_true rfl) (Nat.le_of_ble_eq_true rfl)) ?_
    refine s147n k1 (show (1 : Int) ≠ 0 by decide) (fun ph2 k2 e0 f2 => ?_)
    refine tKv ?_
    refine tIf_eq (l := xk_160) (pc' := 26) rfl rfl rfl (fun hc => ?_) (fun hc => ?_)
    · refine tK (l := xk_160) rfl rfl (fun _ _ _ _ _ => rfl) ?_
      refine tRt (l := xk_160) rfl rfl (fun _ _ _ _ _ => rfl) ?_
      exact hQ ph2 k2 e0 (f1.mo.trans f2.mo)
    · exact absurd rfl hc
  · exact absurd rfl hc
theorem m161n (h : hMm zs ph c) (hok : oks c.1) (hw : pWh c.1 = false) (hQ : ∀ ph2, hMm zs ph2 c → hRd ph2 147 0 = 1 → hFd moP ph ph2 → Q (.inl (some (.inl 0)), ph2, g)) : xTC (d + 6) 161 [.inr (.inl (some 147))] ph g Q := by
  have hs := h.1
  refine tEn (ls := [some (.inr (.inl (some 147)))]) (fun k => by match k with | 0 => rfl | k + 1 => rfl) ?_
  refine tK (l := xk_161) rfl rfl (fun _ _ _ _ _ => rfl) ?_
  refine tK (l := xk_161) rfl rfl (fun _ _ _ _ _ => rfl) ?_
  refine tCa (l := xk_161) rfl rfl (hInvV (c := 10) hs rfl rfl rfl rfl rfl (Nat.le_of_ble_eq_true rfl) (Nat.le_of_ble_eq_true rfl)) ?_
  refine s157n h hok hw (fun ph1 k1 f1 hsg e9 => ?_)
  refine tKv ?_
  refine tIf_eq (l := xk_161) (pc' := 12) rfl rfl rfl (fun hc => ?_) (fun hc => ?_)
  · refine tK (l := xk_161) rfl rfl (fun _ _ _ _ _ => rfl) ?_
    refine tCa (l := xk_161) rfl rfl (hInvV (c := 10) k1.1 rfl rfl rfl rfl rfl (Nat.le_of_ble_eq_true rfl) (Nat.le_of_ble_eq_true rfl)) ?_
    refine s147n k1 (show (1 : Int) ≠ 0 by decide) (fun ph2 k2 e0 f2 => ?_)
    refine tKv ?_
    refine tIf_eq (l := xk_161) (pc' := 26) rfl rfl rfl (fun hc => ?_) (fun hc => ?_)
    · refine tK (l := xk_161) rfl rfl (fun _ _ _ _ _ => rfl) ?_
      refine tRt (l := xk_161) rfl rfl (fun _ _ _ _ _ => rfl) ?_
      exact hQ ph2 k2 e0 (f1.mo.trans f2.mo)
    · exact absurd rfl hc
  · exact absurd rfl hc
theorem m162n (h : hMm zs ph c) (hok : oks c.1) (hw : pWh c.1 = false) (hQ : ∀ ph2, hMm zs ph2 c → hRd ph2 147 0 = 1 → hFd moP ph ph2 → Q (.inl (some (.inl 0)), ph2, g)) : xTC (d + 6) 162 [.inr (.inl (some 147))] ph g Q := by
  have hs := h.1
  refine tEn (ls := [some (.inr (.inl (some 147)))]) (fun k => by match k with | 0 => rfl | k + 1 => rfl) ?_
  refine tK (l := xk_162) rfl rfl (fun _ _ _ _ _ => rfl) ?_
  refine tK (l := xk_162) rfl rfl (fun _ _ _ _ _ => rfl) ?_
  refine tCa (l := xk_162) rfl rfl (hInvV (c := 10) hs rfl rfl rfl rfl rfl (Nat.le_of_ble_eq_true rfl) (Nat.le_of_ble_eq_true rfl)) ?_
  refine s157n h hok hw (fun ph1 k1 f1 hsg e9 => ?_)
  refine tKv ?_
  refine tIf_eq (l := xk_162) (pc' := 12) rfl rfl rfl (fun hc => ?_) (fun hc => ?_)
  · refine tK (l := xk_162) rfl rfl (fun _ _ _ _ _ => rfl) ?_
    refine tCa (l := xk_162) rfl rfl (hInvV (c := 10) k1.1 rfl rfl rfl rfl rfl (Nat.le_of_ble_eq_true rfl) (Nat.le_of_ble_eq_true rfl)) ?_
    refine s147n k1 (show (1 : Int) ≠ 0 by decide) (fun ph2 k2 e0 f2 => ?_)
    refine tKv ?_
    refine tIf_eq (l := xk_162) (pc' := 26) rfl rfl rfl (fun hc => ?_) (fun hc => ?_)
    · refine tK (l := xk_162) rfl rfl (fun _ _ _ _ _ => rfl) ?_
      refine tRt (l := xk_162) rfl rfl (fun _ _ _ _ _ => rfl) ?_
      exact hQ ph2 k2 e0 (f1.mo.trans f2.mo)
    · exact absurd rfl hc
  · exact absurd rfl hc
theorem m215n (h : hMm zs ph c) (hok : oks c.1) (hw : pWh c.1 = false) (hQ : ∀ ph2, hMm zs ph2 c → hRd ph2 147 0 = 1 → hFd moP ph ph2 → Q (.inl (some (.inl 0)), ph2, g)) : xTC (d + 6) 215 [.inr (.inl (some 147))] ph g Q := by
  have hs := h.1
  refine tEn (ls := [some (.inr (.inl (some 147)))]) (fun k => by match k with | 0 => rfl | k + 1 => rfl) ?_
  refine tK (l := xk_215) rfl rfl (fun _ _ _ _ _ => rfl) ?_
  refine tK (l := xk_215) rfl rfl (fun _ _ _ _ _ => rfl) ?_
  refine tCa (l := xk_215) rfl rfl (hInvV (c := 10) hs rfl rfl rfl rfl rfl (Nat.le_of_ble_eq_true rfl) (Nat.le_of_ble_eq_true rfl)) ?_
  refine s157n h hok hw (fun ph1 k1 f1 hsg e9 => ?_)
  refine tKv ?_
  refine tIf_eq (l := xk_215) (pc' := 12) rfl rfl rfl (fun hc => ?_) (fun hc => ?_)
  · refine tK (l := xk_215) rfl rfl (fun _ _ _ _ _ => rfl) ?_
    refine tCa (l := xk_215) rfl rfl (hInvV (c := 10) k1.1 rfl rfl rfl rfl rfl (Nat.le_of_ble_eq_true rfl) (Nat.le_of_ble_eq_true rfl)) ?_
    refine s147n k1 (show (1 : Int) ≠ 0 by decide) (fun ph2 k2 e0 f2 => ?_)
    refine tKv ?_
    refine tIf_eq (l := xk_215) (pc' := 27) rfl rfl rfl (fun hc => ?_) (fun hc => ?_)
    · refine tK (l := xk_215) rfl rfl (fun _ _ _ _ _ => rfl) ?_
      refine tRt (l := xk_215) rfl rfl (fun _ _ _ _ _ => rfl) ?_
      exact hQ ph2 k2 e0 (f1.mo.trans f2.mo)
    · exact absurd rfl hc
  · exact absurd rfl hc
theorem m218n (h : hMm zs ph c) (hok : oks c.1) (hw : pWh c.1 = false) (hQ : ∀ ph2, hMm zs ph2 c → hRd ph2 147 0 = 1 → hFd moP ph ph2 → Q (.inl (some (.inl 0)), ph2, g)) : xTC (d + 6) 218 [.inr (.inl (some 147))] ph g Q := by
  have hs := h.1
  refine tEn (ls := [some (.inr (.inl (some 147)))]) (fun k => by match k with | 0 => rfl | k + 1 => rfl) ?_
  refine tK (l := xk_218) rfl rfl (fun _ _ _ _ _ => rfl) ?_
  refine tK (l := xk_218) rfl rfl (fun _ _ _ _ _ => rfl) ?_
  refine tCa (l := xk_218) rfl rfl (hInvV (c := 10) hs rfl rfl rfl rfl rfl (Nat.le_of_ble_eq_true rfl) (Nat.le_of_ble_eq_true rfl)) ?_
  refine s157n h hok hw (fun ph1 k1 f1 hsg e9 => ?_)
  refine tKv ?_
  refine tIf_eq (l := xk_218) (pc' := 12) rfl rfl rfl (fun hc => ?_) (fun hc => ?_)
  · refine tK (l := xk_218) rfl rfl (fun _ _ _ _ _ => rfl) ?_
    refine tCa (l := xk_218) rfl rfl (hInvV (c := 10) k1.1 rfl rfl rfl rfl rfl (Nat.le_of_ble_eq_true rfl) (Nat.le_of_ble_eq_true rfl)) ?_
    refine s147n k1 (show (1 : Int) ≠ 0 by decide) (fun ph2 k2 e0 f2 => ?_)
    refine tKv ?_
    refine tIf_eq (l := xk_218) (pc' := 26) rfl rfl rfl (fun hc => ?_) (fun hc => ?_)
    · refine tK (l := xk_218) rfl rfl (fun _ _ _ _ _ => rfl) ?_
      refine tRt (l := xk_218) rfl rfl (fun _ _ _ _ _ => rfl) ?_
      exact hQ ph2 k2 e0 (f1.mo.trans f2.mo)
    · exact absurd rfl hc
  · exact absurd rfl hc
theorem m185n (h : hMm zs ph c) (hok : oks c.1) (hw : pWh c.1 = false) (hQ : ∀ ph2, hMm zs ph2 c → hRd ph2 147 0 = 1 → hFd moP ph ph2 → Q (.inl (some (.inl 0)), ph2, g)) : xTC (d + 6) 185 [.inr (.inl (some 147))] ph g Q := by
  have hs := h.1
  refine tEn (ls := [some (.inr (.inl (some 147))), none]) (fun k => by match k with | 0 => rfl | 1 => rfl | k + 2 => rfl) ?_
  refine tK (l := xk_185) rfl rfl (fun _ _ _ _ _ => rfl) ?_
  refine tK (l := xk_185) rfl rfl (fun _ _ _ _ _ => rfl) ?_
  refine tCa (l := xk_185) rfl rfl (hInvV (c := 10) hs rfl rfl rfl rfl rfl (Nat.le_of_ble_eq_true rfl) (Nat.le_of_ble_eq_true rfl)) ?_
  refine s157n h hok hw (fun ph1 k1 f1 hsg e9 => ?_)
  refine tKv ?_
  refine tIf_eq (l := xk_185) (pc' := 12) rfl rfl rfl (fun hc => ?_) (fun hc => ?_)
  · refine tK (l := xk_185) rfl rfl (fun _ _ _ _ _ => rfl) ?_
    refine tCa (l := xk_185) rfl rfl (hInvV (c := 10) k1.1 rfl rfl rfl rfl rfl (Nat.le_of_ble_eq_true rfl) (Nat.le_of_ble_eq_true rfl)) ?_
    refine s147n k1 (show (1 : Int) ≠ 0 by decide) (fun ph2 k2 e0 f2 => ?_)
    refine tKv ?_
    refine tIf_ne (l := xk_185) (pc' := 21) rfl rfl rfl (fun hc => ?_) (fun hc => ?_)
    · refine tK (l := xk_185) rfl rfl (fun _ _ _ _ _ => rfl) ?_
      refine tRt (l := xk_185) rfl rfl (fun _ _ _ _ _ => rfl) ?_
      exact hQ ph2 k2 e0 (f1.mo.trans f2.mo)
    · exact absurd rfl hc
  · exact absurd rfl hc
end MC1
