/-! ===== the model's state ===== -/
def hSs (ph : xH) (a o : Nat) (st : SS) : Prop := (∀ v, v < 8 → hMv ph a (o + 25 * v) (st.1 v)) ∧ (hRd ph a (o + 200) = (st.2.1.1.length : Int) ∧ st.2.1.1.length ≤ 200 ∧ ∀ (i : Nat) (c : Int), st.2.1.1[i]? = some c → hRd ph a (o + 201 + i) = c) ∧ hRd ph a (o + 401) = st.2.1.2.1 ∧ (hRd ph a (o + 402) = (st.2.1.2.2.1.length : Int) ∧ st.2.1.2.2.1.length ≤ 5 ∧ ∀ (i : Nat) (c : Int), st.2.1.2.2.1[i]? = some c → hRd ph a (o + 403 + i) = c) ∧
  hRd ph a (o + 409) = st.2.1.2.2.2.1 ∧ hRd ph a (o + 410) = st.2.1.2.2.2.2.1 ∧ hRd ph a (o + 411) = st.2.1.2.2.2.2.2.1 ∧ hRd ph a (o + 412) = st.2.1.2.2.2.2.2.2 ∧ hRd ph a (o + 413) = st.2.2.1 ∧ hRd ph a (o + 414) = st.2.2.2.1 ∧ hRd ph a (o + 415) = st.2.2.2.2
theorem hMv.cp {ph ph2 : xH} {a o b p : Nat} {v : Option (List Int)} (h : hMv ph a o v) (he : ∀ j, j ≤ 24 → hRd ph2 b (p + j) = hRd ph a (o + j)) : hMv ph2 b p v := by
  refine ⟨(he 0 (by omega)).trans h.1, fun s hs => ?_⟩
  obtain ⟨h1, h2⟩ := h.2 s hs
  refine ⟨h1, fun i c hi => ?_⟩
  have := (List.getElem?_eq_some_iff.mp hi).1
  rw [Nat.add_assoc, he (1 + i) (by omega), ← Nat.add_assoc]
  exact h2 i c hi
theorem hSs.cp {ph ph2 : xH} {a o b p : Nat} {st : SS} (h : hSs ph a o st) (he : ∀ j, j < 416 → hRd ph2 b (p + j) = hRd ph a (o + j)) : hSs ph2 b p st := by
  obtain ⟨h1, ⟨h2, h3, h4⟩, h5, ⟨h6, h7, h8⟩, h9, h10, h11, h12, h13, h14, h15⟩ := h
  refine ⟨fun v hv => (h1 v hv).cp (fun j hj => ?_), ⟨by rw [he _ (by omega)]; exact h2, h3, fun i c hi => ?_⟩, by rw [he _ (by omega)]; exact h5, ⟨by rw [he _ (by omega)]; exact h6, h7, fun i c hi => ?_⟩, by rw [he _ (by omega)]; exact h9, by rw [he _ (by omega)]; exact h10, by rw [he _ (by omega)]; exact h11, by rw [he _ (by omega)]; exact h12, by rw [he _ (by omega)]; exact h13, by rw [he _ (by omega)]; exact h14, by rw [he _ (by omega)]; exact h15⟩
  · rw [Nat.add_assoc, he _ (by omega), ← Nat.add_assoc]
  · have := (List.getElem?_eq_some_iff.mp hi).1
    rw [Nat.add_assoc, he _ (by omega), ← Nat.add_assoc]; exact h4 i c hi
  · have := (List.getElem?_eq_some_iff.mp hi).1
    rw [Nat.add_assoc, he _ (by omega), ← Nat.add_assoc]; exact h8 i c hi
def hMm (zs : List xV) (ph : xH) (c : KS) : Prop := hSh zs ph ∧ hSs ph 148 0 c.2.1 ∧ (hRd ph 147 3 = (c.2.2.2.length : Int) ∧ c.2.2.2.length ≤ 6 ∧ ∀ (k : Nat) (st : SS), c.2.2.2[k]? = some st → hSs ph 149 (416 * k) st) ∧ (hRd ph 147 5 = (if c.2.2.1.isSome = true then 1 else 0) ∧ ∀ st, c.2.2.1 = some st → hSs ph 150 0 st) ∧ (hRd ph 147 7 = (c.1.length : Int) ∧ c.1.length ≤ 60 ∧ ∀ (i : Nat) (x : Int), c.1[i]? = some x → hRd ph 151 i = x)
def moP (a : Nat) : Prop := 147 ≤ a ∧ a ≤ 167
theorem hFM.mo {F S : List Nat} {pha phb : xH} (h : hFM F S pha phb) (hS : ∀ a ∈ S, 147 ≤ a ∧ a ≤ 167 := by decide) : hFd moP pha phb := h.1.fd (fun a ha => by
  rcases List.mem_cons.mp ha with rfl | ha
  · exact ⟨by decide, by decide⟩
  · exact hS a ha)
section MSS
variable {d : Nat} {ph : xH} {zs : List xV} {g : Nat} {Q : xR → Prop} {c : KS}
theorem hMm.fr {F S : List Nat} {ph2 : xH} (h : hMm zs ph c) (hs : hSh zs ph2) (hf : hFM F S ph ph2) (hF : ∀ k ∈ [3, 5, 7], k ∉ F := by decide) (hS : ∀ a ∈ [148, 149, 150, 151], a ∉ 147 :: S := by decide) : hMm zs ph2 c := by
  obtain ⟨-, h1, ⟨h2, h3, h4⟩, ⟨h5, h6⟩, ⟨h7, h8, h9⟩⟩ := h
  exact ⟨hs, h1.cp (fun j _ => hf.at (hS _ (by decide)) _), ⟨by rw [hf.fl (hF _ (by decide))]; exact h2, h3, fun k st hk => (h4 k st hk).cp (fun j _ => hf.at (hS _ (by decide)) _)⟩, ⟨by rw [hf.fl (hF _ (by decide))]; exact h5, fun st hst => (h6 st hst).cp (fun j _ => hf.at (hS _ (by decide)) _)⟩, ⟨by rw [hf.fl (hF _ (by decide))]; exact h7, h8, fun i x hx => by rw [hf.at (hS _ (by decide))]; exact h9 i x hx⟩⟩
theorem hSzS : hSz 148 = 416 ∧ hSz 149 = 2496 ∧ hSz 150 = 416 ∧ hSz 151 = 60 := by decide +kernel
theorem hMm.thr {x : Int} (h : hMm zs ph c) : hMm zs (hUp ph 147 0 x) c ∧ hRd (hUp ph 147 0 x) 147 0 = x ∧ hFM [0] [] ph (hUp ph 147 0 x) := by
  have hs := h.1
  have f : hFM [0] [] ph (hUp ph 147 0 x) := hFM_f hs rfl (by decide) (by decide)
  exact ⟨h.fr (hShI1 _ hs rfl rfl) f, by rw [hRd_up hs rfl (by decide), if_pos ⟨rfl, rfl⟩], f⟩
theorem s147z (h : hMm zs ph c) (hQ : ∀ ph2, hMm zs ph2 c → hRd ph2 147 0 = 0 → hFM [0] [] ph ph2 → Q (.inl (some (.inl 1)), ph2, g)) : xTC d 147 [.inr (.inl (some 147)), .inl 0] ph g Q := by
  have hs := h.1
  obtain ⟨k1, k2, k3⟩ := h.thr (x := 0)
  refine tEn (ls := [some (.inr (.inl (some 147))), some (.inl 0)]) (fun k => by match k with | 0 => rfl | 1 => rfl | k + 2 => rfl) ?_
  refine tK (l := xk_147) rfl rfl (fun _ _ _ _ _ => rfl) ?_
  refine tK (l := xk_147) rfl rfl (fun _ _ _ _ _ => rfl) ?_
  refine tK (l := xk_147) rfl rfl (hPutV hs rfl rfl (by decide) (by decide) rfl) ?_
  refine tK (l := xk_147) rfl rfl (fun _ _ _ _ _ => rfl) ?_
  refine tIf_ne (l := xk_147) (pc' := 13) rfl rfl rfl (fun hc => ?_) (fun hc => ?_)
  · refine tK (l := xk_147) rfl rfl (fun _ _ _ _ _ => rfl) ?_
    refine tK (l := xk_147) rfl rfl (fun _ _ _ _ _ => rfl) ?_
    refine tRt (l := xk_147) rfl rfl (fun _ _ _ _ _ => rfl) ?_
    exact hQ _ k1 k2 k3
  · exact absurd rfl hc
theorem s147n (h : hMm zs ph c) {x : Int} (hx : x ≠ 0) (hQ : ∀ ph2, hMm zs ph2 c → hRd ph2 147 0 = x → hFM [0] [] ph ph2 → Q (.inl (some (.inl 0)), ph2, g)) : xTC d 147 [.inr (.inl (some 147)), .inl x] ph g Q := by
  have hs := h.1
  obtain ⟨k1, k2, k3⟩ := h.thr (x := x)
  refine tEn (ls := [some (.inr (.inl (some 147))), some (.inl x)]) (fun k => by match k with | 0 => rfl | 1 => rfl | k + 2 => rfl) ?_
  refine tK (l := xk_147) rfl rfl (fun _ _ _ _ _ => rfl) ?_
  refine tK (l := xk_147) rfl rfl (fun _ _ _ _ _ => rfl) ?_
  refine tK (l := xk_147) rfl rfl (hPutV hs rfl rfl (by decide) (by decide) rfl) ?_
  refine tK (l := xk_147) rfl rfl (fun _ _ _ _ _ => rfl) ?_
  refine tIf_ne (l := xk_147) (pc' := 13) rfl rfl rfl (fun hc => ?_) (fun hc => ?_)
  · exact absurd hc hx
  · refine tK (l := xk_147) rfl rfl (fun _ _ _ _ _ => rfl) ?_
    refine tRt (l := xk_147) rfl rfl (fun _ _ _ _ _ => rfl) ?_
    exact hQ _ k1 k2 k3
theorem s164 {n : Nat} (hn : n < 8) (hQ : Q (.inl (some (.inl 1)), ph, g)) : xTC (d + 1) 164 [.inl (n : Int)] ph g Q := by
  refine tEn (ls := [some (.inl (n : Int))]) (fun k => by match k with | 0 => rfl | k + 1 => rfl) ?_
  refine tK (l := xk_164) rfl rfl (fun _ _ _ _ _ => rfl) ?_
  refine tK (l := xk_164) rfl rfl (fun _ _ _ _ _ => rfl) ?_
  refine tK (l := xk_164) rfl rfl (fun _ _ _ _ _ => rfl) ?_
  refine tCa (l := xk_164) rfl rfl (hInvS rfl rfl rfl rfl (Nat.le_of_ble_eq_true rfl) (Nat.le_of_ble_eq_true rfl)) ?_
  refine s146 ?_
  refine tKv ?_
  rw [if_pos (by omega)]
  refine tRt (l := xk_164) rfl rfl (fun _ _ _ _ _ => rfl) ?_
  exact hQ
theorem s164x {x : Int} (hx : ¬ (0 ≤ x ∧ x < 8)) (hQ : Q (.inl (some (.inl 0)), ph, g)) : xTC (d + 1) 164 [.inl x] ph g Q := by
  refine tEn (ls := [some (.inl x)]) (fun k => by match k with | 0 => rfl | k + 1 => rfl) ?_
  refine tK (l := xk_164) rfl rfl (fun _ _ _ _ _ => rfl) ?_
  refine tK (l := xk_164) rfl rfl (fun _ _ _ _ _ => rfl) ?_
  refine tK (l := xk_164) rfl rfl (fun _ _ _ _ _ => rfl) ?_
  refine tCa (l := xk_164) rfl rfl (hInvS rfl rfl rfl rfl (Nat.le_of_ble_eq_true rfl) (Nat.le_of_ble_eq_true rfl)) ?_
  refine s146 ?_
  refine tKv ?_
  rw [if_neg (by omega)]
  refine tRt (l := xk_164) rfl rfl (fun _ _ _ _ _ => rfl) ?_
  exact hQ
theorem s165 (h : hMm zs ph c) {n : Nat} (hn : n < 8) (hQ : Q (.inl (some (.inl (hLo (c.2.1.1 n)))), ph, g)) : xTC d 165 [.inr (.inl (some 147)), .inl (n : Int)] ph g Q := by
  have hs := h.1
  obtain ⟨w1, w2, w3, w4⟩ := hSzS
  have e1 : hRd ph 148 (25 * n) = hLo (c.2.1.1 n) := by have := (h.2.1.1 n hn).1; rw [Nat.zero_add] at this; exact this
  refine tEn (ls := [some (.inr (.inl (some 147))), some (.inl (n : Int))]) (fun k => by match k with | 0 => rfl | 1 => rfl | k + 2 => rfl) ?_
  refine tK (l := xk_165) rfl rfl (fun _ _ _ _ _ => rfl) ?_
  refine tK (l := xk_165) rfl rfl (hGetR (o := some 148) hs rfl rfl rfl (by decide) (by decide) rfl) ?_
  refine tK (l := xk_165) rfl rfl (fun _ _ _ _ _ => rfl) ?_
  refine tK (l := xk_165) rfl rfl (fun _ _ _ _ _ => rfl) ?_
  refine tK (l := xk_165) rfl rfl (fun _ _ _ _ _ => rfl) ?_
  refine tK (l := xk_165) rfl rfl (hMul ⟨by omega, by omega⟩) ?_
  refine tK (l := xk_165) rfl rfl (hAdd ⟨by omega, by omega⟩) ?_
  rw [show (0 : Int) + 25 * (n : Int) = ((25 * n : Nat) : Int) by omega]
  first | refine tK (l := xk_165) rfl rfl (hIaldN hs rfl rfl (by omega)) ?_ | refine tK (l := xk_165) rfl rfl (hIald hs rfl (by omega) (by omega)) ?_
  refine tRt (l := xk_165) rfl rfl (fun _ _ _ _ _ => rfl) ?_
  rw [e1]
  exact hQ
theorem s167 (h : hMm zs ph c) {n : Nat} {v : List Int} (hn : n < 8) (hv : c.2.1.1 n = some v) (hQ : Q (.inl (some (.inl 1)), ph, g)) : xTC (d + 1) 167 [.inr (.inl (some 147)), .inl (n : Int)] ph g Q := by
  have hs := h.1
  refine tEn (ls := [some (.inr (.inl (some 147))), some (.inl (n : Int))]) (fun k => by match k with | 0 => rfl | 1 => rfl | k + 2 => rfl) ?_
  refine tK (l := xk_167) rfl rfl (fun _ _ _ _ _ => rfl) ?_
  refine tK (l := xk_167) rfl rfl (fun _ _ _ _ _ => rfl) ?_
  refine tCa (l := xk_167) rfl rfl (hInvV (c := 10) hs rfl rfl rfl rfl rfl (Nat.le_of_ble_eq_true rfl) (Nat.le_of_ble_eq_true rfl)) ?_
  refine s165 h hn ?_
  refine tKv ?_
  rw [hv]
  simp only [hLo]
  refine tIf_lt (l := xk_167) (pc' := 12) rfl rfl rfl (fun hc => ?_) (fun hc => ?_)
  · exfalso; omega
  · refine tK (l := xk_167) rfl rfl (fun _ _ _ _ _ => rfl) ?_
    refine tK (l := xk_167) rfl rfl (fun _ _ _ _ _ => rfl) ?_
    refine tRt (l := xk_167) rfl rfl (fun _ _ _ _ _ => rfl) ?_
    exact hQ
theorem s167n (h : hMm zs ph c) {n : Nat} (hn : n < 8) (hv : c.2.1.1 n = none) (hQ : Q (.inl (some (.inl 0)), ph, g)) : xTC (d + 1) 167 [.inr (.inl (some 147)), .inl (n : Int)] ph g Q := by
  have hs := h.1
  refine tEn (ls := [some (.inr (.inl (some 147))), some (.inl (n : Int))]) (fun k => by match k with | 0 => rfl | 1 => rfl | k + 2 => rfl) ?_
  refine tK (l := xk_167) rfl rfl (fun _ _ _ _ _ => rfl) ?_
  refine tK (l := xk_167) rfl rfl (fun _ _ _ _ _ => rfl) ?_
  refine tCa (l := xk_167) rfl rfl (hInvV (c := 10) hs rfl rfl rfl rfl rfl (Nat.le_of_ble_eq_true rfl) (Nat.le_of_ble_eq_true rfl)) ?_
  refine s165 h hn ?_
  refine tKv ?_
  rw [hv]
  simp only [hLo]
  refine tIf_lt (l := xk_167) (pc' := 12) rfl rfl rfl (fun hc => ?_) (fun hc => ?_)
  · refine tK (l := xk_167) rfl rfl (fun _ _ _ _ _ => rfl) ?_
    refine tRt (l := xk_167) rfl rfl (fun _ _ _ _ _ => rfl) ?_
    exact hQ
  · exact absurd (by decide) hc
theorem s169x {x : Int} (hs : hSh zs ph) (hx : ¬ (0 ≤ x ∧ x < 8)) (hQ : Q (.inl (some (.inl 1)), ph, g)) : xTC (d + 2) 169 [.inr (.inl (some 147)), .inl x] ph g Q := by
  refine tEn (ls := [some (.inr (.inl (some 147))), some (.inl x)]) (fun k => by match k with | 0 => rfl | 1 => rfl | k + 2 => rfl) ?_
  refine tK (l := xk_169) rfl rfl (fun _ _ _ _ _ => rfl) ?_
  refine tCa (l := xk_169) rfl rfl (hInvS rfl rfl rfl rfl (Nat.le_of_ble_eq_true rfl) (Nat.le_of_ble_eq_true rfl)) ?_
  refine s164x hx ?_
  refine tKv ?_
  refine tIf_ne (l := xk_169) (pc' := 11) rfl rfl rfl (fun hc => ?_) (fun hc => ?_)
  · refine tK (l := xk_169) rfl rfl (fun _ _ _ _ _ => rfl) ?_
    refine tK (l := xk_169) rfl rfl (fun _ _ _ _ _ => rfl) ?_
    refine tRt (l := xk_169) rfl rfl (fun _ _ _ _ _ => rfl) ?_
    exact hQ
  · exact absurd rfl hc
theorem s169 (h : hMm zs ph c) {n : Nat} {v : List Int} (hn : n < 8) (hv : c.2.1.1 n = some v) (hQ : Q (.inl (some (.inl 0)), ph, g)) : xTC (d + 2) 169 [.inr (.inl (some 147)), .inl (n : Int)] ph g Q := by
  have hs := h.1
  refine tEn (ls := [some (.inr (.inl (some 147))), some (.inl (n : Int))]) (fun k => by match k with | 0 => rfl | 1 => rfl | k + 2 => rfl) ?_
  refine tK (l := xk_169) rfl rfl (fun _ _ _ _ _ => rfl) ?_
  refine tCa (l := xk_169) rfl rfl (hInvS rfl rfl rfl rfl (Nat.le_of_ble_eq_true rfl) (Nat.le_of_ble_eq_true rfl)) ?_
  refine s164 hn ?_
  refine tKv ?_
  refine tIf_ne (l := xk_169) (pc' := 11) rfl rfl rfl (fun hc => ?_) (fun hc => ?_)
  · exact absurd hc (by decide)
  · refine tK (l := xk_169) rfl rfl (fun _ _ _ _ _ => rfl) ?_
    refine tK (l := xk_169) rfl rfl (fun _ _ _ _ _ => rfl) ?_
    refine tCa (l := xk_169) rfl rfl (hInvV (c := 10) hs rfl rfl rfl rfl rfl (Nat.le_of_ble_eq_true rfl) (Nat.le_of_ble_eq_true rfl)) ?_
    refine s167 h hn hv ?_
    refine tKv ?_
    refine tIf_eq (l := xk_169) (pc' := 23) rfl rfl rfl (fun hc => ?_) (fun hc => ?_)
    · exact absurd hc (by decide)
    · refine tK (l := xk_169) rfl rfl (fun _ _ _ _ _ => rfl) ?_
      refine tK (l := xk_169) rfl rfl (fun _ _ _ _ _ => rfl) ?_
      refine tRt (l := xk_169) rfl rfl (fun _ _ _ _ _ => rfl) ?_
      exact hQ
theorem s169n (h : hMm zs ph c) {n : Nat} (hn : n < 8) (hv : c.2.1.1 n = none) (hQ : Q (.inl (some (.inl 2)), ph, g)) : xTC (d + 2) 169 [.inr (.inl (some 147)), .inl (n : Int)] ph g Q := by
  have hs := h.1
  refine tEn (ls := [some (.inr (.inl (some 147))), some (.inl (n : Int))]) (fun k => by match k with | 0 => rfl | 1 => rfl | k + 2 => rfl) ?_
  refine tK (l := xk_169) rfl rfl (fun _ _ _ _ _ => rfl) ?_
  refine tCa (l := xk_169) rfl rfl (hInvS rfl rfl rfl rfl (Nat.le_of_ble_eq_true rfl) (Nat.le_of_ble_eq_true rfl)) ?_
  refine s164 hn ?_
  refine tKv ?_
  refine tIf_ne (l := xk_169) (pc' := 11) rfl rfl rfl (fun hc => ?_) (fun hc => ?_)
  · exact absurd hc (by decide)
  · refine tK (l := xk_169) rfl rfl (fun _ _ _ _ _ => rfl) ?_
    refine tK (l := xk_169) rfl rfl (fun _ _ _ _ _ => rfl) ?_
    refine tCa (l := xk_169) rfl rfl (hInvV (c := 10) hs rfl rfl rfl rfl rfl (Nat.le_of_ble_eq_true rfl) (Nat.le_of_ble_eq_true rfl)) ?_
    refine s167n h hn hv ?_
    refine tKv ?_
    refine tIf_eq (l := xk_169) (pc' := 23) rfl rfl rfl (fun hc => ?_) (fun hc => ?_)
    · refine tK (l := xk_169) rfl rfl (fun _ _ _ _ _ => rfl) ?_
      refine tRt (l := xk_169) rfl rfl (fun _ _ _ _ _ => rfl) ?_
      exact hQ
    · exact absurd rfl hc
theorem s166r {l : List SS} {st : SS} (hs : hSh zs ph) (hst : hSs ph 148 0 st) (h3 : hRd ph 147 3 = (l.length : Int)) (hl : l.length < 6) (hh : ∀ (k : Nat) (s : SS), l[k]? = some s → hSs ph 149 (416 * k) s) (hQ : ∀ ph2, hSh zs ph2 → hFM [3] [149] ph ph2 → hRd ph2 147 3 = ((l ++ [st]).length : Int) → (∀ (k : Nat) (s : SS), (l ++ [st])[k]? = some s → hSs ph2 149 (416 * k) s) → Q (.inl none, ph2, g)) : xT (d + 1) 166 50 (xlo [some (.inr (.inl (some 147))), none]) [] ph g Q ∧ ∀ i : Int, xT (d + 1) 166 50 (xlo [some (.inr (.inl (some 147))), some (.inl i)]) [] ph g Q := by
  obtain ⟨w1, w2, w3, w4⟩ := hSzS
  have loop : ∀ (m i : Nat) (phi : xH), i + m = 416 → hSh zs phi → hFM [] [149] ph phi → (∀ j, j < 416 * l.length → hRd phi 149 j = hRd ph 149 j) → (∀ j, j < i → hRd phi 149 (416 * l.length + j) = hRd ph 148 j) → xT (d + 1) 166 52 (xlo [some (.inr (.inl (some 147))), some (.inl (i : Int))]) [] phi g Q := by
    intro m
    induction m with
    | zero =>
      intro i phi him hs hf hlow hnew
      have e3 : hRd phi 147 3 = (l.length : Int) := by rw [hf.fl (by decide)]; exact h3
      refine tK (l := xk_166) rfl rfl (fun _ _ _ _ _ => rfl) ?_
      refine tK (l := xk_166) rfl rfl (fun _ _ _ _ _ => rfl) ?_
      refine tIc_ge (l := xk_166) (pc' := 86) rfl rfl rfl (fun hc => ?_) (fun hc => ?_)
      · exfalso; omega
      · refine tK (l := xk_166) rfl rfl (fun _ _ _ _ _ => rfl) ?_
        refine tK (l := xk_166) rfl rfl (fun _ _ _ _ _ => rfl) ?_
        refine tK (l := xk_166) rfl rfl (hGetI hs rfl rfl rfl (by decide) (by decide)) ?_
        rw [e3]
        refine tK (l := xk_166) rfl rfl (fun _ _ _ _ _ => rfl) ?_
        refine tK (l := xk_166) rfl rfl (hAdd ⟨by omega, by omega⟩) ?_
        refine tK (l := xk_166) rfl rfl (hPutV hs rfl rfl (by decide) (by decide) rfl) ?_
        refine tRt (l := xk_166) rfl rfl (fun _ _ _ _ _ => rfl) ?_
        have f2 : hFM [3] [] phi (hUp phi 147 3 ((l.length : Int) + 1)) := hFM_f hs rfl (by decide) (by decide)
        refine hQ _ (hShI1 _ hs rfl rfl) ((hf.mono (by decide) (by decide)).trans (f2.mono (by decide) (by decide))) (by rw [hRd_up hs rfl (by decide), if_pos ⟨rfl, rfl⟩]; simp) (fun k s hk => ?_)
        by_cases e : k < l.length
        · rw [List.getElem?_append_left e] at hk
          exact (hh k s hk).cp (fun j hj => by rw [f2.at (by decide)]; exact hlow _ (by omega))
        · rw [List.getElem?_append_right (by omega)] at hk
          have hk9 := (List.getElem?_eq_some_iff.mp hk).1
          simp only [List.length_cons, List.length_nil] at hk9
          rw [show k - l.length = 0 by omega] at hk
          simp only [List.getElem?_cons_zero, Option.some.injEq] at hk
          subst hk
          exact hst.cp (fun j hj => by rw [f2.at (by decide), show k = l.length by omega, hnew j (by omega), Nat.zero_add])
    | succ m ih =>
      intro i phi him hs hf hlow hnew
      have e3 : hRd phi 147 3 = (l.length : Int) := by rw [hf.fl (by decide)]; exact h3
      have e48 : hRd phi 148 i = hRd ph 148 i := by rw [hf.at (by decide)]
      refine tK (l := xk_166) rfl rfl (fun _ _ _ _ _ => rfl) ?_
      refine tK (l := xk_166) rfl rfl (fun _ _ _ _ _ => rfl) ?_
      refine tIc_ge (l := xk_166) (pc' := 86) rfl rfl rfl (fun hc => ?_) (fun hc => ?_)
      · refine tK (l := xk_166) rfl rfl (fun _ _ _ _ _ => rfl) ?_
        refine tK (l := xk_166) rfl rfl (hGetR (o := some 149) hs rfl rfl rfl (by decide) (by decide) rfl) ?_
        refine tK (l := xk_166) rfl rfl (fun _ _ _ _ _ => rfl) ?_
        refine tK (l := xk_166) rfl rfl (fun _ _ _ _ _ => rfl) ?_
        refine tK (l := xk_166) rfl rfl (hGetI hs rfl rfl rfl (by decide) (by decide)) ?_
        rw [e3]
        refine tK (l := xk_166) rfl rfl (hMul ⟨by omega, by omega⟩) ?_
        refine tK (l := xk_166) rfl rfl (fun _ _ _ _ _ => rfl) ?_
        refine tK (l := xk_166) rfl rfl (hAdd ⟨by omega, by omega⟩) ?_
        rw [show (416 : Int) * (l.length : Int) + (i : Int) = ((416 * l.length + i : Nat) : Int) by omega]
        refine tK (l := xk_166) rfl rfl (fun _ _ _ _ _ => rfl) ?_
        refine tK (l := xk_166) rfl rfl (hGetR (o := some 148) hs rfl rfl rfl (by decide) (by decide) rfl) ?_
        refine tK (l := xk_166) rfl rfl (fun _ _ _ _ _ => rfl) ?_
        first | refine tK (l := xk_166) rfl rfl (hIaldN hs rfl rfl (by omega)) ?_ | refine tK (l := xk_166) rfl rfl (hIald hs rfl (by omega) (by omega)) ?_
        rw [e48]
        first | refine tK (l := xk_166) rfl rfl (hIastN hs rfl rfl (by omega)) ?_ | refine tK (l := xk_166) rfl rfl (hIast hs rfl (by omega) (by omega)) ?_
        refine tSt (l := xk_166) rfl rfl (hIinc rfl (Nat.le_of_ble_eq_true rfl) ⟨by omega, by omega⟩) (Nat.le_of_ble_eq_true rfl) ?_
        refine tK (l := xk_166) rfl rfl (fun _ _ _ _ _ => rfl) ?_
        have rd := hRd_up (x := hRd ph 148 i) hs (show hKi (hTg 149) (416 * l.length + i) = true from rfl) (by omega)
        refine ih (i + 1) _ (by omega) (hShI1 _ hs rfl rfl) (hf.trans (hFM_a hs rfl (by omega) (by decide) (by decide))) (fun j hj => by rw [rd, if_neg (by omega)]; exact hlow j hj) (fun j hj => ?_)
        rw [rd]
        by_cases e : j = i
        · rw [if_pos ⟨rfl, by rw [e]⟩, e]
        · rw [if_neg (by omega)]; exact hnew j (by omega)
      · exfalso; omega
  refine ⟨?_, fun i => ?_⟩
  · refine tK (l := xk_166) rfl rfl (fun _ _ _ _ _ => rfl) ?_
    refine tSt (l := xk_166) rfl rfl (fun _ _ _ _ _ => rfl) (Nat.le_of_ble_eq_true rfl) ?_
    exact loop 416 0 ph (by omega) hs hFM.refl (fun _ _ => rfl) (fun j hj => absurd hj (by omega))
  · refine tK (l := xk_166) rfl rfl (fun _ _ _ _ _ => rfl) ?_
    refine tSt (l := xk_166) rfl rfl (fun _ _ _ _ _ => rfl) (Nat.le_of_ble_eq_true rfl) ?_
    exact loop 416 0 ph (by omega) hs hFM.refl (fun _ _ => rfl) (fun j hj => absurd hj (by omega))
theorem s166 (h : hMm zs ph c) (hQ : ∀ ph2, hMm zs ph2 (ndo c c.2.1) → hFM [3] [149] ph ph2 → Q (.inl none, ph2, g)) : xTC (d + 1) 166 [.inr (.inl (some 147))] ph g Q := by
  obtain ⟨w1, w2, w3, w4⟩ := hSzS
  obtain ⟨hs, h1, ⟨h2, h3, h4⟩, ⟨h5, h6⟩, ⟨h7, h8, h9⟩⟩ := id h
  have fin : ∀ ph2, hSh zs ph2 → hFM [3] [149] ph ph2 → hRd ph2 147 3 = ((psh c).length : Int) → (∀ (k : Nat) (s : SS), (psh c)[k]? = some s → hSs ph2 149 (416 * k) s) → Q (.inl none, ph2, g) := by
    intro ph2 hs2 f2 e3 hh
    refine hQ ph2 ⟨hs2, h1.cp (fun j _ => f2.at (by decide) _), ⟨e3, ?_, hh⟩, ⟨by rw [f2.fl (by decide)]; exact h5, fun st hst => (h6 st hst).cp (fun j _ => f2.at (by decide) _)⟩, ⟨by rw [f2.fl (by decide)]; exact h7, h8, fun i x hx => by rw [f2.at (by decide)]; exact h9 i x hx⟩⟩ f2
    show (psh c).length ≤ 6
    unfold psh
    split
    · simp; omega
    · simp; omega
  refine tEn (ls := [some (.inr (.inl (some 147))), none]) (fun k => by match k with | 0 => rfl | 1 => rfl | k + 2 => rfl) ?_
  by_cases hfull : c.2.2.2.length = 6
  · have ep : psh c = c.2.2.2.tail ++ [c.2.1] := by unfold psh; rw [if_pos hfull]
    rw [ep] at fin
    have hlt : c.2.2.2.tail.length = 5 := by rw [List.length_tail]; omega
    have loop : ∀ (m i : Nat) (phi : xH), i + m = 2080 → hSh zs phi → hFM [] [149] ph phi → (∀ j, j < i → hRd phi 149 j = hRd ph 149 (j + 416)) → (∀ j, i ≤ j → hRd phi 149 j = hRd ph 149 j) → xT (d + 1) 166 11 (xlo [some (.inr (.inl (some 147))), some (.inl (i : Int))]) [] phi g Q := by
      intro m
      induction m with
      | zero =>
        intro i phi him hs hf hnew hold
        have e3 : hRd phi 147 3 = 6 := by rw [hf.fl (by decide), h2, hfull]; rfl
        refine tK (l := xk_166) rfl rfl (fun _ _ _ _ _ => rfl) ?_
        refine tK (l := xk_166) rfl rfl (fun _ _ _ _ _ => rfl) ?_
        refine tIc_ge (l := xk_166) (pc' := 40) rfl rfl rfl (fun hc => ?_) (fun hc => ?_)
        · exfalso; omega
        · refine tK (l := xk_166) rfl rfl (fun _ _ _ _ _ => rfl) ?_
          refine tK (l := xk_166) rfl rfl (fun _ _ _ _ _ => rfl) ?_
          refine tK (l := xk_166) rfl rfl (hGetI hs rfl rfl rfl (by decide) (by decide)) ?_
          rw [e3]
          refine tK (l := xk_166) rfl rfl (fun _ _ _ _ _ => rfl) ?_
          refine tK (l := xk_166) rfl rfl (hSub ⟨by omega, by omega⟩) ?_
          refine tK (l := xk_166) rfl rfl (hPutV hs rfl rfl (by decide) (by decide) rfl) ?_
          have f2 : hFM [3] [] phi (hUp phi 147 3 5) := hFM_f hs rfl (by decide) (by decide)
          refine (s166r (l := c.2.2.2.tail) (st := c.2.1) (hShI1 _ hs rfl rfl) (h1.cp (fun j _ => by rw [f2.at (by decide), hf.at (by decide)])) (by rw [hRd_up hs rfl (by decide), if_pos ⟨rfl, rfl⟩, hlt]; rfl) (by omega) (fun k s hk => ?_) (fun ph2 hs2 f3 e3 hh => fin ph2 hs2 (((hf.mono (by decide) (by decide)).trans (f2.mono (by decide) (by decide))).trans f3) e3 hh)).2 _
          have hk9 := (List.getElem?_eq_some_iff.mp hk).1
          rw [List.getElem?_tail] at hk
          exact (h4 (k + 1) s hk).cp (fun j hj => by rw [f2.at (by decide), hnew _ (by omega)]; congr 1; omega)
      | succ m ih =>
        intro i phi him hs hf hnew hold
        have e49 : hRd phi 149 (i + 416) = hRd ph 149 (i + 416) := hold _ (by omega)
        refine tK (l := xk_166) rfl rfl (fun _ _ _ _ _ => rfl) ?_
        refine tK (l := xk_166) rfl rfl (fun _ _ _ _ _ => rfl) ?_
        refine tIc_ge (l := xk_166) (pc' := 40) rfl rfl rfl (fun hc => ?_) (fun hc => ?_)
        · refine tK (l := xk_166) rfl rfl (fun _ _ _ _ _ => rfl) ?_
          refine tK (l := xk_166) rfl rfl (hGetR (o := some 149) hs rfl rfl rfl (by decide) (by decide) rfl) ?_
          refine tK (l := xk_166) rfl rfl (fun _ _ _ _ _ => rfl) ?_
          refine tK (l := xk_166) rfl rfl (fun _ _ _ _ _ => rfl) ?_
          refine tK (l := xk_166) rfl rfl (hGetR (o := some 149) hs rfl rfl rfl (by decide) (by decide) rfl) ?_
          refine tK (l := xk_166) rfl rfl (fun _ _ _ _ _ => rfl) ?_
          refine tK (l := xk_166) rfl rfl (fun _ _ _ _ _ => rfl) ?_
          refine tK (l := xk_166) rfl rfl (hAdd ⟨by omega, by omega⟩) ?_
          rw [show (i : Int) + 416 = ((i + 416 : Nat) : Int) by omega]
          first | refine tK (l := xk_166) rfl rfl (hIaldN hs rfl rfl (by omega)) ?_ | refine tK (l := xk_166) rfl rfl (hIald hs rfl (by omega) (by omega)) ?_
          rw [e49]
          first | refine tK (l := xk_166) rfl rfl (hIastN hs rfl rfl (by omega)) ?_ | refine tK (l := xk_166) rfl rfl (hIast hs rfl (by omega) (by omega)) ?_
          refine tSt (l := xk_166) rfl rfl (hIinc rfl (Nat.le_of_ble_eq_true rfl) ⟨by omega, by omega⟩) (Nat.le_of_ble_eq_true rfl) ?_
          refine tK (l := xk_166) rfl rfl (fun _ _ _ _ _ => rfl) ?_
          have rd := hRd_up (x := hRd ph 149 (i + 416)) hs (show hKi (hTg 149) i = true from rfl) (by omega)
          refine ih (i + 1) _ (by omega) (hShI1 _ hs rfl rfl) (hf.trans (hFM_a hs rfl (by omega) (by decide) (by decide))) (fun j hj => ?_) (fun j hj => by rw [rd, if_neg (by omega)]; exact hold j (by omega))
          rw [rd]
          by_cases e : j = i
          · rw [if_pos ⟨rfl, e⟩, e]
          · rw [if_neg (by omega)]; exact hnew j (by omega)
        · exfalso; omega
    refine tK (l := xk_166) rfl rfl (fun _ _ _ _ _ => rfl) ?_
    refine tK (l := xk_166) rfl rfl (hGetI hs rfl rfl rfl (by decide) (by decide)) ?_
    rw [h2]
    refine tK (l := xk_166) rfl rfl (fun _ _ _ _ _ => rfl) ?_
    refine tIc_ne (l := xk_166) (pc' := 50) rfl rfl rfl (fun hc => ?_) (fun hc => ?_)
    · refine tK (l := xk_166) rfl rfl (fun _ _ _ _ _ => rfl) ?_
      refine tSt (l := xk_166) rfl rfl (fun _ _ _ _ _ => rfl) (Nat.le_of_ble_eq_true rfl) ?_
      exact loop 2080 0 ph (by omega) hs hFM.refl (fun j hj => absurd hj (by omega)) (fun _ _ => rfl)
    · exfalso; omega
  · have ep : psh c = c.2.2.2 ++ [c.2.1] := by unfold psh; rw [if_neg hfull]
    rw [ep] at fin
    refine tK (l := xk_166) rfl rfl (fun _ _ _ _ _ => rfl) ?_
    refine tK (l := xk_166) rfl rfl (hGetI hs rfl rfl rfl (by decide) (by decide)) ?_
    rw [h2]
    refine tK (l := xk_166) rfl rfl (fun _ _ _ _ _ => rfl) ?_
    refine tIc_ne (l := xk_166) (pc' := 50) rfl rfl rfl (fun hc => ?_) (fun hc => ?_)
    · exfalso; omega
    · exact (s166r hs h1 h2 (by omega) h4 fin).1
end MSS
