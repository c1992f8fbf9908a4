/-! ===== the model's calls (2) ===== -/
section MC2
variable {d : Nat} {ph : xH} {zs : List xV} {g : Nat} {Q : xR → Prop} {c : KS}
theorem hMm.setv {ph2 : xH} {n : Nat} {v : Option (List Int)} {F : List Nat} (h : hMm zs ph c) (hs : hSh zs ph2) (hn : n < 8) (hf : hFM F [148] ph ph2) (hv : hMv ph2 148 (25 * n) v) (ho : ∀ j, j < 25 * n ∨ 25 * n + 24 < j → hRd ph2 148 j = hRd ph 148 j) (hF : ∀ k ∈ [3, 5, 7], k ∉ F := by decide) : hMm zs ph2 (c.1, setV c.2.1 n v, c.2.2) := by
  obtain ⟨-, ⟨h1, ⟨b2, b3, b4⟩, b5, ⟨b6, b7, b8⟩, b9, b10, b11, b12, b13, b14, b15⟩, ⟨h2, h3, h4⟩, ⟨h5, h6⟩, ⟨h7, h8, h9⟩⟩ := h
  have e : ∀ j, 200 ≤ j → hRd ph2 148 j = hRd ph 148 j := fun j hj => ho j (by omega)
  refine ⟨hs, ⟨fun w hw => ?_, ⟨by rw [e _ (by omega)]; exact b2, b3, fun i x hx => by rw [e _ (by omega)]; exact b4 i x hx⟩, by rw [e _ (by omega)]; exact b5, ⟨by rw [e _ (by omega)]; exact b6, b7, fun i x hx => by rw [e _ (by omega)]; exact b8 i x hx⟩, by rw [e _ (by omega)]; exact b9, by rw [e _ (by omega)]; exact b10, by rw [e _ (by omega)]; exact b11, by rw [e _ (by omega)]; exact b12, by rw [e _ (by omega)]; exact b13, by rw [e _ (by omega)]; exact b14, by rw [e _ (by omega)]; exact b15⟩, ⟨by rw [hf.fl (hF _ (by decide))]; exact h2, h3, fun k st hk => (h4 k st hk).cp (fun j _ => hf.at (by decide) _)⟩, ⟨by rw [hf.fl (hF _ (by decide))]; exact h5, fun st hst => (h6 st hst).cp (fun j _ => hf.at (by decide) _)⟩, ⟨by rw [hf.fl (hF _ (by decide))]; exact h7, h8, fun i x hx => by rw [hf.at (by decide)]; exact h9 i x hx⟩⟩
  simp only [setV]
  rw [Nat.zero_add]
  by_cases en : w = n
  · rw [if_pos en, en]; exact hv
  · rw [if_neg en]
    have := h1 w hw
    rw [Nat.zero_add] at this
    exact this.cp (fun j hj => ho _ (by omega))
theorem m177x (h : hMm zs ph c) {x : Int} (hx : ¬ (0 ≤ x ∧ x < 8)) (hQ : ∀ ph2, hMm zs ph2 c → hRd ph2 147 0 = 1 → hFd moP ph ph2 → Q (.inl (some (.inl 0)), ph2, g)) : xTC (d + 3) 177 [.inr (.inl (some 147)), .inl x] ph g Q := by
  have hs := h.1
  obtain ⟨w1, w2, w3, w4⟩ := hSzS
  refine tEn (ls := [some (.inr (.inl (some 147))), some (.inl x)]) (fun k => by match k with | 0 => rfl | 1 => rfl | k + 2 => rfl) ?_
  refine tK (l := xk_177) rfl rfl (fun _ _ _ _ _ => rfl) ?_
  refine tK (l := xk_177) rfl rfl (fun _ _ _ _ _ => rfl) ?_
  refine tCa (l := xk_177) rfl rfl (hInvS rfl rfl rfl rfl (Nat.le_of_ble_eq_true rfl) (Nat.le_of_ble_eq_true rfl)) ?_
  refine s164x hx ?_
  refine tKv ?_
  refine tIf_eq (l := xk_177) (pc' := 12) rfl rfl rfl (fun hc => ?_) (fun hc => ?_)
  · refine tK (l := xk_177) rfl rfl (fun _ _ _ _ _ => rfl) ?_
    refine tCa (l := xk_177) rfl rfl (hInvV (c := 10) hs rfl rfl rfl rfl rfl (Nat.le_of_ble_eq_true rfl) (Nat.le_of_ble_eq_true rfl)) ?_
    refine s147n h (show (1 : Int) ≠ 0 by decide) (fun ph2 k2 e0 f2 => ?_)
    refine tKv ?_
    refine tIf_eq (l := xk_177) (pc' := 31) rfl rfl rfl (fun hc => ?_) (fun hc => ?_)
    · refine tK (l := xk_177) rfl rfl (fun _ _ _ _ _ => rfl) ?_
      refine tRt (l := xk_177) rfl rfl (fun _ _ _ _ _ => rfl) ?_
      exact hQ ph2 k2 e0 f2.mo
    · exact absurd rfl hc
  · exact absurd rfl hc
theorem m177 (h : hMm zs ph c) {n : Nat} {v : List Int} (hn : n < 8) (hv : c.2.1.1 n = some v) (hQ : ∀ ph2, hMm zs ph2 c → hRd ph2 147 0 = 0 → hFd moP ph ph2 → Q (.inl (some (.inl 1)), ph2, g)) : xTC (d + 3) 177 [.inr (.inl (some 147)), .inl (n : Int)] ph g Q := by
  have hs := h.1
  refine tEn (ls := [some (.inr (.inl (some 147))), some (.inl (n : Int))]) (fun k => by match k with | 0 => rfl | 1 => rfl | k + 2 => rfl) ?_
  refine tK (l := xk_177) rfl rfl (fun _ _ _ _ _ => rfl) ?_
  refine tK (l := xk_177) rfl rfl (fun _ _ _ _ _ => rfl) ?_
  refine tCa (l := xk_177) rfl rfl (hInvS rfl rfl rfl rfl (Nat.le_of_ble_eq_true rfl) (Nat.le_of_ble_eq_true rfl)) ?_
  refine s164 hn ?_
  refine tKv ?_
  refine tIf_eq (l := xk_177) (pc' := 12) rfl rfl rfl (fun hc => ?_) (fun hc => ?_)
  · exact absurd hc (by decide)
  · refine tK (l := xk_177) rfl rfl (fun _ _ _ _ _ => rfl) ?_
    refine tK (l := xk_177) rfl rfl (fun _ _ _ _ _ => rfl) ?_
    refine tCa (l := xk_177) rfl rfl (hInvV (c := 10) hs rfl rfl rfl rfl rfl (Nat.le_of_ble_eq_true rfl) (Nat.le_of_ble_eq_true rfl)) ?_
    refine s147z h (fun ph2 k2 e0 f2 => ?_)
    refine tKv ?_
    refine tIf_eq (l := xk_177) (pc' := 31) rfl rfl rfl (fun hc => ?_) (fun hc => ?_)
    · exact absurd hc (by decide)
    · refine tK (l := xk_177) rfl rfl (fun _ _ _ _ _ => rfl) ?_
      refine tK (l := xk_177) rfl rfl (fun _ _ _ _ _ => rfl) ?_
      refine tCa (l := xk_177) rfl rfl (hInvV (c := 10) k2.1 rfl rfl rfl rfl rfl (Nat.le_of_ble_eq_true rfl) (Nat.le_of_ble_eq_true rfl)) ?_
      refine s167 k2 hn hv ?_
      refine tKv ?_
      refine tIf_eq (l := xk_177) (pc' := 31) rfl rfl rfl (fun hc => ?_) (fun hc => ?_)
      · exact absurd hc (by decide)
      · refine tK (l := xk_177) rfl rfl (fun _ _ _ _ _ => rfl) ?_
        refine tK (l := xk_177) rfl rfl (fun _ _ _ _ _ => rfl) ?_
        refine tRt (l := xk_177) rfl rfl (fun _ _ _ _ _ => rfl) ?_
        exact hQ ph2 k2 e0 f2.mo
theorem m177n (h : hMm zs ph c) {n : Nat} (hn : n < 8) (hv : c.2.1.1 n = none) (hQ : ∀ ph2, hMm zs ph2 c → hRd ph2 147 0 = 0 → hFd moP ph ph2 → Q (.inl (some (.inl 0)), ph2, g)) : xTC (d + 3) 177 [.inr (.inl (some 147)), .inl (n : Int)] ph g Q := by
  have hs := h.1
  refine tEn (ls := [some (.inr (.inl (some 147))), some (.inl (n : Int))]) (fun k => by match k with | 0 => rfl | 1 => rfl | k + 2 => rfl) ?_
  refine tK (l := xk_177) rfl rfl (fun _ _ _ _ _ => rfl) ?_
  refine tK (l := xk_177) rfl rfl (fun _ _ _ _ _ => rfl) ?_
  refine tCa (l := xk_177) rfl rfl (hInvS rfl rfl rfl rfl (Nat.le_of_ble_eq_true rfl) (Nat.le_of_ble_eq_true rfl)) ?_
  refine s164 hn ?_
  refine tKv ?_
  refine tIf_eq (l := xk_177) (pc' := 12) rfl rfl rfl (fun hc => ?_) (fun hc => ?_)
  · exact absurd hc (by decide)
  · refine tK (l := xk_177) rfl rfl (fun _ _ _ _ _ => rfl) ?_
    refine tK (l := xk_177) rfl rfl (fun _ _ _ _ _ => rfl) ?_
    refine tCa (l := xk_177) rfl rfl (hInvV (c := 10) hs rfl rfl rfl rfl rfl (Nat.le_of_ble_eq_true rfl) (Nat.le_of_ble_eq_true rfl)) ?_
    refine s147z h (fun ph2 k2 e0 f2 => ?_)
    refine tKv ?_
    refine tIf_eq (l := xk_177) (pc' := 31) rfl rfl rfl (fun hc => ?_) (fun hc => ?_)
    · exact absurd hc (by decide)
    · refine tK (l := xk_177) rfl rfl (fun _ _ _ _ _ => rfl) ?_
      refine tK (l := xk_177) rfl rfl (fun _ _ _ _ _ => rfl) ?_
      refine tCa (l := xk_177) rfl rfl (hInvV (c := 10) k2.1 rfl rfl rfl rfl rfl (Nat.le_of_ble_eq_true rfl) (Nat.le_of_ble_eq_true rfl)) ?_
      refine s167n k2 hn hv ?_
      refine tKv ?_
      refine tIf_eq (l := xk_177) (pc' := 31) rfl rfl rfl (fun hc => ?_) (fun hc => ?_)
      · refine tK (l := xk_177) rfl rfl (fun _ _ _ _ _ => rfl) ?_
        refine tRt (l := xk_177) rfl rfl (fun _ _ _ _ _ => rfl) ?_
        exact hQ ph2 k2 e0 f2.mo
      · exact absurd rfl hc
theorem m178x (h : hMm zs ph c) {x : Int} (hx : ¬ (0 ≤ x ∧ x < 8)) (hQ : ∀ ph2, hMm zs ph2 c → hRd ph2 147 0 = 1 → hFd moP ph ph2 → Q (.inl (some (.inl 0)), ph2, g)) : xTC (d + 3) 178 [.inr (.inl (some 147)), .inl x] ph g Q := by
  have hs := h.1
  obtain ⟨w1, w2, w3, w4⟩ := hSzS
  refine tEn (ls := [some (.inr (.inl (some 147))), some (.inl x)]) (fun k => by match k with | 0 => rfl | 1 => rfl | k + 2 => rfl) ?_
  refine tK (l := xk_178) rfl rfl (fun _ _ _ _ _ => rfl) ?_
  refine tK (l := xk_178) rfl rfl (fun _ _ _ _ _ => rfl) ?_
  refine tK (l := xk_178) rfl rfl (fun _ _ _ _ _ => rfl) ?_
  refine tCa (l := xk_178) rfl rfl (hInvV (c := 10) hs rfl rfl rfl rfl rfl (Nat.le_of_ble_eq_true rfl) (Nat.le_of_ble_eq_true rfl)) ?_
  refine s169x hs hx ?_
  refine tKv ?_
  refine tCa (l := xk_178) rfl rfl (hInvV (c := 10) hs rfl rfl rfl rfl rfl (Nat.le_of_ble_eq_true rfl) (Nat.le_of_ble_eq_true rfl)) ?_
  refine s147n h (show (1 : Int) ≠ 0 by decide) (fun ph2 k2 e0 f2 => ?_)
  refine tKv ?_
  refine tIf_eq (l := xk_178) (pc' := 20) rfl rfl rfl (fun hc => ?_) (fun hc => ?_)
  · refine tK (l := xk_178) rfl rfl (fun _ _ _ _ _ => rfl) ?_
    refine tRt (l := xk_178) rfl rfl (fun _ _ _ _ _ => rfl) ?_
    exact hQ ph2 k2 e0 f2.mo
  · exact absurd rfl hc
theorem m178n (h : hMm zs ph c) {n : Nat} (hn : n < 8) (hv : c.2.1.1 n = none) (hQ : ∀ ph2, hMm zs ph2 c → hRd ph2 147 0 = 2 → hFd moP ph ph2 → Q (.inl (some (.inl 0)), ph2, g)) : xTC (d + 3) 178 [.inr (.inl (some 147)), .inl (n : Int)] ph g Q := by
  have hs := h.1
  obtain ⟨w1, w2, w3, w4⟩ := hSzS
  refine tEn (ls := [some (.inr (.inl (some 147))), some (.inl (n : Int))]) (fun k => by match k with | 0 => rfl | 1 => rfl | k + 2 => rfl) ?_
  refine tK (l := xk_178) rfl rfl (fun _ _ _ _ _ => rfl) ?_
  refine tK (l := xk_178) rfl rfl (fun _ _ _ _ _ => rfl) ?_
  refine tK (l := xk_178) rfl rfl (fun _ _ _ _ _ => rfl) ?_
  refine tCa (l := xk_178) rfl rfl (hInvV (c := 10) hs rfl rfl rfl rfl rfl (Nat.le_of_ble_eq_true rfl) (Nat.le_of_ble_eq_true rfl)) ?_
  refine s169n h hn hv ?_
  refine tKv ?_
  refine tCa (l := xk_178) rfl rfl (hInvV (c := 10) hs rfl rfl rfl rfl rfl (Nat.le_of_ble_eq_true rfl) (Nat.le_of_ble_eq_true rfl)) ?_
  refine s147n h (show (2 : Int) ≠ 0 by decide) (fun ph2 k2 e0 f2 => ?_)
  refine tKv ?_
  refine tIf_eq (l := xk_178) (pc' := 20) rfl rfl rfl (fun hc => ?_) (fun hc => ?_)
  · refine tK (l := xk_178) rfl rfl (fun _ _ _ _ _ => rfl) ?_
    refine tRt (l := xk_178) rfl rfl (fun _ _ _ _ _ => rfl) ?_
    exact hQ ph2 k2 e0 f2.mo
  · exact absurd rfl hc
theorem m180x (h : hMm zs ph c) {x : Int} (hx : ¬ (0 ≤ x ∧ x < 8)) (hQ : ∀ ph2, hMm zs ph2 c → hRd ph2 147 0 = 1 → hFd moP ph ph2 → Q (.inl (some (.inl 0)), ph2, g)) : xTC (d + 3) 180 [.inr (.inl (some 147)), .inl x] ph g Q := by
  have hs := h.1
  obtain ⟨w1, w2, w3, w4⟩ := hSzS
  refine tEn (ls := [some (.inr (.inl (some 147))), some (.inl x)]) (fun k => by match k with | 0 => rfl | 1 => rfl | k + 2 => rfl) ?_
  refine tK (l := xk_180) rfl rfl (fun _ _ _ _ _ => rfl) ?_
  refine tK (l := xk_180) rfl rfl (fun _ _ _ _ _ => rfl) ?_
  refine tK (l := xk_180) rfl rfl (fun _ _ _ _ _ => rfl) ?_
  refine tCa (l := xk_180) rfl rfl (hInvV (c := 10) hs rfl rfl rfl rfl rfl (Nat.le_of_ble_eq_true rfl) (Nat.le_of_ble_eq_true rfl)) ?_
  refine s169x hs hx ?_
  refine tKv ?_
  refine tCa (l := xk_180) rfl rfl (hInvV (c := 10) hs rfl rfl rfl rfl rfl (Nat.le_of_ble_eq_true rfl) (Nat.le_of_ble_eq_true rfl)) ?_
  refine s147n h (show (1 : Int) ≠ 0 by decide) (fun ph2 k2 e0 f2 => ?_)
  refine tKv ?_
  refine tIf_eq (l := xk_180) (pc' := 24) rfl rfl rfl (fun hc => ?_) (fun hc => ?_)
  · refine tK (l := xk_180) rfl rfl (fun _ _ _ _ _ => rfl) ?_
    refine tRt (l := xk_180) rfl rfl (fun _ _ _ _ _ => rfl) ?_
    exact hQ ph2 k2 e0 f2.mo
  · exact absurd rfl hc
theorem m180n (h : hMm zs ph c) {n : Nat} (hn : n < 8) (hv : c.2.1.1 n = none) (hQ : ∀ ph2, hMm zs ph2 c → hRd ph2 147 0 = 2 → hFd moP ph ph2 → Q (.inl (some (.inl 0)), ph2, g)) : xTC (d + 3) 180 [.inr (.inl (some 147)), .inl (n : Int)] ph g Q := by
  have hs := h.1
  obtain ⟨w1, w2, w3, w4⟩ := hSzS
  refine tEn (ls := [some (.inr (.inl (some 147))), some (.inl (n : Int))]) (fun k => by match k with | 0 => rfl | 1 => rfl | k + 2 => rfl) ?_
  refine tK (l := xk_180) rfl rfl (fun _ _ _ _ _ => rfl) ?_
  refine tK (l := xk_180) rfl rfl (fun _ _ _ _ _ => rfl) ?_
  refine tK (l := xk_180) rfl rfl (fun _ _ _ _ _ => rfl) ?_
  refine tCa (l := xk_180) rfl rfl (hInvV (c := 10) hs rfl rfl rfl rfl rfl (Nat.le_of_ble_eq_true rfl) (Nat.le_of_ble_eq_true rfl)) ?_
  refine s169n h hn hv ?_
  refine tKv ?_
  refine tCa (l := xk_180) rfl rfl (hInvV (c := 10) hs rfl rfl rfl rfl rfl (Nat.le_of_ble_eq_true rfl) (Nat.le_of_ble_eq_true rfl)) ?_
  refine s147n h (show (2 : Int) ≠ 0 by decide) (fun ph2 k2 e0 f2 => ?_)
  refine tKv ?_
  refine tIf_eq (l := xk_180) (pc' := 24) rfl rfl rfl (fun hc => ?_) (fun hc => ?_)
  · refine tK (l := xk_180) rfl rfl (fun _ _ _ _ _ => rfl) ?_
    refine tRt (l := xk_180) rfl rfl (fun _ _ _ _ _ => rfl) ?_
    exact hQ ph2 k2 e0 f2.mo
  · exact absurd rfl hc
theorem m183x (h : hMm zs ph c) {x : Int} (hx : ¬ (0 ≤ x ∧ x < 8)) (hQ : ∀ ph2, hMm zs ph2 c → hRd ph2 147 0 = 1 → hFd moP ph ph2 → Q (.inl (some (.inl 0)), ph2, g)) : xTC (d + 3) 183 [.inr (.inl (some 147)), .inl x] ph g Q := by
  have hs := h.1
  obtain ⟨w1, w2, w3, w4⟩ := hSzS
  refine tEn (ls := [some (.inr (.inl (some 147))), some (.inl x)]) (fun k => by match k with | 0 => rfl | 1 => rfl | k + 2 => rfl) ?_
  refine tK (l := xk_183) rfl rfl (fun _ _ _ _ _ => rfl) ?_
  refine tK (l := xk_183) rfl rfl (fun _ _ _ _ _ => rfl) ?_
  refine tK (l := xk_183) rfl rfl (fun _ _ _ _ _ => rfl) ?_
  refine tCa (l := xk_183) rfl rfl (hInvV (c := 10) hs rfl rfl rfl rfl rfl (Nat.le_of_ble_eq_true rfl) (Nat.le_of_ble_eq_true rfl)) ?_
  refine s169x hs hx ?_
  refine tKv ?_
  refine tCa (l := xk_183) rfl rfl (hInvV (c := 10) hs rfl rfl rfl rfl rfl (Nat.le_of_ble_eq_true rfl) (Nat.le_of_ble_eq_true rfl)) ?_
  refine s147n h (show (1 : Int) ≠ 0 by decide) (fun ph2 k2 e0 f2 => ?_)
  refine tKv ?_
  refine tIf_eq (l := xk_183) (pc' := 26) rfl rfl rfl (fun hc => ?_) (fun hc => ?_)
  · refine tK (l := xk_183) rfl rfl (fun _ _ _ _ _ => rfl) ?_
    refine tRt (l := xk_183) rfl rfl (fun _ _ _ _ _ => rfl) ?_
    exact hQ ph2 k2 e0 f2.mo
  · exact absurd rfl hc
theorem m183n (h : hMm zs ph c) {n : Nat} (hn : n < 8) (hv : c.2.1.1 n = none) (hQ : ∀ ph2, hMm zs ph2 c → hRd ph2 147 0 = 2 → hFd moP ph ph2 → Q (.inl (some (.inl 0)), ph2, g)) : xTC (d + 3) 183 [.inr (.inl (some 147)), .inl (n : Int)] ph g Q := by
  have hs := h.1
  obtain ⟨w1, w2, w3, w4⟩ := hSzS
  refine tEn (ls := [some (.inr (.inl (some 147))), some (.inl (n : Int))]) (fun k => by match k with | 0 => rfl | 1 => rfl | k + 2 => rfl) ?_
  refine tK (l := xk_183) rfl rfl (fun _ _ _ _ _ => rfl) ?_
  refine tK (l := xk_183) rfl rfl (fun _ _ _ _ _ => rfl) ?_
  refine tK (l := xk_183) rfl rfl (fun _ _ _ _ _ => rfl) ?_
  refine tCa (l := xk_183) rfl rfl (hInvV (c := 10) hs rfl rfl rfl rfl rfl (Nat.le_of_ble_eq_true rfl) (Nat.le_of_ble_eq_true rfl)) ?_
  refine s169n h hn hv ?_
  refine tKv ?_
  refine tCa (l := xk_183) rfl rfl (hInvV (c := 10) hs rfl rfl rfl rfl rfl (Nat.le_of_ble_eq_true rfl) (Nat.le_of_ble_eq_true rfl)) ?_
  refine s147n h (show (2 : Int) ≠ 0 by decide) (fun ph2 k2 e0 f2 => ?_)
  refine tKv ?_
  refine tIf_eq (l := xk_183) (pc' := 26) rfl rfl rfl (fun hc => ?_) (fun hc => ?_)
  · refine tK (l := xk_183) rfl rfl (fun _ _ _ _ _ => rfl) ?_
    refine tRt (l := xk_183) rfl rfl (fun _ _ _ _ _ => rfl) ?_
    exact hQ ph2 k2 e0 f2.mo
  · exact absurd rfl hc
theorem m184x (h : hMm zs ph c) {x : Int} (hx : ¬ (0 ≤ x ∧ x < 8)) (hQ : ∀ ph2, hMm zs ph2 c → hRd ph2 147 0 = 1 → hFd moP ph ph2 → Q (.inl (some (.inl 0)), ph2, g)) : xTC (d + 3) 184 [.inr (.inl (some 147)), .inl x] ph g Q := by
  have hs := h.1
  obtain ⟨w1, w2, w3, w4⟩ := hSzS
  refine tEn (ls := [some (.inr (.inl (some 147))), some (.inl x)]) (fun k => by match k with | 0 => rfl | 1 => rfl | k + 2 => rfl) ?_
  refine tK (l := xk_184) rfl rfl (fun _ _ _ _ _ => rfl) ?_
  refine tK (l := xk_184) rfl rfl (fun _ _ _ _ _ => rfl) ?_
  refine tK (l := xk_184) rfl rfl (fun _ _ _ _ _ => rfl) ?_
  refine tCa (l := xk_184) rfl rfl (hInvV (c := 10) hs rfl rfl rfl rfl rfl (Nat.le_of_ble_eq_true rfl) (Nat.le_of_ble_eq_true rfl)) ?_
  refine s169x hs hx ?_
  refine tKv ?_
  refine tCa (l := xk_184) rfl rfl (hInvV (c := 10) hs rfl rfl rfl rfl rfl (Nat.le_of_ble_eq_true rfl) (Nat.le_of_ble_eq_true rfl)) ?_
  refine s147n h (show (1 : Int) ≠ 0 by decide) (fun ph2 k2 e0 f2 => ?_)
  refine tKv ?_
  refine tIf_eq (l := xk_184) (pc' := 20) rfl rfl rfl (fun hc => ?_) (fun hc => ?_)
  · refine tK (l := xk_184) rfl rfl (fun _ _ _ _ _ => rfl) ?_
    refine tRt (l := xk_184) rfl rfl (fun _ _ _ _ _ => rfl) ?_
    exact hQ ph2 k2 e0 f2.mo
  · exact absurd rfl hc
theorem m184n (h : hMm zs ph c) {n : Nat} (hn : n < 8) (hv : c.2.1.1 n = none) (hQ : ∀ ph2, hMm zs ph2 c → hRd ph2 147 0 = 2 → hFd moP ph ph2 → Q (.inl (some (.inl 0)), ph2, g)) : xTC (d + 3) 184 [.inr (.inl (some 147)), .inl (n : Int)] ph g Q := by
  have hs := h.1
  obtain ⟨w1, w2, w3, w4⟩ := hSzS
  refine tEn (ls := [some (.inr (.inl (some 147))), some (.inl (n : Int))]) (fun k => by match k with | 0 => rfl | 1 => rfl | k + 2 => rfl) ?_
  refine tK (l := xk_184) rfl rfl (fun _ _ _ _ _ => rfl) ?_
  refine tK (l := xk_184) rfl rfl (fun _ _ _ _ _ => rfl) ?_
  refine tK (l := xk_184) rfl rfl (fun _ _ _ _ _ => rfl) ?_
  refine tCa (l := xk_184) rfl rfl (hInvV (c := 10) hs rfl rfl rfl rfl rfl (Nat.le_of_ble_eq_true rfl) (Nat.le_of_ble_eq_true rfl)) ?_
  refine s169n h hn hv ?_
  refine tKv ?_
  refine tCa (l := xk_184) rfl rfl (hInvV (c := 10) hs rfl rfl rfl rfl rfl (Nat.le_of_ble_eq_true rfl) (Nat.le_of_ble_eq_true rfl)) ?_
  refine s147n h (show (2 : Int) ≠ 0 by decide) (fun ph2 k2 e0 f2 => ?_)
  refine tKv ?_
  refine tIf_eq (l := xk_184) (pc' := 20) rfl rfl rfl (fun hc => ?_) (fun hc => ?_)
  · refine tK (l := xk_184) rfl rfl (fun _ _ _ _ _ => rfl) ?_
    refine tRt (l := xk_184) rfl rfl (fun _ _ _ _ _ => rfl) ?_
    exact hQ ph2 k2 e0 f2.mo
  · exact absurd rfl hc
theorem m178 (h : hMm zs ph c) {n : Nat} {v : List Int} (hn : n < 8) (hv : c.2.1.1 n = some v) (hQ : ∀ ph2, hMm zs ph2 c → hRd ph2 147 0 = 0 → hFd moP ph ph2 → Q (.inl (some (.inl (v.length : Int))), ph2, g)) : xTC (d + 3) 178 [.inr (.inl (some 147)), .inl (n : Int)] ph g Q := by
  have hs := h.1
  refine tEn (ls := [some (.inr (.inl (some 147))), some (.inl (n : Int))]) (fun k => by match k with | 0 => rfl | 1 => rfl | k + 2 => rfl) ?_
  refine tK (l := xk_178) rfl rfl (fun _ _ _ _ _ => rfl) ?_
  refine tK (l := xk_178) rfl rfl (fun _ _ _ _ _ => rfl) ?_
  refine tK (l := xk_178) rfl rfl (fun _ _ _ _ _ => rfl) ?_
  refine tCa (l := xk_178) rfl rfl (hInvV (c := 10) hs rfl rfl rfl rfl rfl (Nat.le_of_ble_eq_true rfl) (Nat.le_of_ble_eq_true rfl)) ?_
  refine s169 h hn hv ?_
  refine tKv ?_
  refine tCa (l := xk_178) rfl rfl (hInvV (c := 10) hs rfl rfl rfl rfl rfl (Nat.le_of_ble_eq_true rfl) (Nat.le_of_ble_eq_true rfl)) ?_
  refine s147z h (fun ph2 k2 e0 f2 => ?_)
  refine tKv ?_
  refine tIf_eq (l := xk_178) (pc' := 20) rfl rfl rfl (fun hc => ?_) (fun hc => ?_)
  · exact absurd hc (by decide)
  · refine tK (l := xk_178) rfl rfl (fun _ _ _ _ _ => rfl) ?_
    refine tK (l := xk_178) rfl rfl (fun _ _ _ _ _ => rfl) ?_
    refine tCa (l := xk_178) rfl rfl (hInvV (c := 10) k2.1 rfl rfl rfl rfl rfl (Nat.le_of_ble_eq_true rfl) (Nat.le_of_ble_eq_true rfl)) ?_
    refine s165 k2 hn ?_
    refine tKv ?_
    rw [hv]
    simp only [hLo]
    refine tK (l := xk_178) rfl rfl (fun _ _ _ _ _ => rfl) ?_
    refine tRt (l := xk_178) rfl rfl (fun _ _ _ _ _ => rfl) ?_
    exact hQ ph2 k2 e0 f2.mo
theorem m184 (h : hMm zs ph c) {n : Nat} {v : List Int} (hn : n < 8) (hv : c.2.1.1 n = some v) (hQ : ∀ ph2, hMm zs ph2 c → hRd ph2 147 0 = 0 → hFd moP ph ph2 → Q (.inl (some (.inl (v.length : Int))), ph2, g)) : xTC (d + 3) 184 [.inr (.inl (some 147)), .inl (n : Int)] ph g Q := by
  have hs := h.1
  refine tEn (ls := [some (.inr (.inl (some 147))), some (.inl (n : Int))]) (fun k => by match k with | 0 => rfl | 1 => rfl | k + 2 => rfl) ?_
  refine tK (l := xk_184) rfl rfl (fun _ _ _ _ _ => rfl) ?_
  refine tK (l := xk_184) rfl rfl (fun _ _ _ _ _ => rfl) ?_
  refine tK (l := xk_184) rfl rfl (fun _ _ _ _ _ => rfl) ?_
  refine tCa (l := xk_184) rfl rfl (hInvV (c := 10) hs rfl rfl rfl rfl rfl (Nat.le_of_ble_eq_true rfl) (Nat.le_of_ble_eq_true rfl)) ?_
  refine s169 h hn hv ?_
  refine tKv ?_
  refine tCa (l := xk_184) rfl rfl (hInvV (c := 10) hs rfl rfl rfl rfl rfl (Nat.le_of_ble_eq_true rfl) (Nat.le_of_ble_eq_true rfl)) ?_
  refine s147z h (fun ph2 k2 e0 f2 => ?_)
  refine tKv ?_
  refine tIf_eq (l := xk_184) (pc' := 20) rfl rfl rfl (fun hc => ?_) (fun hc => ?_)
  · exact absurd hc (by decide)
  · refine tK (l := xk_184) rfl rfl (fun _ _ _ _ _ => rfl) ?_
    refine tK (l := xk_184) rfl rfl (fun _ _ _ _ _ => rfl) ?_
    refine tCa (l := xk_184) rfl rfl (hInvV (c := 10) k2.1 rfl rfl rfl rfl rfl (Nat.le_of_ble_eq_true rfl) (Nat.le_of_ble_eq_true rfl)) ?_
    refine s165 k2 hn ?_
    refine tKv ?_
    rw [hv]
    simp only [hLo]
    refine tK (l := xk_184) rfl rfl (fun _ _ _ _ _ => rfl) ?_
    refine tRt (l := xk_184) rfl rfl (fun _ _ _ _ _ => rfl) ?_
    exact hQ ph2 k2 e0 f2.mo
theorem m183 (h : hMm zs ph c) {n : Nat} {v : List Int} (hn : n < 8) (hv : c.2.1.1 n = some v) (hv24 : v.length ≤ 24) (hQ : ∀ ph2, hMm zs ph2 c → hRd ph2 147 0 = 0 → hFd moP ph ph2 → Q (.inl (some (.inl ((esc v).length : Int))), ph2, g)) : xTC (d + 3) 183 [.inr (.inl (some 147)), .inl (n : Int)] ph g Q := by
  have hs := h.1
  refine tEn (ls := [some (.inr (.inl (some 147))), some (.inl (n : Int))]) (fun k => by match k with | 0 => rfl | 1 => rfl | k + 2 => rfl) ?_
  refine tK (l := xk_183) rfl rfl (fun _ _ _ _ _ => rfl) ?_
  refine tK (l := xk_183) rfl rfl (fun _ _ _ _ _ => rfl) ?_
  refine tK (l := xk_183) rfl rfl (fun _ _ _ _ _ => rfl) ?_
  refine tCa (l := xk_183) rfl rfl (hInvV (c := 10) hs rfl rfl rfl rfl rfl (Nat.le_of_ble_eq_true rfl) (Nat.le_of_ble_eq_true rfl)) ?_
  refine s169 h hn hv ?_
  refine tKv ?_
  refine tCa (l := xk_183) rfl rfl (hInvV (c := 10) hs rfl rfl rfl rfl rfl (Nat.le_of_ble_eq_true rfl) (Nat.le_of_ble_eq_true rfl)) ?_
  refine s147z h (fun ph2 k2 e0 f2 => ?_)
  refine tKv ?_
  refine tIf_eq (l := xk_183) (pc' := 26) rfl rfl rfl (fun hc => ?_) (fun hc => ?_)
  · exact absurd hc (by decide)
  · refine tK (l := xk_183) rfl rfl (fun _ _ _ _ _ => rfl) ?_
    refine tK (l := xk_183) rfl rfl (fun _ _ _ _ _ => rfl) ?_
    refine tCa (l := xk_183) rfl rfl (hInvV (c := 10) k2.1 rfl rfl rfl rfl rfl (Nat.le_of_ble_eq_true rfl) (Nat.le_of_ble_eq_true rfl)) ?_
    refine s165 k2 hn ?_
    refine tKv ?_
    rw [hv]
    simp only [hLo]
    refine tK (l := xk_183) rfl rfl (fun _ _ _ _ _ => rfl) ?_
    refine tK (l := xk_183) rfl rfl (fun _ _ _ _ _ => rfl) ?_
    refine tCa (l := xk_183) rfl rfl (hInvV (c := 10) k2.1 rfl rfl rfl rfl rfl (Nat.le_of_ble_eq_true rfl) (Nat.le_of_ble_eq_true rfl)) ?_
    refine s173 k2 hn hv ?_
    refine tKv ?_
    have hnl := nsp_le v
    refine tK (l := xk_183) rfl rfl (hAdd ⟨by omega, by omega⟩) ?_
    refine tK (l := xk_183) rfl rfl (fun _ _ _ _ _ => rfl) ?_
    refine tRt (l := xk_183) rfl rfl (fun _ _ _ _ _ => rfl) ?_
    have hq := hQ ph2 k2 e0 f2.mo
    rw [show ((esc v).length : Int) = (v.length : Int) + (nsp v : Int) by rw [nsp_esc]; push_cast; rfl] at hq
    exact hq
theorem m180 (h : hMm zs ph c) {n : Nat} {v : List Int} (hn : n < 8) (hv : c.2.1.1 n = some v) (hokv : oks v) (hQ : ∀ ph2, hMm zs ph2 c → hRd ph2 147 0 = 0 → hFd moP ph ph2 → Q (.inl (some (.inl (if pWh v = true then 1 else 0))), ph2, g)) : xTC (d + 7) 180 [.inr (.inl (some 147)), .inl (n : Int)] ph g Q := by
  have hs := h.1
  refine tEn (ls := [some (.inr (.inl (some 147))), some (.inl (n : Int))]) (fun k => by match k with | 0 => rfl | 1 => rfl | k + 2 => rfl) ?_
  by_cases hw : pWh v = true
  · refine tK (l := xk_180) rfl rfl (fun _ _ _ _ _ => rfl) ?_
    refine tK (l := xk_180) rfl rfl (fun _ _ _ _ _ => rfl) ?_
    refine tK (l := xk_180) rfl rfl (fun _ _ _ _ _ => rfl) ?_
    refine tCa (l := xk_180) rfl rfl (hInvV (c := 10) hs rfl rfl rfl rfl rfl (Nat.le_of_ble_eq_true rfl) (Nat.le_of_ble_eq_true rfl)) ?_
    refine s169 h hn hv ?_
    refine tKv ?_
    refine tCa (l := xk_180) rfl rfl (hInvV (c := 10) hs rfl rfl rfl rfl rfl (Nat.le_of_ble_eq_true rfl) (Nat.le_of_ble_eq_true rfl)) ?_
    refine s147z h (fun ph2 k2 e0 f2 => ?_)
    refine tKv ?_
    refine tIf_eq (l := xk_180) (pc' := 24) rfl rfl rfl (fun hc => ?_) (fun hc => ?_)
    · exact absurd hc (by decide)
    · refine tK (l := xk_180) rfl rfl (fun _ _ _ _ _ => rfl) ?_
      refine tK (l := xk_180) rfl rfl (fun _ _ _ _ _ => rfl) ?_
      refine tCa (l := xk_180) rfl rfl (hInvV (c := 10) k2.1 rfl rfl rfl rfl rfl (Nat.le_of_ble_eq_true rfl) (Nat.le_of_ble_eq_true rfl)) ?_
      refine s181 k2 hn hv hokv (fun ph3 k3 f3 => ?_)
      refine tKv ?_
      rw [if_pos hw] at hQ ⊢
      refine tIf_eq (l := xk_180) (pc' := 24) rfl rfl rfl (fun hc => ?_) (fun hc => ?_)
      · exact absurd hc (by decide)
      · refine tK (l := xk_180) rfl rfl (fun _ _ _ _ _ => rfl) ?_
        refine tK (l := xk_180) rfl rfl (fun _ _ _ _ _ => rfl) ?_
        refine tRt (l := xk_180) rfl rfl (fun _ _ _ _ _ => rfl) ?_
        exact hQ ph3 k3 (by rw [f3.fl (by decide)]; exact e0) (f2.mo.trans f3.mo)
  · refine tK (l := xk_180) rfl rfl (fun _ _ _ _ _ => rfl) ?_
    refine tK (l := xk_180) rfl rfl (fun _ _ _ _ _ => rfl) ?_
    refine tK (l := xk_180) rfl rfl (fun _ _ _ _ _ => rfl) ?_
    refine tCa (l := xk_180) rfl rfl (hInvV (c := 10) hs rfl rfl rfl rfl rfl (Nat.le_of_ble_eq_true rfl) (Nat.le_of_ble_eq_true rfl)) ?_
    refine s169 h hn hv ?_
    refine tKv ?_
    refine tCa (l := xk_180) rfl rfl (hInvV (c := 10) hs rfl rfl rfl rfl rfl (Nat.le_of_ble_eq_true rfl) (Nat.le_of_ble_eq_true rfl)) ?_
    refine s147z h (fun ph2 k2 e0 f2 => ?_)
    refine tKv ?_
    refine tIf_eq (l := xk_180) (pc' := 24) rfl rfl rfl (fun hc => ?_) (fun hc => ?_)
    · exact absurd hc (by decide)
    · refine tK (l := xk_180) rfl rfl (fun _ _ _ _ _ => rfl) ?_
      refine tK (l := xk_180) rfl rfl (fun _ _ _ _ _ => rfl) ?_
      refine tCa (l := xk_180) rfl rfl (hInvV (c := 10) k2.1 rfl rfl rfl rfl rfl (Nat.le_of_ble_eq_true rfl) (Nat.le_of_ble_eq_true rfl)) ?_
      refine s181 k2 hn hv hokv (fun ph3 k3 f3 => ?_)
      refine tKv ?_
      rw [if_neg hw] at hQ ⊢
      refine tIf_eq (l := xk_180) (pc' := 24) rfl rfl rfl (fun hc => ?_) (fun hc => ?_)
      · refine tK (l := xk_180) rfl rfl (fun _ _ _ _ _ => rfl) ?_
        refine tRt (l := xk_180) rfl rfl (fun _ _ _ _ _ => rfl) ?_
        exact hQ ph3 k3 (by rw [f3.fl (by decide)]; exact e0) (f2.mo.trans f3.mo)
      · exact absurd rfl hc
theorem m179x (h : hMm zs ph c) {x y : Int} (hx : ¬ (0 ≤ x ∧ x < 8)) (hQ : ∀ ph2, hMm zs ph2 c → hRd ph2 147 0 = 1 → hFd moP ph ph2 → Q (.inl (some (.inl 0)), ph2, g)) : xTC (d + 3) 179 [.inr (.inl (some 147)), .inl x, .inl y] ph g Q := by
  have hs := h.1
  obtain ⟨w1, w2, w3, w4⟩ := hSzS
  refine tEn (ls := [some (.inr (.inl (some 147))), some (.inl x), some (.inl y), none]) (fun k => by match k with | 0 => rfl | 1 => rfl | 2 => rfl | 3 => rfl | k + 4 => rfl) ?_
  refine tK (l := xk_179) rfl rfl (fun _ _ _ _ _ => rfl) ?_
  refine tK (l := xk_179) rfl rfl (fun _ _ _ _ _ => rfl) ?_
  refine tCa (l := xk_179) rfl rfl (hInvV (c := 10) hs rfl rfl rfl rfl rfl (Nat.le_of_ble_eq_true rfl) (Nat.le_of_ble_eq_true rfl)) ?_
  refine s169x hs hx ?_
  refine tKv ?_
  refine tSt (l := xk_179) rfl rfl (fun _ _ _ _ _ => rfl) (Nat.le_of_ble_eq_true rfl) ?_
  refine tK (l := xk_179) rfl rfl (fun _ _ _ _ _ => rfl) ?_
  refine tIf_ne (l := xk_179) (pc' := 29) rfl rfl rfl (fun hc => ?_) (fun hc => ?_)
  · exact absurd hc (by decide)
  · refine tK (l := xk_179) rfl rfl (fun _ _ _ _ _ => rfl) ?_
    refine tSt (l := xk_179) rfl rfl (fun _ _ _ _ _ => rfl) (Nat.le_of_ble_eq_true rfl) ?_
    refine tK (l := xk_179) rfl rfl (fun _ _ _ _ _ => rfl) ?_
    refine tK (l := xk_179) rfl rfl (fun _ _ _ _ _ => rfl) ?_
    refine tCa (l := xk_179) rfl rfl (hInvV (c := 10) hs rfl rfl rfl rfl rfl (Nat.le_of_ble_eq_true rfl) (Nat.le_of_ble_eq_true rfl)) ?_
    refine s147n h (show (1 : Int) ≠ 0 by decide) (fun ph2 k2 e0 f2 => ?_)
    refine tKv ?_
    refine tIf_eq (l := xk_179) (pc' := 57) rfl rfl rfl (fun hc => ?_) (fun hc => ?_)
    · refine tK (l := xk_179) rfl rfl (fun _ _ _ _ _ => rfl) ?_
      refine tRt (l := xk_179) rfl rfl (fun _ _ _ _ _ => rfl) ?_
      exact hQ ph2 k2 e0 f2.mo
    · exact absurd rfl hc
theorem m179n (h : hMm zs ph c) {n : Nat} {y : Int} (hn : n < 8) (hv : c.2.1.1 n = none) (hQ : ∀ ph2, hMm zs ph2 c → hRd ph2 147 0 = 2 → hFd moP ph ph2 → Q (.inl (some (.inl 0)), ph2, g)) : xTC (d + 3) 179 [.inr (.inl (some 147)), .inl (n : Int), .inl y] ph g Q := by
  have hs := h.1
  obtain ⟨w1, w2, w3, w4⟩ := hSzS
  refine tEn (ls := [some (.inr (.inl (some 147))), some (.inl (n : Int)), some (.inl y), none]) (fun k => by match k with | 0 => rfl | 1 => rfl | 2 => rfl | 3 => rfl | k + 4 => rfl) ?_
  refine tK (l := xk_179) rfl rfl (fun _ _ _ _ _ => rfl) ?_
  refine tK (l := xk_179) rfl rfl (fun _ _ _ _ _ => rfl) ?_
  refine tCa (l := xk_179) rfl rfl (hInvV (c := 10) hs rfl rfl rfl rfl rfl (Nat.le_of_ble_eq_true rfl) (Nat.le_of_ble_eq_true rfl)) ?_
  refine s169n h hn hv ?_
  refine tKv ?_
  refine tSt (l := xk_179) rfl rfl (fun _ _ _ _ _ => rfl) (Nat.le_of_ble_eq_true rfl) ?_
  refine tK (l := xk_179) rfl rfl (fun _ _ _ _ _ => rfl) ?_
  refine tIf_ne (l := xk_179) (pc' := 29) rfl rfl rfl (fun hc => ?_) (fun hc => ?_)
  · exact absurd hc (by decide)
  · refine tK (l := xk_179) rfl rfl (fun _ _ _ _ _ => rfl) ?_
    refine tSt (l := xk_179) rfl rfl (fun _ _ _ _ _ => rfl) (Nat.le_of_ble_eq_true rfl) ?_
    refine tK (l := xk_179) rfl rfl (fun _ _ _ _ _ => rfl) ?_
    refine tK (l := xk_179) rfl rfl (fun _ _ _ _ _ => rfl) ?_
    refine tCa (l := xk_179) rfl rfl (hInvV (c := 10) hs rfl rfl rfl rfl rfl (Nat.le_of_ble_eq_true rfl) (Nat.le_of_ble_eq_true rfl)) ?_
    refine s147n h (show (2 : Int) ≠ 0 by decide) (fun ph2 k2 e0 f2 => ?_)
    refine tKv ?_
    refine tIf_eq (l := xk_179) (pc' := 57) rfl rfl rfl (fun hc => ?_) (fun hc => ?_)
    · refine tK (l := xk_179) rfl rfl (fun _ _ _ _ _ => rfl) ?_
      refine tRt (l := xk_179) rfl rfl (fun _ _ _ _ _ => rfl) ?_
      exact hQ ph2 k2 e0 f2.mo
    · exact absurd rfl hc
theorem m179y (h : hMm zs ph c) {n : Nat} {y : Int} {v : List Int} (hn : n < 8) (hv : c.2.1.1 n = some v) (hv24 : v.length ≤ 24) (hy : ¬ (0 ≤ y ∧ y < (v.length : Int))) (hQ : ∀ ph2, hMm zs ph2 c → hRd ph2 147 0 = 1 → hFd moP ph ph2 → Q (.inl (some (.inl 0)), ph2, g)) : xTC (d + 3) 179 [.inr (.inl (some 147)), .inl (n : Int), .inl y] ph g Q := by
  have hs := h.1
  obtain ⟨w1, w2, w3, w4⟩ := hSzS
  refine tEn (ls := [some (.inr (.inl (some 147))), some (.inl (n : Int)), some (.inl y), none]) (fun k => by match k with | 0 => rfl | 1 => rfl | 2 => rfl | 3 => rfl | k + 4 => rfl) ?_
  refine tK (l := xk_179) rfl rfl (fun _ _ _ _ _ => rfl) ?_
  refine tK (l := xk_179) rfl rfl (fun _ _ _ _ _ => rfl) ?_
  refine tCa (l := xk_179) rfl rfl (hInvV (c := 10) hs rfl rfl rfl rfl rfl (Nat.le_of_ble_eq_true rfl) (Nat.le_of_ble_eq_true rfl)) ?_
  refine s169 h hn hv ?_
  refine tKv ?_
  refine tSt (l := xk_179) rfl rfl (fun _ _ _ _ _ => rfl) (Nat.le_of_ble_eq_true rfl) ?_
  refine tK (l := xk_179) rfl rfl (fun _ _ _ _ _ => rfl) ?_
  refine tIf_ne (l := xk_179) (pc' := 29) rfl rfl rfl (fun hc => ?_) (fun hc => ?_)
  · refine tK (l := xk_179) rfl rfl (fun _ _ _ _ _ => rfl) ?_
    refine tK (l := xk_179) rfl rfl (fun _ _ _ _ _ => rfl) ?_
    refine tK (l := xk_179) rfl rfl (fun _ _ _ _ _ => rfl) ?_
    refine tK (l := xk_179) rfl rfl (fun _ _ _ _ _ => rfl) ?_
    refine tCa (l := xk_179) rfl rfl (hInvV (c := 10) hs rfl rfl rfl rfl rfl (Nat.le_of_ble_eq_true rfl) (Nat.le_of_ble_eq_true rfl)) ?_
    refine s165 h hn ?_
    refine tKv ?_
    rw [hv]
    simp only [hLo]
    refine tK (l := xk_179) rfl rfl (fun _ _ _ _ _ => rfl) ?_
    refine tK (l := xk_179) rfl rfl (hSub ⟨by omega, by omega⟩) ?_
    refine tCa (l := xk_179) rfl rfl (hInvS rfl rfl rfl rfl (Nat.le_of_ble_eq_true rfl) (Nat.le_of_ble_eq_true rfl)) ?_
    refine s146 ?_
    refine tKv ?_
    rw [if_neg (by omega)]
    refine tIf_ne (l := xk_179) (pc' := 29) rfl rfl rfl (fun hc => ?_) (fun hc => ?_)
    · refine tK (l := xk_179) rfl rfl (fun _ _ _ _ _ => rfl) ?_
      refine tK (l := xk_179) rfl rfl (fun _ _ _ _ _ => rfl) ?_
      refine tSt (l := xk_179) rfl rfl (fun _ _ _ _ _ => rfl) (Nat.le_of_ble_eq_true rfl) ?_
      refine tK (l := xk_179) rfl rfl (fun _ _ _ _ _ => rfl) ?_
      refine tK (l := xk_179) rfl rfl (fun _ _ _ _ _ => rfl) ?_
      refine tCa (l := xk_179) rfl rfl (hInvV (c := 10) hs rfl rfl rfl rfl rfl (Nat.le_of_ble_eq_true rfl) (Nat.le_of_ble_eq_true rfl)) ?_
      refine s147n h (show (1 : Int) ≠ 0 by decide) (fun ph2 k2 e0 f2 => ?_)
      refine tKv ?_
      refine tIf_eq (l := xk_179) (pc' := 57) rfl rfl rfl (fun hc => ?_) (fun hc => ?_)
      · refine tK (l := xk_179) rfl rfl (fun _ _ _ _ _ => rfl) ?_
        refine tRt (l := xk_179) rfl rfl (fun _ _ _ _ _ => rfl) ?_
        exact hQ ph2 k2 e0 f2.mo
      · exact absurd rfl hc
    · exact absurd rfl hc
  · exact absurd rfl hc
theorem m179 (h : hMm zs ph c) {n k : Nat} {x : Int} {v : List Int} (hn : n < 8) (hv : c.2.1.1 n = some v) (hv24 : v.length ≤ 24) (hx : v[k]? = some x) (hQ : ∀ ph2, hMm zs ph2 c → hRd ph2 147 0 = 0 → hFd moP ph ph2 → Q (.inl (some (.inl x)), ph2, g)) : xTC (d + 3) 179 [.inr (.inl (some 147)), .inl (n : Int), .inl (k : Int)] ph g Q := by
  have hs := h.1
  obtain ⟨w1, w2, w3, w4⟩ := hSzS
  have hkl := (List.getElem?_eq_some_iff.mp hx).1
  refine tEn (ls := [some (.inr (.inl (some 147))), some (.inl (n : Int)), some (.inl (k : Int)), none]) (fun k => by match k with | 0 => rfl | 1 => rfl | 2 => rfl | 3 => rfl | k + 4 => rfl) ?_
  refine tK (l := xk_179) rfl rfl (fun _ _ _ _ _ => rfl) ?_
  refine tK (l := xk_179) rfl rfl (fun _ _ _ _ _ => rfl) ?_
  refine tCa (l := xk_179) rfl rfl (hInvV (c := 10) hs rfl rfl rfl rfl rfl (Nat.le_of_ble_eq_true rfl) (Nat.le_of_ble_eq_true rfl)) ?_
  refine s169 h hn hv ?_
  refine tKv ?_
  refine tSt (l := xk_179) rfl rfl (fun _ _ _ _ _ => rfl) (Nat.le_of_ble_eq_true rfl) ?_
  refine tK (l := xk_179) rfl rfl (fun _ _ _ _ _ => rfl) ?_
  refine tIf_ne (l := xk_179) (pc' := 29) rfl rfl rfl (fun hc => ?_) (fun hc => ?_)
  · refine tK (l := xk_179) rfl rfl (fun _ _ _ _ _ => rfl) ?_
    refine tK (l := xk_179) rfl rfl (fun _ _ _ _ _ => rfl) ?_
    refine tK (l := xk_179) rfl rfl (fun _ _ _ _ _ => rfl) ?_
    refine tK (l := xk_179) rfl rfl (fun _ _ _ _ _ => rfl) ?_
    refine tCa (l := xk_179) rfl rfl (hInvV (c := 10) hs rfl rfl rfl rfl rfl (Nat.le_of_ble_eq_true rfl) (Nat.le_of_ble_eq_true rfl)) ?_
    refine s165 h hn ?_
    refine tKv ?_
    rw [hv]
    simp only [hLo]
    refine tK (l := xk_179) rfl rfl (fun _ _ _ _ _ => rfl) ?_
    refine tK (l := xk_179) rfl rfl (hSub ⟨by omega, by omega⟩) ?_
    refine tCa (l := xk_179) rfl rfl (hInvS rfl rfl rfl rfl (Nat.le_of_ble_eq_true rfl) (Nat.le_of_ble_eq_true rfl)) ?_
    refine s146 ?_
    refine tKv ?_
    rw [if_pos (by omega)]
    refine tIf_ne (l := xk_179) (pc' := 29) rfl rfl rfl (fun hc => ?_) (fun hc => ?_)
    · exact absurd hc (by decide)
    · refine tK (l := xk_179) rfl rfl (fun _ _ _ _ _ => rfl) ?_
      refine tSt (l := xk_179) rfl rfl (fun _ _ _ _ _ => rfl) (Nat.le_of_ble_eq_true rfl) ?_
      refine tK (l := xk_179) rfl rfl (fun _ _ _ _ _ => rfl) ?_
      refine tK (l := xk_179) rfl rfl (fun _ _ _ _ _ => rfl) ?_
      refine tCa (l := xk_179) rfl rfl (hInvV (c := 10) hs rfl rfl rfl rfl rfl (Nat.le_of_ble_eq_true rfl) (Nat.le_of_ble_eq_true rfl)) ?_
      refine s147z h (fun ph2 k2 e0 f2 => ?_)
      refine tKv ?_
      refine tIf_eq (l := xk_179) (pc' := 57) rfl rfl rfl (fun hc => ?_) (fun hc => ?_)
      · exact absurd hc (by decide)
      · refine tK (l := xk_179) rfl rfl (fun _ _ _ _ _ => rfl) ?_
        refine tK (l := xk_179) rfl rfl (hGetR (o := some 148) k2.1 rfl rfl rfl (by decide) (by decide) rfl) ?_
        refine tK (l := xk_179) rfl rfl (fun _ _ _ _ _ => rfl) ?_
        refine tK (l := xk_179) rfl rfl (fun _ _ _ _ _ => rfl) ?_
        refine tK (l := xk_179) rfl rfl (fun _ _ _ _ _ => rfl) ?_
        refine tK (l := xk_179) rfl rfl (hMul ⟨by omega, by omega⟩) ?_
        refine tK (l := xk_179) rfl rfl (hAdd ⟨by omega, by omega⟩) ?_
        refine tK (l := xk_179) rfl rfl (fun _ _ _ _ _ => rfl) ?_
        refine tK (l := xk_179) rfl rfl (hAdd ⟨by omega, by omega⟩) ?_
        refine tK (l := xk_179) rfl rfl (fun _ _ _ _ _ => rfl) ?_
        refine tK (l := xk_179) rfl rfl (hAdd ⟨by omega, by omega⟩) ?_
        rw [show (0 : Int) + 25 * (n : Int) + 1 + (k : Int) = ((25 * n + 1 + k : Nat) : Int) by omega]
        first | refine tK (l := xk_179) rfl rfl (hIaldN k2.1 rfl rfl (by omega)) ?_ | refine tK (l := xk_179) rfl rfl (hIald k2.1 rfl (by omega) (by omega)) ?_
        refine tK (l := xk_179) rfl rfl (fun _ _ _ _ _ => rfl) ?_
        refine tRt (l := xk_179) rfl rfl (fun _ _ _ _ _ => rfl) ?_
        have e1 : hRd ph2 148 (25 * n + 1 + k) = x := by have := ((k2.2.1.1 n hn).2 v hv).2 k x hx; rw [Nat.zero_add] at this; exact this
        rw [e1]
        exact hQ ph2 k2 e0 f2.mo
  · exact absurd rfl hc
theorem m203x (h : hMm zs ph c) {x : Int} (hx : ¬ (0 ≤ x ∧ x < (c.2.1.2.1.1.length : Int))) (hQ : ∀ ph2, hMm zs ph2 c → hRd ph2 147 0 = 1 → hFd moP ph ph2 → Q (.inl (some (.inl 0)), ph2, g)) : xTC (d + 1) 203 [.inr (.inl (some 147)), .inl x] ph g Q := by
  have hs := h.1
  obtain ⟨w1, w2, w3, w4⟩ := hSzS
  have e9 : hRd ph 148 200 = (c.2.1.2.1.1.length : Int) := by have := h.2.1.2.1.1; rw [Nat.zero_add] at this; exact this
  have hb9 := h.2.1.2.1.2.1
  refine tEn (ls := [some (.inr (.inl (some 147))), some (.inl x)]) (fun k => by match k with | 0 => rfl | 1 => rfl | k + 2 => rfl) ?_
  refine tK (l := xk_203) rfl rfl (fun _ _ _ _ _ => rfl) ?_
  refine tK (l := xk_203) rfl rfl (fun _ _ _ _ _ => rfl) ?_
  refine tK (l := xk_203) rfl rfl (fun _ _ _ _ _ => rfl) ?_
  refine tK (l := xk_203) rfl rfl (fun _ _ _ _ _ => rfl) ?_
  refine tK (l := xk_203) rfl rfl (hGetR (o := some 148) hs rfl rfl rfl (by decide) (by decide) rfl) ?_
  refine tK (l := xk_203) rfl rfl (fun _ _ _ _ _ => rfl) ?_
  first | refine tK (l := xk_203) rfl rfl (hIaldN hs rfl rfl (by omega)) ?_ | refine tK (l := xk_203) rfl rfl (hIald hs rfl (by omega) (by omega)) ?_
  rw [show Int.toNat 200 = 200 from rfl, e9]
  refine tK (l := xk_203) rfl rfl (fun _ _ _ _ _ => rfl) ?_
  refine tK (l := xk_203) rfl rfl (hSub ⟨by omega, by omega⟩) ?_
  refine tCa (l := xk_203) rfl rfl (hInvS rfl rfl rfl rfl (Nat.le_of_ble_eq_true rfl) (Nat.le_of_ble_eq_true rfl)) ?_
  refine s146 ?_
  refine tKv ?_
  rw [if_neg (by omega)]
  refine tIf_eq (l := xk_203) (pc' := 23) rfl rfl rfl (fun hc => ?_) (fun hc => ?_)
  · refine tK (l := xk_203) rfl rfl (fun _ _ _ _ _ => rfl) ?_
    refine tCa (l := xk_203) rfl rfl (hInvV (c := 10) hs rfl rfl rfl rfl rfl (Nat.le_of_ble_eq_true rfl) (Nat.le_of_ble_eq_true rfl)) ?_
    refine s147n h (show (1 : Int) ≠ 0 by decide) (fun ph2 k2 e0 f2 => ?_)
    refine tKv ?_
    refine tIf_eq (l := xk_203) (pc' := 43) rfl rfl rfl (fun hc => ?_) (fun hc => ?_)
    · refine tK (l := xk_203) rfl rfl (fun _ _ _ _ _ => rfl) ?_
      refine tRt (l := xk_203) rfl rfl (fun _ _ _ _ _ => rfl) ?_
      exact hQ ph2 k2 e0 f2.mo
    · exact absurd rfl hc
  · exact absurd rfl hc
theorem m203 (h : hMm zs ph c) {n : Nat} {x : Int} (hx : c.2.1.2.1.1[n]? = some x) (hQ : ∀ ph2, hMm zs ph2 c → hRd ph2 147 0 = 0 → hFd moP ph ph2 → Q (.inl (some (.inl x)), ph2, g)) : xTC (d + 1) 203 [.inr (.inl (some 147)), .inl (n : Int)] ph g Q := by
  have hs := h.1
  obtain ⟨w1, w2, w3, w4⟩ := hSzS
  have hkl := (List.getElem?_eq_some_iff.mp hx).1
  have e9 : hRd ph 148 200 = (c.2.1.2.1.1.length : Int) := by have := h.2.1.2.1.1; rw [Nat.zero_add] at this; exact this
  have hb9 := h.2.1.2.1.2.1
  refine tEn (ls := [some (.inr (.inl (some 147))), some (.inl (n : Int))]) (fun k => by match k with | 0 => rfl | 1 => rfl | k + 2 => rfl) ?_
  refine tK (l := xk_203) rfl rfl (fun _ _ _ _ _ => rfl) ?_
  refine tK (l := xk_203) rfl rfl (fun _ _ _ _ _ => rfl) ?_
  refine tK (l := xk_203) rfl rfl (fun _ _ _ _ _ => rfl) ?_
  refine tK (l := xk_203) rfl rfl (fun _ _ _ _ _ => rfl) ?_
  refine tK (l := xk_203) rfl rfl (hGetR (o := some 148) hs rfl rfl rfl (by decide) (by decide) rfl) ?_
  refine tK (l := xk_203) rfl rfl (fun _ _ _ _ _ => rfl) ?_
  first | refine tK (l := xk_203) rfl rfl (hIaldN hs rfl rfl (by omega)) ?_ | refine tK (l := xk_203) rfl rfl (hIald hs rfl (by omega) (by omega)) ?_
  rw [show Int.toNat 200 = 200 from rfl, e9]
  refine tK (l := xk_203) rfl rfl (fun _ _ _ _ _ => rfl) ?_
  refine tK (l := xk_203) rfl rfl (hSub ⟨by omega, by omega⟩) ?_
  refine tCa (l := xk_203) rfl rfl (hInvS rfl rfl rfl rfl (Nat.le_of_ble_eq_true rfl) (Nat.le_of_ble_eq_true rfl)) ?_
  refine s146 ?_
  refine tKv ?_
  rw [if_pos (by omega)]
  refine tIf_eq (l := xk_203) (pc' := 23) rfl rfl rfl (fun hc => ?_) (fun hc => ?_)
  · exact absurd hc (by decide)
  · refine tK (l := xk_203) rfl rfl (fun _ _ _ _ _ => rfl) ?_
    refine tK (l := xk_203) rfl rfl (fun _ _ _ _ _ => rfl) ?_
    refine tCa (l := xk_203) rfl rfl (hInvV (c := 10) hs rfl rfl rfl rfl rfl (Nat.le_of_ble_eq_true rfl) (Nat.le_of_ble_eq_true rfl)) ?_
    refine s147z h (fun ph2 k2 e0 f2 => ?_)
    refine tKv ?_
    refine tIf_eq (l := xk_203) (pc' := 43) rfl rfl rfl (fun hc => ?_) (fun hc => ?_)
    · exact absurd hc (by decide)
    · refine tK (l := xk_203) rfl rfl (fun _ _ _ _ _ => rfl) ?_
      refine tK (l := xk_203) rfl rfl (hGetR (o := some 148) k2.1 rfl rfl rfl (by decide) (by decide) rfl) ?_
      refine tK (l := xk_203) rfl rfl (fun _ _ _ _ _ => rfl) ?_
      refine tK (l := xk_203) rfl rfl (fun _ _ _ _ _ => rfl) ?_
      refine tK (l := xk_203) rfl rfl (hAdd ⟨by omega, by omega⟩) ?_
      rw [show (201 : Int) + (n : Int) = ((201 + n : Nat) : Int) by omega]
      first | refine tK (l := xk_203) rfl rfl (hIaldN k2.1 rfl rfl (by omega)) ?_ | refine tK (l := xk_203) rfl rfl (hIald k2.1 rfl (by omega) (by omega)) ?_
      refine tK (l := xk_203) rfl rfl (fun _ _ _ _ _ => rfl) ?_
      refine tRt (l := xk_203) rfl rfl (fun _ _ _ _ _ => rfl) ?_
      have e1 : hRd ph2 148 (201 + n) = x := by have := k2.2.1.2.1.2.2 n x hx; rw [Nat.zero_add] at this; exact this
      rw [e1]
      exact hQ ph2 k2 e0 f2.mo
theorem m207x (h : hMm zs ph c) {x : Int} (hx : ¬ (0 ≤ x ∧ x < (c.2.1.2.1.2.2.1.length : Int))) (hQ : ∀ ph2, hMm zs ph2 c → hRd ph2 147 0 = 1 → hFd moP ph ph2 → Q (.inl (some (.inl 0)), ph2, g)) : xTC (d + 1) 207 [.inr (.inl (some 147)), .inl x] ph g Q := by
  have hs := h.1
  obtain ⟨w1, w2, w3, w4⟩ := hSzS
  have e9 : hRd ph 148 402 = (c.2.1.2.1.2.2.1.length : Int) := by have := h.2.1.2.2.2.1.1; rw [Nat.zero_add] at this; exact this
  have hb9 := h.2.1.2.2.2.1.2.1
  refine tEn (ls := [some (.inr (.inl (some 147))), some (.inl x)]) (fun k => by match k with | 0 => rfl | 1 => rfl | k + 2 => rfl) ?_
  refine tK (l := xk_207) rfl rfl (fun _ _ _ _ _ => rfl) ?_
  refine tK (l := xk_207) rfl rfl (fun _ _ _ _ _ => rfl) ?_
  refine tK (l := xk_207) rfl rfl (fun _ _ _ _ _ => rfl) ?_
  refine tK (l := xk_207) rfl rfl (fun _ _ _ _ _ => rfl) ?_
  refine tK (l := xk_207) rfl rfl (hGetR (o := some 148) hs rfl rfl rfl (by decide) (by decide) rfl) ?_
  refine tK (l := xk_207) rfl rfl (fun _ _ _ _ _ => rfl) ?_
  first | refine tK (l := xk_207) rfl rfl (hIaldN hs rfl rfl (by omega)) ?_ | refine tK (l := xk_207) rfl rfl (hIald hs rfl (by omega) (by omega)) ?_
  rw [show Int.toNat 402 = 402 from rfl, e9]
  refine tK (l := xk_207) rfl rfl (fun _ _ _ _ _ => rfl) ?_
  refine tK (l := xk_207) rfl rfl (hSub ⟨by omega, by omega⟩) ?_
  refine tCa (l := xk_207) rfl rfl (hInvS rfl rfl rfl rfl (Nat.le_of_ble_eq_true rfl) (Nat.le_of_ble_eq_true rfl)) ?_
  refine s146 ?_
  refine tKv ?_
  rw [if_neg (by omega)]
  refine tIf_eq (l := xk_207) (pc' := 23) rfl rfl rfl (fun hc => ?_) (fun hc => ?_)
  · refine tK (l := xk_207) rfl rfl (fun _ _ _ _ _ => rfl) ?_
    refine tCa (l := xk_207) rfl rfl (hInvV (c := 10) hs rfl rfl rfl rfl rfl (Nat.le_of_ble_eq_true rfl) (Nat.le_of_ble_eq_true rfl)) ?_
    refine s147n h (show (1 : Int) ≠ 0 by decide) (fun ph2 k2 e0 f2 => ?_)
    refine tKv ?_
    refine tIf_eq (l := xk_207) (pc' := 43) rfl rfl rfl (fun hc => ?_) (fun hc => ?_)
    · refine tK (l := xk_207) rfl rfl (fun _ _ _ _ _ => rfl) ?_
      refine tRt (l := xk_207) rfl rfl (fun _ _ _ _ _ => rfl) ?_
      exact hQ ph2 k2 e0 f2.mo
    · exact absurd rfl hc
  · exact absurd rfl hc
theorem m207 (h : hMm zs ph c) {n : Nat} {x : Int} (hx : c.2.1.2.1.2.2.1[n]? = some x) (hQ : ∀ ph2, hMm zs ph2 c → hRd ph2 147 0 = 0 → hFd moP ph ph2 → Q (.inl (some (.inl x)), ph2, g)) : xTC (d + 1) 207 [.inr (.inl (some 147)), .inl (n : Int)] ph g Q := by
  have hs := h.1
  obtain ⟨w1, w2, w3, w4⟩ := hSzS
  have hkl := (List.getElem?_eq_some_iff.mp hx).1
  have e9 : hRd ph 148 402 = (c.2.1.2.1.2.2.1.length : Int) := by have := h.2.1.2.2.2.1.1; rw [Nat.zero_add] at this; exact this
  have hb9 := h.2.1.2.2.2.1.2.1
  refine tEn (ls := [some (.inr (.inl (some 147))), some (.inl (n : Int))]) (fun k => by match k with | 0 => rfl | 1 => rfl | k + 2 => rfl) ?_
  refine tK (l := xk_207) rfl rfl (fun _ _ _ _ _ => rfl) ?_
  refine tK (l := xk_207) rfl rfl (fun _ _ _ _ _ => rfl) ?_
  refine tK (l := xk_207) rfl rfl (fun _ _ _ _ _ => rfl) ?_
  refine tK (l := xk_207) rfl rfl (fun _ _ _ _ _ => rfl) ?_
  refine tK (l := xk_207) rfl rfl (hGetR (o := some 148) hs rfl rfl rfl (by decide) (by decide) rfl) ?_
  refine tK (l := xk_207) rfl rfl (fun _ _ _ _ _ => rfl) ?_
  first | refine tK (l := xk_207) rfl rfl (hIaldN hs rfl rfl (by omega)) ?_ | refine tK (l := xk_207) rfl rfl (hIald hs rfl (by omega) (by omega)) ?_
  rw [show Int.toNat 402 = 402 from rfl, e9]
  refine tK (l := xk_207) rfl rfl (fun _ _ _ _ _ => rfl) ?_
  refine tK (l := xk_207) rfl rfl (hSub ⟨by omega, by omega⟩) ?_
  refine tCa (l := xk_207) rfl rfl (hInvS rfl rfl rfl rfl (Nat.le_of_ble_eq_true rfl) (Nat.le_of_ble_eq_true rfl)) ?_
  refine s146 ?_
  refine tKv ?_
  rw [if_pos (by omega)]
  refine tIf_eq (l := xk_207) (pc' := 23) rfl rfl rfl (fun hc => ?_) (fun hc => ?_)
  · exact absurd hc (by decide)
  · refine tK (l := xk_207) rfl rfl (fun _ _ _ _ _ => rfl) ?_
    refine tK (l := xk_207) rfl rfl (fun _ _ _ _ _ => rfl) ?_
    refine tCa (l := xk_207) rfl rfl (hInvV (c := 10) hs rfl rfl rfl rfl rfl (Nat.le_of_ble_eq_true rfl) (Nat.le_of_ble_eq_true rfl)) ?_
    refine s147z h (fun ph2 k2 e0 f2 => ?_)
    refine tKv ?_
    refine tIf_eq (l := xk_207) (pc' := 43) rfl rfl rfl (fun hc => ?_) (fun hc => ?_)
    · exact absurd hc (by decide)
    · refine tK (l := xk_207) rfl rfl (fun _ _ _ _ _ => rfl) ?_
      refine tK (l := xk_207) rfl rfl (hGetR (o := some 148) k2.1 rfl rfl rfl (by decide) (by decide) rfl) ?_
      refine tK (l := xk_207) rfl rfl (fun _ _ _ _ _ => rfl) ?_
      refine tK (l := xk_207) rfl rfl (fun _ _ _ _ _ => rfl) ?_
      refine tK (l := xk_207) rfl rfl (hAdd ⟨by omega, by omega⟩) ?_
      rw [show (403 : Int) + (n : Int) = ((403 + n : Nat) : Int) by omega]
      first | refine tK (l := xk_207) rfl rfl (hIaldN k2.1 rfl rfl (by omega)) ?_ | refine tK (l := xk_207) rfl rfl (hIald k2.1 rfl (by omega) (by omega)) ?_
      refine tK (l := xk_207) rfl rfl (fun _ _ _ _ _ => rfl) ?_
      refine tRt (l := xk_207) rfl rfl (fun _ _ _ _ _ => rfl) ?_
      have e1 : hRd ph2 148 (403 + n) = x := by have := k2.2.1.2.2.2.1.2.2 n x hx; rw [Nat.zero_add] at this; exact this
      rw [e1]
      exact hQ ph2 k2 e0 f2.mo
theorem m205x (h : hMm zs ph c) (hr : c.2.1.2.1.2.1 = 0) (hQ : ∀ ph2, hMm zs ph2 c → hRd ph2 147 0 = 1 → hFd moP ph ph2 → Q (.inl (some (.inl 0)), ph2, g)) : xTC (d + 1) 205 [.inr (.inl (some 147))] ph g Q := by
  have hs := h.1
  obtain ⟨w1, w2, w3, w4⟩ := hSzS
  have e9 : hRd ph 148 401 = c.2.1.2.1.2.1 := by have := h.2.1.2.2.1; rw [Nat.zero_add] at this; exact this
  refine tEn (ls := [some (.inr (.inl (some 147)))]) (fun k => by match k with | 0 => rfl | k + 1 => rfl) ?_
  refine tK (l := xk_205) rfl rfl (fun _ _ _ _ _ => rfl) ?_
  refine tK (l := xk_205) rfl rfl (fun _ _ _ _ _ => rfl) ?_
  refine tK (l := xk_205) rfl rfl (hGetR (o := some 148) hs rfl rfl rfl (by decide) (by decide) rfl) ?_
  refine tK (l := xk_205) rfl rfl (fun _ _ _ _ _ => rfl) ?_
  first | refine tK (l := xk_205) rfl rfl (hIaldN hs rfl rfl (by omega)) ?_ | refine tK (l := xk_205) rfl rfl (hIald hs rfl (by omega) (by omega)) ?_
  rw [show Int.toNat 401 = 401 from rfl, e9]
  refine tIf_eq (l := xk_205) (pc' := 16) rfl rfl rfl (fun hc => ?_) (fun hc => ?_)
  · refine tK (l := xk_205) rfl rfl (fun _ _ _ _ _ => rfl) ?_
    refine tCa (l := xk_205) rfl rfl (hInvV (c := 10) hs rfl rfl rfl rfl rfl (Nat.le_of_ble_eq_true rfl) (Nat.le_of_ble_eq_true rfl)) ?_
    refine s147n h (show (1 : Int) ≠ 0 by decide) (fun ph2 k2 e0 f2 => ?_)
    refine tKv ?_
    refine tIf_eq (l := xk_205) (pc' := 34) rfl rfl rfl (fun hc => ?_) (fun hc => ?_)
    · refine tK (l := xk_205) rfl rfl (fun _ _ _ _ _ => rfl) ?_
      refine tRt (l := xk_205) rfl rfl (fun _ _ _ _ _ => rfl) ?_
      exact hQ ph2 k2 e0 f2.mo
    · exact absurd rfl hc
  · exact absurd hr hc
theorem m205 (h : hMm zs ph c) (hr : c.2.1.2.1.2.1 ≠ 0) (hQ : ∀ ph2, hMm zs ph2 c → hRd ph2 147 0 = 0 → hFd moP ph ph2 → Q (.inl (some (.inl c.2.1.2.1.2.1)), ph2, g)) : xTC (d + 1) 205 [.inr (.inl (some 147))] ph g Q := by
  have hs := h.1
  obtain ⟨w1, w2, w3, w4⟩ := hSzS
  have e9 : hRd ph 148 401 = c.2.1.2.1.2.1 := by have := h.2.1.2.2.1; rw [Nat.zero_add] at this; exact this
  refine tEn (ls := [some (.inr (.inl (some 147)))]) (fun k => by match k with | 0 => rfl | k + 1 => rfl) ?_
  refine tK (l := xk_205) rfl rfl (fun _ _ _ _ _ => rfl) ?_
  refine tK (l := xk_205) rfl rfl (fun _ _ _ _ _ => rfl) ?_
  refine tK (l := xk_205) rfl rfl (hGetR (o := some 148) hs rfl rfl rfl (by decide) (by decide) rfl) ?_
  refine tK (l := xk_205) rfl rfl (fun _ _ _ _ _ => rfl) ?_
  first | refine tK (l := xk_205) rfl rfl (hIaldN hs rfl rfl (by omega)) ?_ | refine tK (l := xk_205) rfl rfl (hIald hs rfl (by omega) (by omega)) ?_
  rw [show Int.toNat 401 = 401 from rfl, e9]
  refine tIf_eq (l := xk_205) (pc' := 16) rfl rfl rfl (fun hc => ?_) (fun hc => ?_)
  · exact absurd hc hr
  · refine tK (l := xk_205) rfl rfl (fun _ _ _ _ _ => rfl) ?_
    refine tK (l := xk_205) rfl rfl (fun _ _ _ _ _ => rfl) ?_
    refine tCa (l := xk_205) rfl rfl (hInvV (c := 10) hs rfl rfl rfl rfl rfl (Nat.le_of_ble_eq_true rfl) (Nat.le_of_ble_eq_true rfl)) ?_
    refine s147z h (fun ph2 k2 e0 f2 => ?_)
    refine tKv ?_
    have e92 : hRd ph2 148 401 = c.2.1.2.1.2.1 := by have := k2.2.1.2.2.1; rw [Nat.zero_add] at this; exact this
    refine tIf_eq (l := xk_205) (pc' := 34) rfl rfl rfl (fun hc => ?_) (fun hc => ?_)
    · exact absurd hc (by decide)
    · refine tK (l := xk_205) rfl rfl (fun _ _ _ _ _ => rfl) ?_
      refine tK (l := xk_205) rfl rfl (hGetR (o := some 148) k2.1 rfl rfl rfl (by decide) (by decide) rfl) ?_
      refine tK (l := xk_205) rfl rfl (fun _ _ _ _ _ => rfl) ?_
      first | refine tK (l := xk_205) rfl rfl (hIaldN k2.1 rfl rfl (by omega)) ?_ | refine tK (l := xk_205) rfl rfl (hIald k2.1 rfl (by omega) (by omega)) ?_
      rw [show Int.toNat 401 = 401 from rfl, e92]
      refine tK (l := xk_205) rfl rfl (fun _ _ _ _ _ => rfl) ?_
      refine tRt (l := xk_205) rfl rfl (fun _ _ _ _ _ => rfl) ?_
      exact hQ ph2 k2 e0 f2.mo
theorem hMm.bufw {ph2 : xH} {x : Int} {F : List Nat} (h : hMm zs ph c) (hs : hSh zs ph2) (hl : c.1.length < 60) (hf : hFM F [151] ph ph2) (h7 : hRd ph2 147 7 = ((c.1 ++ [x]).length : Int)) (hx : hRd ph2 151 c.1.length = x) (ho : ∀ j, j < c.1.length → hRd ph2 151 j = hRd ph 151 j) (hF : ∀ k ∈ [3, 5], k ∉ F := by decide) : hMm zs ph2 (c.1 ++ [x], c.2) := by
  obtain ⟨-, h1, ⟨h2, h3, h4⟩, ⟨h5, h6⟩, ⟨h7b, h8, h9⟩⟩ := h
  refine ⟨hs, h1.cp (fun j _ => hf.at (by decide) _), ⟨by rw [hf.fl (hF _ (by decide))]; exact h2, h3, fun k st hk => (h4 k st hk).cp (fun j _ => hf.at (by decide) _)⟩, ⟨by rw [hf.fl (hF _ (by decide))]; exact h5, fun st hst => (h6 st hst).cp (fun j _ => hf.at (by decide) _)⟩, ⟨h7, by simp only [List.length_append, List.length_cons, List.length_nil]; omega, fun i y hy => ?_⟩⟩
  have hi9 := (List.getElem?_eq_some_iff.mp hy).1
  simp only [List.length_append, List.length_cons, List.length_nil] at hi9
  by_cases e : i < c.1.length
  · rw [List.getElem?_append_left e] at hy
    rw [ho i e]; exact h9 i y hy
  · rw [List.getElem?_append_right (by omega), show i - c.1.length = 0 by omega] at hy
    simp only [List.getElem?_cons_zero, Option.some.injEq] at hy
    rw [show i = c.1.length by omega, hx, hy]
theorem m145x (h : hMm zs ph c) {x : Int} (hx : ¬ (33 ≤ x ∧ x ≤ 126)) (hQ : ∀ ph2, hMm zs ph2 c → hRd ph2 147 0 = 1 → hFd moP ph ph2 → Q (.inl (some (.inl 0)), ph2, g)) : xTC (d + 1) 145 [.inr (.inl (some 147)), .inl x] ph g Q := by
  have hs := h.1
  obtain ⟨w1, w2, w3, w4⟩ := hSzS
  have e7 : hRd ph 147 7 = (c.1.length : Int) := h.2.2.2.2.1
  refine tEn (ls := [some (.inr (.inl (some 147))), some (.inl x)]) (fun k => by match k with | 0 => rfl | 1 => rfl | k + 2 => rfl) ?_
  refine tK (l := xk_145) rfl rfl (fun _ _ _ _ _ => rfl) ?_
  refine tK (l := xk_145) rfl rfl (fun _ _ _ _ _ => rfl) ?_
  refine tK (l := xk_145) rfl rfl (fun _ _ _ _ _ => rfl) ?_
  refine tK (l := xk_145) rfl rfl (fun _ _ _ _ _ => rfl) ?_
  refine tCa (l := xk_145) rfl rfl (hInvS rfl rfl rfl rfl (Nat.le_of_ble_eq_true rfl) (Nat.le_of_ble_eq_true rfl)) ?_
  refine s146 ?_
  refine tKv ?_
  rw [if_neg hx]
  refine tIf_ne (l := xk_145) (pc' := 16) rfl rfl rfl (fun hc => ?_) (fun hc => ?_)
  · refine tK (l := xk_145) rfl rfl (fun _ _ _ _ _ => rfl) ?_
    refine tK (l := xk_145) rfl rfl (fun _ _ _ _ _ => rfl) ?_
    refine tCa (l := xk_145) rfl rfl (hInvV (c := 10) hs rfl rfl rfl rfl rfl (Nat.le_of_ble_eq_true rfl) (Nat.le_of_ble_eq_true rfl)) ?_
    refine s147n h (show (1 : Int) ≠ 0 by decide) (fun ph2 k2 e0 f2 => ?_)
    refine tKv ?_
    refine tIf_ne (l := xk_145) (pc' := 38) rfl rfl rfl (fun hc => ?_) (fun hc => ?_)
    · refine tK (l := xk_145) rfl rfl (fun _ _ _ _ _ => rfl) ?_
      refine tRt (l := xk_145) rfl rfl (fun _ _ _ _ _ => rfl) ?_
      exact hQ ph2 k2 e0 f2.mo
    · exact absurd rfl hc
  · exact absurd rfl hc
theorem m145n (h : hMm zs ph c) {x : Int} (hx : 33 ≤ x ∧ x ≤ 126) (hf : c.1.length = 60) (hQ : ∀ ph2, hMm zs ph2 c → hRd ph2 147 0 = 2 → hFd moP ph ph2 → Q (.inl (some (.inl 0)), ph2, g)) : xTC (d + 1) 145 [.inr (.inl (some 147)), .inl x] ph g Q := by
  have hs := h.1
  obtain ⟨w1, w2, w3, w4⟩ := hSzS
  have e7 : hRd ph 147 7 = (c.1.length : Int) := h.2.2.2.2.1
  refine tEn (ls := [some (.inr (.inl (some 147))), some (.inl x)]) (fun k => by match k with | 0 => rfl | 1 => rfl | k + 2 => rfl) ?_
  refine tK (l := xk_145) rfl rfl (fun _ _ _ _ _ => rfl) ?_
  refine tK (l := xk_145) rfl rfl (fun _ _ _ _ _ => rfl) ?_
  refine tK (l := xk_145) rfl rfl (fun _ _ _ _ _ => rfl) ?_
  refine tK (l := xk_145) rfl rfl (fun _ _ _ _ _ => rfl) ?_
  refine tCa (l := xk_145) rfl rfl (hInvS rfl rfl rfl rfl (Nat.le_of_ble_eq_true rfl) (Nat.le_of_ble_eq_true rfl)) ?_
  refine s146 ?_
  refine tKv ?_
  rw [if_pos hx]
  refine tIf_ne (l := xk_145) (pc' := 16) rfl rfl rfl (fun hc => ?_) (fun hc => ?_)
  · exact absurd hc (by decide)
  · refine tK (l := xk_145) rfl rfl (fun _ _ _ _ _ => rfl) ?_
    refine tK (l := xk_145) rfl rfl (hGetI hs rfl rfl rfl (by decide) (by decide)) ?_
    rw [e7]
    refine tK (l := xk_145) rfl rfl (fun _ _ _ _ _ => rfl) ?_
    refine tIc_ne (l := xk_145) (pc' := 29) rfl rfl rfl (fun hc => ?_) (fun hc => ?_)
    · refine tK (l := xk_145) rfl rfl (fun _ _ _ _ _ => rfl) ?_
      refine tK (l := xk_145) rfl rfl (fun _ _ _ _ _ => rfl) ?_
      refine tCa (l := xk_145) rfl rfl (hInvV (c := 10) hs rfl rfl rfl rfl rfl (Nat.le_of_ble_eq_true rfl) (Nat.le_of_ble_eq_true rfl)) ?_
      refine s147n h (show (2 : Int) ≠ 0 by decide) (fun ph2 k2 e0 f2 => ?_)
      refine tKv ?_
      refine tIf_ne (l := xk_145) (pc' := 38) rfl rfl rfl (fun hc => ?_) (fun hc => ?_)
      · refine tK (l := xk_145) rfl rfl (fun _ _ _ _ _ => rfl) ?_
        refine tRt (l := xk_145) rfl rfl (fun _ _ _ _ _ => rfl) ?_
        exact hQ ph2 k2 e0 f2.mo
      · exact absurd rfl hc
    · exfalso; omega
theorem m145 (h : hMm zs ph c) {x : Int} (hx : 33 ≤ x ∧ x ≤ 126) (hf : c.1.length < 60) (hQ : ∀ ph2, hMm zs ph2 (c.1 ++ [x], c.2) → hRd ph2 147 0 = 0 → hFd moP ph ph2 → Q (.inl (some (.inl ((c.1 ++ [x]).length : Int))), ph2, g)) : xTC (d + 1) 145 [.inr (.inl (some 147)), .inl x] ph g Q := by
  have hs := h.1
  obtain ⟨w1, w2, w3, w4⟩ := hSzS
  have e7 : hRd ph 147 7 = (c.1.length : Int) := h.2.2.2.2.1
  refine tEn (ls := [some (.inr (.inl (some 147))), some (.inl x)]) (fun k => by match k with | 0 => rfl | 1 => rfl | k + 2 => rfl) ?_
  refine tK (l := xk_145) rfl rfl (fun _ _ _ _ _ => rfl) ?_
  refine tK (l := xk_145) rfl rfl (fun _ _ _ _ _ => rfl) ?_
  refine tK (l := xk_145) rfl rfl (fun _ _ _ _ _ => rfl) ?_
  refine tK (l := xk_145) rfl rfl (fun _ _ _ _ _ => rfl) ?_
  refine tCa (l := xk_145) rfl rfl (hInvS rfl rfl rfl rfl (Nat.le_of_ble_eq_true rfl) (Nat.le_of_ble_eq_true rfl)) ?_
  refine s146 ?_
  refine tKv ?_
  rw [if_pos hx]
  refine tIf_ne (l := xk_145) (pc' := 16) rfl rfl rfl (fun hc => ?_) (fun hc => ?_)
  · exact absurd hc (by decide)
  · refine tK (l := xk_145) rfl rfl (fun _ _ _ _ _ => rfl) ?_
    refine tK (l := xk_145) rfl rfl (hGetI hs rfl rfl rfl (by decide) (by decide)) ?_
    rw [e7]
    refine tK (l := xk_145) rfl rfl (fun _ _ _ _ _ => rfl) ?_
    refine tIc_ne (l := xk_145) (pc' := 29) rfl rfl rfl (fun hc => ?_) (fun hc => ?_)
    · exfalso; omega
    · refine tK (l := xk_145) rfl rfl (fun _ _ _ _ _ => rfl) ?_
      refine tCa (l := xk_145) rfl rfl (hInvV (c := 10) hs rfl rfl rfl rfl rfl (Nat.le_of_ble_eq_true rfl) (Nat.le_of_ble_eq_true rfl)) ?_
      refine s147z h (fun ph2 k2 e0 f2 => ?_)
      refine tKv ?_
      have e72 : hRd ph2 147 7 = (c.1.length : Int) := k2.2.2.2.2.1
      refine tIf_ne (l := xk_145) (pc' := 38) rfl rfl rfl (fun hc => ?_) (fun hc => ?_)
      · exact absurd hc (by decide)
      · refine tK (l := xk_145) rfl rfl (fun _ _ _ _ _ => rfl) ?_
        refine tK (l := xk_145) rfl rfl (hGetR (o := some 151) k2.1 rfl rfl rfl (by decide) (by decide) rfl) ?_
        refine tK (l := xk_145) rfl rfl (fun _ _ _ _ _ => rfl) ?_
        refine tK (l := xk_145) rfl rfl (hGetI k2.1 rfl rfl rfl (by decide) (by decide)) ?_
        rw [e72]
        refine tK (l := xk_145) rfl rfl (fun _ _ _ _ _ => rfl) ?_
        first | refine tK (l := xk_145) rfl rfl (hIastN k2.1 rfl rfl (by omega)) ?_ | refine tK (l := xk_145) rfl rfl (hIast k2.1 rfl (by omega) (by omega)) ?_
        have s1 : hSh zs (hUp ph2 151 c.1.length x) := hShI1 _ k2.1 rfl rfl
        have f3 : hFM [] [151] ph2 (hUp ph2 151 c.1.length x) := hFM_a k2.1 rfl (by omega) (by decide) (by decide)
        have e73 : hRd (hUp ph2 151 c.1.length x) 147 7 = (c.1.length : Int) := by rw [f3.fl (by decide)]; exact e72
        refine tK (l := xk_145) rfl rfl (fun _ _ _ _ _ => rfl) ?_
        refine tK (l := xk_145) rfl rfl (fun _ _ _ _ _ => rfl) ?_
        refine tK (l := xk_145) rfl rfl (hGetI (hShI1 _ k2.1 rfl rfl) rfl rfl rfl (by decide) (by decide)) ?_
        rw [e73]
        refine tK (l := xk_145) rfl rfl (fun _ _ _ _ _ => rfl) ?_
        refine tK (l := xk_145) rfl rfl (hAdd ⟨by omega, by omega⟩) ?_
        refine tK (l := xk_145) rfl rfl (hPutV (hShI1 _ k2.1 rfl rfl) rfl rfl (by decide) (by decide) rfl) ?_
        refine tK (l := xk_145) rfl rfl (fun _ _ _ _ _ => rfl) ?_
        refine tK (l := xk_145) rfl rfl (hGetI (hShI1 _ (hShI1 _ k2.1 rfl rfl) rfl rfl) rfl rfl rfl (by decide) (by decide)) ?_
        refine tRt (l := xk_145) rfl rfl (fun _ _ _ _ _ => rfl) ?_
        have f4 : hFM [7] [] (hUp ph2 151 c.1.length x) (hUp (hUp ph2 151 c.1.length x) 147 7 ((c.1.length : Int) + 1)) := hFM_f s1 rfl (by decide) (by decide)
        have f5 : hFM [7] [151] ph2 (hUp (hUp ph2 151 c.1.length x) 147 7 ((c.1.length : Int) + 1)) := (f3.mono (by decide) (by decide)).trans (f4.mono (by decide) (by decide))
        have e74 : hRd (hUp (hUp ph2 151 c.1.length x) 147 7 ((c.1.length : Int) + 1)) 147 7 = ((c.1 ++ [x]).length : Int) := by rw [hRd_up s1 rfl (by decide), if_pos ⟨rfl, rfl⟩]; simp
        have hq := hQ (hUp (hUp ph2 151 c.1.length x) 147 7 ((c.1.length : Int) + 1)) (k2.bufw (hShI1 _ (hShI1 _ k2.1 rfl rfl) rfl rfl) hf f5 e74 (by rw [f4.at (by decide), hRd_up k2.1 rfl (by omega), if_pos ⟨rfl, rfl⟩]) (fun j hj => by rw [f4.at (by decide), hRd_up k2.1 rfl (by omega), if_neg (by omega)])) (by rw [f5.fl (by decide)]; exact e0) (f2.mo.trans f5.mo)
        rw [← e74] at hq
        exact hq
theorem m148 (h : hMm zs ph c) (hQ : ∀ ph2, hMm zs ph2 ([], c.2) → hRd ph2 147 0 = 0 → hFd moP ph ph2 → Q (.inl (some (.inl (c.1.length : Int))), ph2, g)) : xTC d 148 [.inr (.inl (some 147))] ph g Q := by
  have hs := h.1
  obtain ⟨k1, k2, k3⟩ := h.thr (x := 0)
  have e7 : hRd (hUp ph 147 0 0) 147 7 = (c.1.length : Int) := k1.2.2.2.2.1
  refine tEn (ls := [some (.inr (.inl (some 147))), none]) (fun k => by match k with | 0 => rfl | 1 => rfl | k + 2 => rfl) ?_
  refine tK (l := xk_148) rfl rfl (fun _ _ _ _ _ => rfl) ?_
  refine tK (l := xk_148) rfl rfl (fun _ _ _ _ _ => rfl) ?_
  refine tK (l := xk_148) rfl rfl (hPutV hs rfl rfl (by decide) (by decide) rfl) ?_
  refine tK (l := xk_148) rfl rfl (fun _ _ _ _ _ => rfl) ?_
  refine tK (l := xk_148) rfl rfl (hGetI (hShI1 _ hs rfl rfl) rfl rfl rfl (by decide) (by decide)) ?_
  rw [e7]
  refine tSt (l := xk_148) rfl rfl (fun _ _ _ _ _ => rfl) (Nat.le_of_ble_eq_true rfl) ?_
  refine tK (l := xk_148) rfl rfl (fun _ _ _ _ _ => rfl) ?_
  refine tK (l := xk_148) rfl rfl (fun _ _ _ _ _ => rfl) ?_
  refine tK (l := xk_148) rfl rfl (hPutV (hShI1 _ hs rfl rfl) rfl rfl (by decide) (by decide) rfl) ?_
  refine tK (l := xk_148) rfl rfl (fun _ _ _ _ _ => rfl) ?_
  refine tRt (l := xk_148) rfl rfl (fun _ _ _ _ _ => rfl) ?_
  have f4 : hFM [7] [] (hUp ph 147 0 0) (hUp (hUp ph 147 0 0) 147 7 0) := hFM_f k1.1 rfl (by decide) (by decide)
  obtain ⟨-, h1, ⟨h2, h3, h4⟩, ⟨h5, h6⟩, -⟩ := k1
  exact hQ _ ⟨(hShI1 _ (hShI1 _ hs rfl rfl) rfl rfl), h1.cp (fun j _ => f4.at (by decide) _), ⟨by rw [f4.fl (by decide)]; exact h2, h3, fun k st hk => (h4 k st hk).cp (fun j _ => f4.at (by decide) _)⟩, ⟨by rw [f4.fl (by decide)]; exact h5, fun st hst => (h6 st hst).cp (fun j _ => f4.at (by decide) _)⟩, ⟨by rw [hRd_up (hShI1 _ hs rfl rfl) rfl (by decide), if_pos ⟨rfl, rfl⟩]; rfl, Nat.zero_le _, fun i x hx => by simp at hx⟩⟩ (by rw [f4.fl (by decide)]; exact k2) (k3.mo.trans f4.mo)
theorem s186k {w : Int} {D : Cf} (h : hMm zs ph c) (hok : oks c.1) (hov : ∀ v, v < 8 → ∀ s, c.2.1.1 v = some s → oks s) (hsg : ∀ (i : Nat) (x : Int), c.1[i]? = some x → hRd ph 152 i = x) (h9 : hRd ph 147 9 = (c.1.length : Int)) (hD : Fin c.1 c.2.1.1 w D) (hQ : ∀ ph2, TE zs ph2 D → hMm zs ph2 c → hFM mF mA ph ph2 → Q (.inl none, ph2, g)) : xTC (d + 8) 186 [.inr (.inl (some 147)), .inl w] ph g Q :=
  s186 h.1 (fun v hv => by have := h.2.1.1 v hv; rw [Nat.zero_add] at this; exact this) hsg h9 h.2.2.2.2.2.1 hok hov hD (fun ph2 t2 f2 => hQ ph2 t2 (h.fr t2.1.1 f2) f2)
theorem TE.out {ph2 : xH} {D : Cf} (h : TE zs ph2 D) : hRd ph2 147 19 = ((ocD D).1.length : Int) := h.1.2.2.2.1.1
theorem TE.rs {ph2 : xH} {D : Cf} (h : TE zs ph2 D) : hRd ph2 147 20 = (ocD D).2.1 := h.2.1
theorem s216 (h : hMm zs ph c) {w : Int} {D : Cf} (hok : oks c.1) (hov : ∀ v, v < 8 → ∀ s, c.2.1.1 v = some s → oks s) (hsg : ∀ (i : Nat) (x : Int), c.1[i]? = some x → hRd ph 152 i = x) (h9 : hRd ph 147 9 = (c.1.length : Int)) (hD : Fin c.1 c.2.1.1 w D) (hQ : ∀ ph2, hMm zs ph2 c → hFM mF mA ph ph2 → Q (.inl (some (.inl ((ocD D).1.length : Int))), ph2, g)) : xTC (d + 9) 216 [.inr (.inl (some 147)), .inl w] ph g Q := by
  have hs := h.1
  refine tEn (ls := [some (.inr (.inl (some 147))), some (.inl w)]) (fun k => by match k with | 0 => rfl | 1 => rfl | k + 2 => rfl) ?_
  refine tK (l := xk_216) rfl rfl (fun _ _ _ _ _ => rfl) ?_
  refine tK (l := xk_216) rfl rfl (fun _ _ _ _ _ => rfl) ?_
  refine tCa (l := xk_216) rfl rfl (hInvV (c := 10) hs rfl rfl rfl rfl rfl (Nat.le_of_ble_eq_true rfl) (Nat.le_of_ble_eq_true rfl)) ?_
  refine s186k h hok hov hsg h9 hD (fun ph2 t2 k2 f2 => ?_)
  refine tKn ?_
  refine tK (l := xk_216) rfl rfl (fun _ _ _ _ _ => rfl) ?_
  refine tK (l := xk_216) rfl rfl (hGetI k2.1 rfl rfl rfl (by decide) (by decide)) ?_
  refine tRt (l := xk_216) rfl rfl (fun _ _ _ _ _ => rfl) ?_
  rw [t2.out]
  exact hQ ph2 k2 f2
theorem s219 (h : hMm zs ph c) {D : Cf} (hok : oks c.1) (hov : ∀ v, v < 8 → ∀ s, c.2.1.1 v = some s → oks s) (hsg : ∀ (i : Nat) (x : Int), c.1[i]? = some x → hRd ph 152 i = x) (h9 : hRd ph 147 9 = (c.1.length : Int)) (hD : Fin c.1 c.2.1.1 (-1) D) (hQ : ∀ ph2, hMm zs ph2 c → hFM mF mA ph ph2 → Q (.inl (some (.inl (ocD D).2.1)), ph2, g)) : xTC (d + 9) 219 [.inr (.inl (some 147))] ph g Q := by
  have hs := h.1
  refine tEn (ls := [some (.inr (.inl (some 147)))]) (fun k => by match k with | 0 => rfl | k + 1 => rfl) ?_
  refine tK (l := xk_219) rfl rfl (fun _ _ _ _ _ => rfl) ?_
  refine tK (l := xk_219) rfl rfl (fun _ _ _ _ _ => rfl) ?_
  refine tCa (l := xk_219) rfl rfl (hInvV (c := 10) hs rfl rfl rfl rfl rfl (Nat.le_of_ble_eq_true rfl) (Nat.le_of_ble_eq_true rfl)) ?_
  refine s186k h hok hov hsg h9 hD (fun ph2 t2 k2 f2 => ?_)
  refine tKn ?_
  refine tK (l := xk_219) rfl rfl (fun _ _ _ _ _ => rfl) ?_
  refine tK (l := xk_219) rfl rfl (hGetI k2.1 rfl rfl rfl (by decide) (by decide)) ?_
  refine tRt (l := xk_219) rfl rfl (fun _ _ _ _ _ => rfl) ?_
  rw [t2.rs]
  exact hQ ph2 k2 f2
theorem mFA {pha phb : xH} (h : hFM mF mA pha phb) : hFd moP pha phb := h.mo (by decide)
theorem m215 (h : hMm zs ph c) {D : Cf} (hok : oks c.1) (hov : ∀ v, v < 8 → ∀ s, c.2.1.1 v = some s → oks s) (hw : pWh c.1 = true) (hD : Fin c.1 c.2.1.1 (-1) D) (hQ : ∀ ph2, hMm zs ph2 c → hRd ph2 147 0 = 0 → hFd moP ph ph2 → Q (.inl (some (.inl ((ocD D).1.length : Int))), ph2, g)) : xTC (d + 10) 215 [.inr (.inl (some 147))] ph g Q := by
  have hs := h.1
  refine tEn (ls := [some (.inr (.inl (some 147)))]) (fun k => by match k with | 0 => rfl | k + 1 => rfl) ?_
  refine tK (l := xk_215) rfl rfl (fun _ _ _ _ _ => rfl) ?_
  refine tK (l := xk_215) rfl rfl (fun _ _ _ _ _ => rfl) ?_
  refine tCa (l := xk_215) rfl rfl (hInvV (c := 10) hs rfl rfl rfl rfl rfl (Nat.le_of_ble_eq_true rfl) (Nat.le_of_ble_eq_true rfl)) ?_
  refine s157 h hok hw (fun ph1 k1 f1 hmr hsg h9 => ?_)
  refine tKv ?_
  refine tIf_eq (l := xk_215) (pc' := 12) rfl rfl rfl (fun hc => ?_) (fun hc => ?_)
  · exact absurd hc (by decide)
  · refine tK (l := xk_215) rfl rfl (fun _ _ _ _ _ => rfl) ?_
    refine tK (l := xk_215) rfl rfl (fun _ _ _ _ _ => rfl) ?_
    refine tCa (l := xk_215) rfl rfl (hInvV (c := 10) k1.1 rfl rfl rfl rfl rfl (Nat.le_of_ble_eq_true rfl) (Nat.le_of_ble_eq_true rfl)) ?_
    refine s147z k1 (fun ph2 k2 e0 f2 => ?_)
    refine tKv ?_
    refine tIf_eq (l := xk_215) (pc' := 27) rfl rfl rfl (fun hc => ?_) (fun hc => ?_)
    · exact absurd hc (by decide)
    · refine tK (l := xk_215) rfl rfl (fun _ _ _ _ _ => rfl) ?_
      refine tK (l := xk_215) rfl rfl (fun _ _ _ _ _ => rfl) ?_
      refine tCa (l := xk_215) rfl rfl (hInvV (c := 10) k2.1 rfl rfl rfl rfl rfl (Nat.le_of_ble_eq_true rfl) (Nat.le_of_ble_eq_true rfl)) ?_
      refine s216 k2 hok hov (fun i x hx => by rw [f2.at (by decide)]; exact hsg i x hx) (by rw [f2.fl (by decide)]; exact h9) hD (fun ph3 k3 f3 => ?_)
      refine tKv ?_
      refine tK (l := xk_215) rfl rfl (fun _ _ _ _ _ => rfl) ?_
      refine tRt (l := xk_215) rfl rfl (fun _ _ _ _ _ => rfl) ?_
      exact hQ ph3 k3 (by rw [f3.fl (by decide)]; exact e0) ((f1.mo.trans f2.mo).trans (mFA f3))
theorem m218 (h : hMm zs ph c) {D : Cf} (hok : oks c.1) (hov : ∀ v, v < 8 → ∀ s, c.2.1.1 v = some s → oks s) (hw : pWh c.1 = true) (hD : Fin c.1 c.2.1.1 (-1) D) (hQ : ∀ ph2, hMm zs ph2 c → hRd ph2 147 0 = 0 → hFd moP ph ph2 → Q (.inl (some (.inl (ocD D).2.1)), ph2, g)) : xTC (d + 10) 218 [.inr (.inl (some 147))] ph g Q := by
  have hs := h.1
  refine tEn (ls := [some (.inr (.inl (some 147)))]) (fun k => by match k with | 0 => rfl | k + 1 => rfl) ?_
  refine tK (l := xk_218) rfl rfl (fun _ _ _ _ _ => rfl) ?_
  refine tK (l := xk_218) rfl rfl (fun _ _ _ _ _ => rfl) ?_
  refine tCa (l := xk_218) rfl rfl (hInvV (c := 10) hs rfl rfl rfl rfl rfl (Nat.le_of_ble_eq_true rfl) (Nat.le_of_ble_eq_true rfl)) ?_
  refine s157 h hok hw (fun ph1 k1 f1 hmr hsg h9 => ?_)
  refine tKv ?_
  refine tIf_eq (l := xk_218) (pc' := 12) rfl rfl rfl (fun hc => ?_) (fun hc => ?_)
  · exact absurd hc (by decide)
  · refine tK (l := xk_218) rfl rfl (fun _ _ _ _ _ => rfl) ?_
    refine tK (l := xk_218) rfl rfl (fun _ _ _ _ _ => rfl) ?_
    refine tCa (l := xk_218) rfl rfl (hInvV (c := 10) k1.1 rfl rfl rfl rfl rfl (Nat.le_of_ble_eq_true rfl) (Nat.le_of_ble_eq_true rfl)) ?_
    refine s147z k1 (fun ph2 k2 e0 f2 => ?_)
    refine tKv ?_
    refine tIf_eq (l := xk_218) (pc' := 26) rfl rfl rfl (fun hc => ?_) (fun hc => ?_)
    · exact absurd hc (by decide)
    · refine tK (l := xk_218) rfl rfl (fun _ _ _ _ _ => rfl) ?_
      refine tCa (l := xk_218) rfl rfl (hInvV (c := 10) k2.1 rfl rfl rfl rfl rfl (Nat.le_of_ble_eq_true rfl) (Nat.le_of_ble_eq_true rfl)) ?_
      refine s219 k2 hok hov (fun i x hx => by rw [f2.at (by decide)]; exact hsg i x hx) (by rw [f2.fl (by decide)]; exact h9) hD (fun ph3 k3 f3 => ?_)
      refine tKv ?_
      refine tK (l := xk_218) rfl rfl (fun _ _ _ _ _ => rfl) ?_
      refine tRt (l := xk_218) rfl rfl (fun _ _ _ _ _ => rfl) ?_
      exact hQ ph3 k3 (by rw [f3.fl (by decide)]; exact e0) ((f1.mo.trans f2.mo).trans (mFA f3))
theorem m220 (h : hMm zs ph c) {n : Nat} {D : Cf} (hn : n < 8) (hok : oks c.1) (hov : ∀ v, v < 8 → ∀ s, c.2.1.1 v = some s → oks s) (hw : pWh c.1 = true) (hD : Fin c.1 c.2.1.1 (n : Int) D) (hQ : ∀ ph2, hMm zs ph2 c → hRd ph2 147 0 = 0 → hFd moP ph ph2 → Q (.inl (some (.inl ((ocD D).1.length : Int))), ph2, g)) : xTC (d + 10) 220 [.inr (.inl (some 147)), .inl (n : Int)] ph g Q := by
  have hs := h.1
  refine tEn (ls := [some (.inr (.inl (some 147))), some (.inl (n : Int))]) (fun k => by match k with | 0 => rfl | 1 => rfl | k + 2 => rfl) ?_
  refine tK (l := xk_220) rfl rfl (fun _ _ _ _ _ => rfl) ?_
  refine tK (l := xk_220) rfl rfl (fun _ _ _ _ _ => rfl) ?_
  refine tCa (l := xk_220) rfl rfl (hInvS rfl rfl rfl rfl (Nat.le_of_ble_eq_true rfl) (Nat.le_of_ble_eq_true rfl)) ?_
  refine s164 hn ?_
  refine tKv ?_
  refine tIf_ne (l := xk_220) (pc' := 12) rfl rfl rfl (fun hc => ?_) (fun hc => ?_)
  · exact absurd hc (by decide)
  · refine tK (l := xk_220) rfl rfl (fun _ _ _ _ _ => rfl) ?_
    refine tCa (l := xk_220) rfl rfl (hInvV (c := 10) hs rfl rfl rfl rfl rfl (Nat.le_of_ble_eq_true rfl) (Nat.le_of_ble_eq_true rfl)) ?_
    refine s157 h hok hw (fun ph1 k1 f1 hmr hsg h9 => ?_)
    refine tKv ?_
    refine tIf_eq (l := xk_220) (pc' := 23) rfl rfl rfl (fun hc => ?_) (fun hc => ?_)
    · exact absurd hc (by decide)
    · refine tK (l := xk_220) rfl rfl (fun _ _ _ _ _ => rfl) ?_
      refine tK (l := xk_220) rfl rfl (fun _ _ _ _ _ => rfl) ?_
      refine tCa (l := xk_220) rfl rfl (hInvV (c := 10) k1.1 rfl rfl rfl rfl rfl (Nat.le_of_ble_eq_true rfl) (Nat.le_of_ble_eq_true rfl)) ?_
      refine s147z k1 (fun ph2 k2 e0 f2 => ?_)
      refine tKv ?_
      refine tIf_eq (l := xk_220) (pc' := 38) rfl rfl rfl (fun hc => ?_) (fun hc => ?_)
      · exact absurd hc (by decide)
      · refine tK (l := xk_220) rfl rfl (fun _ _ _ _ _ => rfl) ?_
        refine tK (l := xk_220) rfl rfl (fun _ _ _ _ _ => rfl) ?_
        refine tCa (l := xk_220) rfl rfl (hInvV (c := 10) k2.1 rfl rfl rfl rfl rfl (Nat.le_of_ble_eq_true rfl) (Nat.le_of_ble_eq_true rfl)) ?_
        refine s216 k2 hok hov (fun i x hx => by rw [f2.at (by decide)]; exact hsg i x hx) (by rw [f2.fl (by decide)]; exact h9) hD (fun ph3 k3 f3 => ?_)
        refine tKv ?_
        refine tK (l := xk_220) rfl rfl (fun _ _ _ _ _ => rfl) ?_
        refine tRt (l := xk_220) rfl rfl (fun _ _ _ _ _ => rfl) ?_
        exact hQ ph3 k3 (by rw [f3.fl (by decide)]; exact e0) ((f1.mo.trans f2.mo).trans (mFA f3))
theorem m220x (h : hMm zs ph c) {x : Int} (hx : ¬ (0 ≤ x ∧ x < 8)) (hQ : ∀ ph2, hMm zs ph2 c → hRd ph2 147 0 = 1 → hFd moP ph ph2 → Q (.inl (some (.inl 0)), ph2, g)) : xTC (d + 10) 220 [.inr (.inl (some 147)), .inl x] ph g Q := by
  have hs := h.1
  obtain ⟨w1, w2, w3, w4⟩ := hSzS
  refine tEn (ls := [some (.inr (.inl (some 147))), some (.inl x)]) (fun k => by match k with | 0 => rfl | 1 => rfl | k + 2 => rfl) ?_
  refine tK (l := xk_220) rfl rfl (fun _ _ _ _ _ => rfl) ?_
  refine tK (l := xk_220) rfl rfl (fun _ _ _ _ _ => rfl) ?_
  refine tCa (l := xk_220) rfl rfl (hInvS rfl rfl rfl rfl (Nat.le_of_ble_eq_true rfl) (Nat.le_of_ble_eq_true rfl)) ?_
  refine s164x hx ?_
  refine tKv ?_
  refine tIf_ne (l := xk_220) (pc' := 12) rfl rfl rfl (fun hc => ?_) (fun hc => ?_)
  · refine tK (l := xk_220) rfl rfl (fun _ _ _ _ _ => rfl) ?_
    refine tK (l := xk_220) rfl rfl (fun _ _ _ _ _ => rfl) ?_
    refine tCa (l := xk_220) rfl rfl (hInvV (c := 10) hs rfl rfl rfl rfl rfl (Nat.le_of_ble_eq_true rfl) (Nat.le_of_ble_eq_true rfl)) ?_
    refine s147n h (show (1 : Int) ≠ 0 by decide) (fun ph2 k2 e0 f2 => ?_)
    refine tKv ?_
    refine tIf_eq (l := xk_220) (pc' := 38) rfl rfl rfl (fun hc => ?_) (fun hc => ?_)
    · refine tK (l := xk_220) rfl rfl (fun _ _ _ _ _ => rfl) ?_
      refine tRt (l := xk_220) rfl rfl (fun _ _ _ _ _ => rfl) ?_
      exact hQ ph2 k2 e0 f2.mo
    · exact absurd rfl hc
  · exact absurd rfl hc
theorem m220n (h : hMm zs ph c) {n : Nat} (hn : n < 8) (hok : oks c.1) (hw : pWh c.1 = false) (hQ : ∀ ph2, hMm zs ph2 c → hRd ph2 147 0 = 2 → hFd moP ph ph2 → Q (.inl (some (.inl 0)), ph2, g)) : xTC (d + 10) 220 [.inr (.inl (some 147)), .inl (n : Int)] ph g Q := by
  have hs := h.1
  refine tEn (ls := [some (.inr (.inl (some 147))), some (.inl (n : Int))]) (fun k => by match k with | 0 => rfl | 1 => rfl | k + 2 => rfl) ?_
  refine tK (l := xk_220) rfl rfl (fun _ _ _ _ _ => rfl) ?_
  refine tK (l := xk_220) rfl rfl (fun _ _ _ _ _ => rfl) ?_
  refine tCa (l := xk_220) rfl rfl (hInvS rfl rfl rfl rfl (Nat.le_of_ble_eq_true rfl) (Nat.le_of_ble_eq_true rfl)) ?_
  refine s164 hn ?_
  refine tKv ?_
  refine tIf_ne (l := xk_220) (pc' := 12) rfl rfl rfl (fun hc => ?_) (fun hc => ?_)
  · exact absurd hc (by decide)
  · refine tK (l := xk_220) rfl rfl (fun _ _ _ _ _ => rfl) ?_
    refine tCa (l := xk_220) rfl rfl (hInvV (c := 10) hs rfl rfl rfl rfl rfl (Nat.le_of_ble_eq_true rfl) (Nat.le_of_ble_eq_true rfl)) ?_
    refine s157n h hok hw (fun ph1 k1 f1 hsg h9 => ?_)
    refine tKv ?_
    refine tIf_eq (l := xk_220) (pc' := 23) rfl rfl rfl (fun hc => ?_) (fun hc => ?_)
    · refine tK (l := xk_220) rfl rfl (fun _ _ _ _ _ => rfl) ?_
      refine tCa (l := xk_220) rfl rfl (hInvV (c := 10) k1.1 rfl rfl rfl rfl rfl (Nat.le_of_ble_eq_true rfl) (Nat.le_of_ble_eq_true rfl)) ?_
      refine s147n k1 (show (2 : Int) ≠ 0 by decide) (fun ph2 k2 e0 f2 => ?_)
      refine tKv ?_
      refine tIf_eq (l := xk_220) (pc' := 38) rfl rfl rfl (fun hc => ?_) (fun hc => ?_)
      · refine tK (l := xk_220) rfl rfl (fun _ _ _ _ _ => rfl) ?_
        refine tRt (l := xk_220) rfl rfl (fun _ _ _ _ _ => rfl) ?_
        exact hQ ph2 k2 e0 (f1.mo.trans f2.mo)
      · exact absurd rfl hc
    · exact absurd rfl hc
theorem m217 (h : hMm zs ph c) {D : Cf} (hok : oks c.1) (hov : ∀ v, v < 8 → ∀ s, c.2.1.1 v = some s → oks s) (hw : pWh c.1 = true) (hD : Fin c.1 c.2.1.1 (-1) D) (hQ : ∀ ph2, hMm zs ph2 c → hRd ph2 147 0 = 0 → hFd moP ph ph2 → Q (.inl (some (.inl ((ocD D).1.length : Int))), ph2, g)) : xTC (d + 11) 217 [.inr (.inl (some 147))] ph g Q := by
  have hs := h.1
  refine tEn (ls := [some (.inr (.inl (some 147)))]) (fun k => by match k with | 0 => rfl | k + 1 => rfl) ?_
  refine tK (l := xk_217) rfl rfl (fun _ _ _ _ _ => rfl) ?_
  refine tCa (l := xk_217) rfl rfl (hInvV (c := 10) hs rfl rfl rfl rfl rfl (Nat.le_of_ble_eq_true rfl) (Nat.le_of_ble_eq_true rfl)) ?_
  refine m215 h hok hov hw hD (fun ph2 k2 e0 f2 => ?_)
  refine tKv ?_
  refine tRt (l := xk_217) rfl rfl (fun _ _ _ _ _ => rfl) ?_
  exact hQ ph2 k2 e0 f2
theorem m217n (h : hMm zs ph c) (hok : oks c.1) (hw : pWh c.1 = false) (hQ : ∀ ph2, hMm zs ph2 c → hRd ph2 147 0 = 1 → hFd moP ph ph2 → Q (.inl (some (.inl 0)), ph2, g)) : xTC (d + 11) 217 [.inr (.inl (some 147))] ph g Q := by
  have hs := h.1
  refine tEn (ls := [some (.inr (.inl (some 147)))]) (fun k => by match k with | 0 => rfl | k + 1 => rfl) ?_
  refine tK (l := xk_217) rfl rfl (fun _ _ _ _ _ => rfl) ?_
  refine tCa (l := xk_217) rfl rfl (hInvV (c := 10) hs rfl rfl rfl rfl rfl (Nat.le_of_ble_eq_true rfl) (Nat.le_of_ble_eq_true rfl)) ?_
  refine m215n h hok hw (fun ph2 k2 e0 f2 => ?_)
  refine tKv ?_
  refine tRt (l := xk_217) rfl rfl (fun _ _ _ _ _ => rfl) ?_
  exact hQ ph2 k2 e0 f2
end MC2
