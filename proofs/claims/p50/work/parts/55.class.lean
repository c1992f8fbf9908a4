/-! ===== the class's state ===== -/
abbrev KS : Type := List Int × SS × Option SS × List SS
def hKl (zs : List xV) (ph : xH) (c : KS) : Prop := hSh zs ph ∧ (hTW ph 2 ∧ hTo ph 2 0 = some c.1) ∧ (hTW ph 5 ∧ hTW ph 45 ∧ hTW ph 50 ∧ hTW ph 53 ∧ hTW ph 65) ∧ hSt ph 73 c.2.1 ∧ (hTW ph 83 ∧ hTW ph 87) ∧ hRd ph 1 9 = (if c.2.2.1.isSome = true then 1 else 0) ∧ (∀ st, c.2.2.1 = some st → hSt ph 82 st) ∧ hHi ph c.2.2.2
def okSS (B : Nat) (st : SS) : Prop := (∀ n, n < 8 → ∀ s, st.1 n = some s → oks s ∧ s.length ≤ 24) ∧ (oks st.2.1.1 ∧ st.2.1.1.length ≤ 200) ∧ st.2.1.2.2.1.length ≤ 5 ∧ (0 ≤ st.2.1.2.1 ∧ st.2.1.2.1 ≤ 6) ∧ (0 ≤ st.2.2.1 ∧ st.2.2.1 ≤ B) ∧ (0 ≤ st.2.2.2.1 ∧ st.2.2.2.1 ≤ B) ∧ (0 ≤ st.2.2.2.2 ∧ st.2.2.2.2 ≤ 200 * B) ∧ (∃ p e v : Nat, st.2.1.2.2.2.2.1 = p ∧ st.2.1.2.2.2.2.2.1 = e ∧ st.2.1.2.2.2.2.2.2 = v ∧ p + e + v = st.2.1.1.length) ∧ (0 ≤ st.2.1.2.2.2.1 ∧ st.2.1.2.2.2.1 ≤ 200)
def okKS (B : Nat) (c : KS) : Prop := (oks c.1 ∧ c.1.length ≤ 60) ∧ okSS B c.2.1 ∧ (∀ st, c.2.2.1 = some st → okSS B st) ∧ (∀ st ∈ c.2.2.2, okSS B st) ∧ c.2.2.2.length ≤ 6
def scP (a : Nat) : Prop := 5 ≤ a ∧ a ≤ 72
def clP (a : Nat) : Prop := a < 147
theorem scP_cl {a : Nat} (h : scP a) : clP a := by unfold scP at h; unfold clP; omega
section CLS
variable {d : Nat} {ph : xH} {zs : List xV} {g : Nat} {Q : xR → Prop} {c : KS}
theorem hKl.sc {ph2 : xH} (h : hKl zs ph c) (hs : hSh zs ph2) (hf : hFd scP ph ph2) (hw : hTW ph2 5 ∧ hTW ph2 45 ∧ hTW ph2 50 ∧ hTW ph2 53 ∧ hTW ph2 65) : hKl zs ph2 c := by
  obtain ⟨-, ⟨b1, b2⟩, -, h3, ⟨h4, h5⟩, h6, h7, h8⟩ := h
  refine ⟨hs, ⟨hf.tw (by unfold scP; omega) b1, (hf.to (by unfold scP; omega) (by unfold scP; omega)).trans b2⟩, hw, h3.fd hf (fun a _ _ => by unfold scP; omega), ⟨hf.tw (by unfold scP; omega) h4, hf.tw (by unfold scP; omega) h5⟩, by rw [hf.1 _ _ (by unfold scP; omega)]; exact h6, fun st hst => (h7 st hst).fd hf (fun a _ _ => by unfold scP; omega), h8.fd hf (fun a _ _ => by unfold scP; omega)⟩
theorem hKl.scr {S : List Nat} {ph2 : xH} (h : hKl zs ph c) (hs : hSh zs ph2) (hf : hFr S ph ph2) (hS : ∀ a ∈ S, 5 ≤ a ∧ a ≤ 72 ∧ a ∉ [7, 47, 52, 55, 67]) : hKl zs ph2 c := by
  have hw := h.2.2.1
  have n : ∀ a, a ∈ [7, 47, 52, 55, 67] → a ∉ S := fun a ha hq => (hS a hq).2.2 ha
  exact h.sc hs (hf.fd (fun a ha => ⟨(hS a ha).1, (hS a ha).2.1⟩)) ⟨hf.tw (n _ (by decide)) hw.1, hf.tw (n _ (by decide)) hw.2.1, hf.tw (n _ (by decide)) hw.2.2.1, hf.tw (n _ (by decide)) hw.2.2.2.1, hf.tw (n _ (by decide)) hw.2.2.2.2⟩
theorem hFr.cl {S : List Nat} {P : Nat → Prop} {pha phb : xH} (h : hFr S pha phb) (hS : ∀ a ∈ S, P a) : hFd P pha phb := h.fd hS
theorem hRw74 : hRw 74 = 8 ∧ hWd 74 = 24 ∧ hRw 2 = 1 ∧ hWd 2 = 60 ∧ hRw 5 = 1 ∧ hWd 5 = 60 ∧ hRw 78 = 1 ∧ hWd 78 = 200 := by decide +kernel
theorem hKl.val {n : Nat} (h : hKl zs ph c) (hn : n < 8) : hTW ph 74 ∧ hTo ph 74 n = c.2.1.1 n := ⟨h.2.2.2.1.1, h.2.2.2.1.2.1 n hn⟩
theorem s108 {n : Nat} (hn : n < 8) (hQ : Q (.inl none, ph, g)) : xTC d 108 [.inl (n : Int)] ph g Q := by
  refine tEn (ls := [some (.inl (n : Int))]) (fun k => by match k with | 0 => rfl | k + 1 => rfl) ?_
  refine tK (l := xk_108) rfl rfl (fun _ _ _ _ _ => rfl) ?_
  refine tIf_lt (l := xk_108) (pc' := 10) rfl rfl rfl (fun hc => ?_) (fun hc => ?_)
  · exfalso; omega
  · refine tK (l := xk_108) rfl rfl (fun _ _ _ _ _ => rfl) ?_
    refine tK (l := xk_108) rfl rfl (fun _ _ _ _ _ => rfl) ?_
    refine tIc_lt (l := xk_108) (pc' := 21) rfl rfl rfl (fun hc => ?_) (fun hc => ?_)
    · refine tRt (l := xk_108) rfl rfl (fun _ _ _ _ _ => rfl) ?_
      exact hQ
    · exfalso; omega
theorem s108x {x : Int} (hx : ¬ (0 ≤ x ∧ x < 8)) (hQ : Q (.inr 2, ph, g + 1)) : xTC d 108 [.inl x] ph g Q := by
  refine tEn (ls := [some (.inl x)]) (fun k => by match k with | 0 => rfl | k + 1 => rfl) ?_
  refine tK (l := xk_108) rfl rfl (fun _ _ _ _ _ => rfl) ?_
  refine tIf_lt (l := xk_108) (pc' := 10) rfl rfl rfl (fun hc => ?_) (fun hc => ?_)
  · refine tTh (l := xk_108) rfl rfl (fun _ _ _ _ _ => rfl) ?_
    exact hQ
  · refine tK (l := xk_108) rfl rfl (fun _ _ _ _ _ => rfl) ?_
    refine tK (l := xk_108) rfl rfl (fun _ _ _ _ _ => rfl) ?_
    refine tIc_lt (l := xk_108) (pc' := 21) rfl rfl rfl (fun hc => ?_) (fun hc => ?_)
    · refine tRt (l := xk_108) rfl rfl (fun _ _ _ _ _ => rfl) ?_
      exfalso; omega
    · refine tTh (l := xk_108) rfl rfl (fun _ _ _ _ _ => rfl) ?_
      exact hQ
theorem s127 {x : Int} (hx : 33 ≤ x ∧ x ≤ 126) (hQ : Q (.inl none, ph, g)) : xTC d 127 [.inl x] ph g Q := by
  refine tEn (ls := [some (.inl x)]) (fun k => by match k with | 0 => rfl | k + 1 => rfl) ?_
  refine tK (l := xk_127) rfl rfl (fun _ _ _ _ _ => rfl) ?_
  refine tK (l := xk_127) rfl rfl (fun _ _ _ _ _ => rfl) ?_
  refine tIc_lt (l := xk_127) (pc' := 12) rfl rfl rfl (fun hc => ?_) (fun hc => ?_)
  · exfalso; omega
  · refine tK (l := xk_127) rfl rfl (fun _ _ _ _ _ => rfl) ?_
    refine tK (l := xk_127) rfl rfl (fun _ _ _ _ _ => rfl) ?_
    refine tIc_le (l := xk_127) (pc' := 23) rfl rfl rfl (fun hc => ?_) (fun hc => ?_)
    · refine tTh (l := xk_127) rfl rfl (fun _ _ _ _ _ => rfl) ?_
      exfalso; omega
    · refine tRt (l := xk_127) rfl rfl (fun _ _ _ _ _ => rfl) ?_
      exact hQ
theorem s127x {x : Int} (hx : ¬ (33 ≤ x ∧ x ≤ 126)) (hQ : Q (.inr 0, ph, g + 1)) : xTC d 127 [.inl x] ph g Q := by
  refine tEn (ls := [some (.inl x)]) (fun k => by match k with | 0 => rfl | k + 1 => rfl) ?_
  refine tK (l := xk_127) rfl rfl (fun _ _ _ _ _ => rfl) ?_
  refine tK (l := xk_127) rfl rfl (fun _ _ _ _ _ => rfl) ?_
  refine tIc_lt (l := xk_127) (pc' := 12) rfl rfl rfl (fun hc => ?_) (fun hc => ?_)
  · refine tTh (l := xk_127) rfl rfl (fun _ _ _ _ _ => rfl) ?_
    exact hQ
  · refine tK (l := xk_127) rfl rfl (fun _ _ _ _ _ => rfl) ?_
    refine tK (l := xk_127) rfl rfl (fun _ _ _ _ _ => rfl) ?_
    refine tIc_le (l := xk_127) (pc' := 23) rfl rfl rfl (fun hc => ?_) (fun hc => ?_)
    · refine tTh (l := xk_127) rfl rfl (fun _ _ _ _ _ => rfl) ?_
      exact hQ
    · refine tRt (l := xk_127) rfl rfl (fun _ _ _ _ _ => rfl) ?_
      exfalso; omega
theorem s110x {x : Int} (hx : ¬ (0 ≤ x ∧ x < 8)) (hs : hSh zs ph) (hQ : Q (.inr 2, ph, g + 1)) : xTC (d + 1) 110 [.inr (.inl (some 1)), .inl x] ph g Q := by
  refine tEn (ls := [some (.inr (.inl (some 1))), some (.inl x), none]) (fun k => by match k with | 0 => rfl | 1 => rfl | 2 => rfl | k + 3 => rfl) ?_
  refine tK (l := xk_110) rfl rfl (fun _ _ _ _ _ => rfl) ?_
  refine tCa (l := xk_110) rfl rfl (hInvS rfl rfl rfl rfl (Nat.le_of_ble_eq_true rfl) (Nat.le_of_ble_eq_true rfl)) ?_
  refine s108x hx ?_
  refine tKx rfl ?_
  exact hQ
theorem s110 {n : Nat} {v : List Int} (h : hKl zs ph c) (hn : n < 8) (hv : c.2.1.1 n = some v) (hQ : Q (.inl (some (.inl (v.length : Int))), ph, g)) : xTC (d + 1) 110 [.inr (.inl (some 1)), .inl (n : Int)] ph g Q := by
  have hs := h.1
  refine tEn (ls := [some (.inr (.inl (some 1))), some (.inl (n : Int)), none]) (fun k => by match k with | 0 => rfl | 1 => rfl | 2 => rfl | k + 3 => rfl) ?_
  refine tK (l := xk_110) rfl rfl (fun _ _ _ _ _ => rfl) ?_
  refine tCa (l := xk_110) rfl rfl (hInvS rfl rfl rfl rfl (Nat.le_of_ble_eq_true rfl) (Nat.le_of_ble_eq_true rfl)) ?_
  refine s108 hn ?_
  refine tKn ?_
  refine tK (l := xk_110) rfl rfl (fun _ _ _ _ _ => rfl) ?_
  refine tK (l := xk_110) rfl rfl (hGetR (o := some 73) hs rfl rfl rfl (by decide) (by decide) rfl) ?_
  refine tK (l := xk_110) rfl rfl (hGetR (o := some 74) hs rfl rfl rfl (by decide) (by decide) rfl) ?_
  refine tK (l := xk_110) rfl rfl (fun _ _ _ _ _ => rfl) ?_
  refine tCa (l := xk_110) rfl rfl (hInvV (c := 8) hs rfl rfl rfl rfl rfl (Nat.le_of_ble_eq_true rfl) (Nat.le_of_ble_eq_true rfl)) ?_
  refine a75 hs rfl (h.val hn).1 (by have := hRw74; omega) ((h.val hn).2.trans hv) ?_
  refine tKv ?_
  simp only [hLo]
  refine tSt (l := xk_110) rfl rfl (fun _ _ _ _ _ => rfl) (Nat.le_of_ble_eq_true rfl) ?_
  refine tK (l := xk_110) rfl rfl (fun _ _ _ _ _ => rfl) ?_
  refine tK (l := xk_110) rfl rfl (fun _ _ _ _ _ => rfl) ?_
  refine tIc_ne (l := xk_110) (pc' := 32) rfl rfl rfl (fun hc => ?_) (fun hc => ?_)
  · exfalso
    have h9 : (v.length : Int) = -1 := hc
    omega
  · refine tK (l := xk_110) rfl rfl (fun _ _ _ _ _ => rfl) ?_
    refine tRt (l := xk_110) rfl rfl (fun _ _ _ _ _ => rfl) ?_
    exact hQ
theorem s110n {n : Nat} (h : hKl zs ph c) (hn : n < 8) (hv : c.2.1.1 n = none) (hQ : Q (.inr 1, ph, g + 1)) : xTC (d + 1) 110 [.inr (.inl (some 1)), .inl (n : Int)] ph g Q := by
  have hs := h.1
  refine tEn (ls := [some (.inr (.inl (some 1))), some (.inl (n : Int)), none]) (fun k => by match k with | 0 => rfl | 1 => rfl | 2 => rfl | k + 3 => rfl) ?_
  refine tK (l := xk_110) rfl rfl (fun _ _ _ _ _ => rfl) ?_
  refine tCa (l := xk_110) rfl rfl (hInvS rfl rfl rfl rfl (Nat.le_of_ble_eq_true rfl) (Nat.le_of_ble_eq_true rfl)) ?_
  refine s108 hn ?_
  refine tKn ?_
  refine tK (l := xk_110) rfl rfl (fun _ _ _ _ _ => rfl) ?_
  refine tK (l := xk_110) rfl rfl (hGetR (o := some 73) hs rfl rfl rfl (by decide) (by decide) rfl) ?_
  refine tK (l := xk_110) rfl rfl (hGetR (o := some 74) hs rfl rfl rfl (by decide) (by decide) rfl) ?_
  refine tK (l := xk_110) rfl rfl (fun _ _ _ _ _ => rfl) ?_
  refine tCa (l := xk_110) rfl rfl (hInvV (c := 8) hs rfl rfl rfl rfl rfl (Nat.le_of_ble_eq_true rfl) (Nat.le_of_ble_eq_true rfl)) ?_
  refine a75 hs rfl (h.val hn).1 (by have := hRw74; omega) ((h.val hn).2.trans hv) ?_
  refine tKv ?_
  simp only [hLo]
  refine tSt (l := xk_110) rfl rfl (fun _ _ _ _ _ => rfl) (Nat.le_of_ble_eq_true rfl) ?_
  refine tK (l := xk_110) rfl rfl (fun _ _ _ _ _ => rfl) ?_
  refine tK (l := xk_110) rfl rfl (fun _ _ _ _ _ => rfl) ?_
  refine tIc_ne (l := xk_110) (pc' := 32) rfl rfl rfl (fun hc => ?_) (fun hc => ?_)
  · refine tTh (l := xk_110) rfl rfl (fun _ _ _ _ _ => rfl) ?_
    exact hQ
  · exact absurd rfl hc
theorem s117 (h : hKl zs ph c) (hl : c.1.length ≤ 60) (hw : pWh c.1 = true) (hQ : ∀ ph2, hKl zs ph2 c → hRes zs ph2 36 c.1 → hPp ph2 36 (pPs c.1) → hFd scP ph ph2 → Q (.inl none, ph2, g)) : xTC (d + 3) 117 [.inr (.inl (some 1))] ph g Q := by
  have hs := h.1
  refine tEn (ls := [some (.inr (.inl (some 1)))]) (fun k => by match k with | 0 => rfl | k + 1 => rfl) ?_
  refine tK (l := xk_117) rfl rfl (fun _ _ _ _ _ => rfl) ?_
  refine tK (l := xk_117) rfl rfl (hGetR (o := some 36) hs rfl rfl rfl (by decide) (by decide) rfl) ?_
  refine tK (l := xk_117) rfl rfl (fun _ _ _ _ _ => rfl) ?_
  refine tK (l := xk_117) rfl rfl (hGetR (o := some 2) hs rfl rfl rfl (by decide) (by decide) rfl) ?_
  refine tK (l := xk_117) rfl rfl (fun _ _ _ _ _ => rfl) ?_
  refine tCa (l := xk_117) rfl rfl (hInvV (c := 7) hs rfl rfl rfl rfl rfl (Nat.le_of_ble_eq_true rfl) (Nat.le_of_ble_eq_true rfl)) ?_
  refine s52 (T := 36) h.1 rfl rfl h.2.1.1 (by decide) h.2.1.2 hl (fun ph1 rs1 f1 => ?_)
  refine tKn ?_
  have f1 : hFr [36, 37, 38, 39, 40, 41, 42] ph ph1 := f1
  have k1 := h.scr rs1.1 f1 (by decide)
  have g1 : hFd scP ph ph1 := f1.cl (by unfold scP; decide)
  refine tK (l := xk_117) rfl rfl (fun _ _ _ _ _ => rfl) ?_
  refine tK (l := xk_117) rfl rfl (hGetR (o := some 36) rs1.1 rfl rfl rfl (by decide) (by decide) rfl) ?_
  refine tCa (l := xk_117) rfl rfl (hInvV (c := 7) rs1.1 rfl rfl rfl rfl rfl (Nat.le_of_ble_eq_true rfl) (Nat.le_of_ble_eq_true rfl)) ?_
  refine s62 rs1 rfl ?_
  refine tKv ?_
  rw [if_pos hw]
  refine tIf_ne (l := xk_117) (pc' := 33) rfl rfl rfl (fun hc => ?_) (fun hc => ?_)
  · exact absurd hc (by decide)
  · refine tRt (l := xk_117) rfl rfl (fun _ _ _ _ _ => rfl) ?_
    exact hQ ph1 k1 rs1 (rs1.pp hw hl) g1
theorem s117n (h : hKl zs ph c) (hl : c.1.length ≤ 60) (hw : pWh c.1 = false) (hQ : ∀ ph2, hKl zs ph2 c → hFd scP ph ph2 → Q (.inr 1, ph2, g + 1)) : xTC (d + 3) 117 [.inr (.inl (some 1))] ph g Q := by
  have hs := h.1
  refine tEn (ls := [some (.inr (.inl (some 1)))]) (fun k => by match k with | 0 => rfl | k + 1 => rfl) ?_
  refine tK (l := xk_117) rfl rfl (fun _ _ _ _ _ => rfl) ?_
  refine tK (l := xk_117) rfl rfl (hGetR (o := some 36) hs rfl rfl rfl (by decide) (by decide) rfl) ?_
  refine tK (l := xk_117) rfl rfl (fun _ _ _ _ _ => rfl) ?_
  refine tK (l := xk_117) rfl rfl (hGetR (o := some 2) hs rfl rfl rfl (by decide) (by decide) rfl) ?_
  refine tK (l := xk_117) rfl rfl (fun _ _ _ _ _ => rfl) ?_
  refine tCa (l := xk_117) rfl rfl (hInvV (c := 7) hs rfl rfl rfl rfl rfl (Nat.le_of_ble_eq_true rfl) (Nat.le_of_ble_eq_true rfl)) ?_
  refine s52 (T := 36) h.1 rfl rfl h.2.1.1 (by decide) h.2.1.2 hl (fun ph1 rs1 f1 => ?_)
  refine tKn ?_
  have f1 : hFr [36, 37, 38, 39, 40, 41, 42] ph ph1 := f1
  have k1 := h.scr rs1.1 f1 (by decide)
  have g1 : hFd scP ph ph1 := f1.cl (by unfold scP; decide)
  refine tK (l := xk_117) rfl rfl (fun _ _ _ _ _ => rfl) ?_
  refine tK (l := xk_117) rfl rfl (hGetR (o := some 36) rs1.1 rfl rfl rfl (by decide) (by decide) rfl) ?_
  refine tCa (l := xk_117) rfl rfl (hInvV (c := 7) rs1.1 rfl rfl rfl rfl rfl (Nat.le_of_ble_eq_true rfl) (Nat.le_of_ble_eq_true rfl)) ?_
  refine s62 rs1 rfl ?_
  refine tKv ?_
  rw [if_neg (by rw [hw]; decide)]
  refine tIf_ne (l := xk_117) (pc' := 33) rfl rfl rfl (fun hc => ?_) (fun hc => ?_)
  · refine tTh (l := xk_117) rfl rfl (fun _ _ _ _ _ => rfl) ?_
    exact hQ ph1 k1 g1
  · exact absurd rfl hc
def esc : List Int → List Int
  | [] => []
  | c :: cs => if spc c = true then 126 :: c :: esc cs else c :: esc cs
theorem esc_len : ∀ l : List Int, (esc l).length ≤ 2 * l.length ∧ l.length ≤ (esc l).length := by
  intro l
  induction l with
  | nil => exact ⟨Nat.le_refl _, Nat.le_refl _⟩
  | cons c cs ih =>
    simp only [esc]
    split <;> (simp only [List.length_cons]; omega)
theorem esc_app : ∀ (a b : List Int), esc (a ++ b) = esc a ++ esc b := by
  intro a
  induction a with
  | nil => intro b; rfl
  | cons c cs ih =>
    intro b
    simp only [List.cons_append, esc]
    split
    · rw [ih]; rfl
    · rw [ih]; rfl
theorem s112 {n : Nat} {v : List Int} (h : hKl zs ph c) (hn : n < 8) (hv : c.2.1.1 n = some v) (hv24 : v.length ≤ 24) (hokv : oks v) (hQ : ∀ ph2, hKl zs ph2 c → hTo ph2 5 0 = some (esc v) → hFd scP ph ph2 → Q (.inl (some (.inl ((esc v).length : Int))), ph2, g)) : xTC (d + 1) 112 [.inr (.inl (some 1)), .inl (n : Int)] ph g Q := by
  have hz := hRw74
  obtain ⟨w74, t74⟩ := h.val hn
  rw [hv] at t74
  have hel := esc_len v
  have loop : ∀ (m i : Nat) (phi : xH) (o3 : Option xV), i + m = v.length → hSh zs phi → hFr [6, 7] ph phi → hTW phi 5 → hTo phi 5 0 = some (esc (v.take i)) → xT (d + 1) 112 10 (xlo [some (.inr (.inl (some 1))), some (.inl (n : Int)), some (.inl (i : Int)), o3]) [] phi g Q := by
    intro m
    induction m with
    | zero =>
      intro i phi o3 him hs hf hw5 ht5
      have hi : i = v.length := by omega
      rw [hi, List.take_length] at ht5
      have w7 : hTW phi 74 := hf.tw (by decide) w74
      have t7 : hTo phi 74 n = some v := (hf.to (by decide) (by decide)).trans t74
      refine tK (l := xk_112) rfl rfl (fun _ _ _ _ _ => rfl) ?_
      refine tK (l := xk_112) rfl rfl (fun _ _ _ _ _ => rfl) ?_
      refine tK (l := xk_112) rfl rfl (hGetR (o := some 73) hs rfl rfl rfl (by decide) (by decide) rfl) ?_
      refine tK (l := xk_112) rfl rfl (hGetR (o := some 74) hs rfl rfl rfl (by decide) (by decide) rfl) ?_
      refine tK (l := xk_112) rfl rfl (fun _ _ _ _ _ => rfl) ?_
      refine tCa (l := xk_112) rfl rfl (hInvV (c := 8) hs rfl rfl rfl rfl rfl (Nat.le_of_ble_eq_true rfl) (Nat.le_of_ble_eq_true rfl)) ?_
      refine a75 hs rfl w7 (by omega) t7 ?_
      refine tKv ?_
      simp only [hLo]
      refine tIc_ge (l := xk_112) (pc' := 72) rfl rfl rfl (fun hc => ?_) (fun hc => ?_)
      · exfalso; omega
      · refine tK (l := xk_112) rfl rfl (fun _ _ _ _ _ => rfl) ?_
        refine tK (l := xk_112) rfl rfl (hGetR (o := some 5) hs rfl rfl rfl (by decide) (by decide) rfl) ?_
        refine tK (l := xk_112) rfl rfl (fun _ _ _ _ _ => rfl) ?_
        refine tCa (l := xk_112) rfl rfl (hInvV (c := 8) hs rfl rfl rfl rfl rfl (Nat.le_of_ble_eq_true rfl) (Nat.le_of_ble_eq_true rfl)) ?_
        refine a75 (r := 0) hs rfl hw5 (by omega) ht5 ?_
        refine tKv ?_
        simp only [hLo]
        refine tRt (l := xk_112) rfl rfl (fun _ _ _ _ _ => rfl) ?_
        have hw := h.2.2.1
        exact hQ phi (h.sc hs (hf.cl (by unfold scP; decide)) ⟨hw5, hf.tw (by decide) hw.2.1, hf.tw (by decide) hw.2.2.1, hf.tw (by decide) hw.2.2.2.1, hf.tw (by decide) hw.2.2.2.2⟩) ht5 (hf.cl (by unfold scP; decide))
    | succ m ih =>
      intro i phi o3 him hs hf hw5 ht5
      have w7 : hTW phi 74 := hf.tw (by decide) w74
      have t7 : hTo phi 74 n = some v := (hf.to (by decide) (by decide)).trans t74
      obtain ⟨x, hx⟩ : ∃ x, v[i]? = some x := ⟨_, List.getElem?_eq_getElem (by omega)⟩
      have hxb := hokv x (List.mem_of_getElem? hx)
      have htk : v.take (i + 1) = v.take i ++ [x] := by rw [List.take_add_one, hx]; rfl
      have hl5 := (esc_len (v.take i)).1
      rw [List.length_take] at hl5
      cases hsp : spc x with
      | false =>
        have he : esc (v.take (i + 1)) = esc (v.take i) ++ [x] := by rw [htk, esc_app]; simp only [esc, hsp]; rfl
        refine tK (l := xk_112) rfl rfl (fun _ _ _ _ _ => rfl) ?_
        refine tK (l := xk_112) rfl rfl (fun _ _ _ _ _ => rfl) ?_
        refine tK (l := xk_112) rfl rfl (hGetR (o := some 73) hs rfl rfl rfl (by decide) (by decide) rfl) ?_
        refine tK (l := xk_112) rfl rfl (hGetR (o := some 74) hs rfl rfl rfl (by decide) (by decide) rfl) ?_
        refine tK (l := xk_112) rfl rfl (fun _ _ _ _ _ => rfl) ?_
        refine tCa (l := xk_112) rfl rfl (hInvV (c := 8) hs rfl rfl rfl rfl rfl (Nat.le_of_ble_eq_true rfl) (Nat.le_of_ble_eq_true rfl)) ?_
        refine a75 hs rfl w7 (by omega) t7 ?_
        refine tKv ?_
        simp only [hLo]
        refine tIc_ge (l := xk_112) (pc' := 72) rfl rfl rfl (fun hc => ?_) (fun hc => ?_)
        · refine tK (l := xk_112) rfl rfl (fun _ _ _ _ _ => rfl) ?_
          refine tK (l := xk_112) rfl rfl (hGetR (o := some 73) hs rfl rfl rfl (by decide) (by decide) rfl) ?_
          refine tK (l := xk_112) rfl rfl (hGetR (o := some 74) hs rfl rfl rfl (by decide) (by decide) rfl) ?_
          refine tK (l := xk_112) rfl rfl (fun _ _ _ _ _ => rfl) ?_
          refine tK (l := xk_112) rfl rfl (fun _ _ _ _ _ => rfl) ?_
          refine tCa (l := xk_112) rfl rfl (hInvV (c := 8) hs rfl rfl rfl rfl rfl (Nat.le_of_ble_eq_true rfl) (Nat.le_of_ble_eq_true rfl)) ?_
          refine a76 hs rfl w7 (by omega) t7 hx ?_
          refine tKv ?_
          refine tSt (l := xk_112) rfl rfl (fun _ _ _ _ _ => rfl) (Nat.le_of_ble_eq_true rfl) ?_
          refine tK (l := xk_112) rfl rfl (fun _ _ _ _ _ => rfl) ?_
          refine tCa (l := xk_112) rfl rfl (hInvS rfl rfl rfl rfl (Nat.le_of_ble_eq_true rfl) (Nat.le_of_ble_eq_true rfl)) ?_
          refine s113 ?_
          refine tKv ?_
          rw [hsp]
          refine tIf_eq (l := xk_112) (pc' := 56) rfl rfl rfl (fun hc => ?_) (fun hc => ?_)
          · refine tK (l := xk_112) rfl rfl (fun _ _ _ _ _ => rfl) ?_
            refine tK (l := xk_112) rfl rfl (hGetR (o := some 5) hs rfl rfl rfl (by decide) (by decide) rfl) ?_
            refine tK (l := xk_112) rfl rfl (fun _ _ _ _ _ => rfl) ?_
            refine tK (l := xk_112) rfl rfl (fun _ _ _ _ _ => rfl) ?_
            refine tCa (l := xk_112) rfl rfl (hInvV (c := 8) hs rfl rfl rfl rfl rfl (Nat.le_of_ble_eq_true rfl) (Nat.le_of_ble_eq_true rfl)) ?_
            refine a79 (r := 0) hs rfl hw5 (by omega) ht5 (by omega) hxb (fun ph4 t4 => ?_)
            refine tKv ?_
            refine tK (l := xk_112) rfl rfl (fun _ _ _ _ _ => rfl) ?_
            refine tSt (l := xk_112) rfl rfl (hIinc rfl (Nat.le_of_ble_eq_true rfl) ⟨by omega, by omega⟩) (Nat.le_of_ble_eq_true rfl) ?_
            refine tK (l := xk_112) rfl rfl (fun _ _ _ _ _ => rfl) ?_
            exact ih (i + 1) ph4 _ (by omega) t4.sh (hf.trans (t4.fr (by decide) (by decide))) t4.tw (by rw [he]; exact t4.row)
          · exact absurd rfl hc
        · exfalso; omega
      | true =>
        have he : esc (v.take (i + 1)) = esc (v.take i) ++ [126, x] := by rw [htk, esc_app]; simp only [esc, hsp]; rfl
        refine tK (l := xk_112) rfl rfl (fun _ _ _ _ _ => rfl) ?_
        refine tK (l := xk_112) rfl rfl (fun _ _ _ _ _ => rfl) ?_
        refine tK (l := xk_112) rfl rfl (hGetR (o := some 73) hs rfl rfl rfl (by decide) (by decide) rfl) ?_
        refine tK (l := xk_112) rfl rfl (hGetR (o := some 74) hs rfl rfl rfl (by decide) (by decide) rfl) ?_
        refine tK (l := xk_112) rfl rfl (fun _ _ _ _ _ => rfl) ?_
        refine tCa (l := xk_112) rfl rfl (hInvV (c := 8) hs rfl rfl rfl rfl rfl (Nat.le_of_ble_eq_true rfl) (Nat.le_of_ble_eq_true rfl)) ?_
        refine a75 hs rfl w7 (by omega) t7 ?_
        refine tKv ?_
        simp only [hLo]
        refine tIc_ge (l := xk_112) (pc' := 72) rfl rfl rfl (fun hc => ?_) (fun hc => ?_)
        · refine tK (l := xk_112) rfl rfl (fun _ _ _ _ _ => rfl) ?_
          refine tK (l := xk_112) rfl rfl (hGetR (o := some 73) hs rfl rfl rfl (by decide) (by decide) rfl) ?_
          refine tK (l := xk_112) rfl rfl (hGetR (o := some 74) hs rfl rfl rfl (by decide) (by decide) rfl) ?_
          refine tK (l := xk_112) rfl rfl (fun _ _ _ _ _ => rfl) ?_
          refine tK (l := xk_112) rfl rfl (fun _ _ _ _ _ => rfl) ?_
          refine tCa (l := xk_112) rfl rfl (hInvV (c := 8) hs rfl rfl rfl rfl rfl (Nat.le_of_ble_eq_true rfl) (Nat.le_of_ble_eq_true rfl)) ?_
          refine a76 hs rfl w7 (by omega) t7 hx ?_
          refine tKv ?_
          refine tSt (l := xk_112) rfl rfl (fun _ _ _ _ _ => rfl) (Nat.le_of_ble_eq_true rfl) ?_
          refine tK (l := xk_112) rfl rfl (fun _ _ _ _ _ => rfl) ?_
          refine tCa (l := xk_112) rfl rfl (hInvS rfl rfl rfl rfl (Nat.le_of_ble_eq_true rfl) (Nat.le_of_ble_eq_true rfl)) ?_
          refine s113 ?_
          refine tKv ?_
          rw [hsp]
          refine tIf_eq (l := xk_112) (pc' := 56) rfl rfl rfl (fun hc => ?_) (fun hc => ?_)
          · exact absurd hc (by decide)
          · refine tK (l := xk_112) rfl rfl (fun _ _ _ _ _ => rfl) ?_
            refine tK (l := xk_112) rfl rfl (hGetR (o := some 5) hs rfl rfl rfl (by decide) (by decide) rfl) ?_
            refine tK (l := xk_112) rfl rfl (fun _ _ _ _ _ => rfl) ?_
            refine tK (l := xk_112) rfl rfl (fun _ _ _ _ _ => rfl) ?_
            refine tCa (l := xk_112) rfl rfl (hInvV (c := 8) hs rfl rfl rfl rfl rfl (Nat.le_of_ble_eq_true rfl) (Nat.le_of_ble_eq_true rfl)) ?_
            refine a79 (r := 0) hs rfl hw5 (by omega) ht5 (by omega) (by decide) (fun ph3 t3 => ?_)
            refine tKv ?_
            refine tK (l := xk_112) rfl rfl (fun _ _ _ _ _ => rfl) ?_
            refine tK (l := xk_112) rfl rfl (fun _ _ _ _ _ => rfl) ?_
            refine tK (l := xk_112) rfl rfl (hGetR (o := some 5) t3.sh rfl rfl rfl (by decide) (by decide) rfl) ?_
            refine tK (l := xk_112) rfl rfl (fun _ _ _ _ _ => rfl) ?_
            refine tK (l := xk_112) rfl rfl (fun _ _ _ _ _ => rfl) ?_
            refine tCa (l := xk_112) rfl rfl (hInvV (c := 8) t3.sh rfl rfl rfl rfl rfl (Nat.le_of_ble_eq_true rfl) (Nat.le_of_ble_eq_true rfl)) ?_
            refine a79 (r := 0) t3.sh rfl t3.tw (by omega) t3.row (by simp; omega) hxb (fun ph4 t4 => ?_)
            refine tKv ?_
            refine tK (l := xk_112) rfl rfl (fun _ _ _ _ _ => rfl) ?_
            refine tSt (l := xk_112) rfl rfl (hIinc rfl (Nat.le_of_ble_eq_true rfl) ⟨by omega, by omega⟩) (Nat.le_of_ble_eq_true rfl) ?_
            refine tK (l := xk_112) rfl rfl (fun _ _ _ _ _ => rfl) ?_
            exact ih (i + 1) ph4 _ (by omega) t4.sh ((hf.trans (t3.fr (by decide) (by decide))).trans (t4.fr (by decide) (by decide))) t4.tw (by rw [he, show ([126, x] : List Int) = [126] ++ [x] from rfl, ← List.append_assoc]; exact t4.row)
        · exfalso; omega
  refine tEn (ls := [some (.inr (.inl (some 1))), some (.inl (n : Int)), none, none]) (fun k => by match k with | 0 => rfl | 1 => rfl | 2 => rfl | 3 => rfl | k + 4 => rfl) ?_
  have hs := h.1
  refine tK (l := xk_112) rfl rfl (fun _ _ _ _ _ => rfl) ?_
  refine tK (l := xk_112) rfl rfl (hGetR (o := some 5) hs rfl rfl rfl (by decide) (by decide) rfl) ?_
  refine tK (l := xk_112) rfl rfl (fun _ _ _ _ _ => rfl) ?_
  refine tCa (l := xk_112) rfl rfl (hInvV (c := 8) hs rfl rfl rfl rfl rfl (Nat.le_of_ble_eq_true rfl) (Nat.le_of_ble_eq_true rfl)) ?_
  refine a74 (r := 0) hs rfl h.2.2.1.1 (by omega) (fun ph1 t1 => ?_)
  refine tKn ?_
  refine tK (l := xk_112) rfl rfl (fun _ _ _ _ _ => rfl) ?_
  refine tSt (l := xk_112) rfl rfl (fun _ _ _ _ _ => rfl) (Nat.le_of_ble_eq_true rfl) ?_
  exact loop v.length 0 ph1 none (by omega) t1.sh (t1.fr (by decide) (by decide)) t1.tw t1.row
end CLS
