/-! ===== the model goes behind a part; prints a value ===== -/
def Tk (t : List Int) : Nat → Nat → Nat → Nat → Nat → Prop
  | 0, x, o, y, o2 => x = y ∧ o = o2
  | m + 1, x, o, y, o2 => 0 < o ∧ ((∃ c, t[x]? = some c ∧ c ≠ 123 ∧ c ≠ 125 ∧ c ≠ 126 ∧ Tk t m (x + 1) o y o2) ∨ (t[x]? = some 126 ∧ Tk t m (x + 2) o y o2) ∨ (t[x]? = some 125 ∧ Tk t m (x + 1) (o - 1) y o2) ∨
      (t[x]? = some 123 ∧ ∃ c, t[x + 1]? = some c ∧ (c = 42 ∨ c = 63 ∨ c = 61) ∧ Tk t m (x + 4) (o + 1) y o2) ∨
      (t[x]? = some 123 ∧ ∃ c, t[x + 1]? = some c ∧ (c = 33 ∨ c = 94) ∧ Tk t m (x + 4) o y o2) ∨
      (t[x]? = some 123 ∧ ∃ c, t[x + 1]? = some c ∧ (c ≠ 42 ∧ c ≠ 63 ∧ c ≠ 61 ∧ c ≠ 33 ∧ c ≠ 94) ∧ Tk t m (x + 3) o y o2))
theorem Tk.trans {t : List Int} : ∀ {m n x o y o2 z o3 : Nat}, Tk t m x o y o2 → Tk t n y o2 z o3 → Tk t (m + n) x o z o3 := by
  intro m
  induction m with
  | zero =>
    intro n x o y o2 z o3 h1 h2
    obtain ⟨rfl, rfl⟩ := h1
    rw [Nat.zero_add]
    exact h2
  | succ m ih =>
    intro n x o y o2 z o3 ⟨h1, h2⟩ h4
    rw [Nat.succ_add]
    refine ⟨h1, ?_⟩
    rcases h2 with ⟨c, q1, q2, q3, q4, q5⟩ | ⟨q1, q2⟩ | ⟨q1, q2⟩ | ⟨q1, c, q2, q3, q4⟩ | ⟨q1, c, q2, q3, q4⟩ | ⟨q1, c, q2, q3, q4⟩
    · exact Or.inl ⟨c, q1, q2, q3, q4, ih q5 h4⟩
    · exact Or.inr (Or.inl ⟨q1, ih q2 h4⟩)
    · exact Or.inr (Or.inr (Or.inl ⟨q1, ih q2 h4⟩))
    · exact Or.inr (Or.inr (Or.inr (Or.inl ⟨q1, c, q2, q3, ih q4 h4⟩)))
    · exact Or.inr (Or.inr (Or.inr (Or.inr (Or.inl ⟨q1, c, q2, q3, ih q4 h4⟩))))
    · exact Or.inr (Or.inr (Or.inr (Or.inr (Or.inr ⟨q1, c, q2, q3, ih q4 h4⟩))))
theorem Tk_sg : ∀ {n : Nat} {t : List Int} {ps : List PP} {p q x y o : Nat}, 0 < o → Sg n t ps p q x y → ∃ m, m ≤ y - x ∧ x ≤ y ∧ Tk t m x o y o := by
  intro n
  induction n with
  | zero => intro t ps p q x y o _ h; exact absurd h (fun q => q)
  | succ n ih =>
    intro t ps p q x y o ho h
    rcases h with ⟨-, rfl⟩ | ⟨k, cd, nm, bh, h1, h2, h3, ⟨w, h4, h5, h6⟩ | ⟨h4, e, h5, h6, h7⟩⟩
    · exact ⟨0, Nat.zero_le _, Nat.le_refl _, rfl, rfl⟩
    · obtain ⟨m, m1, m2, m3⟩ := ih ho h6
      have one : 1 ≤ w ∧ Tk t 1 x o (x + w) o := by
        rcases h4 with ⟨-, rfl, q1, q2, q3, q4⟩ | ⟨-, rfl, q1, q2⟩ | ⟨-, rfl, q1, ⟨c, q2, q3, q4⟩, q5⟩ | ⟨q0, rfl, q1, ⟨c, q2, q3⟩, ⟨c2, q4, q5⟩, q6⟩
        · exact ⟨Nat.le_refl _, ho, Or.inl ⟨_, q1, q2, q3, q4, rfl, rfl⟩⟩
        · exact ⟨by decide, ho, Or.inr (Or.inl ⟨q1, rfl, rfl⟩)⟩
        · have := kdF_inv q3
          exact ⟨by decide, ho, Or.inr (Or.inr (Or.inr (Or.inr (Or.inr ⟨q1, c, q2, by omega, rfl, rfl⟩))))⟩
        · have := kdF_inv q3
          exact ⟨by decide, ho, Or.inr (Or.inr (Or.inr (Or.inr (Or.inl ⟨q1, c, q2, by omega, rfl, rfl⟩))))⟩
      exact ⟨1 + m, by omega, by omega, one.2.trans m3⟩
    · obtain ⟨m, m1, m2, m3⟩ := ih (Nat.succ_pos o) h5
      obtain ⟨m', n1, n2, n3⟩ := ih ho h7
      obtain ⟨b1, b2, ⟨c, b3, b4⟩, -⟩ := h4
      have := kdF_inv b4
      have f1 : Tk t 1 x o (x + 4) (o + 1) := ⟨ho, Or.inr (Or.inr (Or.inr (Or.inl ⟨b2, c, b3, by omega, rfl, rfl⟩)))⟩
      have f2 : Tk t 1 e (o + 1) (e + 1) o := ⟨Nat.succ_pos _, Or.inr (Or.inr (Or.inl ⟨h6, rfl, rfl⟩))⟩
      exact ⟨1 + (m + (1 + m')), by omega, by omega, f1.trans (m3.trans (f2.trans n3))⟩
section MBH
variable {d : Nat} {ph : xH} {zs : List xV} {g : Nat} {Q : xR → Prop}
theorem s201 {fo x0 y m : Nat} {t : List Int} (hs : hSh zs ph) (hsg : ∀ (i : Nat) (c : Int), t[i]? = some c → hRd ph 152 (fo + i) = c) (hl : t.length ≤ 60) (hfl : fo + t.length ≤ 159) (hch : ∀ c ∈ t, 0 ≤ c ∧ c ≤ 65535) (hm : m ≤ 60) (hx0 : x0 ≤ 64) (htk : Tk t m x0 1 y 0) (hQ : Q (.inl (some (.inl (y : Int))), ph, g)) : xTC d 201 [.inr (.inl (some 147)), .inl (fo : Int), .inl (x0 : Int)] ph g Q := by
  obtain ⟨y1, y2, y3, y4, y5, y6, y7, y8, y9⟩ := hSzO
  have loop : ∀ (m x o : Nat) (o5 o6 o7 : Option xV), o + m ≤ 100 → Tk t m x o y 0 → xT d 201 5 (xlo [some (.inr (.inl (some 147))), some (.inl (fo : Int)), some (.inl (x0 : Int)), some (.inl (o : Int)), some (.inl (x : Int)), o5, o6, o7]) [] ph g Q := by
    intro m
    induction m with
    | zero =>
      intro x o o5 o6 o7 hom htk
      obtain ⟨rfl, rfl⟩ := htk
      refine tK (l := xk_201) rfl rfl (fun _ _ _ _ _ => rfl) ?_
      refine tIf_le (l := xk_201) (pc' := 154) rfl rfl rfl (fun hc => ?_) (fun hc => ?_)
      · exact absurd hc (by decide)
      · refine tK (l := xk_201) rfl rfl (fun _ _ _ _ _ => rfl) ?_
        refine tRt (l := xk_201) rfl rfl (fun _ _ _ _ _ => rfl) ?_
        exact hQ
    | succ m ih =>
      intro x o o5 o6 o7 hom ⟨ho, htk⟩
      rcases htk with ⟨c, q1, q2, q3, q4, q5⟩ | ⟨q1, q5⟩ | ⟨q1, q5⟩ | ⟨q1, c, q2, q3, q5⟩ | ⟨q1, c, q2, q3, q5⟩ | ⟨q1, c, q2, q3, q5⟩
      · have hx := (List.getElem?_eq_some_iff.mp q1).1
        have e1 : hRd ph 152 (fo + x) = c := hsg x _ q1
        refine tK (l := xk_201) rfl rfl (fun _ _ _ _ _ => rfl) ?_
        refine tIf_le (l := xk_201) (pc' := 154) rfl rfl rfl (fun hc => ?_) (fun hc => ?_)
        · refine tK (l := xk_201) rfl rfl (fun _ _ _ _ _ => rfl) ?_
          refine tK (l := xk_201) rfl rfl (hGetR (o := some 152) hs rfl rfl rfl (by decide) (by decide) rfl) ?_
          refine tK (l := xk_201) rfl rfl (fun _ _ _ _ _ => rfl) ?_
          refine tK (l := xk_201) rfl rfl (fun _ _ _ _ _ => rfl) ?_
          refine tK (l := xk_201) rfl rfl (hAdd ⟨by omega, by omega⟩) ?_
          rw [show (fo : Int) + (x : Int) = ((fo + x : Nat) : Int) by omega]
          first | refine tK (l := xk_201) rfl rfl (hIaldN hs rfl rfl (by omega)) ?_ | refine tK (l := xk_201) rfl rfl (hIald hs rfl (by omega) (by omega)) ?_
          rw [e1]
          refine tSt (l := xk_201) rfl rfl (fun _ _ _ _ _ => rfl) (Nat.le_of_ble_eq_true rfl) ?_
          refine tK (l := xk_201) rfl rfl (fun _ _ _ _ _ => rfl) ?_
          refine tK (l := xk_201) rfl rfl (fun _ _ _ _ _ => rfl) ?_
          refine tIc_ne (l := xk_201) (pc' := 41) rfl rfl rfl (fun hc => ?_) (fun hc => ?_)
          · exact absurd hc q2
          · refine tK (l := xk_201) rfl rfl (fun _ _ _ _ _ => rfl) ?_
            refine tSt (l := xk_201) rfl rfl (fun _ _ _ _ _ => rfl) (Nat.le_of_ble_eq_true rfl) ?_
            refine tK (l := xk_201) rfl rfl (fun _ _ _ _ _ => rfl) ?_
            refine tK (l := xk_201) rfl rfl (fun _ _ _ _ _ => rfl) ?_
            refine tIc_eq (l := xk_201) (pc' := 65) rfl rfl rfl (fun hc => ?_) (fun hc => ?_)
            · exact absurd hc (by decide)
            · refine tK (l := xk_201) rfl rfl (fun _ _ _ _ _ => rfl) ?_
              refine tK (l := xk_201) rfl rfl (fun _ _ _ _ _ => rfl) ?_
              refine tIc_eq (l := xk_201) (pc' := 65) rfl rfl rfl (fun hc => ?_) (fun hc => ?_)
              · exact absurd hc (by decide)
              · refine tK (l := xk_201) rfl rfl (fun _ _ _ _ _ => rfl) ?_
                refine tK (l := xk_201) rfl rfl (fun _ _ _ _ _ => rfl) ?_
                refine tIc_ne (l := xk_201) (pc' := 69) rfl rfl rfl (fun hc => ?_) (fun hc => ?_)
                · exact absurd hc (by decide)
                · refine tK (l := xk_201) rfl rfl (fun _ _ _ _ _ => rfl) ?_
                  refine tSt (l := xk_201) rfl rfl (fun _ _ _ _ _ => rfl) (Nat.le_of_ble_eq_true rfl) ?_
                  refine tK (l := xk_201) rfl rfl (fun _ _ _ _ _ => rfl) ?_
                  refine tK (l := xk_201) rfl rfl (fun _ _ _ _ _ => rfl) ?_
                  refine tK (l := xk_201) rfl rfl (fun _ _ _ _ _ => rfl) ?_
                  refine tIc_ne (l := xk_201) (pc' := 84) rfl rfl rfl (fun hc => ?_) (fun hc => ?_)
                  · exact absurd hc q3
                  · refine tK (l := xk_201) rfl rfl (fun _ _ _ _ _ => rfl) ?_
                    refine tIf_eq (l := xk_201) (pc' := 93) rfl rfl rfl (fun hc => ?_) (fun hc => ?_)
                    · refine tK (l := xk_201) rfl rfl (fun _ _ _ _ _ => rfl) ?_
                      refine tK (l := xk_201) rfl rfl (hAdd ⟨by omega, by omega⟩) ?_
                      rw [show (o : Int) + 0 = ((o : Nat) : Int) by omega]
                      refine tSt (l := xk_201) rfl rfl (fun _ _ _ _ _ => rfl) (Nat.le_of_ble_eq_true rfl) ?_
                      refine tK (l := xk_201) rfl rfl (fun _ _ _ _ _ => rfl) ?_
                      refine tK (l := xk_201) rfl rfl (fun _ _ _ _ _ => rfl) ?_
                      refine tK (l := xk_201) rfl rfl (fun _ _ _ _ _ => rfl) ?_
                      refine tIc_ne (l := xk_201) (pc' := 109) rfl rfl rfl (fun hc => ?_) (fun hc => ?_)
                      · exact absurd hc q4
                      · refine tK (l := xk_201) rfl rfl (fun _ _ _ _ _ => rfl) ?_
                        refine tK (l := xk_201) rfl rfl (fun _ _ _ _ _ => rfl) ?_
                        refine tIc_eq (l := xk_201) (pc' := 120) rfl rfl rfl (fun hc => ?_) (fun hc => ?_)
                        · exact absurd hc q2
                        · refine tK (l := xk_201) rfl rfl (fun _ _ _ _ _ => rfl) ?_
                          refine tK (l := xk_201) rfl rfl (fun _ _ _ _ _ => rfl) ?_
                          refine tK (l := xk_201) rfl rfl (hAdd ⟨by omega, by omega⟩) ?_
                          rw [show (x : Int) + 1 = ((x + 1 : Nat) : Int) by omega]
                          refine tSt (l := xk_201) rfl rfl (fun _ _ _ _ _ => rfl) (Nat.le_of_ble_eq_true rfl) ?_
                          refine tK (l := xk_201) rfl rfl (fun _ _ _ _ _ => rfl) ?_
                          exact ih (x + 1) o _ _ _ (by omega) q5
                    · exact absurd rfl hc
        · exfalso; omega
      · have hx := (List.getElem?_eq_some_iff.mp q1).1
        have e1 : hRd ph 152 (fo + x) = 126 := hsg x _ q1
        refine tK (l := xk_201) rfl rfl (fun _ _ _ _ _ => rfl) ?_
        refine tIf_le (l := xk_201) (pc' := 154) rfl rfl rfl (fun hc => ?_) (fun hc => ?_)
        · refine tK (l := xk_201) rfl rfl (fun _ _ _ _ _ => rfl) ?_
          refine tK (l := xk_201) rfl rfl (hGetR (o := some 152) hs rfl rfl rfl (by decide) (by decide) rfl) ?_
          refine tK (l := xk_201) rfl rfl (fun _ _ _ _ _ => rfl) ?_
          refine tK (l := xk_201) rfl rfl (fun _ _ _ _ _ => rfl) ?_
          refine tK (l := xk_201) rfl rfl (hAdd ⟨by omega, by omega⟩) ?_
          rw [show (fo : Int) + (x : Int) = ((fo + x : Nat) : Int) by omega]
          first | refine tK (l := xk_201) rfl rfl (hIaldN hs rfl rfl (by omega)) ?_ | refine tK (l := xk_201) rfl rfl (hIald hs rfl (by omega) (by omega)) ?_
          rw [e1]
          refine tSt (l := xk_201) rfl rfl (fun _ _ _ _ _ => rfl) (Nat.le_of_ble_eq_true rfl) ?_
          refine tK (l := xk_201) rfl rfl (fun _ _ _ _ _ => rfl) ?_
          refine tK (l := xk_201) rfl rfl (fun _ _ _ _ _ => rfl) ?_
          refine tIc_ne (l := xk_201) (pc' := 41) rfl rfl rfl (fun hc => ?_) (fun hc => ?_)
          · exact absurd hc (by decide)
          · refine tK (l := xk_201) rfl rfl (fun _ _ _ _ _ => rfl) ?_
            refine tSt (l := xk_201) rfl rfl (fun _ _ _ _ _ => rfl) (Nat.le_of_ble_eq_true rfl) ?_
            refine tK (l := xk_201) rfl rfl (fun _ _ _ _ _ => rfl) ?_
            refine tK (l := xk_201) rfl rfl (fun _ _ _ _ _ => rfl) ?_
            refine tIc_eq (l := xk_201) (pc' := 65) rfl rfl rfl (fun hc => ?_) (fun hc => ?_)
            · exact absurd hc (by decide)
            · refine tK (l := xk_201) rfl rfl (fun _ _ _ _ _ => rfl) ?_
              refine tK (l := xk_201) rfl rfl (fun _ _ _ _ _ => rfl) ?_
              refine tIc_eq (l := xk_201) (pc' := 65) rfl rfl rfl (fun hc => ?_) (fun hc => ?_)
              · exact absurd hc (by decide)
              · refine tK (l := xk_201) rfl rfl (fun _ _ _ _ _ => rfl) ?_
                refine tK (l := xk_201) rfl rfl (fun _ _ _ _ _ => rfl) ?_
                refine tIc_ne (l := xk_201) (pc' := 69) rfl rfl rfl (fun hc => ?_) (fun hc => ?_)
                · exact absurd hc (by decide)
                · refine tK (l := xk_201) rfl rfl (fun _ _ _ _ _ => rfl) ?_
                  refine tSt (l := xk_201) rfl rfl (fun _ _ _ _ _ => rfl) (Nat.le_of_ble_eq_true rfl) ?_
                  refine tK (l := xk_201) rfl rfl (fun _ _ _ _ _ => rfl) ?_
                  refine tK (l := xk_201) rfl rfl (fun _ _ _ _ _ => rfl) ?_
                  refine tK (l := xk_201) rfl rfl (fun _ _ _ _ _ => rfl) ?_
                  refine tIc_ne (l := xk_201) (pc' := 84) rfl rfl rfl (fun hc => ?_) (fun hc => ?_)
                  · exact absurd hc (by decide)
                  · refine tK (l := xk_201) rfl rfl (fun _ _ _ _ _ => rfl) ?_
                    refine tIf_eq (l := xk_201) (pc' := 93) rfl rfl rfl (fun hc => ?_) (fun hc => ?_)
                    · refine tK (l := xk_201) rfl rfl (fun _ _ _ _ _ => rfl) ?_
                      refine tK (l := xk_201) rfl rfl (hAdd ⟨by omega, by omega⟩) ?_
                      rw [show (o : Int) + 0 = ((o : Nat) : Int) by omega]
                      refine tSt (l := xk_201) rfl rfl (fun _ _ _ _ _ => rfl) (Nat.le_of_ble_eq_true rfl) ?_
                      refine tK (l := xk_201) rfl rfl (fun _ _ _ _ _ => rfl) ?_
                      refine tK (l := xk_201) rfl rfl (fun _ _ _ _ _ => rfl) ?_
                      refine tK (l := xk_201) rfl rfl (fun _ _ _ _ _ => rfl) ?_
                      refine tIc_ne (l := xk_201) (pc' := 109) rfl rfl rfl (fun hc => ?_) (fun hc => ?_)
                      · refine tK (l := xk_201) rfl rfl (fun _ _ _ _ _ => rfl) ?_
                        refine tK (l := xk_201) rfl rfl (fun _ _ _ _ _ => rfl) ?_
                        refine tK (l := xk_201) rfl rfl (hAdd ⟨by omega, by omega⟩) ?_
                        rw [show (x : Int) + 2 = ((x + 2 : Nat) : Int) by omega]
                        refine tSt (l := xk_201) rfl rfl (fun _ _ _ _ _ => rfl) (Nat.le_of_ble_eq_true rfl) ?_
                        refine tK (l := xk_201) rfl rfl (fun _ _ _ _ _ => rfl) ?_
                        exact ih (x + 2) o _ _ _ (by omega) q5
                      · exact absurd rfl hc
                    · exact absurd rfl hc
        · exfalso; omega
      · have hx := (List.getElem?_eq_some_iff.mp q1).1
        have e1 : hRd ph 152 (fo + x) = 125 := hsg x _ q1
        refine tK (l := xk_201) rfl rfl (fun _ _ _ _ _ => rfl) ?_
        refine tIf_le (l := xk_201) (pc' := 154) rfl rfl rfl (fun hc => ?_) (fun hc => ?_)
        · refine tK (l := xk_201) rfl rfl (fun _ _ _ _ _ => rfl) ?_
          refine tK (l := xk_201) rfl rfl (hGetR (o := some 152) hs rfl rfl rfl (by decide) (by decide) rfl) ?_
          refine tK (l := xk_201) rfl rfl (fun _ _ _ _ _ => rfl) ?_
          refine tK (l := xk_201) rfl rfl (fun _ _ _ _ _ => rfl) ?_
          refine tK (l := xk_201) rfl rfl (hAdd ⟨by omega, by omega⟩) ?_
          rw [show (fo : Int) + (x : Int) = ((fo + x : Nat) : Int) by omega]
          first | refine tK (l := xk_201) rfl rfl (hIaldN hs rfl rfl (by omega)) ?_ | refine tK (l := xk_201) rfl rfl (hIald hs rfl (by omega) (by omega)) ?_
          rw [e1]
          refine tSt (l := xk_201) rfl rfl (fun _ _ _ _ _ => rfl) (Nat.le_of_ble_eq_true rfl) ?_
          refine tK (l := xk_201) rfl rfl (fun _ _ _ _ _ => rfl) ?_
          refine tK (l := xk_201) rfl rfl (fun _ _ _ _ _ => rfl) ?_
          refine tIc_ne (l := xk_201) (pc' := 41) rfl rfl rfl (fun hc => ?_) (fun hc => ?_)
          · exact absurd hc (by decide)
          · refine tK (l := xk_201) rfl rfl (fun _ _ _ _ _ => rfl) ?_
            refine tSt (l := xk_201) rfl rfl (fun _ _ _ _ _ => rfl) (Nat.le_of_ble_eq_true rfl) ?_
            refine tK (l := xk_201) rfl rfl (fun _ _ _ _ _ => rfl) ?_
            refine tK (l := xk_201) rfl rfl (fun _ _ _ _ _ => rfl) ?_
            refine tIc_eq (l := xk_201) (pc' := 65) rfl rfl rfl (fun hc => ?_) (fun hc => ?_)
            · exact absurd hc (by decide)
            · refine tK (l := xk_201) rfl rfl (fun _ _ _ _ _ => rfl) ?_
              refine tK (l := xk_201) rfl rfl (fun _ _ _ _ _ => rfl) ?_
              refine tIc_eq (l := xk_201) (pc' := 65) rfl rfl rfl (fun hc => ?_) (fun hc => ?_)
              · exact absurd hc (by decide)
              · refine tK (l := xk_201) rfl rfl (fun _ _ _ _ _ => rfl) ?_
                refine tK (l := xk_201) rfl rfl (fun _ _ _ _ _ => rfl) ?_
                refine tIc_ne (l := xk_201) (pc' := 69) rfl rfl rfl (fun hc => ?_) (fun hc => ?_)
                · exact absurd hc (by decide)
                · refine tK (l := xk_201) rfl rfl (fun _ _ _ _ _ => rfl) ?_
                  refine tSt (l := xk_201) rfl rfl (fun _ _ _ _ _ => rfl) (Nat.le_of_ble_eq_true rfl) ?_
                  refine tK (l := xk_201) rfl rfl (fun _ _ _ _ _ => rfl) ?_
                  refine tK (l := xk_201) rfl rfl (fun _ _ _ _ _ => rfl) ?_
                  refine tK (l := xk_201) rfl rfl (fun _ _ _ _ _ => rfl) ?_
                  refine tIc_ne (l := xk_201) (pc' := 84) rfl rfl rfl (fun hc => ?_) (fun hc => ?_)
                  · refine tK (l := xk_201) rfl rfl (fun _ _ _ _ _ => rfl) ?_
                    refine tK (l := xk_201) rfl rfl (fun _ _ _ _ _ => rfl) ?_
                    refine tK (l := xk_201) rfl rfl (hAdd ⟨by omega, by omega⟩) ?_
                    rw [show (o : Int) + -1 = (((o - 1) : Nat) : Int) by omega]
                    refine tSt (l := xk_201) rfl rfl (fun _ _ _ _ _ => rfl) (Nat.le_of_ble_eq_true rfl) ?_
                    refine tK (l := xk_201) rfl rfl (fun _ _ _ _ _ => rfl) ?_
                    refine tK (l := xk_201) rfl rfl (fun _ _ _ _ _ => rfl) ?_
                    refine tK (l := xk_201) rfl rfl (fun _ _ _ _ _ => rfl) ?_
                    refine tIc_ne (l := xk_201) (pc' := 109) rfl rfl rfl (fun hc => ?_) (fun hc => ?_)
                    · exact absurd hc (by decide)
                    · refine tK (l := xk_201) rfl rfl (fun _ _ _ _ _ => rfl) ?_
                      refine tK (l := xk_201) rfl rfl (fun _ _ _ _ _ => rfl) ?_
                      refine tIc_eq (l := xk_201) (pc' := 120) rfl rfl rfl (fun hc => ?_) (fun hc => ?_)
                      · exact absurd hc (by decide)
                      · refine tK (l := xk_201) rfl rfl (fun _ _ _ _ _ => rfl) ?_
                        refine tK (l := xk_201) rfl rfl (fun _ _ _ _ _ => rfl) ?_
                        refine tK (l := xk_201) rfl rfl (hAdd ⟨by omega, by omega⟩) ?_
                        rw [show (x : Int) + 1 = ((x + 1 : Nat) : Int) by omega]
                        refine tSt (l := xk_201) rfl rfl (fun _ _ _ _ _ => rfl) (Nat.le_of_ble_eq_true rfl) ?_
                        refine tK (l := xk_201) rfl rfl (fun _ _ _ _ _ => rfl) ?_
                        exact ih (x + 1) (o - 1) _ _ _ (by omega) q5
                  · exact absurd rfl hc
        · exfalso; omega
      · have hx := (List.getElem?_eq_some_iff.mp q1).1
        have e1 : hRd ph 152 (fo + x) = 123 := hsg x _ q1
        have hx2 := (List.getElem?_eq_some_iff.mp q2).1
        have e2 : hRd ph 152 (fo + x + 1) = c := hsg (x + 1) _ q2
        rcases q3 with rfl | rfl | rfl
        · refine tK (l := xk_201) rfl rfl (fun _ _ _ _ _ => rfl) ?_
          refine tIf_le (l := xk_201) (pc' := 154) rfl rfl rfl (fun hc => ?_) (fun hc => ?_)
          · refine tK (l := xk_201) rfl rfl (fun _ _ _ _ _ => rfl) ?_
            refine tK (l := xk_201) rfl rfl (hGetR (o := some 152) hs rfl rfl rfl (by decide) (by decide) rfl) ?_
            refine tK (l := xk_201) rfl rfl (fun _ _ _ _ _ => rfl) ?_
            refine tK (l := xk_201) rfl rfl (fun _ _ _ _ _ => rfl) ?_
            refine tK (l := xk_201) rfl rfl (hAdd ⟨by omega, by omega⟩) ?_
            rw [show (fo : Int) + (x : Int) = ((fo + x : Nat) : Int) by omega]
            first | refine tK (l := xk_201) rfl rfl (hIaldN hs rfl rfl (by omega)) ?_ | refine tK (l := xk_201) rfl rfl (hIald hs rfl (by omega) (by omega)) ?_
            rw [e1]
            refine tSt (l := xk_201) rfl rfl (fun _ _ _ _ _ => rfl) (Nat.le_of_ble_eq_true rfl) ?_
            refine tK (l := xk_201) rfl rfl (fun _ _ _ _ _ => rfl) ?_
            refine tK (l := xk_201) rfl rfl (fun _ _ _ _ _ => rfl) ?_
            refine tIc_ne (l := xk_201) (pc' := 41) rfl rfl rfl (fun hc => ?_) (fun hc => ?_)
            · refine tK (l := xk_201) rfl rfl (fun _ _ _ _ _ => rfl) ?_
              refine tK (l := xk_201) rfl rfl (hGetR (o := some 152) hs rfl rfl rfl (by decide) (by decide) rfl) ?_
              refine tK (l := xk_201) rfl rfl (fun _ _ _ _ _ => rfl) ?_
              refine tK (l := xk_201) rfl rfl (fun _ _ _ _ _ => rfl) ?_
              refine tK (l := xk_201) rfl rfl (hAdd ⟨by omega, by omega⟩) ?_
              rw [show (fo : Int) + (x : Int) = ((fo + x : Nat) : Int) by omega]
              refine tK (l := xk_201) rfl rfl (fun _ _ _ _ _ => rfl) ?_
              refine tK (l := xk_201) rfl rfl (hAdd ⟨by omega, by omega⟩) ?_
              rw [show ((fo + x : Nat) : Int) + 1 = ((fo + x + 1 : Nat) : Int) by omega]
              first | refine tK (l := xk_201) rfl rfl (hIaldN hs rfl rfl (by omega)) ?_ | refine tK (l := xk_201) rfl rfl (hIald hs rfl (by omega) (by omega)) ?_
              rw [e2]
              refine tK (l := xk_201) rfl rfl (fun _ _ _ _ _ => rfl) ?_
              refine tSt (l := xk_201) rfl rfl (fun _ _ _ _ _ => rfl) (Nat.le_of_ble_eq_true rfl) ?_
              refine tK (l := xk_201) rfl rfl (fun _ _ _ _ _ => rfl) ?_
              refine tK (l := xk_201) rfl rfl (fun _ _ _ _ _ => rfl) ?_
              refine tIc_eq (l := xk_201) (pc' := 65) rfl rfl rfl (fun hc => ?_) (fun hc => ?_)
              · refine tK (l := xk_201) rfl rfl (fun _ _ _ _ _ => rfl) ?_
                refine tK (l := xk_201) rfl rfl (fun _ _ _ _ _ => rfl) ?_
                refine tSt (l := xk_201) rfl rfl (fun _ _ _ _ _ => rfl) (Nat.le_of_ble_eq_true rfl) ?_
                refine tK (l := xk_201) rfl rfl (fun _ _ _ _ _ => rfl) ?_
                refine tK (l := xk_201) rfl rfl (fun _ _ _ _ _ => rfl) ?_
                refine tK (l := xk_201) rfl rfl (fun _ _ _ _ _ => rfl) ?_
                refine tIc_ne (l := xk_201) (pc' := 84) rfl rfl rfl (fun hc => ?_) (fun hc => ?_)
                · exact absurd hc (by decide)
                · refine tK (l := xk_201) rfl rfl (fun _ _ _ _ _ => rfl) ?_
                  refine tIf_eq (l := xk_201) (pc' := 93) rfl rfl rfl (fun hc => ?_) (fun hc => ?_)
                  · exact absurd hc (by decide)
                  · refine tK (l := xk_201) rfl rfl (fun _ _ _ _ _ => rfl) ?_
                    refine tK (l := xk_201) rfl rfl (fun _ _ _ _ _ => rfl) ?_
                    refine tK (l := xk_201) rfl rfl (hAdd ⟨by omega, by omega⟩) ?_
                    rw [show (o : Int) + 1 = (((o + 1) : Nat) : Int) by omega]
                    refine tSt (l := xk_201) rfl rfl (fun _ _ _ _ _ => rfl) (Nat.le_of_ble_eq_true rfl) ?_
                    refine tK (l := xk_201) rfl rfl (fun _ _ _ _ _ => rfl) ?_
                    refine tK (l := xk_201) rfl rfl (fun _ _ _ _ _ => rfl) ?_
                    refine tK (l := xk_201) rfl rfl (fun _ _ _ _ _ => rfl) ?_
                    refine tIc_ne (l := xk_201) (pc' := 109) rfl rfl rfl (fun hc => ?_) (fun hc => ?_)
                    · exact absurd hc (by decide)
                    · refine tK (l := xk_201) rfl rfl (fun _ _ _ _ _ => rfl) ?_
                      refine tK (l := xk_201) rfl rfl (fun _ _ _ _ _ => rfl) ?_
                      refine tIc_eq (l := xk_201) (pc' := 120) rfl rfl rfl (fun hc => ?_) (fun hc => ?_)
                      · refine tK (l := xk_201) rfl rfl (fun _ _ _ _ _ => rfl) ?_
                        refine tIf_eq (l := xk_201) (pc' := 129) rfl rfl rfl (fun hc => ?_) (fun hc => ?_)
                        · exact absurd hc (by decide)
                        · refine tK (l := xk_201) rfl rfl (fun _ _ _ _ _ => rfl) ?_
                          refine tK (l := xk_201) rfl rfl (fun _ _ _ _ _ => rfl) ?_
                          refine tK (l := xk_201) rfl rfl (hAdd ⟨by omega, by omega⟩) ?_
                          rw [show (x : Int) + 4 = ((x + 4 : Nat) : Int) by omega]
                          refine tSt (l := xk_201) rfl rfl (fun _ _ _ _ _ => rfl) (Nat.le_of_ble_eq_true rfl) ?_
                          refine tK (l := xk_201) rfl rfl (fun _ _ _ _ _ => rfl) ?_
                          exact ih (x + 4) (o + 1) _ _ _ (by omega) q5
                      · exact absurd rfl hc
              · exact absurd rfl hc
            · exact absurd rfl hc
          · exfalso; omega
        · refine tK (l := xk_201) rfl rfl (fun _ _ _ _ _ => rfl) ?_
          refine tIf_le (l := xk_201) (pc' := 154) rfl rfl rfl (fun hc => ?_) (fun hc => ?_)
          · refine tK (l := xk_201) rfl rfl (fun _ _ _ _ _ => rfl) ?_
            refine tK (l := xk_201) rfl rfl (hGetR (o := some 152) hs rfl rfl rfl (by decide) (by decide) rfl) ?_
            refine tK (l := xk_201) rfl rfl (fun _ _ _ _ _ => rfl) ?_
            refine tK (l := xk_201) rfl rfl (fun _ _ _ _ _ => rfl) ?_
            refine tK (l := xk_201) rfl rfl (hAdd ⟨by omega, by omega⟩) ?_
            rw [show (fo : Int) + (x : Int) = ((fo + x : Nat) : Int) by omega]
            first | refine tK (l := xk_201) rfl rfl (hIaldN hs rfl rfl (by omega)) ?_ | refine tK (l := xk_201) rfl rfl (hIald hs rfl (by omega) (by omega)) ?_
            rw [e1]
            refine tSt (l := xk_201) rfl rfl (fun _ _ _ _ _ => rfl) (Nat.le_of_ble_eq_true rfl) ?_
            refine tK (l := xk_201) rfl rfl (fun _ _ _ _ _ => rfl) ?_
            refine tK (l := xk_201) rfl rfl (fun _ _ _ _ _ => rfl) ?_
            refine tIc_ne (l := xk_201) (pc' := 41) rfl rfl rfl (fun hc => ?_) (fun hc => ?_)
            · refine tK (l := xk_201) rfl rfl (fun _ _ _ _ _ => rfl) ?_
              refine tK (l := xk_201) rfl rfl (hGetR (o := some 152) hs rfl rfl rfl (by decide) (by decide) rfl) ?_
              refine tK (l := xk_201) rfl rfl (fun _ _ _ _ _ => rfl) ?_
              refine tK (l := xk_201) rfl rfl (fun _ _ _ _ _ => rfl) ?_
              refine tK (l := xk_201) rfl rfl (hAdd ⟨by omega, by omega⟩) ?_
              rw [show (fo : Int) + (x : Int) = ((fo + x : Nat) : Int) by omega]
              refine tK (l := xk_201) rfl rfl (fun _ _ _ _ _ => rfl) ?_
              refine tK (l := xk_201) rfl rfl (hAdd ⟨by omega, by omega⟩) ?_
              rw [show ((fo + x : Nat) : Int) + 1 = ((fo + x + 1 : Nat) : Int) by omega]
              first | refine tK (l := xk_201) rfl rfl (hIaldN hs rfl rfl (by omega)) ?_ | refine tK (l := xk_201) rfl rfl (hIald hs rfl (by omega) (by omega)) ?_
              rw [e2]
              refine tK (l := xk_201) rfl rfl (fun _ _ _ _ _ => rfl) ?_
              refine tSt (l := xk_201) rfl rfl (fun _ _ _ _ _ => rfl) (Nat.le_of_ble_eq_true rfl) ?_
              refine tK (l := xk_201) rfl rfl (fun _ _ _ _ _ => rfl) ?_
              refine tK (l := xk_201) rfl rfl (fun _ _ _ _ _ => rfl) ?_
              refine tIc_eq (l := xk_201) (pc' := 65) rfl rfl rfl (fun hc => ?_) (fun hc => ?_)
              · exact absurd hc (by decide)
              · refine tK (l := xk_201) rfl rfl (fun _ _ _ _ _ => rfl) ?_
                refine tK (l := xk_201) rfl rfl (fun _ _ _ _ _ => rfl) ?_
                refine tIc_eq (l := xk_201) (pc' := 65) rfl rfl rfl (fun hc => ?_) (fun hc => ?_)
                · refine tK (l := xk_201) rfl rfl (fun _ _ _ _ _ => rfl) ?_
                  refine tK (l := xk_201) rfl rfl (fun _ _ _ _ _ => rfl) ?_
                  refine tSt (l := xk_201) rfl rfl (fun _ _ _ _ _ => rfl) (Nat.le_of_ble_eq_true rfl) ?_
                  refine tK (l := xk_201) rfl rfl (fun _ _ _ _ _ => rfl) ?_
                  refine tK (l := xk_201) rfl rfl (fun _ _ _ _ _ => rfl) ?_
                  refine tK (l := xk_201) rfl rfl (fun _ _ _ _ _ => rfl) ?_
                  refine tIc_ne (l := xk_201) (pc' := 84) rfl rfl rfl (fun hc => ?_) (fun hc => ?_)
                  · exact absurd hc (by decide)
                  · refine tK (l := xk_201) rfl rfl (fun _ _ _ _ _ => rfl) ?_
                    refine tIf_eq (l := xk_201) (pc' := 93) rfl rfl rfl (fun hc => ?_) (fun hc => ?_)
                    · exact absurd hc (by decide)
                    · refine tK (l := xk_201) rfl rfl (fun _ _ _ _ _ => rfl) ?_
                      refine tK (l := xk_201) rfl rfl (fun _ _ _ _ _ => rfl) ?_
                      refine tK (l := xk_201) rfl rfl (hAdd ⟨by omega, by omega⟩) ?_
                      rw [show (o : Int) + 1 = (((o + 1) : Nat) : Int) by omega]
                      refine tSt (l := xk_201) rfl rfl (fun _ _ _ _ _ => rfl) (Nat.le_of_ble_eq_true rfl) ?_
                      refine tK (l := xk_201) rfl rfl (fun _ _ _ _ _ => rfl) ?_
                      refine tK (l := xk_201) rfl rfl (fun _ _ _ _ _ => rfl) ?_
                      refine tK (l := xk_201) rfl rfl (fun _ _ _ _ _ => rfl) ?_
                      refine tIc_ne (l := xk_201) (pc' := 109) rfl rfl rfl (fun hc => ?_) (fun hc => ?_)
                      · exact absurd hc (by decide)
                      · refine tK (l := xk_201) rfl rfl (fun _ _ _ _ _ => rfl) ?_
                        refine tK (l := xk_201) rfl rfl (fun _ _ _ _ _ => rfl) ?_
                        refine tIc_eq (l := xk_201) (pc' := 120) rfl rfl rfl (fun hc => ?_) (fun hc => ?_)
                        · refine tK (l := xk_201) rfl rfl (fun _ _ _ _ _ => rfl) ?_
                          refine tIf_eq (l := xk_201) (pc' := 129) rfl rfl rfl (fun hc => ?_) (fun hc => ?_)
                          · exact absurd hc (by decide)
                          · refine tK (l := xk_201) rfl rfl (fun _ _ _ _ _ => rfl) ?_
                            refine tK (l := xk_201) rfl rfl (fun _ _ _ _ _ => rfl) ?_
                            refine tK (l := xk_201) rfl rfl (hAdd ⟨by omega, by omega⟩) ?_
                            rw [show (x : Int) + 4 = ((x + 4 : Nat) : Int) by omega]
                            refine tSt (l := xk_201) rfl rfl (fun _ _ _ _ _ => rfl) (Nat.le_of_ble_eq_true rfl) ?_
                            refine tK (l := xk_201) rfl rfl (fun _ _ _ _ _ => rfl) ?_
                            exact ih (x + 4) (o + 1) _ _ _ (by omega) q5
                        · exact absurd rfl hc
                · exact absurd rfl hc
            · exact absurd rfl hc
          · exfalso; omega
        · refine tK (l := xk_201) rfl rfl (fun _ _ _ _ _ => rfl) ?_
          refine tIf_le (l := xk_201) (pc' := 154) rfl rfl rfl (fun hc => ?_) (fun hc => ?_)
          · refine tK (l := xk_201) rfl rfl (fun _ _ _ _ _ => rfl) ?_
            refine tK (l := xk_201) rfl rfl (hGetR (o := some 152) hs rfl rfl rfl (by decide) (by decide) rfl) ?_
            refine tK (l := xk_201) rfl rfl (fun _ _ _ _ _ => rfl) ?_
            refine tK (l := xk_201) rfl rfl (fun _ _ _ _ _ => rfl) ?_
            refine tK (l := xk_201) rfl rfl (hAdd ⟨by omega, by omega⟩) ?_
            rw [show (fo : Int) + (x : Int) = ((fo + x : Nat) : Int) by omega]
            first | refine tK (l := xk_201) rfl rfl (hIaldN hs rfl rfl (by omega)) ?_ | refine tK (l := xk_201) rfl rfl (hIald hs rfl (by omega) (by omega)) ?_
            rw [e1]
            refine tSt (l := xk_201) rfl rfl (fun _ _ _ _ _ => rfl) (Nat.le_of_ble_eq_true rfl) ?_
            refine tK (l := xk_201) rfl rfl (fun _ _ _ _ _ => rfl) ?_
            refine tK (l := xk_201) rfl rfl (fun _ _ _ _ _ => rfl) ?_
            refine tIc_ne (l := xk_201) (pc' := 41) rfl rfl rfl (fun hc => ?_) (fun hc => ?_)
            · refine tK (l := xk_201) rfl rfl (fun _ _ _ _ _ => rfl) ?_
              refine tK (l := xk_201) rfl rfl (hGetR (o := some 152) hs rfl rfl rfl (by decide) (by decide) rfl) ?_
              refine tK (l := xk_201) rfl rfl (fun _ _ _ _ _ => rfl) ?_
              refine tK (l := xk_201) rfl rfl (fun _ _ _ _ _ => rfl) ?_
              refine tK (l := xk_201) rfl rfl (hAdd ⟨by omega, by omega⟩) ?_
              rw [show (fo : Int) + (x : Int) = ((fo + x : Nat) : Int) by omega]
              refine tK (l := xk_201) rfl rfl (fun _ _ _ _ _ => rfl) ?_
              refine tK (l := xk_201) rfl rfl (hAdd ⟨by omega, by omega⟩) ?_
              rw [show ((fo + x : Nat) : Int) + 1 = ((fo + x + 1 : Nat) : Int) by omega]
              first | refine tK (l := xk_201) rfl rfl (hIaldN hs rfl rfl (by omega)) ?_ | refine tK (l := xk_201) rfl rfl (hIald hs rfl (by omega) (by omega)) ?_
              rw [e2]
              refine tK (l := xk_201) rfl rfl (fun _ _ _ _ _ => rfl) ?_
              refine tSt (l := xk_201) rfl rfl (fun _ _ _ _ _ => rfl) (Nat.le_of_ble_eq_true rfl) ?_
              refine tK (l := xk_201) rfl rfl (fun _ _ _ _ _ => rfl) ?_
              refine tK (l := xk_201) rfl rfl (fun _ _ _ _ _ => rfl) ?_
              refine tIc_eq (l := xk_201) (pc' := 65) rfl rfl rfl (fun hc => ?_) (fun hc => ?_)
              · exact absurd hc (by decide)
              · refine tK (l := xk_201) rfl rfl (fun _ _ _ _ _ => rfl) ?_
                refine tK (l := xk_201) rfl rfl (fun _ _ _ _ _ => rfl) ?_
                refine tIc_eq (l := xk_201) (pc' := 65) rfl rfl rfl (fun hc => ?_) (fun hc => ?_)
                · exact absurd hc (by decide)
                · refine tK (l := xk_201) rfl rfl (fun _ _ _ _ _ => rfl) ?_
                  refine tK (l := xk_201) rfl rfl (fun _ _ _ _ _ => rfl) ?_
                  refine tIc_ne (l := xk_201) (pc' := 69) rfl rfl rfl (fun hc => ?_) (fun hc => ?_)
                  · refine tK (l := xk_201) rfl rfl (fun _ _ _ _ _ => rfl) ?_
                    refine tK (l := xk_201) rfl rfl (fun _ _ _ _ _ => rfl) ?_
                    refine tSt (l := xk_201) rfl rfl (fun _ _ _ _ _ => rfl) (Nat.le_of_ble_eq_true rfl) ?_
                    refine tK (l := xk_201) rfl rfl (fun _ _ _ _ _ => rfl) ?_
                    refine tK (l := xk_201) rfl rfl (fun _ _ _ _ _ => rfl) ?_
                    refine tK (l := xk_201) rfl rfl (fun _ _ _ _ _ => rfl) ?_
                    refine tIc_ne (l := xk_201) (pc' := 84) rfl rfl rfl (fun hc => ?_) (fun hc => ?_)
                    · exact absurd hc (by decide)
                    · refine tK (l := xk_201) rfl rfl (fun _ _ _ _ _ => rfl) ?_
                      refine tIf_eq (l := xk_201) (pc' := 93) rfl rfl rfl (fun hc => ?_) (fun hc => ?_)
                      · exact absurd hc (by decide)
                      · refine tK (l := xk_201) rfl rfl (fun _ _ _ _ _ => rfl) ?_
                        refine tK (l := xk_201) rfl rfl (fun _ _ _ _ _ => rfl) ?_
                        refine tK (l := xk_201) rfl rfl (hAdd ⟨by omega, by omega⟩) ?_
                        rw [show (o : Int) + 1 = (((o + 1) : Nat) : Int) by omega]
                        refine tSt (l := xk_201) rfl rfl (fun _ _ _ _ _ => rfl) (Nat.le_of_ble_eq_true rfl) ?_
                        refine tK (l := xk_201) rfl rfl (fun _ _ _ _ _ => rfl) ?_
                        refine tK (l := xk_201) rfl rfl (fun _ _ _ _ _ => rfl) ?_
                        refine tK (l := xk_201) rfl rfl (fun _ _ _ _ _ => rfl) ?_
                        refine tIc_ne (l := xk_201) (pc' := 109) rfl rfl rfl (fun hc => ?_) (fun hc => ?_)
                        · exact absurd hc (by decide)
                        · refine tK (l := xk_201) rfl rfl (fun _ _ _ _ _ => rfl) ?_
                          refine tK (l := xk_201) rfl rfl (fun _ _ _ _ _ => rfl) ?_
                          refine tIc_eq (l := xk_201) (pc' := 120) rfl rfl rfl (fun hc => ?_) (fun hc => ?_)
                          · refine tK (l := xk_201) rfl rfl (fun _ _ _ _ _ => rfl) ?_
                            refine tIf_eq (l := xk_201) (pc' := 129) rfl rfl rfl (fun hc => ?_) (fun hc => ?_)
                            · exact absurd hc (by decide)
                            · refine tK (l := xk_201) rfl rfl (fun _ _ _ _ _ => rfl) ?_
                              refine tK (l := xk_201) rfl rfl (fun _ _ _ _ _ => rfl) ?_
                              refine tK (l := xk_201) rfl rfl (hAdd ⟨by omega, by omega⟩) ?_
                              rw [show (x : Int) + 4 = ((x + 4 : Nat) : Int) by omega]
                              refine tSt (l := xk_201) rfl rfl (fun _ _ _ _ _ => rfl) (Nat.le_of_ble_eq_true rfl) ?_
                              refine tK (l := xk_201) rfl rfl (fun _ _ _ _ _ => rfl) ?_
                              exact ih (x + 4) (o + 1) _ _ _ (by omega) q5
                          · exact absurd rfl hc
                  · exact absurd rfl hc
            · exact absurd rfl hc
          · exfalso; omega
      · have hx := (List.getElem?_eq_some_iff.mp q1).1
        have e1 : hRd ph 152 (fo + x) = 123 := hsg x _ q1
        have hx2 := (List.getElem?_eq_some_iff.mp q2).1
        have e2 : hRd ph 152 (fo + x + 1) = c := hsg (x + 1) _ q2
        rcases q3 with rfl | rfl
        · refine tK (l := xk_201) rfl rfl (fun _ _ _ _ _ => rfl) ?_
          refine tIf_le (l := xk_201) (pc' := 154) rfl rfl rfl (fun hc => ?_) (fun hc => ?_)
          · refine tK (l := xk_201) rfl rfl (fun _ _ _ _ _ => rfl) ?_
            refine tK (l := xk_201) rfl rfl (hGetR (o := some 152) hs rfl rfl rfl (by decide) (by decide) rfl) ?_
            refine tK (l := xk_201) rfl rfl (fun _ _ _ _ _ => rfl) ?_
            refine tK (l := xk_201) rfl rfl (fun _ _ _ _ _ => rfl) ?_
            refine tK (l := xk_201) rfl rfl (hAdd ⟨by omega, by omega⟩) ?_
            rw [show (fo : Int) + (x : Int) = ((fo + x : Nat) : Int) by omega]
            first | refine tK (l := xk_201) rfl rfl (hIaldN hs rfl rfl (by omega)) ?_ | refine tK (l := xk_201) rfl rfl (hIald hs rfl (by omega) (by omega)) ?_
            rw [e1]
            refine tSt (l := xk_201) rfl rfl (fun _ _ _ _ _ => rfl) (Nat.le_of_ble_eq_true rfl) ?_
            refine tK (l := xk_201) rfl rfl (fun _ _ _ _ _ => rfl) ?_
            refine tK (l := xk_201) rfl rfl (fun _ _ _ _ _ => rfl) ?_
            refine tIc_ne (l := xk_201) (pc' := 41) rfl rfl rfl (fun hc => ?_) (fun hc => ?_)
            · refine tK (l := xk_201) rfl rfl (fun _ _ _ _ _ => rfl) ?_
              refine tK (l := xk_201) rfl rfl (hGetR (o := some 152) hs rfl rfl rfl (by decide) (by decide) rfl) ?_
              refine tK (l := xk_201) rfl rfl (fun _ _ _ _ _ => rfl) ?_
              refine tK (l := xk_201) rfl rfl (fun _ _ _ _ _ => rfl) ?_
              refine tK (l := xk_201) rfl rfl (hAdd ⟨by omega, by omega⟩) ?_
              rw [show (fo : Int) + (x : Int) = ((fo + x : Nat) : Int) by omega]
              refine tK (l := xk_201) rfl rfl (fun _ _ _ _ _ => rfl) ?_
              refine tK (l := xk_201) rfl rfl (hAdd ⟨by omega, by omega⟩) ?_
              rw [show ((fo + x : Nat) : Int) + 1 = ((fo + x + 1 : Nat) : Int) by omega]
              first | refine tK (l := xk_201) rfl rfl (hIaldN hs rfl rfl (by omega)) ?_ | refine tK (l := xk_201) rfl rfl (hIald hs rfl (by omega) (by omega)) ?_
              rw [e2]
              refine tK (l := xk_201) rfl rfl (fun _ _ _ _ _ => rfl) ?_
              refine tSt (l := xk_201) rfl rfl (fun _ _ _ _ _ => rfl) (Nat.le_of_ble_eq_true rfl) ?_
              refine tK (l := xk_201) rfl rfl (fun _ _ _ _ _ => rfl) ?_
              refine tK (l := xk_201) rfl rfl (fun _ _ _ _ _ => rfl) ?_
              refine tIc_eq (l := xk_201) (pc' := 65) rfl rfl rfl (fun hc => ?_) (fun hc => ?_)
              · exact absurd hc (by decide)
              · refine tK (l := xk_201) rfl rfl (fun _ _ _ _ _ => rfl) ?_
                refine tK (l := xk_201) rfl rfl (fun _ _ _ _ _ => rfl) ?_
                refine tIc_eq (l := xk_201) (pc' := 65) rfl rfl rfl (fun hc => ?_) (fun hc => ?_)
                · exact absurd hc (by decide)
                · refine tK (l := xk_201) rfl rfl (fun _ _ _ _ _ => rfl) ?_
                  refine tK (l := xk_201) rfl rfl (fun _ _ _ _ _ => rfl) ?_
                  refine tIc_ne (l := xk_201) (pc' := 69) rfl rfl rfl (fun hc => ?_) (fun hc => ?_)
                  · exact absurd hc (by decide)
                  · refine tK (l := xk_201) rfl rfl (fun _ _ _ _ _ => rfl) ?_
                    refine tSt (l := xk_201) rfl rfl (fun _ _ _ _ _ => rfl) (Nat.le_of_ble_eq_true rfl) ?_
                    refine tK (l := xk_201) rfl rfl (fun _ _ _ _ _ => rfl) ?_
                    refine tK (l := xk_201) rfl rfl (fun _ _ _ _ _ => rfl) ?_
                    refine tK (l := xk_201) rfl rfl (fun _ _ _ _ _ => rfl) ?_
                    refine tIc_ne (l := xk_201) (pc' := 84) rfl rfl rfl (fun hc => ?_) (fun hc => ?_)
                    · exact absurd hc (by decide)
                    · refine tK (l := xk_201) rfl rfl (fun _ _ _ _ _ => rfl) ?_
                      refine tIf_eq (l := xk_201) (pc' := 93) rfl rfl rfl (fun hc => ?_) (fun hc => ?_)
                      · refine tK (l := xk_201) rfl rfl (fun _ _ _ _ _ => rfl) ?_
                        refine tK (l := xk_201) rfl rfl (hAdd ⟨by omega, by omega⟩) ?_
                        rw [show (o : Int) + 0 = ((o : Nat) : Int) by omega]
                        refine tSt (l := xk_201) rfl rfl (fun _ _ _ _ _ => rfl) (Nat.le_of_ble_eq_true rfl) ?_
                        refine tK (l := xk_201) rfl rfl (fun _ _ _ _ _ => rfl) ?_
                        refine tK (l := xk_201) rfl rfl (fun _ _ _ _ _ => rfl) ?_
                        refine tK (l := xk_201) rfl rfl (fun _ _ _ _ _ => rfl) ?_
                        refine tIc_ne (l := xk_201) (pc' := 109) rfl rfl rfl (fun hc => ?_) (fun hc => ?_)
                        · exact absurd hc (by decide)
                        · refine tK (l := xk_201) rfl rfl (fun _ _ _ _ _ => rfl) ?_
                          refine tK (l := xk_201) rfl rfl (fun _ _ _ _ _ => rfl) ?_
                          refine tIc_eq (l := xk_201) (pc' := 120) rfl rfl rfl (fun hc => ?_) (fun hc => ?_)
                          · refine tK (l := xk_201) rfl rfl (fun _ _ _ _ _ => rfl) ?_
                            refine tIf_eq (l := xk_201) (pc' := 129) rfl rfl rfl (fun hc => ?_) (fun hc => ?_)
                            · refine tK (l := xk_201) rfl rfl (fun _ _ _ _ _ => rfl) ?_
                              refine tK (l := xk_201) rfl rfl (fun _ _ _ _ _ => rfl) ?_
                              refine tIc_eq (l := xk_201) (pc' := 143) rfl rfl rfl (fun hc => ?_) (fun hc => ?_)
                              · refine tK (l := xk_201) rfl rfl (fun _ _ _ _ _ => rfl) ?_
                                refine tK (l := xk_201) rfl rfl (fun _ _ _ _ _ => rfl) ?_
                                refine tK (l := xk_201) rfl rfl (hAdd ⟨by omega, by omega⟩) ?_
                                rw [show (x : Int) + 4 = ((x + 4 : Nat) : Int) by omega]
                                refine tSt (l := xk_201) rfl rfl (fun _ _ _ _ _ => rfl) (Nat.le_of_ble_eq_true rfl) ?_
                                refine tK (l := xk_201) rfl rfl (fun _ _ _ _ _ => rfl) ?_
                                exact ih (x + 4) o _ _ _ (by omega) q5
                              · exact absurd rfl hc
                            · exact absurd rfl hc
                          · exact absurd rfl hc
                      · exact absurd rfl hc
            · exact absurd rfl hc
          · exfalso; omega
        · refine tK (l := xk_201) rfl rfl (fun _ _ _ _ _ => rfl) ?_
          refine tIf_le (l := xk_201) (pc' := 154) rfl rfl rfl (fun hc => ?_) (fun hc => ?_)
          · refine tK (l := xk_201) rfl rfl (fun _ _ _ _ _ => rfl) ?_
            refine tK (l := xk_201) rfl rfl (hGetR (o := some 152) hs rfl rfl rfl (by decide) (by decide) rfl) ?_
            refine tK (l := xk_201) rfl rfl (fun _ _ _ _ _ => rfl) ?_
            refine tK (l := xk_201) rfl rfl (fun _ _ _ _ _ => rfl) ?_
            refine tK (l := xk_201) rfl rfl (hAdd ⟨by omega, by omega⟩) ?_
            rw [show (fo : Int) + (x : Int) = ((fo + x : Nat) : Int) by omega]
            first | refine tK (l := xk_201) rfl rfl (hIaldN hs rfl rfl (by omega)) ?_ | refine tK (l := xk_201) rfl rfl (hIald hs rfl (by omega) (by omega)) ?_
            rw [e1]
            refine tSt (l := xk_201) rfl rfl (fun _ _ _ _ _ => rfl) (Nat.le_of_ble_eq_true rfl) ?_
            refine tK (l := xk_201) rfl rfl (fun _ _ _ _ _ => rfl) ?_
            refine tK (l := xk_201) rfl rfl (fun _ _ _ _ _ => rfl) ?_
            refine tIc_ne (l := xk_201) (pc' := 41) rfl rfl rfl (fun hc => ?_) (fun hc => ?_)
            · refine tK (l := xk_201) rfl rfl (fun _ _ _ _ _ => rfl) ?_
              refine tK (l := xk_201) rfl rfl (hGetR (o := some 152) hs rfl rfl rfl (by decide) (by decide) rfl) ?_
              refine tK (l := xk_201) rfl rfl (fun _ _ _ _ _ => rfl) ?_
              refine tK (l := xk_201) rfl rfl (fun _ _ _ _ _ => rfl) ?_
              refine tK (l := xk_201) rfl rfl (hAdd ⟨by omega, by omega⟩) ?_
              rw [show (fo : Int) + (x : Int) = ((fo + x : Nat) : Int) by omega]
              refine tK (l := xk_201) rfl rfl (fun _ _ _ _ _ => rfl) ?_
              refine tK (l := xk_201) rfl rfl (hAdd ⟨by omega, by omega⟩) ?_
              rw [show ((fo + x : Nat) : Int) + 1 = ((fo + x + 1 : Nat) : Int) by omega]
              first | refine tK (l := xk_201) rfl rfl (hIaldN hs rfl rfl (by omega)) ?_ | refine tK (l := xk_201) rfl rfl (hIald hs rfl (by omega) (by omega)) ?_
              rw [e2]
              refine tK (l := xk_201) rfl rfl (fun _ _ _ _ _ => rfl) ?_
              refine tSt (l := xk_201) rfl rfl (fun _ _ _ _ _ => rfl) (Nat.le_of_ble_eq_true rfl) ?_
              refine tK (l := xk_201) rfl rfl (fun _ _ _ _ _ => rfl) ?_
              refine tK (l := xk_201) rfl rfl (fun _ _ _ _ _ => rfl) ?_
              refine tIc_eq (l := xk_201) (pc' := 65) rfl rfl rfl (fun hc => ?_) (fun hc => ?_)
              · exact absurd hc (by decide)
              · refine tK (l := xk_201) rfl rfl (fun _ _ _ _ _ => rfl) ?_
                refine tK (l := xk_201) rfl rfl (fun _ _ _ _ _ => rfl) ?_
                refine tIc_eq (l := xk_201) (pc' := 65) rfl rfl rfl (fun hc => ?_) (fun hc => ?_)
                · exact absurd hc (by decide)
                · refine tK (l := xk_201) rfl rfl (fun _ _ _ _ _ => rfl) ?_
                  refine tK (l := xk_201) rfl rfl (fun _ _ _ _ _ => rfl) ?_
                  refine tIc_ne (l := xk_201) (pc' := 69) rfl rfl rfl (fun hc => ?_) (fun hc => ?_)
                  · exact absurd hc (by decide)
                  · refine tK (l := xk_201) rfl rfl (fun _ _ _ _ _ => rfl) ?_
                    refine tSt (l := xk_201) rfl rfl (fun _ _ _ _ _ => rfl) (Nat.le_of_ble_eq_true rfl) ?_
                    refine tK (l := xk_201) rfl rfl (fun _ _ _ _ _ => rfl) ?_
                    refine tK (l := xk_201) rfl rfl (fun _ _ _ _ _ => rfl) ?_
                    refine tK (l := xk_201) rfl rfl (fun _ _ _ _ _ => rfl) ?_
                    refine tIc_ne (l := xk_201) (pc' := 84) rfl rfl rfl (fun hc => ?_) (fun hc => ?_)
                    · exact absurd hc (by decide)
                    · refine tK (l := xk_201) rfl rfl (fun _ _ _ _ _ => rfl) ?_
                      refine tIf_eq (l := xk_201) (pc' := 93) rfl rfl rfl (fun hc => ?_) (fun hc => ?_)
                      · refine tK (l := xk_201) rfl rfl (fun _ _ _ _ _ => rfl) ?_
                        refine tK (l := xk_201) rfl rfl (hAdd ⟨by omega, by omega⟩) ?_
                        rw [show (o : Int) + 0 = ((o : Nat) : Int) by omega]
                        refine tSt (l := xk_201) rfl rfl (fun _ _ _ _ _ => rfl) (Nat.le_of_ble_eq_true rfl) ?_
                        refine tK (l := xk_201) rfl rfl (fun _ _ _ _ _ => rfl) ?_
                        refine tK (l := xk_201) rfl rfl (fun _ _ _ _ _ => rfl) ?_
                        refine tK (l := xk_201) rfl rfl (fun _ _ _ _ _ => rfl) ?_
                        refine tIc_ne (l := xk_201) (pc' := 109) rfl rfl rfl (fun hc => ?_) (fun hc => ?_)
                        · exact absurd hc (by decide)
                        · refine tK (l := xk_201) rfl rfl (fun _ _ _ _ _ => rfl) ?_
                          refine tK (l := xk_201) rfl rfl (fun _ _ _ _ _ => rfl) ?_
                          refine tIc_eq (l := xk_201) (pc' := 120) rfl rfl rfl (fun hc => ?_) (fun hc => ?_)
                          · refine tK (l := xk_201) rfl rfl (fun _ _ _ _ _ => rfl) ?_
                            refine tIf_eq (l := xk_201) (pc' := 129) rfl rfl rfl (fun hc => ?_) (fun hc => ?_)
                            · refine tK (l := xk_201) rfl rfl (fun _ _ _ _ _ => rfl) ?_
                              refine tK (l := xk_201) rfl rfl (fun _ _ _ _ _ => rfl) ?_
                              refine tIc_eq (l := xk_201) (pc' := 143) rfl rfl rfl (fun hc => ?_) (fun hc => ?_)
                              · exact absurd hc (by decide)
                              · refine tK (l := xk_201) rfl rfl (fun _ _ _ _ _ => rfl) ?_
                                refine tK (l := xk_201) rfl rfl (fun _ _ _ _ _ => rfl) ?_
                                refine tIc_ne (l := xk_201) (pc' := 147) rfl rfl rfl (fun hc => ?_) (fun hc => ?_)
                                · refine tK (l := xk_201) rfl rfl (fun _ _ _ _ _ => rfl) ?_
                                  refine tK (l := xk_201) rfl rfl (fun _ _ _ _ _ => rfl) ?_
                                  refine tK (l := xk_201) rfl rfl (hAdd ⟨by omega, by omega⟩) ?_
                                  rw [show (x : Int) + 4 = ((x + 4 : Nat) : Int) by omega]
                                  refine tSt (l := xk_201) rfl rfl (fun _ _ _ _ _ => rfl) (Nat.le_of_ble_eq_true rfl) ?_
                                  refine tK (l := xk_201) rfl rfl (fun _ _ _ _ _ => rfl) ?_
                                  exact ih (x + 4) o _ _ _ (by omega) q5
                                · exact absurd rfl hc
                            · exact absurd rfl hc
                          · exact absurd rfl hc
                      · exact absurd rfl hc
            · exact absurd rfl hc
          · exfalso; omega
      · have hx := (List.getElem?_eq_some_iff.mp q1).1
        have e1 : hRd ph 152 (fo + x) = 123 := hsg x _ q1
        have hx2 := (List.getElem?_eq_some_iff.mp q2).1
        have e2 : hRd ph 152 (fo + x + 1) = c := hsg (x + 1) _ q2
        refine tK (l := xk_201) rfl rfl (fun _ _ _ _ _ => rfl) ?_
        refine tIf_le (l := xk_201) (pc' := 154) rfl rfl rfl (fun hc => ?_) (fun hc => ?_)
        · refine tK (l := xk_201) rfl rfl (fun _ _ _ _ _ => rfl) ?_
          refine tK (l := xk_201) rfl rfl (hGetR (o := some 152) hs rfl rfl rfl (by decide) (by decide) rfl) ?_
          refine tK (l := xk_201) rfl rfl (fun _ _ _ _ _ => rfl) ?_
          refine tK (l := xk_201) rfl rfl (fun _ _ _ _ _ => rfl) ?_
          refine tK (l := xk_201) rfl rfl (hAdd ⟨by omega, by omega⟩) ?_
          rw [show (fo : Int) + (x : Int) = ((fo + x : Nat) : Int) by omega]
          first | refine tK (l := xk_201) rfl rfl (hIaldN hs rfl rfl (by omega)) ?_ | refine tK (l := xk_201) rfl rfl (hIald hs rfl (by omega) (by omega)) ?_
          rw [e1]
          refine tSt (l := xk_201) rfl rfl (fun _ _ _ _ _ => rfl) (Nat.le_of_ble_eq_true rfl) ?_
          refine tK (l := xk_201) rfl rfl (fun _ _ _ _ _ => rfl) ?_
          refine tK (l := xk_201) rfl rfl (fun _ _ _ _ _ => rfl) ?_
          refine tIc_ne (l := xk_201) (pc' := 41) rfl rfl rfl (fun hc => ?_) (fun hc => ?_)
          · refine tK (l := xk_201) rfl rfl (fun _ _ _ _ _ => rfl) ?_
            refine tK (l := xk_201) rfl rfl (hGetR (o := some 152) hs rfl rfl rfl (by decide) (by decide) rfl) ?_
            refine tK (l := xk_201) rfl rfl (fun _ _ _ _ _ => rfl) ?_
            refine tK (l := xk_201) rfl rfl (fun _ _ _ _ _ => rfl) ?_
            refine tK (l := xk_201) rfl rfl (hAdd ⟨by omega, by omega⟩) ?_
            rw [show (fo : Int) + (x : Int) = ((fo + x : Nat) : Int) by omega]
            refine tK (l := xk_201) rfl rfl (fun _ _ _ _ _ => rfl) ?_
            refine tK (l := xk_201) rfl rfl (hAdd ⟨by omega, by omega⟩) ?_
            rw [show ((fo + x : Nat) : Int) + 1 = ((fo + x + 1 : Nat) : Int) by omega]
            first | refine tK (l := xk_201) rfl rfl (hIaldN hs rfl rfl (by omega)) ?_ | refine tK (l := xk_201) rfl rfl (hIald hs rfl (by omega) (by omega)) ?_
            rw [e2]
            refine tK (l := xk_201) rfl rfl (fun _ _ _ _ _ => rfl) ?_
            refine tSt (l := xk_201) rfl rfl (fun _ _ _ _ _ => rfl) (Nat.le_of_ble_eq_true rfl) ?_
            refine tK (l := xk_201) rfl rfl (fun _ _ _ _ _ => rfl) ?_
            refine tK (l := xk_201) rfl rfl (fun _ _ _ _ _ => rfl) ?_
            refine tIc_eq (l := xk_201) (pc' := 65) rfl rfl rfl (fun hc => ?_) (fun hc => ?_)
            · exact absurd hc q3.1
            · refine tK (l := xk_201) rfl rfl (fun _ _ _ _ _ => rfl) ?_
              refine tK (l := xk_201) rfl rfl (fun _ _ _ _ _ => rfl) ?_
              refine tIc_eq (l := xk_201) (pc' := 65) rfl rfl rfl (fun hc => ?_) (fun hc => ?_)
              · exact absurd hc q3.2.1
              · refine tK (l := xk_201) rfl rfl (fun _ _ _ _ _ => rfl) ?_
                refine tK (l := xk_201) rfl rfl (fun _ _ _ _ _ => rfl) ?_
                refine tIc_ne (l := xk_201) (pc' := 69) rfl rfl rfl (fun hc => ?_) (fun hc => ?_)
                · exact absurd hc q3.2.2.1
                · refine tK (l := xk_201) rfl rfl (fun _ _ _ _ _ => rfl) ?_
                  refine tSt (l := xk_201) rfl rfl (fun _ _ _ _ _ => rfl) (Nat.le_of_ble_eq_true rfl) ?_
                  refine tK (l := xk_201) rfl rfl (fun _ _ _ _ _ => rfl) ?_
                  refine tK (l := xk_201) rfl rfl (fun _ _ _ _ _ => rfl) ?_
                  refine tK (l := xk_201) rfl rfl (fun _ _ _ _ _ => rfl) ?_
                  refine tIc_ne (l := xk_201) (pc' := 84) rfl rfl rfl (fun hc => ?_) (fun hc => ?_)
                  · exact absurd hc (by decide)
                  · refine tK (l := xk_201) rfl rfl (fun _ _ _ _ _ => rfl) ?_
                    refine tIf_eq (l := xk_201) (pc' := 93) rfl rfl rfl (fun hc => ?_) (fun hc => ?_)
                    · refine tK (l := xk_201) rfl rfl (fun _ _ _ _ _ => rfl) ?_
                      refine tK (l := xk_201) rfl rfl (hAdd ⟨by omega, by omega⟩) ?_
                      rw [show (o : Int) + 0 = ((o : Nat) : Int) by omega]
                      refine tSt (l := xk_201) rfl rfl (fun _ _ _ _ _ => rfl) (Nat.le_of_ble_eq_true rfl) ?_
                      refine tK (l := xk_201) rfl rfl (fun _ _ _ _ _ => rfl) ?_
                      refine tK (l := xk_201) rfl rfl (fun _ _ _ _ _ => rfl) ?_
                      refine tK (l := xk_201) rfl rfl (fun _ _ _ _ _ => rfl) ?_
                      refine tIc_ne (l := xk_201) (pc' := 109) rfl rfl rfl (fun hc => ?_) (fun hc => ?_)
                      · exact absurd hc (by decide)
                      · refine tK (l := xk_201) rfl rfl (fun _ _ _ _ _ => rfl) ?_
                        refine tK (l := xk_201) rfl rfl (fun _ _ _ _ _ => rfl) ?_
                        refine tIc_eq (l := xk_201) (pc' := 120) rfl rfl rfl (fun hc => ?_) (fun hc => ?_)
                        · refine tK (l := xk_201) rfl rfl (fun _ _ _ _ _ => rfl) ?_
                          refine tIf_eq (l := xk_201) (pc' := 129) rfl rfl rfl (fun hc => ?_) (fun hc => ?_)
                          · refine tK (l := xk_201) rfl rfl (fun _ _ _ _ _ => rfl) ?_
                            refine tK (l := xk_201) rfl rfl (fun _ _ _ _ _ => rfl) ?_
                            refine tIc_eq (l := xk_201) (pc' := 143) rfl rfl rfl (fun hc => ?_) (fun hc => ?_)
                            · exact absurd hc q3.2.2.2.1
                            · refine tK (l := xk_201) rfl rfl (fun _ _ _ _ _ => rfl) ?_
                              refine tK (l := xk_201) rfl rfl (fun _ _ _ _ _ => rfl) ?_
                              refine tIc_ne (l := xk_201) (pc' := 147) rfl rfl rfl (fun hc => ?_) (fun hc => ?_)
                              · exact absurd hc q3.2.2.2.2
                              · refine tK (l := xk_201) rfl rfl (fun _ _ _ _ _ => rfl) ?_
                                refine tK (l := xk_201) rfl rfl (hAdd ⟨by omega, by omega⟩) ?_
                                rw [show (x : Int) + 3 = ((x + 3 : Nat) : Int) by omega]
                                refine tSt (l := xk_201) rfl rfl (fun _ _ _ _ _ => rfl) (Nat.le_of_ble_eq_true rfl) ?_
                                refine tK (l := xk_201) rfl rfl (fun _ _ _ _ _ => rfl) ?_
                                exact ih (x + 3) o _ _ _ (by omega) q5
                          · exact absurd rfl hc
                        · exact absurd rfl hc
                    · exact absurd rfl hc
          · exact absurd rfl hc
        · exfalso; omega
  refine tEn (ls := [some (.inr (.inl (some 147))), some (.inl (fo : Int)), some (.inl (x0 : Int)), none, none, none, none, none]) (fun k => by match k with | 0 => rfl | 1 => rfl | 2 => rfl | 3 => rfl | 4 => rfl | 5 => rfl | 6 => rfl | 7 => rfl | k + 8 => rfl) ?_
  refine tK (l := xk_201) rfl rfl (fun _ _ _ _ _ => rfl) ?_
  refine tSt (l := xk_201) rfl rfl (fun _ _ _ _ _ => rfl) (Nat.le_of_ble_eq_true rfl) ?_
  refine tK (l := xk_201) rfl rfl (fun _ _ _ _ _ => rfl) ?_
  refine tSt (l := xk_201) rfl rfl (fun _ _ _ _ _ => rfl) (Nat.le_of_ble_eq_true rfl) ?_
  exact loop m x0 1 none none none (by omega) htk
theorem s197_2 {a place : Nat} {v : List Int} {ip : List Nat} {s : RS} (h : hMN zs ph s) (hi : hMi ph ip) (h20 : hRd ph 147 20 = 0) (ha : a + 25 ≤ 16000) (hv : hMv ph 155 a (some v)) (hQ : ∀ ph2, hMN zs ph2 (pvF false 2 v s).1 → hFM [19, 20, 22, 24, 25, 26] [153, 154, 156, 157] ph ph2 → hRd ph2 147 20 = ((pvF false 2 v s).2 : Int) → ((pvF false 2 v s).2 = 0 → hRd ph2 147 22 = hRd ph 147 22) → ((pvF false 2 v s).2 ≠ 0 → hMx ph2 (pvF false 2 v s).2 (ip ++ [place])) → Q (.inl none, ph2, g)) : xTC (d + 2) 197 [.inr (.inl (some 147)), .inl (a : Int), .inl 0, .inl (place : Int)] ph g Q := by
  obtain ⟨z1, z2, z3, z4, z5, z6, z7, z8⟩ := hSzM
  obtain ⟨hv1, hv2⟩ := hv
  obtain ⟨hv24, hv2⟩ := hv2 v rfl
  have hv1 : hRd ph 155 a = (v.length : Int) := hv1
  have stop : ∀ (i r : Nat) (phi : xH) (o5 : Option xV), i ≤ 30 → hMN zs phi (pvF false 2 v s).1 → hFM [19, 20, 22, 24, 25, 26] [153, 154, 156, 157] ph phi → r ≠ 0 → r = (pvF false 2 v s).2 → hMx phi r (ip ++ [place]) → xT (d + 2) 197 3 (xlo [some (.inr (.inl (some 147))), some (.inl (a : Int)), some (.inl 0), some (.inl (place : Int)), some (.inl (i : Int)), o5]) [] phi g Q := by
    intro i r phi o5 hi30 hn hf hr hre hx
    subst hre
    have hs := hn.1
    have e55 : hRd phi 155 a = (v.length : Int) := by rw [hf.at (by decide)]; exact hv1
    have e20 : hRd phi 147 20 = ((pvF false 2 v s).2 : Int) := hx.1
    refine tK (l := xk_197) rfl rfl (fun _ _ _ _ _ => rfl) ?_
    refine tK (l := xk_197) rfl rfl (fun _ _ _ _ _ => rfl) ?_
    refine tK (l := xk_197) rfl rfl (hGetR (o := some 155) hs rfl rfl rfl (by decide) (by decide) rfl) ?_
    refine tK (l := xk_197) rfl rfl (fun _ _ _ _ _ => rfl) ?_
    first | refine tK (l := xk_197) rfl rfl (hIaldN hs rfl rfl (by omega)) ?_ | refine tK (l := xk_197) rfl rfl (hIald hs rfl (by omega) (by omega)) ?_
    rw [e55]
    refine tIc_ge (l := xk_197) (pc' := 75) rfl rfl rfl (fun hc => ?_) (fun hc => ?_)
    · refine tK (l := xk_197) rfl rfl (fun _ _ _ _ _ => rfl) ?_
      refine tK (l := xk_197) rfl rfl (hGetI hs rfl rfl rfl (by decide) (by decide)) ?_
      rw [e20]
      refine tIf_ne (l := xk_197) (pc' := 75) rfl rfl rfl (fun hc => ?_) (fun hc => ?_)
      · exact absurd (show (((pvF false 2 v s).2 : Nat) : Int) = 0 from hc) (by omega)
      · refine tRt (l := xk_197) rfl rfl (fun _ _ _ _ _ => rfl) ?_
        exact hQ phi hn hf e20 (fun q => absurd q hr) (fun _ => hx)
    · refine tRt (l := xk_197) rfl rfl (fun _ _ _ _ _ => rfl) ?_
      exact hQ phi hn hf e20 (fun q => absurd q hr) (fun _ => hx)
  have loop : ∀ (l : List Int) (i : Nat) (s2 : RS) (phi : xH) (o5 : Option xV), v.drop i = l → i + l.length = v.length → hMN zs phi s2 → pvF false 2 l s2 = (pvF false 2 v s) → hFM [19, 24, 25, 26] [153, 156, 157] ph phi → hRd phi 147 20 = 0 → xT (d + 2) 197 3 (xlo [some (.inr (.inl (some 147))), some (.inl (a : Int)), some (.inl 0), some (.inl (place : Int)), some (.inl (i : Int)), o5]) [] phi g Q := by
    intro l
    induction l with
    | nil =>
      intro i s2 phi o5 hdr hil hn hp hf h20
      have hs := hn.1
      have e55 : hRd phi 155 a = (v.length : Int) := by rw [hf.at (by decide)]; exact hv1
      simp only [List.length_nil] at hil
      refine tK (l := xk_197) rfl rfl (fun _ _ _ _ _ => rfl) ?_
      refine tK (l := xk_197) rfl rfl (fun _ _ _ _ _ => rfl) ?_
      refine tK (l := xk_197) rfl rfl (hGetR (o := some 155) hs rfl rfl rfl (by decide) (by decide) rfl) ?_
      refine tK (l := xk_197) rfl rfl (fun _ _ _ _ _ => rfl) ?_
      first | refine tK (l := xk_197) rfl rfl (hIaldN hs rfl rfl (by omega)) ?_ | refine tK (l := xk_197) rfl rfl (hIald hs rfl (by omega) (by omega)) ?_
      rw [e55]
      refine tIc_ge (l := xk_197) (pc' := 75) rfl rfl rfl (fun hc => ?_) (fun hc => ?_)
      · exfalso; omega
      · refine tRt (l := xk_197) rfl rfl (fun _ _ _ _ _ => rfl) ?_
        have hp1 : (pvF false 2 v s) = (s2, 0) := hp.symm
        rw [hp1] at hQ
        exact hQ phi hn (hf.mono (by decide) (by decide)) h20 (fun _ => hf.fl (by decide)) (fun q => absurd rfl q)
    | cons c l ih =>
      intro i s2 phi o5 hdr hil hn hp hf h20
      have hs := hn.1
      have e55 : hRd phi 155 a = (v.length : Int) := by rw [hf.at (by decide)]; exact hv1
      simp only [List.length_cons] at hil
      have hc9 : v[i]? = some c := by
        have := congrArg (fun l => l[0]?) hdr
        simpa using this
      have hdr2 : v.drop (i + 1) = l := by rw [← List.drop_drop, hdr]; rfl
      have e5c : hRd phi 155 (a + 1 + i) = c := by rw [hf.at (by decide)]; exact hv2 i c hc9
      have hi2 : hMi phi ip := hi.fr hf
      have one : ∀ (pha : xH) (s3 : RS), hMN zs pha s3 → hFM [19, 24, 25, 26] [153, 156, 157] ph pha → hRd pha 147 20 = 0 → (match prF c 2 s3 with
          | (s4, 0) => pvF false 2 l s4
          | q => q) = (pvF false 2 v s) → xT (d + 2) 197 61 (xlo [some (.inr (.inl (some 147))), some (.inl (a : Int)), some (.inl 0), some (.inl (place : Int)), some (.inl (i : Int)), some (.inl c)]) [] pha g Q := by
        intro pha s3 hn3 hf3 h203 hp3
        have hs := hn3.1
        have hi3 : hMi pha ip := hi.fr hf3
        obtain ⟨sc, stg, ou, st, pl, es, vl⟩ := s3
        refine tK (l := xk_197) rfl rfl (fun _ _ _ _ _ => rfl) ?_
        refine tK (l := xk_197) rfl rfl (fun _ _ _ _ _ => rfl) ?_
        refine tK (l := xk_197) rfl rfl (fun _ _ _ _ _ => rfl) ?_
        refine tK (l := xk_197) rfl rfl (fun _ _ _ _ _ => rfl) ?_
        refine tCa (l := xk_197) rfl rfl (hInvV (c := 10) hs rfl rfl rfl rfl rfl (Nat.le_of_ble_eq_true rfl) (Nat.le_of_ble_eq_true rfl)) ?_
        refine s198_2 (k := 2) (by decide) (by decide) hn3 hi3 (fun ph4 n4 z4 f4 => ?_) (fun ph4 n4 z4 f4 x4 => ?_)
        · refine tKn ?_
          refine tSt (l := xk_197) rfl rfl (hIinc rfl (Nat.le_of_ble_eq_true rfl) ⟨by omega, by omega⟩) (Nat.le_of_ble_eq_true rfl) ?_
          refine tK (l := xk_197) rfl rfl (fun _ _ _ _ _ => rfl) ?_
          refine ih (i + 1) _ ph4 _ hdr2 (by omega) n4 ?_ (hf3.trans f4) (by rw [f4.fl (by decide)]; exact h203)
          rw [← hp3]
          cases hq : prF c 2 (sc, stg, ou, st, pl, es, vl) with | mk s5 r5 => ?_
          rw [hq] at z4
          have z4 : r5 = 0 := z4
          subst z4
          rfl
        · refine tKn ?_
          refine tSt (l := xk_197) rfl rfl (hIinc rfl (Nat.le_of_ble_eq_true rfl) ⟨by omega, by omega⟩) (Nat.le_of_ble_eq_true rfl) ?_
          refine tK (l := xk_197) rfl rfl (fun _ _ _ _ _ => rfl) ?_
          have hp4 : prF c 2 (sc, stg, ou, st, pl, es, vl) = (pvF false 2 v s) := by
            rw [← hp3]
            cases hq : prF c 2 (sc, stg, ou, st, pl, es, vl) with | mk s5 r5 => ?_
            rw [hq] at z4
            cases r5 with
            | zero => exact absurd rfl z4
            | succ r5 => rfl
          rw [hp4] at n4 z4 x4
          exact stop (i + 1) _ ph4 _ (by omega) n4 ((hf3.mono (by decide) (by decide)).trans (f4.mono (by decide) (by decide))) z4 rfl x4
      rw [pvF_cons (show (false && spc c) = false from rfl)] at hp
      refine tK (l := xk_197) rfl rfl (fun _ _ _ _ _ => rfl) ?_
      refine tK (l := xk_197) rfl rfl (fun _ _ _ _ _ => rfl) ?_
      refine tK (l := xk_197) rfl rfl (hGetR (o := some 155) hs rfl rfl rfl (by decide) (by decide) rfl) ?_
      refine tK (l := xk_197) rfl rfl (fun _ _ _ _ _ => rfl) ?_
      first | refine tK (l := xk_197) rfl rfl (hIaldN hs rfl rfl (by omega)) ?_ | refine tK (l := xk_197) rfl rfl (hIald hs rfl (by omega) (by omega)) ?_
      rw [e55]
      refine tIc_ge (l := xk_197) (pc' := 75) rfl rfl rfl (fun hc => ?_) (fun hc => ?_)
      · refine tK (l := xk_197) rfl rfl (fun _ _ _ _ _ => rfl) ?_
        refine tK (l := xk_197) rfl rfl (hGetI hs rfl rfl rfl (by decide) (by decide)) ?_
        rw [h20]
        refine tIf_ne (l := xk_197) (pc' := 75) rfl rfl rfl (fun hc => ?_) (fun hc => ?_)
        · refine tK (l := xk_197) rfl rfl (fun _ _ _ _ _ => rfl) ?_
          refine tK (l := xk_197) rfl rfl (hGetR (o := some 155) hs rfl rfl rfl (by decide) (by decide) rfl) ?_
          refine tK (l := xk_197) rfl rfl (fun _ _ _ _ _ => rfl) ?_
          refine tK (l := xk_197) rfl rfl (fun _ _ _ _ _ => rfl) ?_
          refine tK (l := xk_197) rfl rfl (hAdd ⟨by omega, by omega⟩) ?_
          rw [show (a : Int) + 1 = ((a + 1 : Nat) : Int) by omega]
          refine tK (l := xk_197) rfl rfl (fun _ _ _ _ _ => rfl) ?_
          refine tK (l := xk_197) rfl rfl (hAdd ⟨by omega, by omega⟩) ?_
          rw [show ((a + 1 : Nat) : Int) + (i : Int) = ((a + 1 + i : Nat) : Int) by omega]
          first | refine tK (l := xk_197) rfl rfl (hIaldN hs rfl rfl (by omega)) ?_ | refine tK (l := xk_197) rfl rfl (hIald hs rfl (by omega) (by omega)) ?_
          rw [e5c]
          refine tSt (l := xk_197) rfl rfl (fun _ _ _ _ _ => rfl) (Nat.le_of_ble_eq_true rfl) ?_
          refine tK (l := xk_197) rfl rfl (fun _ _ _ _ _ => rfl) ?_
          refine tIf_eq (l := xk_197) (pc' := 54) rfl rfl rfl (fun hc => ?_) (fun hc => ?_)
          · refine tK (l := xk_197) rfl rfl (fun _ _ _ _ _ => rfl) ?_
            refine tK (l := xk_197) rfl rfl (hGetI hs rfl rfl rfl (by decide) (by decide)) ?_
            rw [h20]
            refine tIf_ne (l := xk_197) (pc' := 69) rfl rfl rfl (fun hc => ?_) (fun hc => ?_)
            · exact one phi s2 hn hf h20 hp
            · exact absurd rfl hc
          · exact absurd rfl hc
        · exact absurd rfl hc
      · exfalso; omega
  refine tEn (ls := [some (.inr (.inl (some 147))), some (.inl (a : Int)), some (.inl 0), some (.inl (place : Int)), none, none]) (fun k => by match k with | 0 => rfl | 1 => rfl | 2 => rfl | 3 => rfl | 4 => rfl | 5 => rfl | k + 6 => rfl) ?_
  have hs := h.1
  refine tK (l := xk_197) rfl rfl (fun _ _ _ _ _ => rfl) ?_
  refine tSt (l := xk_197) rfl rfl (fun _ _ _ _ _ => rfl) (Nat.le_of_ble_eq_true rfl) ?_
  exact loop v 0 s ph none rfl (by simp) h rfl hFM.refl h20
theorem s197_3 {a place : Nat} {v : List Int} {ip : List Nat} {s : RS} (h : hMN zs ph s) (hi : hMi ph ip) (h20 : hRd ph 147 20 = 0) (ha : a + 25 ≤ 16000) (hv : hMv ph 155 a (some v)) (hQ : ∀ ph2, hMN zs ph2 (pvF true 3 v s).1 → hFM [19, 20, 22, 24, 25, 26] [153, 154, 156, 157] ph ph2 → hRd ph2 147 20 = ((pvF true 3 v s).2 : Int) → ((pvF true 3 v s).2 = 0 → hRd ph2 147 22 = hRd ph 147 22) → ((pvF true 3 v s).2 ≠ 0 → hMx ph2 (pvF true 3 v s).2 (ip ++ [place])) → Q (.inl none, ph2, g)) : xTC (d + 2) 197 [.inr (.inl (some 147)), .inl (a : Int), .inl 1, .inl (place : Int)] ph g Q := by
  obtain ⟨z1, z2, z3, z4, z5, z6, z7, z8⟩ := hSzM
  obtain ⟨hv1, hv2⟩ := hv
  obtain ⟨hv24, hv2⟩ := hv2 v rfl
  have hv1 : hRd ph 155 a = (v.length : Int) := hv1
  have stop : ∀ (i r : Nat) (phi : xH) (o5 : Option xV), i ≤ 30 → hMN zs phi (pvF true 3 v s).1 → hFM [19, 20, 22, 24, 25, 26] [153, 154, 156, 157] ph phi → r ≠ 0 → r = (pvF true 3 v s).2 → hMx phi r (ip ++ [place]) → xT (d + 2) 197 3 (xlo [some (.inr (.inl (some 147))), some (.inl (a : Int)), some (.inl 1), some (.inl (place : Int)), some (.inl (i : Int)), o5]) [] phi g Q := by
    intro i r phi o5 hi30 hn hf hr hre hx
    subst hre
    have hs := hn.1
    have e55 : hRd phi 155 a = (v.length : Int) := by rw [hf.at (by decide)]; exact hv1
    have e20 : hRd phi 147 20 = ((pvF true 3 v s).2 : Int) := hx.1
    refine tK (l := xk_197) rfl rfl (fun _ _ _ _ _ => rfl) ?_
    refine tK (l := xk_197) rfl rfl (fun _ _ _ _ _ => rfl) ?_
    refine tK (l := xk_197) rfl rfl (hGetR (o := some 155) hs rfl rfl rfl (by decide) (by decide) rfl) ?_
    refine tK (l := xk_197) rfl rfl (fun _ _ _ _ _ => rfl) ?_
    first | refine tK (l := xk_197) rfl rfl (hIaldN hs rfl rfl (by omega)) ?_ | refine tK (l := xk_197) rfl rfl (hIald hs rfl (by omega) (by omega)) ?_
    rw [e55]
    refine tIc_ge (l := xk_197) (pc' := 75) rfl rfl rfl (fun hc => ?_) (fun hc => ?_)
    · refine tK (l := xk_197) rfl rfl (fun _ _ _ _ _ => rfl) ?_
      refine tK (l := xk_197) rfl rfl (hGetI hs rfl rfl rfl (by decide) (by decide)) ?_
      rw [e20]
      refine tIf_ne (l := xk_197) (pc' := 75) rfl rfl rfl (fun hc => ?_) (fun hc => ?_)
      · exact absurd (show (((pvF true 3 v s).2 : Nat) : Int) = 0 from hc) (by omega)
      · refine tRt (l := xk_197) rfl rfl (fun _ _ _ _ _ => rfl) ?_
        exact hQ phi hn hf e20 (fun q => absurd q hr) (fun _ => hx)
    · refine tRt (l := xk_197) rfl rfl (fun _ _ _ _ _ => rfl) ?_
      exact hQ phi hn hf e20 (fun q => absurd q hr) (fun _ => hx)
  have loop : ∀ (l : List Int) (i : Nat) (s2 : RS) (phi : xH) (o5 : Option xV), v.drop i = l → i + l.length = v.length → hMN zs phi s2 → pvF true 3 l s2 = (pvF true 3 v s) → hFM [19, 24, 25, 26] [153, 156, 157] ph phi → hRd phi 147 20 = 0 → xT (d + 2) 197 3 (xlo [some (.inr (.inl (some 147))), some (.inl (a : Int)), some (.inl 1), some (.inl (place : Int)), some (.inl (i : Int)), o5]) [] phi g Q := by
    intro l
    induction l with
    | nil =>
      intro i s2 phi o5 hdr hil hn hp hf h20
      have hs := hn.1
      have e55 : hRd phi 155 a = (v.length : Int) := by rw [hf.at (by decide)]; exact hv1
      simp only [List.length_nil] at hil
      refine tK (l := xk_197) rfl rfl (fun _ _ _ _ _ => rfl) ?_
      refine tK (l := xk_197) rfl rfl (fun _ _ _ _ _ => rfl) ?_
      refine tK (l := xk_197) rfl rfl (hGetR (o := some 155) hs rfl rfl rfl (by decide) (by decide) rfl) ?_
      refine tK (l := xk_197) rfl rfl (fun _ _ _ _ _ => rfl) ?_
      first | refine tK (l := xk_197) rfl rfl (hIaldN hs rfl rfl (by omega)) ?_ | refine tK (l := xk_197) rfl rfl (hIald hs rfl (by omega) (by omega)) ?_
      rw [e55]
      refine tIc_ge (l := xk_197) (pc' := 75) rfl rfl rfl (fun hc => ?_) (fun hc => ?_)
      · exfalso; omega
      · refine tRt (l := xk_197) rfl rfl (fun _ _ _ _ _ => rfl) ?_
        have hp1 : (pvF true 3 v s) = (s2, 0) := hp.symm
        rw [hp1] at hQ
        exact hQ phi hn (hf.mono (by decide) (by decide)) h20 (fun _ => hf.fl (by decide)) (fun q => absurd rfl q)
    | cons c l ih =>
      intro i s2 phi o5 hdr hil hn hp hf h20
      have hs := hn.1
      have e55 : hRd phi 155 a = (v.length : Int) := by rw [hf.at (by decide)]; exact hv1
      simp only [List.length_cons] at hil
      have hc9 : v[i]? = some c := by
        have := congrArg (fun l => l[0]?) hdr
        simpa using this
      have hdr2 : v.drop (i + 1) = l := by rw [← List.drop_drop, hdr]; rfl
      have e5c : hRd phi 155 (a + 1 + i) = c := by rw [hf.at (by decide)]; exact hv2 i c hc9
      have hi2 : hMi phi ip := hi.fr hf
      have one : ∀ (pha : xH) (s3 : RS), hMN zs pha s3 → hFM [19, 24, 25, 26] [153, 156, 157] ph pha → hRd pha 147 20 = 0 → (match prF c 3 s3 with
          | (s4, 0) => pvF true 3 l s4
          | q => q) = (pvF true 3 v s) → xT (d + 2) 197 61 (xlo [some (.inr (.inl (some 147))), some (.inl (a : Int)), some (.inl 1), some (.inl (place : Int)), some (.inl (i : Int)), some (.inl c)]) [] pha g Q := by
        intro pha s3 hn3 hf3 h203 hp3
        have hs := hn3.1
        have hi3 : hMi pha ip := hi.fr hf3
        obtain ⟨sc, stg, ou, st, pl, es, vl⟩ := s3
        refine tK (l := xk_197) rfl rfl (fun _ _ _ _ _ => rfl) ?_
        refine tK (l := xk_197) rfl rfl (fun _ _ _ _ _ => rfl) ?_
        refine tK (l := xk_197) rfl rfl (fun _ _ _ _ _ => rfl) ?_
        refine tK (l := xk_197) rfl rfl (fun _ _ _ _ _ => rfl) ?_
        refine tCa (l := xk_197) rfl rfl (hInvV (c := 10) hs rfl rfl rfl rfl rfl (Nat.le_of_ble_eq_true rfl) (Nat.le_of_ble_eq_true rfl)) ?_
        refine s198_2 (k := 3) (by decide) (by decide) hn3 hi3 (fun ph4 n4 z4 f4 => ?_) (fun ph4 n4 z4 f4 x4 => ?_)
        · refine tKn ?_
          refine tSt (l := xk_197) rfl rfl (hIinc rfl (Nat.le_of_ble_eq_true rfl) ⟨by omega, by omega⟩) (Nat.le_of_ble_eq_true rfl) ?_
          refine tK (l := xk_197) rfl rfl (fun _ _ _ _ _ => rfl) ?_
          refine ih (i + 1) _ ph4 _ hdr2 (by omega) n4 ?_ (hf3.trans f4) (by rw [f4.fl (by decide)]; exact h203)
          rw [← hp3]
          cases hq : prF c 3 (sc, stg, ou, st, pl, es, vl) with | mk s5 r5 => ?_
          rw [hq] at z4
          have z4 : r5 = 0 := z4
          subst z4
          rfl
        · refine tKn ?_
          refine tSt (l := xk_197) rfl rfl (hIinc rfl (Nat.le_of_ble_eq_true rfl) ⟨by omega, by omega⟩) (Nat.le_of_ble_eq_true rfl) ?_
          refine tK (l := xk_197) rfl rfl (fun _ _ _ _ _ => rfl) ?_
          have hp4 : prF c 3 (sc, stg, ou, st, pl, es, vl) = (pvF true 3 v s) := by
            rw [← hp3]
            cases hq : prF c 3 (sc, stg, ou, st, pl, es, vl) with | mk s5 r5 => ?_
            rw [hq] at z4
            cases r5 with
            | zero => exact absurd rfl z4
            | succ r5 => rfl
          rw [hp4] at n4 z4 x4
          exact stop (i + 1) _ ph4 _ (by omega) n4 ((hf3.mono (by decide) (by decide)).trans (f4.mono (by decide) (by decide))) z4 rfl x4
      cases hsp : spc c with
      | false =>
        rw [pvF_cons (show (true && spc c) = false by rw [hsp]; rfl)] at hp
        refine tK (l := xk_197) rfl rfl (fun _ _ _ _ _ => rfl) ?_
        refine tK (l := xk_197) rfl rfl (fun _ _ _ _ _ => rfl) ?_
        refine tK (l := xk_197) rfl rfl (hGetR (o := some 155) hs rfl rfl rfl (by decide) (by decide) rfl) ?_
        refine tK (l := xk_197) rfl rfl (fun _ _ _ _ _ => rfl) ?_
        first | refine tK (l := xk_197) rfl rfl (hIaldN hs rfl rfl (by omega)) ?_ | refine tK (l := xk_197) rfl rfl (hIald hs rfl (by omega) (by omega)) ?_
        rw [e55]
        refine tIc_ge (l := xk_197) (pc' := 75) rfl rfl rfl (fun hc => ?_) (fun hc => ?_)
        · refine tK (l := xk_197) rfl rfl (fun _ _ _ _ _ => rfl) ?_
          refine tK (l := xk_197) rfl rfl (hGetI hs rfl rfl rfl (by decide) (by decide)) ?_
          rw [h20]
          refine tIf_ne (l := xk_197) (pc' := 75) rfl rfl rfl (fun hc => ?_) (fun hc => ?_)
          · refine tK (l := xk_197) rfl rfl (fun _ _ _ _ _ => rfl) ?_
            refine tK (l := xk_197) rfl rfl (hGetR (o := some 155) hs rfl rfl rfl (by decide) (by decide) rfl) ?_
            refine tK (l := xk_197) rfl rfl (fun _ _ _ _ _ => rfl) ?_
            refine tK (l := xk_197) rfl rfl (fun _ _ _ _ _ => rfl) ?_
            refine tK (l := xk_197) rfl rfl (hAdd ⟨by omega, by omega⟩) ?_
            rw [show (a : Int) + 1 = ((a + 1 : Nat) : Int) by omega]
            refine tK (l := xk_197) rfl rfl (fun _ _ _ _ _ => rfl) ?_
            refine tK (l := xk_197) rfl rfl (hAdd ⟨by omega, by omega⟩) ?_
            rw [show ((a + 1 : Nat) : Int) + (i : Int) = ((a + 1 + i : Nat) : Int) by omega]
            first | refine tK (l := xk_197) rfl rfl (hIaldN hs rfl rfl (by omega)) ?_ | refine tK (l := xk_197) rfl rfl (hIald hs rfl (by omega) (by omega)) ?_
            rw [e5c]
            refine tSt (l := xk_197) rfl rfl (fun _ _ _ _ _ => rfl) (Nat.le_of_ble_eq_true rfl) ?_
            refine tK (l := xk_197) rfl rfl (fun _ _ _ _ _ => rfl) ?_
            refine tIf_eq (l := xk_197) (pc' := 54) rfl rfl rfl (fun hc => ?_) (fun hc => ?_)
            · exact absurd hc (by decide)
            · refine tK (l := xk_197) rfl rfl (fun _ _ _ _ _ => rfl) ?_
              refine tCa (l := xk_197) rfl rfl (hInvS rfl rfl rfl rfl (Nat.le_of_ble_eq_true rfl) (Nat.le_of_ble_eq_true rfl)) ?_
              refine s174 ?_
              refine tKv ?_
              rw [hsp]
              refine tIf_eq (l := xk_197) (pc' := 54) rfl rfl rfl (fun hc => ?_) (fun hc => ?_)
              · refine tK (l := xk_197) rfl rfl (fun _ _ _ _ _ => rfl) ?_
                refine tK (l := xk_197) rfl rfl (hGetI hs rfl rfl rfl (by decide) (by decide)) ?_
                rw [h20]
                refine tIf_ne (l := xk_197) (pc' := 69) rfl rfl rfl (fun hc => ?_) (fun hc => ?_)
                · exact one phi s2 hn hf h20 hp
                · exact absurd rfl hc
              · exact absurd rfl hc
          · exact absurd rfl hc
        · exfalso; omega
      | true =>
        rw [pvF_conE (show (true && spc c) = true by rw [hsp]; rfl)] at hp
        obtain ⟨sc, stg, ou, st, pl, es, vl⟩ := s2
        refine tK (l := xk_197) rfl rfl (fun _ _ _ _ _ => rfl) ?_
        refine tK (l := xk_197) rfl rfl (fun _ _ _ _ _ => rfl) ?_
        refine tK (l := xk_197) rfl rfl (hGetR (o := some 155) hs rfl rfl rfl (by decide) (by decide) rfl) ?_
        refine tK (l := xk_197) rfl rfl (fun _ _ _ _ _ => rfl) ?_
        first | refine tK (l := xk_197) rfl rfl (hIaldN hs rfl rfl (by omega)) ?_ | refine tK (l := xk_197) rfl rfl (hIald hs rfl (by omega) (by omega)) ?_
        rw [e55]
        refine tIc_ge (l := xk_197) (pc' := 75) rfl rfl rfl (fun hc => ?_) (fun hc => ?_)
        · refine tK (l := xk_197) rfl rfl (fun _ _ _ _ _ => rfl) ?_
          refine tK (l := xk_197) rfl rfl (hGetI hs rfl rfl rfl (by decide) (by decide)) ?_
          rw [h20]
          refine tIf_ne (l := xk_197) (pc' := 75) rfl rfl rfl (fun hc => ?_) (fun hc => ?_)
          · refine tK (l := xk_197) rfl rfl (fun _ _ _ _ _ => rfl) ?_
            refine tK (l := xk_197) rfl rfl (hGetR (o := some 155) hs rfl rfl rfl (by decide) (by decide) rfl) ?_
            refine tK (l := xk_197) rfl rfl (fun _ _ _ _ _ => rfl) ?_
            refine tK (l := xk_197) rfl rfl (fun _ _ _ _ _ => rfl) ?_
            refine tK (l := xk_197) rfl rfl (hAdd ⟨by omega, by omega⟩) ?_
            rw [show (a : Int) + 1 = ((a + 1 : Nat) : Int) by omega]
            refine tK (l := xk_197) rfl rfl (fun _ _ _ _ _ => rfl) ?_
            refine tK (l := xk_197) rfl rfl (hAdd ⟨by omega, by omega⟩) ?_
            rw [show ((a + 1 : Nat) : Int) + (i : Int) = ((a + 1 + i : Nat) : Int) by omega]
            first | refine tK (l := xk_197) rfl rfl (hIaldN hs rfl rfl (by omega)) ?_ | refine tK (l := xk_197) rfl rfl (hIald hs rfl (by omega) (by omega)) ?_
            rw [e5c]
            refine tSt (l := xk_197) rfl rfl (fun _ _ _ _ _ => rfl) (Nat.le_of_ble_eq_true rfl) ?_
            refine tK (l := xk_197) rfl rfl (fun _ _ _ _ _ => rfl) ?_
            refine tIf_eq (l := xk_197) (pc' := 54) rfl rfl rfl (fun hc => ?_) (fun hc => ?_)
            · exact absurd hc (by decide)
            · refine tK (l := xk_197) rfl rfl (fun _ _ _ _ _ => rfl) ?_
              refine tCa (l := xk_197) rfl rfl (hInvS rfl rfl rfl rfl (Nat.le_of_ble_eq_true rfl) (Nat.le_of_ble_eq_true rfl)) ?_
              refine s174 ?_
              refine tKv ?_
              rw [hsp]
              refine tIf_eq (l := xk_197) (pc' := 54) rfl rfl rfl (fun hc => ?_) (fun hc => ?_)
              · exact absurd hc (by decide)
              · refine tK (l := xk_197) rfl rfl (fun _ _ _ _ _ => rfl) ?_
                refine tK (l := xk_197) rfl rfl (fun _ _ _ _ _ => rfl) ?_
                refine tK (l := xk_197) rfl rfl (fun _ _ _ _ _ => rfl) ?_
                refine tK (l := xk_197) rfl rfl (fun _ _ _ _ _ => rfl) ?_
                refine tCa (l := xk_197) rfl rfl (hInvV (c := 10) hs rfl rfl rfl rfl rfl (Nat.le_of_ble_eq_true rfl) (Nat.le_of_ble_eq_true rfl)) ?_
                refine s198_2 (k := 3) (by decide) (by decide) hn hi2 (fun ph4 n4 z4 f4 => ?_) (fun ph4 n4 z4 f4 x4 => ?_)
                · refine tKn ?_
                  have z20 : hRd ph4 147 20 = 0 := by rw [f4.fl (by decide)]; exact h20
                  refine tK (l := xk_197) rfl rfl (fun _ _ _ _ _ => rfl) ?_
                  refine tK (l := xk_197) rfl rfl (hGetI n4.1 rfl rfl rfl (by decide) (by decide)) ?_
                  rw [z20]
                  refine tIf_ne (l := xk_197) (pc' := 69) rfl rfl rfl (fun hc => ?_) (fun hc => ?_)
                  · refine one ph4 _ n4 (hf.trans f4) z20 ?_
                    rw [← hp]
                    cases hq : prF 126 3 (sc, stg, ou, st, pl, es, vl) with | mk s5 r5 => ?_
                    rw [hq] at z4
                    have z4 : r5 = 0 := z4
                    subst z4
                    rfl
                  · exact absurd rfl hc
                · refine tKn ?_
                  have z20 : hRd ph4 147 20 = ((prF 126 3 (sc, stg, ou, st, pl, es, vl)).2 : Int) := x4.1
                  refine tK (l := xk_197) rfl rfl (fun _ _ _ _ _ => rfl) ?_
                  refine tK (l := xk_197) rfl rfl (hGetI n4.1 rfl rfl rfl (by decide) (by decide)) ?_
                  rw [z20]
                  refine tIf_ne (l := xk_197) (pc' := 69) rfl rfl rfl (fun hc => ?_) (fun hc => ?_)
                  · exact absurd (show (((prF 126 3 (sc, stg, ou, st, pl, es, vl)).2 : Nat) : Int) = 0 from hc) (by omega)
                  · refine tSt (l := xk_197) rfl rfl (hIinc rfl (Nat.le_of_ble_eq_true rfl) ⟨by omega, by omega⟩) (Nat.le_of_ble_eq_true rfl) ?_
                    refine tK (l := xk_197) rfl rfl (fun _ _ _ _ _ => rfl) ?_
                    have hp4 : prF 126 3 (sc, stg, ou, st, pl, es, vl) = (pvF true 3 v s) := by
                      rw [← hp]
                      cases hq : prF 126 3 (sc, stg, ou, st, pl, es, vl) with | mk s5 r5 => ?_
                      rw [hq] at z4
                      cases r5 with
                      | zero => exact absurd rfl z4
                      | succ r5 => rfl
                    rw [hp4] at n4 z4 x4
                    exact stop (i + 1) _ ph4 _ (by omega) n4 ((hf.mono (by decide) (by decide)).trans (f4.mono (by decide) (by decide))) z4 rfl x4
          · exact absurd rfl hc
        · exfalso; omega
  refine tEn (ls := [some (.inr (.inl (some 147))), some (.inl (a : Int)), some (.inl 1), some (.inl (place : Int)), none, none]) (fun k => by match k with | 0 => rfl | 1 => rfl | 2 => rfl | 3 => rfl | 4 => rfl | 5 => rfl | k + 6 => rfl) ?_
  have hs := h.1
  refine tK (l := xk_197) rfl rfl (fun _ _ _ _ _ => rfl) ?_
  refine tSt (l := xk_197) rfl rfl (fun _ _ _ _ _ => rfl) (Nat.le_of_ble_eq_true rfl) ?_
  exact loop v 0 s ph none rfl (by simp) h rfl hFM.refl h20
end MBH
