/-! ===== the model: what is open ===== -/
def frO (l : Nat) : Nat := if l = 0 then 0 else 36 + 24 * l
def sgM (k : Nat) : Int := if k = 0 then 0 else if k = 5 then 42 else if k = 6 then 63 else 61
def hMt (ph : xH) (l : Nat) (t : List Int) : Prop := (∀ (i : Nat) (c : Int), t[i]? = some c → hRd ph 152 (frO l + i) = c) ∧ (l = 0 → hRd ph 147 9 = (t.length : Int) ∧ t.length ≤ 60) ∧ (0 < l → hRd ph 159 (l - 1) = (t.length : Int) ∧ t.length ≤ 24)
def hMf (ph : xH) : List Fm → Prop
  | [] => True
  | f :: fs => hMf ph fs ∧ (f.1 = 0 ∨ fs ≠ []) ∧ (f.1 = 0 → hMt ph (cP (f :: fs)).length f.2.2.2.2.2) ∧ hRd ph 160 fs.length = sgM f.1 ∧ hRd ph 161 fs.length = (frO (cP (f :: fs)).length : Int) ∧ hRd ph 162 fs.length = (f.2.1 : Int) ∧ (f.1 = 7 → hRd ph 164 fs.length = (f.2.2.2.1 : Int)) ∧
      (f.1 = 5 → hRd ph 163 fs.length = (f.2.2.1 : Int) ∧ hRd ph 165 fs.length = (f.2.2.2.2.1 : Int) ∧ hRd ph 166 fs.length = (f.2.2.2.2.2.length : Int) ∧ f.2.2.2.2.2.length ≤ 24 ∧ f.2.2.2.2.1 ≤ 24 ∧ ∀ (i : Nat) (c : Int), f.2.2.2.2.2[i]? = some c → hRd ph 167 (24 * fs.length + i) = c)
theorem frO_le {a b : Nat} (h : a ≤ b) : frO a ≤ frO b := by
  unfold frO
  split <;> split <;> omega
theorem frO_s {a b : Nat} (h : a < b) : frO a + (if a = 0 then 60 else 24) ≤ frO b := by
  unfold frO
  split <;> split <;> omega
theorem frO_b {l : Nat} (h : l ≤ 4) : frO l ≤ 132 ∧ frO (l + 1) = 60 + 24 * l := by
  unfold frO
  refine ⟨by split <;> omega, by rw [if_neg (by omega)]; omega⟩
theorem hMt.eq {ph ph2 : xH} {l : Nat} {t : List Int} (h : hMt ph l t) (h1 : ∀ j, j < frO (l + 1) → hRd ph2 152 j = hRd ph 152 j) (h2 : hRd ph2 147 9 = hRd ph 147 9) (h3 : ∀ j, j < l → hRd ph2 159 j = hRd ph 159 j) : hMt ph2 l t := by
  obtain ⟨a1, a2, a3⟩ := h
  refine ⟨fun i c hi => ?_, fun hl => by rw [h2]; exact a2 hl, fun hl => by rw [h3 _ (by omega)]; exact a3 hl⟩
  have hil := (List.getElem?_eq_some_iff.mp hi).1
  have hs := frO_s (show l < l + 1 by omega)
  rw [h1 _ ?_]
  · exact a1 i c hi
  · by_cases e : l = 0
    · have := (a2 e).2; rw [if_pos e] at hs; omega
    · have := (a3 (by omega)).2; rw [if_neg e] at hs; omega
theorem hMf.eq {ph ph2 : xH} : ∀ {fs : List Fm}, hMf ph fs → (∀ a j, 160 ≤ a → a ≤ 166 → j < fs.length → hRd ph2 a j = hRd ph a j) → (∀ j, j < 24 * fs.length → hRd ph2 167 j = hRd ph 167 j) → (∀ j, j < frO ((cP fs).length + 1) → hRd ph2 152 j = hRd ph 152 j) → hRd ph2 147 9 = hRd ph 147 9 → (∀ j, j < (cP fs).length → hRd ph2 159 j = hRd ph 159 j) → hMf ph2 fs := by
  intro fs
  induction fs with
  | nil => intro _ _ _ _ _ _; trivial
  | cons f fs ih =>
    intro ⟨b1, b2, b3, b4, b5, b6, b7, b8⟩ h1 h2 h3 h4 h5
    simp only [List.length_cons] at h1 h2
    have hle : (cP fs).length ≤ (cP (f :: fs)).length := cP_le
    have hfr := frO_le (show (cP fs).length + 1 ≤ (cP (f :: fs)).length + 1 by omega)
    refine ⟨ih b1 (fun a j q1 q2 q3 => h1 a j q1 q2 (by omega)) (fun j hj => h2 j (by omega)) (fun j hj => h3 j (by omega)) h4 (fun j hj => h5 j (by omega)), b2, fun h => (b3 h).eq h3 h4 h5, by rw [h1 160 _ (by omega) (by omega) (by omega)]; exact b4, by rw [h1 161 _ (by omega) (by omega) (by omega)]; exact b5, by rw [h1 162 _ (by omega) (by omega) (by omega)]; exact b6, fun h => by rw [h1 164 _ (by omega) (by omega) (by omega)]; exact b7 h, fun h => ?_⟩
    obtain ⟨c1, c2, c3, c4, c5, c6⟩ := b8 h
    refine ⟨by rw [h1 163 _ (by omega) (by omega) (by omega)]; exact c1, by rw [h1 165 _ (by omega) (by omega) (by omega)]; exact c2, by rw [h1 166 _ (by omega) (by omega) (by omega)]; exact c3, c4, c5, fun i c hi => ?_⟩
    have := (List.getElem?_eq_some_iff.mp hi).1
    rw [h2 _ (by omega)]
    exact c6 i c hi
/-- the place of what is open last, written -/
theorem hMf.next {ph ph2 : xH} {f : Fm} {fs : List Fm} {x : Nat} (h : hMf ph (f :: fs)) (hw : ∀ b j, hRd ph2 b j = if b = 162 ∧ j = fs.length then (x : Int) else hRd ph b j) : hMf ph2 (fsN (f :: fs) x) := by
  obtain ⟨b1, b2, b3, b4, b5, b6, b7, b8⟩ := h
  have e : ∀ a j, a ≠ 162 → hRd ph2 a j = hRd ph a j := fun a j ha => by rw [hw, if_neg (fun q => ha q.1)]
  have e6 : ∀ j, j < fs.length → hRd ph2 162 j = hRd ph 162 j := fun j hj => by rw [hw, if_neg (by omega)]
  refine ⟨b1.eq (fun a j q1 q2 q3 => ?_) (fun j _ => e _ j (by decide)) (fun j _ => e _ j (by decide)) (e _ _ (by decide)) (fun j _ => e _ j (by decide)), b2, fun h => (b3 h).eq (fun j _ => e _ j (by decide)) (e _ _ (by decide)) (fun j _ => e _ j (by decide)), by rw [e _ _ (by decide)]; exact b4, by rw [e _ _ (by decide)]; exact b5, by rw [hw, if_pos ⟨rfl, rfl⟩], fun h => by rw [e _ _ (by decide)]; exact b7 h, fun h => ?_⟩
  · by_cases ea : a = 162
    · rw [ea]; exact e6 j q3
    · exact e a j ea
  · obtain ⟨c1, c2, c3, c4, c5, c6⟩ := b8 h
    exact ⟨by rw [e _ _ (by decide)]; exact c1, by rw [e _ _ (by decide)]; exact c2, by rw [e _ _ (by decide)]; exact c3, c4, c5, fun i c hi => by rw [e _ _ (by decide)]; exact c6 i c hi⟩
theorem hMf_cT {ph : xH} : ∀ {fs : List Fm}, fs ≠ [] → hMf ph fs → hMt ph (cP fs).length (cT fs) := by
  intro fs
  induction fs with
  | nil => intro h; exact absurd rfl h
  | cons f fs ih =>
    intro _ h9
    obtain ⟨b1, b2, b3, -⟩ := h9
    by_cases h : f.1 = 0
    · have e : cT (f :: fs) = f.2.2.2.2.2 := by simp only [cT]; rw [if_pos h]
      rw [e]
      exact b3 h
    · rw [cT_k h, cP_k h]
      exact ih (b2.resolve_left h) b1
def h20 (ph : xH) : Prop := hRd ph 147 20 = 0 ∧ hRd ph 147 22 = 0
theorem h20.fr {ph ph2 : xH} {F S : List Nat} (h : h20 ph) (hf : hFM F S ph ph2) (h1 : 20 ∉ F := by decide) (h2 : 22 ∉ F := by decide) : h20 ph2 := ⟨by rw [hf.fl h1]; exact h.1, by rw [hf.fl h2]; exact h.2⟩
def hMC (zs : List xV) (ph : xH) (fs : List Fm) (rs : RS) : Prop := hMN zs ph rs ∧ fs ≠ [] ∧ hMf ph fs ∧ hRd ph 147 43 = (fs.length : Int) ∧ fs.length ≤ 40 ∧ hMi ph (cP fs).reverse ∧ h20 ph ∧ rs.1.length = nsc fs
def TM (zs : List xV) (ph : xH) (d : Cf) : Prop := hMN zs ph d.2.1 ∧ (d.2.2.1 = 0 → hMC zs ph d.1 d.2.1) ∧ hRd ph 147 20 = (d.2.2.1 : Int) ∧ (d.2.2.1 ≠ 0 → hMx ph d.2.2.1 d.2.2.2)
def mF : List Nat := [10, 11, 12, 13, 14, 15, 16, 17, 19, 20, 22, 23, 24, 25, 26, 28, 31, 34, 43]
def mA : List Nat := [152, 153, 154, 155, 156, 157, 158, 159, 160, 161, 162, 163, 164, 165, 166, 167]
theorem TMr {zs : List xV} {ph : xH} {D : Cf} {fs2 : List Fm} {rs2 : RS} (h : hMC zs ph fs2 rs2) (e : D = RU fs2 rs2) : TM zs ph D := by
  subst e
  exact ⟨h.1, fun _ => h, h.2.2.2.2.2.2.1.1, fun q => absurd rfl q⟩
theorem TMf {zs : List xV} {ph : xH} {D : Cf} {rs2 : RS} {r : Nat} {pls : List Nat} (h : hMN zs ph rs2) (hx : hMx ph r pls) (e : D.2 = (rs2, r, pls)) (h0 : r ≠ 0) : TM zs ph D := by
  obtain ⟨x1, x2⟩ := D
  subst e
  exact ⟨h, fun q => absurd q h0, hx.1, fun _ => hx⟩
theorem hMC.fr {zs : List xV} {ph ph2 : xH} {fs : List Fm} {rs rs2 : RS} {F S : List Nat} (h : hMC zs ph fs rs) (hn : hMN zs ph2 rs2) (hl : rs2.1.length = rs.1.length) (hf : hFM F S ph ph2) (hF : ∀ k ∈ [9, 20, 22, 34, 43], k ∉ F := by decide) (hS : ∀ a ∈ [152, 158, 159, 160, 161, 162, 163, 164, 165, 166, 167], a ∉ 147 :: S := by decide) : hMC zs ph2 fs rs2 := by
  obtain ⟨a1, a2, a3, a4, a5, a6, a7, a8⟩ := h
  refine ⟨hn, a2, a3.eq (fun a j q1 q2 _ => hf.at (hS a (by simp only [List.mem_cons, List.not_mem_nil, or_false]; omega)) j) (fun j _ => hf.at (hS _ (by decide)) j) (fun j _ => hf.at (hS _ (by decide)) j) (hf.fl (hF _ (by decide))) (fun j _ => hf.at (hS _ (by decide)) j), by rw [hf.fl (hF _ (by decide))]; exact a4, a5, a6.fr hf (hF _ (by decide)) (hS _ (by decide)), a7.fr hf (hF _ (by decide)) (hF _ (by decide)), by rw [hl]; exact a8⟩
section MCL
variable {d : Nat} {ph : xH} {zs : List xV} {g : Nat} {Q : xR → Prop} {f gq : Fm} {gs fs : List Fm} {sc : List xSc} {r2 : List (List Int) × List Int × Nat × Nat × Nat × Nat} {rs : RS}
theorem frO_z {l : Nat} : (frO l : Int) = 0 ↔ l = 0 := by
  unfold frO
  split <;> omega
theorem s190_z (h : hMC zs ph (f :: gs) rs) (h0 : f.1 = 0) (hQ : Q (.inl (some (.inl (if f.2.1 = f.2.2.2.2.2.length then 1 else 0))), ph, g)) : xTC d 190 [.inr (.inl (some 147))] ph g Q := by
  obtain ⟨a1, a2, a3, a4, a5, a6, a7, a8⟩ := id h
  have hs := a1.1
  obtain ⟨z1, z2, z3, z4, z5, z6, z7, z8⟩ := hSzM
  obtain ⟨y1, y2, y3, y4, y5, y6, y7, y8, y9⟩ := hSzO
  simp only [List.length_cons] at a4 a5
  obtain ⟨b1, b2, b3, b4, b5, b6, b7, b8⟩ := id a3
  have ek : hRd ph 147 43 - 1 = (gs.length : Int) := by rw [a4]; push_cast; omega
  have hL := a6.2.1
  rw [List.length_reverse] at hL
  have e34 : hRd ph 147 34 = ((cP (f :: gs)).length : Int) := by rw [a6.1, List.length_reverse]
  have hsg : sgM f.1 = 0 := by rw [h0]; rfl
  rw [hsg] at b4
  have hmt := b3 h0
  refine tEn (ls := [some (.inr (.inl (some 147))), none, none]) (fun k => by match k with | 0 => rfl | 1 => rfl | 2 => rfl | k + 3 => rfl) ?_
  by_cases hl0 : (cP (f :: gs)).length = 0
  · have e9 : hRd ph 147 9 = (f.2.2.2.2.2.length : Int) := (hmt.2.1 hl0).1
    refine tK (l := xk_190) rfl rfl (fun _ _ _ _ _ => rfl) ?_
    refine tK (l := xk_190) rfl rfl (hGetI hs rfl rfl rfl (by decide) (by decide)) ?_
    refine tK (l := xk_190) rfl rfl (fun _ _ _ _ _ => rfl) ?_
    refine tK (l := xk_190) rfl rfl (hSub ⟨by omega, by omega⟩) ?_
    rw [ek]
    refine tSt (l := xk_190) rfl rfl (fun _ _ _ _ _ => rfl) (Nat.le_of_ble_eq_true rfl) ?_
    refine tK (l := xk_190) rfl rfl (fun _ _ _ _ _ => rfl) ?_
    refine tK (l := xk_190) rfl rfl (hGetR (o := some 161) hs rfl rfl rfl (by decide) (by decide) rfl) ?_
    refine tK (l := xk_190) rfl rfl (fun _ _ _ _ _ => rfl) ?_
    first | refine tK (l := xk_190) rfl rfl (hIaldN hs rfl rfl (by omega)) ?_ | refine tK (l := xk_190) rfl rfl (hIald hs rfl (by omega) (by omega)) ?_
    rw [b5]
    refine tIf_ne (l := xk_190) (pc' := 23) rfl rfl rfl (fun hc => ?_) (fun hc => ?_)
    · refine tK (l := xk_190) rfl rfl (fun _ _ _ _ _ => rfl) ?_
      refine tK (l := xk_190) rfl rfl (hGetI hs rfl rfl rfl (by decide) (by decide)) ?_
      rw [e9]
      refine tK (l := xk_190) rfl rfl (fun _ _ _ _ _ => rfl) ?_
      refine tSt (l := xk_190) rfl rfl (fun _ _ _ _ _ => rfl) (Nat.le_of_ble_eq_true rfl) ?_
      refine tK (l := xk_190) rfl rfl (fun _ _ _ _ _ => rfl) ?_
      refine tK (l := xk_190) rfl rfl (hGetR (o := some 160) hs rfl rfl rfl (by decide) (by decide) rfl) ?_
      refine tK (l := xk_190) rfl rfl (fun _ _ _ _ _ => rfl) ?_
      first | refine tK (l := xk_190) rfl rfl (hIaldN hs rfl rfl (by omega)) ?_ | refine tK (l := xk_190) rfl rfl (hIald hs rfl (by omega) (by omega)) ?_
      rw [b4]
      refine tIf_ne (l := xk_190) (pc' := 73) rfl rfl rfl (fun hc => ?_) (fun hc => ?_)
      · refine tK (l := xk_190) rfl rfl (fun _ _ _ _ _ => rfl) ?_
        refine tK (l := xk_190) rfl rfl (hGetR (o := some 162) hs rfl rfl rfl (by decide) (by decide) rfl) ?_
        refine tK (l := xk_190) rfl rfl (fun _ _ _ _ _ => rfl) ?_
        first | refine tK (l := xk_190) rfl rfl (hIaldN hs rfl rfl (by omega)) ?_ | refine tK (l := xk_190) rfl rfl (hIald hs rfl (by omega) (by omega)) ?_
        rw [b6]
        refine tK (l := xk_190) rfl rfl (fun _ _ _ _ _ => rfl) ?_
        refine tIc_ne (l := xk_190) (pc' := 69) rfl rfl rfl (fun hc => ?_) (fun hc => ?_)
        · refine tK (l := xk_190) rfl rfl (fun _ _ _ _ _ => rfl) ?_
          refine tK (l := xk_190) rfl rfl (fun _ _ _ _ _ => rfl) ?_
          refine tRt (l := xk_190) rfl rfl (fun _ _ _ _ _ => rfl) ?_
          first | (rw [if_pos (by omega)] at hQ; exact hQ) | (rw [if_neg (by omega)] at hQ; exact hQ)
        · refine tK (l := xk_190) rfl rfl (fun _ _ _ _ _ => rfl) ?_
          refine tK (l := xk_190) rfl rfl (fun _ _ _ _ _ => rfl) ?_
          refine tRt (l := xk_190) rfl rfl (fun _ _ _ _ _ => rfl) ?_
          first | (rw [if_pos (by omega)] at hQ; exact hQ) | (rw [if_neg (by omega)] at hQ; exact hQ)
      · exact absurd rfl hc
    · exact absurd (frO_z.mpr hl0) hc
  · obtain ⟨L, hLs⟩ : ∃ L, (cP (f :: gs)).length = L + 1 := ⟨(cP (f :: gs)).length - 1, by omega⟩
    have eL : (((cP (f :: gs)).length : Nat) : Int) - 1 = (L : Int) := by omega
    have e9 : hRd ph 159 L = (f.2.2.2.2.2.length : Int) := by have := (hmt.2.2 (by omega)).1; rw [hLs] at this; exact this
    refine tK (l := xk_190) rfl rfl (fun _ _ _ _ _ => rfl) ?_
    refine tK (l := xk_190) rfl rfl (hGetI hs rfl rfl rfl (by decide) (by decide)) ?_
    refine tK (l := xk_190) rfl rfl (fun _ _ _ _ _ => rfl) ?_
    refine tK (l := xk_190) rfl rfl (hSub ⟨by omega, by omega⟩) ?_
    rw [ek]
    refine tSt (l := xk_190) rfl rfl (fun _ _ _ _ _ => rfl) (Nat.le_of_ble_eq_true rfl) ?_
    refine tK (l := xk_190) rfl rfl (fun _ _ _ _ _ => rfl) ?_
    refine tK (l := xk_190) rfl rfl (hGetR (o := some 161) hs rfl rfl rfl (by decide) (by decide) rfl) ?_
    refine tK (l := xk_190) rfl rfl (fun _ _ _ _ _ => rfl) ?_
    first | refine tK (l := xk_190) rfl rfl (hIaldN hs rfl rfl (by omega)) ?_ | refine tK (l := xk_190) rfl rfl (hIald hs rfl (by omega) (by omega)) ?_
    rw [b5]
    refine tIf_ne (l := xk_190) (pc' := 23) rfl rfl rfl (fun hc => ?_) (fun hc => ?_)
    · exact absurd (frO_z.mp hc) hl0
    · refine tK (l := xk_190) rfl rfl (fun _ _ _ _ _ => rfl) ?_
      refine tK (l := xk_190) rfl rfl (hGetI hs rfl rfl rfl (by decide) (by decide)) ?_
      rw [e34]
      refine tIf_le (l := xk_190) (pc' := 44) rfl rfl rfl (fun hc => ?_) (fun hc => ?_)
      · refine tK (l := xk_190) rfl rfl (fun _ _ _ _ _ => rfl) ?_
        refine tK (l := xk_190) rfl rfl (hGetR (o := some 159) hs rfl rfl rfl (by decide) (by decide) rfl) ?_
        refine tK (l := xk_190) rfl rfl (fun _ _ _ _ _ => rfl) ?_
        refine tK (l := xk_190) rfl rfl (hGetI hs rfl rfl rfl (by decide) (by decide)) ?_
        rw [e34]
        refine tK (l := xk_190) rfl rfl (fun _ _ _ _ _ => rfl) ?_
        refine tK (l := xk_190) rfl rfl (hSub ⟨by omega, by omega⟩) ?_
        rw [eL]
        first | refine tK (l := xk_190) rfl rfl (hIaldN hs rfl rfl (by omega)) ?_ | refine tK (l := xk_190) rfl rfl (hIald hs rfl (by omega) (by omega)) ?_
        rw [e9]
        refine tK (l := xk_190) rfl rfl (fun _ _ _ _ _ => rfl) ?_
        refine tSt (l := xk_190) rfl rfl (fun _ _ _ _ _ => rfl) (Nat.le_of_ble_eq_true rfl) ?_
        refine tK (l := xk_190) rfl rfl (fun _ _ _ _ _ => rfl) ?_
        refine tK (l := xk_190) rfl rfl (hGetR (o := some 160) hs rfl rfl rfl (by decide) (by decide) rfl) ?_
        refine tK (l := xk_190) rfl rfl (fun _ _ _ _ _ => rfl) ?_
        first | refine tK (l := xk_190) rfl rfl (hIaldN hs rfl rfl (by omega)) ?_ | refine tK (l := xk_190) rfl rfl (hIald hs rfl (by omega) (by omega)) ?_
        rw [b4]
        refine tIf_ne (l := xk_190) (pc' := 73) rfl rfl rfl (fun hc => ?_) (fun hc => ?_)
        · refine tK (l := xk_190) rfl rfl (fun _ _ _ _ _ => rfl) ?_
          refine tK (l := xk_190) rfl rfl (hGetR (o := some 162) hs rfl rfl rfl (by decide) (by decide) rfl) ?_
          refine tK (l := xk_190) rfl rfl (fun _ _ _ _ _ => rfl) ?_
          first | refine tK (l := xk_190) rfl rfl (hIaldN hs rfl rfl (by omega)) ?_ | refine tK (l := xk_190) rfl rfl (hIald hs rfl (by omega) (by omega)) ?_
          rw [b6]
          refine tK (l := xk_190) rfl rfl (fun _ _ _ _ _ => rfl) ?_
          refine tIc_ne (l := xk_190) (pc' := 69) rfl rfl rfl (fun hc => ?_) (fun hc => ?_)
          · refine tK (l := xk_190) rfl rfl (fun _ _ _ _ _ => rfl) ?_
            refine tK (l := xk_190) rfl rfl (fun _ _ _ _ _ => rfl) ?_
            refine tRt (l := xk_190) rfl rfl (fun _ _ _ _ _ => rfl) ?_
            first | (rw [if_pos (by omega)] at hQ; exact hQ) | (rw [if_neg (by omega)] at hQ; exact hQ)
          · refine tK (l := xk_190) rfl rfl (fun _ _ _ _ _ => rfl) ?_
            refine tK (l := xk_190) rfl rfl (fun _ _ _ _ _ => rfl) ?_
            refine tRt (l := xk_190) rfl rfl (fun _ _ _ _ _ => rfl) ?_
            first | (rw [if_pos (by omega)] at hQ; exact hQ) | (rw [if_neg (by omega)] at hQ; exact hQ)
        · exact absurd rfl hc
      · exfalso; omega
theorem s190_n (h : hMC zs ph (f :: gs) rs) {c : Int} (h0 : f.1 ≠ 0) (hc9 : (cT (f :: gs))[f.2.1]? = some c) (hQ : Q (.inl (some (.inl (if c = 125 then 1 else 0))), ph, g)) : xTC d 190 [.inr (.inl (some 147))] ph g Q := by
  obtain ⟨a1, a2, a3, a4, a5, a6, a7, a8⟩ := id h
  have hs := a1.1
  obtain ⟨z1, z2, z3, z4, z5, z6, z7, z8⟩ := hSzM
  obtain ⟨y1, y2, y3, y4, y5, y6, y7, y8, y9⟩ := hSzO
  simp only [List.length_cons] at a4 a5
  obtain ⟨b1, b2, b3, b4, b5, b6, b7, b8⟩ := id a3
  have ek : hRd ph 147 43 - 1 = (gs.length : Int) := by rw [a4]; push_cast; omega
  have hL := a6.2.1
  rw [List.length_reverse] at hL
  have e34 : hRd ph 147 34 = ((cP (f :: gs)).length : Int) := by rw [a6.1, List.length_reverse]
  have hsg : sgM f.1 ≠ 0 := by unfold sgM; rw [if_neg h0]; (repeat' split) <;> decide
  have hmt := hMf_cT a2 a3
  have e52 : hRd ph 152 (frO (cP (f :: gs)).length + f.2.1) = c := hmt.1 _ c hc9
  have hxl := (List.getElem?_eq_some_iff.mp hc9).1
  have hx60 : f.2.1 ≤ 60 := by
    by_cases e : (cP (f :: gs)).length = 0
    · have := (hmt.2.1 e).2; omega
    · have := (hmt.2.2 (by omega)).2; omega
  have hfb := (frO_b hL).1
  have hx24 : frO (cP (f :: gs)).length + f.2.1 < 160 := by
    by_cases e : (cP (f :: gs)).length = 0
    · rw [e]; unfold frO; rw [if_pos rfl]; omega
    · have := (hmt.2.2 (by omega)).2; omega
  refine tEn (ls := [some (.inr (.inl (some 147))), none, none]) (fun k => by match k with | 0 => rfl | 1 => rfl | 2 => rfl | k + 3 => rfl) ?_
  by_cases hl0 : (cP (f :: gs)).length = 0
  · have e9 : hRd ph 147 9 = ((cT (f :: gs)).length : Int) := (hmt.2.1 hl0).1
    refine tK (l := xk_190) rfl rfl (fun _ _ _ _ _ => rfl) ?_
    refine tK (l := xk_190) rfl rfl (hGetI hs rfl rfl rfl (by decide) (by decide)) ?_
    refine tK (l := xk_190) rfl rfl (fun _ _ _ _ _ => rfl) ?_
    refine tK (l := xk_190) rfl rfl (hSub ⟨by omega, by omega⟩) ?_
    rw [ek]
    refine tSt (l := xk_190) rfl rfl (fun _ _ _ _ _ => rfl) (Nat.le_of_ble_eq_true rfl) ?_
    refine tK (l := xk_190) rfl rfl (fun _ _ _ _ _ => rfl) ?_
    refine tK (l := xk_190) rfl rfl (hGetR (o := some 161) hs rfl rfl rfl (by decide) (by decide) rfl) ?_
    refine tK (l := xk_190) rfl rfl (fun _ _ _ _ _ => rfl) ?_
    first | refine tK (l := xk_190) rfl rfl (hIaldN hs rfl rfl (by omega)) ?_ | refine tK (l := xk_190) rfl rfl (hIald hs rfl (by omega) (by omega)) ?_
    rw [b5]
    refine tIf_ne (l := xk_190) (pc' := 23) rfl rfl rfl (fun hc => ?_) (fun hc => ?_)
    · refine tK (l := xk_190) rfl rfl (fun _ _ _ _ _ => rfl) ?_
      refine tK (l := xk_190) rfl rfl (hGetI hs rfl rfl rfl (by decide) (by decide)) ?_
      rw [e9]
      refine tK (l := xk_190) rfl rfl (fun _ _ _ _ _ => rfl) ?_
      refine tSt (l := xk_190) rfl rfl (fun _ _ _ _ _ => rfl) (Nat.le_of_ble_eq_true rfl) ?_
      refine tK (l := xk_190) rfl rfl (fun _ _ _ _ _ => rfl) ?_
      refine tK (l := xk_190) rfl rfl (hGetR (o := some 160) hs rfl rfl rfl (by decide) (by decide) rfl) ?_
      refine tK (l := xk_190) rfl rfl (fun _ _ _ _ _ => rfl) ?_
      first | refine tK (l := xk_190) rfl rfl (hIaldN hs rfl rfl (by omega)) ?_ | refine tK (l := xk_190) rfl rfl (hIald hs rfl (by omega) (by omega)) ?_
      rw [b4]
      refine tIf_ne (l := xk_190) (pc' := 73) rfl rfl rfl (fun hc => ?_) (fun hc => ?_)
      · exact absurd hc hsg
      · refine tK (l := xk_190) rfl rfl (fun _ _ _ _ _ => rfl) ?_
        refine tK (l := xk_190) rfl rfl (hGetR (o := some 152) hs rfl rfl rfl (by decide) (by decide) rfl) ?_
        refine tK (l := xk_190) rfl rfl (fun _ _ _ _ _ => rfl) ?_
        refine tK (l := xk_190) rfl rfl (hGetR (o := some 161) hs rfl rfl rfl (by decide) (by decide) rfl) ?_
        refine tK (l := xk_190) rfl rfl (fun _ _ _ _ _ => rfl) ?_
        first | refine tK (l := xk_190) rfl rfl (hIaldN hs rfl rfl (by omega)) ?_ | refine tK (l := xk_190) rfl rfl (hIald hs rfl (by omega) (by omega)) ?_
        rw [b5]
        refine tK (l := xk_190) rfl rfl (fun _ _ _ _ _ => rfl) ?_
        refine tK (l := xk_190) rfl rfl (hGetR (o := some 162) hs rfl rfl rfl (by decide) (by decide) rfl) ?_
        refine tK (l := xk_190) rfl rfl (fun _ _ _ _ _ => rfl) ?_
        first | refine tK (l := xk_190) rfl rfl (hIaldN hs rfl rfl (by omega)) ?_ | refine tK (l := xk_190) rfl rfl (hIald hs rfl (by omega) (by omega)) ?_
        rw [b6]
        refine tK (l := xk_190) rfl rfl (hAdd ⟨by omega, by omega⟩) ?_
        rw [show (frO (cP (f :: gs)).length : Int) + (f.2.1 : Int) = ((frO (cP (f :: gs)).length + f.2.1 : Nat) : Int) by omega]
        first | refine tK (l := xk_190) rfl rfl (hIaldN hs rfl rfl (by omega)) ?_ | refine tK (l := xk_190) rfl rfl (hIald hs rfl (by omega) (by omega)) ?_
        rw [e52]
        refine tK (l := xk_190) rfl rfl (fun _ _ _ _ _ => rfl) ?_
        refine tIc_ne (l := xk_190) (pc' := 100) rfl rfl rfl (fun hc => ?_) (fun hc => ?_)
        · refine tK (l := xk_190) rfl rfl (fun _ _ _ _ _ => rfl) ?_
          refine tK (l := xk_190) rfl rfl (fun _ _ _ _ _ => rfl) ?_
          refine tRt (l := xk_190) rfl rfl (fun _ _ _ _ _ => rfl) ?_
          first | (rw [if_pos (by assumption)] at hQ; exact hQ) | (rw [if_neg (by assumption)] at hQ; exact hQ)
        · refine tK (l := xk_190) rfl rfl (fun _ _ _ _ _ => rfl) ?_
          refine tRt (l := xk_190) rfl rfl (fun _ _ _ _ _ => rfl) ?_
          first | (rw [if_pos (by assumption)] at hQ; exact hQ) | (rw [if_neg (by assumption)] at hQ; exact hQ)
    · exact absurd (frO_z.mpr hl0) hc
  · obtain ⟨L, hLs⟩ : ∃ L, (cP (f :: gs)).length = L + 1 := ⟨(cP (f :: gs)).length - 1, by omega⟩
    have eL : (((cP (f :: gs)).length : Nat) : Int) - 1 = (L : Int) := by omega
    have e9 : hRd ph 159 L = ((cT (f :: gs)).length : Int) := by have := (hmt.2.2 (by omega)).1; rw [hLs] at this; exact this
    refine tK (l := xk_190) rfl rfl (fun _ _ _ _ _ => rfl) ?_
    refine tK (l := xk_190) rfl rfl (hGetI hs rfl rfl rfl (by decide) (by decide)) ?_
    refine tK (l := xk_190) rfl rfl (fun _ _ _ _ _ => rfl) ?_
    refine tK (l := xk_190) rfl rfl (hSub ⟨by omega, by omega⟩) ?_
    rw [ek]
    refine tSt (l := xk_190) rfl rfl (fun _ _ _ _ _ => rfl) (Nat.le_of_ble_eq_true rfl) ?_
    refine tK (l := xk_190) rfl rfl (fun _ _ _ _ _ => rfl) ?_
    refine tK (l := xk_190) rfl rfl (hGetR (o := some 161) hs rfl rfl rfl (by decide) (by decide) rfl) ?_
    refine tK (l := xk_190) rfl rfl (fun _ _ _ _ _ => rfl) ?_
    first | refine tK (l := xk_190) rfl rfl (hIaldN hs rfl rfl (by omega)) ?_ | refine tK (l := xk_190) rfl rfl (hIald hs rfl (by omega) (by omega)) ?_
    rw [b5]
    refine tIf_ne (l := xk_190) (pc' := 23) rfl rfl rfl (fun hc => ?_) (fun hc => ?_)
    · exact absurd (frO_z.mp hc) hl0
    · refine tK (l := xk_190) rfl rfl (fun _ _ _ _ _ => rfl) ?_
      refine tK (l := xk_190) rfl rfl (hGetI hs rfl rfl rfl (by decide) (by decide)) ?_
      rw [e34]
      refine tIf_le (l := xk_190) (pc' := 44) rfl rfl rfl (fun hc => ?_) (fun hc => ?_)
      · refine tK (l := xk_190) rfl rfl (fun _ _ _ _ _ => rfl) ?_
        refine tK (l := xk_190) rfl rfl (hGetR (o := some 159) hs rfl rfl rfl (by decide) (by decide) rfl) ?_
        refine tK (l := xk_190) rfl rfl (fun _ _ _ _ _ => rfl) ?_
        refine tK (l := xk_190) rfl rfl (hGetI hs rfl rfl rfl (by decide) (by decide)) ?_
        rw [e34]
        refine tK (l := xk_190) rfl rfl (fun _ _ _ _ _ => rfl) ?_
        refine tK (l := xk_190) rfl rfl (hSub ⟨by omega, by omega⟩) ?_
        rw [eL]
        first | refine tK (l := xk_190) rfl rfl (hIaldN hs rfl rfl (by omega)) ?_ | refine tK (l := xk_190) rfl rfl (hIald hs rfl (by omega) (by omega)) ?_
        rw [e9]
        refine tK (l := xk_190) rfl rfl (fun _ _ _ _ _ => rfl) ?_
        refine tSt (l := xk_190) rfl rfl (fun _ _ _ _ _ => rfl) (Nat.le_of_ble_eq_true rfl) ?_
        refine tK (l := xk_190) rfl rfl (fun _ _ _ _ _ => rfl) ?_
        refine tK (l := xk_190) rfl rfl (hGetR (o := some 160) hs rfl rfl rfl (by decide) (by decide) rfl) ?_
        refine tK (l := xk_190) rfl rfl (fun _ _ _ _ _ => rfl) ?_
        first | refine tK (l := xk_190) rfl rfl (hIaldN hs rfl rfl (by omega)) ?_ | refine tK (l := xk_190) rfl rfl (hIald hs rfl (by omega) (by omega)) ?_
        rw [b4]
        refine tIf_ne (l := xk_190) (pc' := 73) rfl rfl rfl (fun hc => ?_) (fun hc => ?_)
        · exact absurd hc hsg
        · refine tK (l := xk_190) rfl rfl (fun _ _ _ _ _ => rfl) ?_
          refine tK (l := xk_190) rfl rfl (hGetR (o := some 152) hs rfl rfl rfl (by decide) (by decide) rfl) ?_
          refine tK (l := xk_190) rfl rfl (fun _ _ _ _ _ => rfl) ?_
          refine tK (l := xk_190) rfl rfl (hGetR (o := some 161) hs rfl rfl rfl (by decide) (by decide) rfl) ?_
          refine tK (l := xk_190) rfl rfl (fun _ _ _ _ _ => rfl) ?_
          first | refine tK (l := xk_190) rfl rfl (hIaldN hs rfl rfl (by omega)) ?_ | refine tK (l := xk_190) rfl rfl (hIald hs rfl (by omega) (by omega)) ?_
          rw [b5]
          refine tK (l := xk_190) rfl rfl (fun _ _ _ _ _ => rfl) ?_
          refine tK (l := xk_190) rfl rfl (hGetR (o := some 162) hs rfl rfl rfl (by decide) (by decide) rfl) ?_
          refine tK (l := xk_190) rfl rfl (fun _ _ _ _ _ => rfl) ?_
          first | refine tK (l := xk_190) rfl rfl (hIaldN hs rfl rfl (by omega)) ?_ | refine tK (l := xk_190) rfl rfl (hIald hs rfl (by omega) (by omega)) ?_
          rw [b6]
          refine tK (l := xk_190) rfl rfl (hAdd ⟨by omega, by omega⟩) ?_
          rw [show (frO (cP (f :: gs)).length : Int) + (f.2.1 : Int) = ((frO (cP (f :: gs)).length + f.2.1 : Nat) : Int) by omega]
          first | refine tK (l := xk_190) rfl rfl (hIaldN hs rfl rfl (by omega)) ?_ | refine tK (l := xk_190) rfl rfl (hIald hs rfl (by omega) (by omega)) ?_
          rw [e52]
          refine tK (l := xk_190) rfl rfl (fun _ _ _ _ _ => rfl) ?_
          refine tIc_ne (l := xk_190) (pc' := 100) rfl rfl rfl (fun hc => ?_) (fun hc => ?_)
          · refine tK (l := xk_190) rfl rfl (fun _ _ _ _ _ => rfl) ?_
            refine tK (l := xk_190) rfl rfl (fun _ _ _ _ _ => rfl) ?_
            refine tRt (l := xk_190) rfl rfl (fun _ _ _ _ _ => rfl) ?_
            first | (rw [if_pos (by assumption)] at hQ; exact hQ) | (rw [if_neg (by assumption)] at hQ; exact hQ)
          · refine tK (l := xk_190) rfl rfl (fun _ _ _ _ _ => rfl) ?_
            refine tRt (l := xk_190) rfl rfl (fun _ _ _ _ _ => rfl) ?_
            first | (rw [if_pos (by assumption)] at hQ; exact hQ) | (rw [if_neg (by assumption)] at hQ; exact hQ)
      · exfalso; omega
end MCL
