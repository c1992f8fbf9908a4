/-! ===== the model: a pass begins; ends ===== -/
section MPS
variable {d : Nat} {ph : xH} {zs : List xV} {g : Nat} {Q : xR → Prop} {f gq : Fm} {gs fs : List Fm} {f0 : xSc} {sc : List xSc} {r2 : List (List Int) × List Int × Nat × Nat × Nat × Nat} {rs : RS}
theorem hMN.scs {F S : List Nat} {ph2 : xH} {sc2 : List xSc} (h : hMN zs ph (sc, r2)) (hs : hSh zs ph2) (hf : hFM F S ph ph2) (h28 : hRd ph2 147 28 = (sc2.length : Int)) (hl : sc2.length ≤ 41) (hm : hMl ph2 sc2) (hF : ∀ k ∈ [19, 23, 24, 25, 26, 31], k ∉ F := by decide) (hS : ∀ a ∈ [153, 156, 157], a ∉ 147 :: S := by decide) : hMN zs ph2 (sc2, r2) := by
  obtain ⟨-, -, ⟨h4, h5, h6⟩, ⟨h7, h8, h9⟩, h10, h11, h12, h13, h14, h15⟩ := h
  exact ⟨hs, ⟨h28, hl, hm⟩, ⟨by rw [hf.fl (hF _ (by decide))]; exact h4, h5, h6.eq (fun j _ => hf.at (hS _ (by decide)) j) (fun j _ => hf.at (hS _ (by decide)) j)⟩, ⟨by rw [hf.fl (hF _ (by decide))]; exact h7, h8, fun i c hi => by rw [hf.at (hS _ (by decide))]; exact h9 i c hi⟩, by rw [hf.fl (hF _ (by decide))]; exact h10, h11, by rw [hf.fl (hF _ (by decide))]; exact h12, by rw [hf.fl (hF _ (by decide))]; exact h13, by rw [hf.fl (hF _ (by decide))]; exact h14, h15⟩
theorem hMN.pop (h : hMN zs ph (f0 :: sc, r2)) : hMN zs (hUp ph 147 28 (sc.length : Int)) (sc, r2) ∧ hFM [28] [] ph (hUp ph 147 28 (sc.length : Int)) := by
  have hs := h.1
  have f1 : hFM [28] [] ph (hUp ph 147 28 (sc.length : Int)) := hFM_f hs rfl (by decide) (by decide)
  have h2 := h.2.1.2.1
  simp only [List.length_cons] at h2
  exact ⟨h.scs (hShI1 _ hs rfl rfl) f1 (by rw [hRd_up hs rfl (by decide), if_pos ⟨rfl, rfl⟩]) (by omega) (h.2.1.2.2.2.eq (fun j _ => f1.at (by decide) j)), f1⟩
theorem s192_1 {m p b : Nat} {c : Int} (hbig : 9 < p) (h : hMN zs ph (sc, r2)) (hl : sc.length ≤ 40) (hm : m < 64) (h65 : hRd ph 165 m = (p : Int)) (hp : p ≤ 23) (h67 : hRd ph 167 (24 * m + p) = c) (h63 : hRd ph 163 m = (b : Int)) (hQ : ∀ ph2, hMN zs ph2 (psc p c :: sc, r2) → hFM [28] [155, 162] ph ph2 → (∀ j, j ≠ m → hRd ph2 162 j = hRd ph 162 j) → hRd ph2 162 m = (b : Int) → Q (.inl none, ph2, g)) : xTC (d + 2) 192 [.inr (.inl (some 147)), .inl (m : Int)] ph g Q := by
  obtain ⟨z1, z2, z3, z4, z5, z6, z7, z8⟩ := hSzM
  obtain ⟨y1, y2, y3, y4, y5, y6, y7, y8, y9⟩ := hSzO
  have hs := h.1
  refine tEn (ls := [some (.inr (.inl (some 147))), some (.inl (m : Int)), none, none]) (fun k => by match k with | 0 => rfl | 1 => rfl | 2 => rfl | 3 => rfl | k + 4 => rfl) ?_
  refine tK (l := xk_192) rfl rfl (fun _ _ _ _ _ => rfl) ?_
  refine tCa (l := xk_192) rfl rfl (hInvV (c := 10) hs rfl rfl rfl rfl rfl (Nat.le_of_ble_eq_true rfl) (Nat.le_of_ble_eq_true rfl)) ?_
  refine s187 h hl (fun ph1 r1 f1 l1 => ?_)
  refine tKn ?_
  have hs1 := r1.1
  have e28 : hRd ph1 147 28 = (sc.length : Int) + 1 := by have := r1.2.1.1; simp only [List.length_cons] at this; push_cast at this; exact this
  have e28b : (sc.length : Int) + 1 - 1 = (sc.length : Int) := by omega
  have e65 : hRd ph1 165 m = (p : Int) := by rw [f1.at (by decide)]; exact h65
  have u1 : hSh zs (hUp ph1 155 (250 * sc.length + 25 * 8) 2) := hShI1 _ hs1 rfl rfl
  have u2 : hSh zs (hUp (hUp ph1 155 (250 * sc.length + 25 * 8) 2) 155 (250 * sc.length + 25 * 8 + 1) (48 + (p : Int) / 10)) := hShI1 _ u1 rfl rfl
  have u3 : hSh zs (hUp (hUp (hUp ph1 155 (250 * sc.length + 25 * 8) 2) 155 (250 * sc.length + 25 * 8 + 1) (48 + (p : Int) / 10)) 155 (250 * sc.length + 25 * 8 + 2) (48 + (p : Int) % 10)) := hShI1 _ u2 rfl rfl
  have u4 : hSh zs (hUp (hUp (hUp (hUp ph1 155 (250 * sc.length + 25 * 8) 2) 155 (250 * sc.length + 25 * 8 + 1) (48 + (p : Int) / 10)) 155 (250 * sc.length + 25 * 8 + 2) (48 + (p : Int) % 10)) 155 (250 * sc.length + 25 * 9) 1) := hShI1 _ u3 rfl rfl
  have u5 : hSh zs (hUp (hUp (hUp (hUp (hUp ph1 155 (250 * sc.length + 25 * 8) 2) 155 (250 * sc.length + 25 * 8 + 1) (48 + (p : Int) / 10)) 155 (250 * sc.length + 25 * 8 + 2) (48 + (p : Int) % 10)) 155 (250 * sc.length + 25 * 9) 1) 155 (250 * sc.length + 25 * 9 + 1) c) := hShI1 _ u4 rfl rfl
  have u6 : hSh zs (hUp (hUp (hUp (hUp (hUp (hUp ph1 155 (250 * sc.length + 25 * 8) 2) 155 (250 * sc.length + 25 * 8 + 1) (48 + (p : Int) / 10)) 155 (250 * sc.length + 25 * 8 + 2) (48 + (p : Int) % 10)) 155 (250 * sc.length + 25 * 9) 1) 155 (250 * sc.length + 25 * 9 + 1) c) 162 m (b : Int)) := hShI1 _ u5 rfl rfl
  have x28 : hRd (hUp (hUp (hUp ph1 155 (250 * sc.length + 25 * 8) 2) 155 (250 * sc.length + 25 * 8 + 1) (48 + (p : Int) / 10)) 155 (250 * sc.length + 25 * 8 + 2) (48 + (p : Int) % 10)) 147 28 = (sc.length : Int) + 1 := by rw [hRd_up u2 (a := 155) (k := (250 * sc.length + 25 * 8 + 2)) (x := (48 + (p : Int) % 10)) rfl (by omega), if_neg (by omega), hRd_up u1 (a := 155) (k := (250 * sc.length + 25 * 8 + 1)) (x := (48 + (p : Int) / 10)) rfl (by omega), if_neg (by omega), hRd_up hs1 (a := 155) (k := (250 * sc.length + 25 * 8)) (x := 2) rfl (by omega), if_neg (by omega)]; exact e28
  have y28 : hRd (hUp (hUp (hUp (hUp ph1 155 (250 * sc.length + 25 * 8) 2) 155 (250 * sc.length + 25 * 8 + 1) (48 + (p : Int) / 10)) 155 (250 * sc.length + 25 * 8 + 2) (48 + (p : Int) % 10)) 155 (250 * sc.length + 25 * 9) 1) 147 28 = (sc.length : Int) + 1 := by rw [hRd_up u3 (a := 155) (k := (250 * sc.length + 25 * 9)) (x := 1) rfl (by omega), if_neg (by omega), hRd_up u2 (a := 155) (k := (250 * sc.length + 25 * 8 + 2)) (x := (48 + (p : Int) % 10)) rfl (by omega), if_neg (by omega), hRd_up u1 (a := 155) (k := (250 * sc.length + 25 * 8 + 1)) (x := (48 + (p : Int) / 10)) rfl (by omega), if_neg (by omega), hRd_up hs1 (a := 155) (k := (250 * sc.length + 25 * 8)) (x := 2) rfl (by omega), if_neg (by omega)]; exact e28
  have x67 : hRd (hUp (hUp (hUp (hUp ph1 155 (250 * sc.length + 25 * 8) 2) 155 (250 * sc.length + 25 * 8 + 1) (48 + (p : Int) / 10)) 155 (250 * sc.length + 25 * 8 + 2) (48 + (p : Int) % 10)) 155 (250 * sc.length + 25 * 9) 1) 167 (24 * m + p) = c := by rw [hRd_up u3 (a := 155) (k := (250 * sc.length + 25 * 9)) (x := 1) rfl (by omega), if_neg (by omega), hRd_up u2 (a := 155) (k := (250 * sc.length + 25 * 8 + 2)) (x := (48 + (p : Int) % 10)) rfl (by omega), if_neg (by omega), hRd_up u1 (a := 155) (k := (250 * sc.length + 25 * 8 + 1)) (x := (48 + (p : Int) / 10)) rfl (by omega), if_neg (by omega), hRd_up hs1 (a := 155) (k := (250 * sc.length + 25 * 8)) (x := 2) rfl (by omega), if_neg (by omega), f1.at (by decide)]; exact h67
  have x63 : hRd (hUp (hUp (hUp (hUp (hUp ph1 155 (250 * sc.length + 25 * 8) 2) 155 (250 * sc.length + 25 * 8 + 1) (48 + (p : Int) / 10)) 155 (250 * sc.length + 25 * 8 + 2) (48 + (p : Int) % 10)) 155 (250 * sc.length + 25 * 9) 1) 155 (250 * sc.length + 25 * 9 + 1) c) 163 m = (b : Int) := by rw [hRd_up u4 (a := 155) (k := (250 * sc.length + 25 * 9 + 1)) (x := c) rfl (by omega), if_neg (by omega), hRd_up u3 (a := 155) (k := (250 * sc.length + 25 * 9)) (x := 1) rfl (by omega), if_neg (by omega), hRd_up u2 (a := 155) (k := (250 * sc.length + 25 * 8 + 2)) (x := (48 + (p : Int) % 10)) rfl (by omega), if_neg (by omega), hRd_up u1 (a := 155) (k := (250 * sc.length + 25 * 8 + 1)) (x := (48 + (p : Int) / 10)) rfl (by omega), if_neg (by omega), hRd_up hs1 (a := 155) (k := (250 * sc.length + 25 * 8)) (x := 2) rfl (by omega), if_neg (by omega), f1.at (by decide)]; exact h63
  refine tK (l := xk_192) rfl rfl (fun _ _ _ _ _ => rfl) ?_
  refine tK (l := xk_192) rfl rfl (hGetR (o := some 165) hs1 rfl rfl rfl (by decide) (by decide) rfl) ?_
  refine tK (l := xk_192) rfl rfl (fun _ _ _ _ _ => rfl) ?_
  first | refine tK (l := xk_192) rfl rfl (hIaldN hs1 rfl rfl (by omega)) ?_ | refine tK (l := xk_192) rfl rfl (hIald hs1 rfl (by omega) (by omega)) ?_
  rw [e65]
  refine tSt (l := xk_192) rfl rfl (fun _ _ _ _ _ => rfl) (Nat.le_of_ble_eq_true rfl) ?_
  refine tK (l := xk_192) rfl rfl (fun _ _ _ _ _ => rfl) ?_
  refine tK (l := xk_192) rfl rfl (hGetI hs1 rfl rfl rfl (by decide) (by decide)) ?_
  rw [e28]
  refine tK (l := xk_192) rfl rfl (fun _ _ _ _ _ => rfl) ?_
  refine tK (l := xk_192) rfl rfl (hSub ⟨by omega, by omega⟩) ?_
  rw [e28b]
  refine tK (l := xk_192) rfl rfl (fun _ _ _ _ _ => rfl) ?_
  refine tCa (l := xk_192) rfl rfl (hInvS rfl rfl rfl rfl (Nat.le_of_ble_eq_true rfl) (Nat.le_of_ble_eq_true rfl)) ?_
  refine s188 (k := sc.length) (n := 8) (by omega) (by omega) ?_
  refine tKv ?_
  refine tSt (l := xk_192) rfl rfl (fun _ _ _ _ _ => rfl) (Nat.le_of_ble_eq_true rfl) ?_
  refine tK (l := xk_192) rfl rfl (fun _ _ _ _ _ => rfl) ?_
  refine tK (l := xk_192) rfl rfl (hGetR (o := some 155) hs1 rfl rfl rfl (by decide) (by decide) rfl) ?_
  refine tK (l := xk_192) rfl rfl (fun _ _ _ _ _ => rfl) ?_
  refine tK (l := xk_192) rfl rfl (fun _ _ _ _ _ => rfl) ?_
  refine tK (l := xk_192) rfl rfl (fun _ _ _ _ _ => rfl) ?_
  refine tIc_le (l := xk_192) (pc' := 38) rfl rfl rfl (fun hc => ?_) (fun hc => ?_)
  · refine tK (l := xk_192) rfl rfl (fun _ _ _ _ _ => rfl) ?_
    refine tK (l := xk_192) rfl rfl (fun _ _ _ _ _ => rfl) ?_
    first | refine tK (l := xk_192) rfl rfl (hIastN hs1 rfl rfl (by omega)) ?_ | refine tK (l := xk_192) rfl rfl (hIast hs1 rfl (by omega) (by omega)) ?_
    refine tK (l := xk_192) rfl rfl (fun _ _ _ _ _ => rfl) ?_
    refine tK (l := xk_192) rfl rfl (hGetR (o := some 155) (hShI1 _ hs1 rfl rfl) rfl rfl rfl (by decide) (by decide) rfl) ?_
    refine tK (l := xk_192) rfl rfl (fun _ _ _ _ _ => rfl) ?_
    refine tK (l := xk_192) rfl rfl (fun _ _ _ _ _ => rfl) ?_
    refine tK (l := xk_192) rfl rfl (hAdd ⟨by omega, by omega⟩) ?_
    rw [show (((250 * sc.length + 25 * 8) : Nat) : Int) + 1 = (((250 * sc.length + 25 * 8) + 1 : Nat) : Int) by omega]
    refine tK (l := xk_192) rfl rfl (fun _ _ _ _ _ => rfl) ?_
    refine tK (l := xk_192) rfl rfl (fun _ _ _ _ _ => rfl) ?_
    refine tK (l := xk_192) rfl rfl (fun _ _ _ _ _ => rfl) ?_
    refine tIc_le (l := xk_192) (pc' := 62) rfl rfl rfl (fun hc => ?_) (fun hc => ?_)
    · refine tK (l := xk_192) rfl rfl (fun _ _ _ _ _ => rfl) ?_
      refine tK (l := xk_192) rfl rfl (fun _ _ _ _ _ => rfl) ?_
      refine tK (l := xk_192) rfl rfl (hDiv ⟨by omega, by omega⟩) ?_
      refine tK (l := xk_192) rfl rfl (fun _ _ _ _ _ => rfl) ?_
      refine tK (l := xk_192) rfl rfl (hAdd ⟨by omega, by omega⟩) ?_
      first | refine tK (l := xk_192) rfl rfl (hIastN (hShI1 _ hs1 rfl rfl) rfl rfl (by omega)) ?_ | refine tK (l := xk_192) rfl rfl (hIast (hShI1 _ hs1 rfl rfl) rfl (by omega) (by omega)) ?_
      refine tK (l := xk_192) rfl rfl (fun _ _ _ _ _ => rfl) ?_
      refine tK (l := xk_192) rfl rfl (hGetR (o := some 155) (hShI1 _ (hShI1 _ hs1 rfl rfl) rfl rfl) rfl rfl rfl (by decide) (by decide) rfl) ?_
      refine tK (l := xk_192) rfl rfl (fun _ _ _ _ _ => rfl) ?_
      refine tK (l := xk_192) rfl rfl (fun _ _ _ _ _ => rfl) ?_
      refine tK (l := xk_192) rfl rfl (hAdd ⟨by omega, by omega⟩) ?_
      rw [show (((250 * sc.length + 25 * 8) : Nat) : Int) + 2 = (((250 * sc.length + 25 * 8) + 2 : Nat) : Int) by omega]
      refine tK (l := xk_192) rfl rfl (fun _ _ _ _ _ => rfl) ?_
      refine tK (l := xk_192) rfl rfl (fun _ _ _ _ _ => rfl) ?_
      refine tK (l := xk_192) rfl rfl (fun _ _ _ _ _ => rfl) ?_
      refine tK (l := xk_192) rfl rfl (hRem ⟨by omega, by omega⟩) ?_
      refine tK (l := xk_192) rfl rfl (hAdd ⟨by omega, by omega⟩) ?_
      first | refine tK (l := xk_192) rfl rfl (hIastN (hShI1 _ (hShI1 _ hs1 rfl rfl) rfl rfl) rfl rfl (by omega)) ?_ | refine tK (l := xk_192) rfl rfl (hIast (hShI1 _ (hShI1 _ hs1 rfl rfl) rfl rfl) rfl (by omega) (by omega)) ?_
      refine tK (l := xk_192) rfl rfl (fun _ _ _ _ _ => rfl) ?_
      refine tK (l := xk_192) rfl rfl (hGetR (o := some 155) (hShI1 _ (hShI1 _ (hShI1 _ hs1 rfl rfl) rfl rfl) rfl rfl) rfl rfl rfl (by decide) (by decide) rfl) ?_
      refine tK (l := xk_192) rfl rfl (fun _ _ _ _ _ => rfl) ?_
      refine tK (l := xk_192) rfl rfl (hGetI (hShI1 _ (hShI1 _ (hShI1 _ hs1 rfl rfl) rfl rfl) rfl rfl) rfl rfl rfl (by decide) (by decide)) ?_
      rw [x28]
      refine tK (l := xk_192) rfl rfl (fun _ _ _ _ _ => rfl) ?_
      refine tK (l := xk_192) rfl rfl (hSub ⟨by omega, by omega⟩) ?_
      rw [e28b]
      refine tK (l := xk_192) rfl rfl (fun _ _ _ _ _ => rfl) ?_
      refine tCa (l := xk_192) rfl rfl (hInvS rfl rfl rfl rfl (Nat.le_of_ble_eq_true rfl) (Nat.le_of_ble_eq_true rfl)) ?_
      refine s188 (k := sc.length) (n := 9) (by omega) (by omega) ?_
      refine tKv ?_
      refine tK (l := xk_192) rfl rfl (fun _ _ _ _ _ => rfl) ?_
      first | refine tK (l := xk_192) rfl rfl (hIastN (hShI1 _ (hShI1 _ (hShI1 _ hs1 rfl rfl) rfl rfl) rfl rfl) rfl rfl (by omega)) ?_ | refine tK (l := xk_192) rfl rfl (hIast (hShI1 _ (hShI1 _ (hShI1 _ hs1 rfl rfl) rfl rfl) rfl rfl) rfl (by omega) (by omega)) ?_
      refine tK (l := xk_192) rfl rfl (fun _ _ _ _ _ => rfl) ?_
      refine tK (l := xk_192) rfl rfl (hGetR (o := some 155) (hShI1 _ (hShI1 _ (hShI1 _ (hShI1 _ hs1 rfl rfl) rfl rfl) rfl rfl) rfl rfl) rfl rfl rfl (by decide) (by decide) rfl) ?_
      refine tK (l := xk_192) rfl rfl (fun _ _ _ _ _ => rfl) ?_
      refine tK (l := xk_192) rfl rfl (hGetI (hShI1 _ (hShI1 _ (hShI1 _ (hShI1 _ hs1 rfl rfl) rfl rfl) rfl rfl) rfl rfl) rfl rfl rfl (by decide) (by decide)) ?_
      rw [y28]
      refine tK (l := xk_192) rfl rfl (fun _ _ _ _ _ => rfl) ?_
      refine tK (l := xk_192) rfl rfl (hSub ⟨by omega, by omega⟩) ?_
      rw [e28b]
      refine tK (l := xk_192) rfl rfl (fun _ _ _ _ _ => rfl) ?_
      refine tCa (l := xk_192) rfl rfl (hInvS rfl rfl rfl rfl (Nat.le_of_ble_eq_true rfl) (Nat.le_of_ble_eq_true rfl)) ?_
      refine s188 (k := sc.length) (n := 9) (by omega) (by omega) ?_
      refine tKv ?_
      refine tK (l := xk_192) rfl rfl (fun _ _ _ _ _ => rfl) ?_
      refine tK (l := xk_192) rfl rfl (hAdd ⟨by omega, by omega⟩) ?_
      rw [show (((250 * sc.length + 25 * 9) : Nat) : Int) + 1 = (((250 * sc.length + 25 * 9) + 1 : Nat) : Int) by omega]
      refine tK (l := xk_192) rfl rfl (fun _ _ _ _ _ => rfl) ?_
      refine tK (l := xk_192) rfl rfl (hGetR (o := some 167) (hShI1 _ (hShI1 _ (hShI1 _ (hShI1 _ hs1 rfl rfl) rfl rfl) rfl rfl) rfl rfl) rfl rfl rfl (by decide) (by decide) rfl) ?_
      refine tK (l := xk_192) rfl rfl (fun _ _ _ _ _ => rfl) ?_
      refine tK (l := xk_192) rfl rfl (fun _ _ _ _ _ => rfl) ?_
      refine tK (l := xk_192) rfl rfl (hMul ⟨by omega, by omega⟩) ?_
      refine tK (l := xk_192) rfl rfl (fun _ _ _ _ _ => rfl) ?_
      refine tK (l := xk_192) rfl rfl (hAdd ⟨by omega, by omega⟩) ?_
      rw [show (24 : Int) * (m : Int) + (p : Int) = ((24 * m + p : Nat) : Int) by omega]
      first | refine tK (l := xk_192) rfl rfl (hIaldN (hShI1 _ (hShI1 _ (hShI1 _ (hShI1 _ hs1 rfl rfl) rfl rfl) rfl rfl) rfl rfl) rfl rfl (by omega)) ?_ | refine tK (l := xk_192) rfl rfl (hIald (hShI1 _ (hShI1 _ (hShI1 _ (hShI1 _ hs1 rfl rfl) rfl rfl) rfl rfl) rfl rfl) rfl (by omega) (by omega)) ?_
      rw [x67]
      first | refine tK (l := xk_192) rfl rfl (hIastN (hShI1 _ (hShI1 _ (hShI1 _ (hShI1 _ hs1 rfl rfl) rfl rfl) rfl rfl) rfl rfl) rfl rfl (by omega)) ?_ | refine tK (l := xk_192) rfl rfl (hIast (hShI1 _ (hShI1 _ (hShI1 _ (hShI1 _ hs1 rfl rfl) rfl rfl) rfl rfl) rfl rfl) rfl (by omega) (by omega)) ?_
      refine tK (l := xk_192) rfl rfl (fun _ _ _ _ _ => rfl) ?_
      refine tK (l := xk_192) rfl rfl (hGetR (o := some 162) (hShI1 _ (hShI1 _ (hShI1 _ (hShI1 _ (hShI1 _ hs1 rfl rfl) rfl rfl) rfl rfl) rfl rfl) rfl rfl) rfl rfl rfl (by decide) (by decide) rfl) ?_
      refine tK (l := xk_192) rfl rfl (fun _ _ _ _ _ => rfl) ?_
      refine tK (l := xk_192) rfl rfl (fun _ _ _ _ _ => rfl) ?_
      refine tK (l := xk_192) rfl rfl (hGetR (o := some 163) (hShI1 _ (hShI1 _ (hShI1 _ (hShI1 _ (hShI1 _ hs1 rfl rfl) rfl rfl) rfl rfl) rfl rfl) rfl rfl) rfl rfl rfl (by decide) (by decide) rfl) ?_
      refine tK (l := xk_192) rfl rfl (fun _ _ _ _ _ => rfl) ?_
      first | refine tK (l := xk_192) rfl rfl (hIaldN (hShI1 _ (hShI1 _ (hShI1 _ (hShI1 _ (hShI1 _ hs1 rfl rfl) rfl rfl) rfl rfl) rfl rfl) rfl rfl) rfl rfl (by omega)) ?_ | refine tK (l := xk_192) rfl rfl (hIald (hShI1 _ (hShI1 _ (hShI1 _ (hShI1 _ (hShI1 _ hs1 rfl rfl) rfl rfl) rfl rfl) rfl rfl) rfl rfl) rfl (by omega) (by omega)) ?_
      rw [x63]
      first | refine tK (l := xk_192) rfl rfl (hIastN (hShI1 _ (hShI1 _ (hShI1 _ (hShI1 _ (hShI1 _ hs1 rfl rfl) rfl rfl) rfl rfl) rfl rfl) rfl rfl) rfl rfl (by omega)) ?_ | refine tK (l := xk_192) rfl rfl (hIast (hShI1 _ (hShI1 _ (hShI1 _ (hShI1 _ (hShI1 _ hs1 rfl rfl) rfl rfl) rfl rfl) rfl rfl) rfl rfl) rfl (by omega) (by omega)) ?_
      refine tRt (l := xk_192) rfl rfl (fun _ _ _ _ _ => rfl) ?_
      have rd : ∀ q j, hRd (hUp (hUp (hUp (hUp (hUp (hUp ph1 155 (250 * sc.length + 25 * 8) 2) 155 (250 * sc.length + 25 * 8 + 1) (48 + (p : Int) / 10)) 155 (250 * sc.length + 25 * 8 + 2) (48 + (p : Int) % 10)) 155 (250 * sc.length + 25 * 9) 1) 155 (250 * sc.length + 25 * 9 + 1) c) 162 m (b : Int)) q j = if q = 162 ∧ j = m then (b : Int) else if q = 155 ∧ j = 250 * sc.length + 25 * 9 + 1 then c else if q = 155 ∧ j = 250 * sc.length + 25 * 9 then 1 else if q = 155 ∧ j = 250 * sc.length + 25 * 8 + 2 then (48 + (p : Int) % 10) else if q = 155 ∧ j = 250 * sc.length + 25 * 8 + 1 then (48 + (p : Int) / 10) else if q = 155 ∧ j = 250 * sc.length + 25 * 8 then 2 else hRd ph1 q j := fun q j => by rw [hRd_up u5 (a := 162) (k := m) (x := (b : Int)) rfl (by omega), hRd_up u4 (a := 155) (k := (250 * sc.length + 25 * 9 + 1)) (x := c) rfl (by omega), hRd_up u3 (a := 155) (k := (250 * sc.length + 25 * 9)) (x := 1) rfl (by omega), hRd_up u2 (a := 155) (k := (250 * sc.length + 25 * 8 + 2)) (x := (48 + (p : Int) % 10)) rfl (by omega), hRd_up u1 (a := 155) (k := (250 * sc.length + 25 * 8 + 1)) (x := (48 + (p : Int) / 10)) rfl (by omega), hRd_up hs1 (a := 155) (k := (250 * sc.length + 25 * 8)) (x := 2) rfl (by omega)]
      have f2 : hFM [28] [155, 162] ph1 (hUp (hUp (hUp (hUp (hUp (hUp ph1 155 (250 * sc.length + 25 * 8) 2) 155 (250 * sc.length + 25 * 8 + 1) (48 + (p : Int) / 10)) 155 (250 * sc.length + 25 * 8 + 2) (48 + (p : Int) % 10)) 155 (250 * sc.length + 25 * 9) 1) 155 (250 * sc.length + 25 * 9 + 1) c) 162 m (b : Int)) := (((((hFM_a hs1 rfl (by omega) (by decide) (by decide)).trans (hFM_a u1 rfl (by omega) (by decide) (by decide))).trans (hFM_a u2 rfl (by omega) (by decide) (by decide))).trans (hFM_a u3 rfl (by omega) (by decide) (by decide))).trans (hFM_a u4 rfl (by omega) (by decide) (by decide))).trans (hFM_a u5 rfl (by omega) (by decide) (by decide))
      have N6 : ∀ q j, q ≠ 162 → q ≠ 155 → hRd (hUp (hUp (hUp (hUp (hUp (hUp ph1 155 (250 * sc.length + 25 * 8) 2) 155 (250 * sc.length + 25 * 8 + 1) (48 + (p : Int) / 10)) 155 (250 * sc.length + 25 * 8 + 2) (48 + (p : Int) % 10)) 155 (250 * sc.length + 25 * 9) 1) 155 (250 * sc.length + 25 * 9 + 1) c) 162 m (b : Int)) q j = hRd ph1 q j := fun q j w1 w2 => by rw [rd, if_neg (by omega), if_neg (by omega), if_neg (by omega), if_neg (by omega), if_neg (by omega), if_neg (by omega)]
      have hml := r1.2.1.2.2
      refine hQ _ (h.scs (hShI1 _ (hShI1 _ (hShI1 _ (hShI1 _ (hShI1 _ (hShI1 _ hs1 rfl rfl) rfl rfl) rfl rfl) rfl rfl) rfl rfl) rfl rfl) ((f1.mono (by decide) (by decide)).trans f2) (by rw [N6 _ _ (by decide) (by decide)]; exact r1.2.1.1) (by simp only [List.length_cons]; omega) ⟨fun n hn => ?_, hml.2.eq (fun j hj => by rw [rd, if_neg (by omega), if_neg (by omega), if_neg (by omega), if_neg (by omega), if_neg (by omega), if_neg (by omega)])⟩) ((f1.mono (by decide) (by decide)).trans f2) (fun j hj => ?_) ?_
      · by_cases e8 : n = 8
        · subst e8
          have ed : psc p c 8 = some (dg p) := rfl
          rw [ed]
          have e9 : dg p = [48 + (p : Int) / 10, 48 + (p : Int) % 10] := by unfold dg; rw [if_neg (by omega)]
          rw [e9]
          refine ⟨by rw [rd, if_neg (by omega), if_neg (by omega), if_neg (by omega), if_neg (by omega), if_neg (by omega), if_pos ⟨rfl, rfl⟩]; rfl, fun s hs => ?_⟩
          cases hs
          refine ⟨by simp, fun i c2 hi => ?_⟩
          match i, hi with
          | 0, hi =>
            simp only [List.getElem?_cons_zero, Option.some.injEq] at hi
            rw [rd, if_neg (by omega), if_neg (by omega), if_neg (by omega), if_neg (by omega), if_pos ⟨rfl, rfl⟩, hi]
          | 1, hi =>
            simp only [List.getElem?_cons_succ, List.getElem?_cons_zero, Option.some.injEq] at hi
            rw [rd, if_neg (by omega), if_neg (by omega), if_neg (by omega), if_pos ⟨rfl, by omega⟩, hi]
          | i + 2, hi => simp at hi
        · by_cases e9 : n = 9
          · subst e9
            have ed : psc p c 9 = some [c] := rfl
            rw [ed]
            refine ⟨by rw [rd, if_neg (by omega), if_neg (by omega), if_pos ⟨rfl, rfl⟩]; rfl, fun s hs => ?_⟩
            cases hs
            refine ⟨by simp, fun i c2 hi => ?_⟩
            match i, hi with
            | 0, hi =>
              simp only [List.getElem?_cons_zero, Option.some.injEq] at hi
              rw [rd, if_neg (by omega), if_pos ⟨rfl, rfl⟩, hi]
            | i + 1, hi => simp at hi
          · have ed : psc p c n = none := by unfold psc; rw [if_neg e8, if_neg e9]
            rw [ed]
            refine ⟨?_, fun s hs => by cases hs⟩
            rw [rd, if_neg (by omega), if_neg (by omega), if_neg (by omega), if_neg (by omega), if_neg (by omega), if_neg (by omega)]
            exact (hml.1 n hn).1
      · rw [rd, if_neg (by omega), if_neg (by omega), if_neg (by omega), if_neg (by omega), if_neg (by omega), if_neg (by omega), f1.at (by decide)]
      · rw [rd, if_pos ⟨rfl, rfl⟩]
    · exfalso; omega
  · exfalso; omega
theorem s192_0 {m p b : Nat} {c : Int} (hbig : ¬ 9 < p) (h : hMN zs ph (sc, r2)) (hl : sc.length ≤ 40) (hm : m < 64) (h65 : hRd ph 165 m = (p : Int)) (hp : p ≤ 23) (h67 : hRd ph 167 (24 * m + p) = c) (h63 : hRd ph 163 m = (b : Int)) (hQ : ∀ ph2, hMN zs ph2 (psc p c :: sc, r2) → hFM [28] [155, 162] ph ph2 → (∀ j, j ≠ m → hRd ph2 162 j = hRd ph 162 j) → hRd ph2 162 m = (b : Int) → Q (.inl none, ph2, g)) : xTC (d + 2) 192 [.inr (.inl (some 147)), .inl (m : Int)] ph g Q := by
  obtain ⟨z1, z2, z3, z4, z5, z6, z7, z8⟩ := hSzM
  obtain ⟨y1, y2, y3, y4, y5, y6, y7, y8, y9⟩ := hSzO
  have hs := h.1
  refine tEn (ls := [some (.inr (.inl (some 147))), some (.inl (m : Int)), none, none]) (fun k => by match k with | 0 => rfl | 1 => rfl | 2 => rfl | 3 => rfl | k + 4 => rfl) ?_
  refine tK (l := xk_192) rfl rfl (fun _ _ _ _ _ => rfl) ?_
  refine tCa (l := xk_192) rfl rfl (hInvV (c := 10) hs rfl rfl rfl rfl rfl (Nat.le_of_ble_eq_true rfl) (Nat.le_of_ble_eq_true rfl)) ?_
  refine s187 h hl (fun ph1 r1 f1 l1 => ?_)
  refine tKn ?_
  have hs1 := r1.1
  have e28 : hRd ph1 147 28 = (sc.length : Int) + 1 := by have := r1.2.1.1; simp only [List.length_cons] at this; push_cast at this; exact this
  have e28b : (sc.length : Int) + 1 - 1 = (sc.length : Int) := by omega
  have e65 : hRd ph1 165 m = (p : Int) := by rw [f1.at (by decide)]; exact h65
  have u1 : hSh zs (hUp ph1 155 (250 * sc.length + 25 * 8) 1) := hShI1 _ hs1 rfl rfl
  have u2 : hSh zs (hUp (hUp ph1 155 (250 * sc.length + 25 * 8) 1) 155 (250 * sc.length + 25 * 8 + 1) (48 + (p : Int))) := hShI1 _ u1 rfl rfl
  have u3 : hSh zs (hUp (hUp (hUp ph1 155 (250 * sc.length + 25 * 8) 1) 155 (250 * sc.length + 25 * 8 + 1) (48 + (p : Int))) 155 (250 * sc.length + 25 * 8 + 2) (48 + (p : Int) % 10)) := hShI1 _ u2 rfl rfl
  have u4 : hSh zs (hUp (hUp (hUp (hUp ph1 155 (250 * sc.length + 25 * 8) 1) 155 (250 * sc.length + 25 * 8 + 1) (48 + (p : Int))) 155 (250 * sc.length + 25 * 8 + 2) (48 + (p : Int) % 10)) 155 (250 * sc.length + 25 * 9) 1) := hShI1 _ u3 rfl rfl
  have u5 : hSh zs (hUp (hUp (hUp (hUp (hUp ph1 155 (250 * sc.length + 25 * 8) 1) 155 (250 * sc.length + 25 * 8 + 1) (48 + (p : Int))) 155 (250 * sc.length + 25 * 8 + 2) (48 + (p : Int) % 10)) 155 (250 * sc.length + 25 * 9) 1) 155 (250 * sc.length + 25 * 9 + 1) c) := hShI1 _ u4 rfl rfl
  have u6 : hSh zs (hUp (hUp (hUp (hUp (hUp (hUp ph1 155 (250 * sc.length + 25 * 8) 1) 155 (250 * sc.length + 25 * 8 + 1) (48 + (p : Int))) 155 (250 * sc.length + 25 * 8 + 2) (48 + (p : Int) % 10)) 155 (250 * sc.length + 25 * 9) 1) 155 (250 * sc.length + 25 * 9 + 1) c) 162 m (b : Int)) := hShI1 _ u5 rfl rfl
  have x28 : hRd (hUp (hUp (hUp ph1 155 (250 * sc.length + 25 * 8) 1) 155 (250 * sc.length + 25 * 8 + 1) (48 + (p : Int))) 155 (250 * sc.length + 25 * 8 + 2) (48 + (p : Int) % 10)) 147 28 = (sc.length : Int) + 1 := by rw [hRd_up u2 (a := 155) (k := (250 * sc.length + 25 * 8 + 2)) (x := (48 + (p : Int) % 10)) rfl (by omega), if_neg (by omega), hRd_up u1 (a := 155) (k := (250 * sc.length + 25 * 8 + 1)) (x := (48 + (p : Int))) rfl (by omega), if_neg (by omega), hRd_up hs1 (a := 155) (k := (250 * sc.length + 25 * 8)) (x := 1) rfl (by omega), if_neg (by omega)]; exact e28
  have y28 : hRd (hUp (hUp (hUp (hUp ph1 155 (250 * sc.length + 25 * 8) 1) 155 (250 * sc.length + 25 * 8 + 1) (48 + (p : Int))) 155 (250 * sc.length + 25 * 8 + 2) (48 + (p : Int) % 10)) 155 (250 * sc.length + 25 * 9) 1) 147 28 = (sc.length : Int) + 1 := by rw [hRd_up u3 (a := 155) (k := (250 * sc.length + 25 * 9)) (x := 1) rfl (by omega), if_neg (by omega), hRd_up u2 (a := 155) (k := (250 * sc.length + 25 * 8 + 2)) (x := (48 + (p : Int) % 10)) rfl (by omega), if_neg (by omega), hRd_up u1 (a := 155) (k := (250 * sc.length + 25 * 8 + 1)) (x := (48 + (p : Int))) rfl (by omega), if_neg (by omega), hRd_up hs1 (a := 155) (k := (250 * sc.length + 25 * 8)) (x := 1) rfl (by omega), if_neg (by omega)]; exact e28
  have x67 : hRd (hUp (hUp (hUp (hUp ph1 155 (250 * sc.length + 25 * 8) 1) 155 (250 * sc.length + 25 * 8 + 1) (48 + (p : Int))) 155 (250 * sc.length + 25 * 8 + 2) (48 + (p : Int) % 10)) 155 (250 * sc.length + 25 * 9) 1) 167 (24 * m + p) = c := by rw [hRd_up u3 (a := 155) (k := (250 * sc.length + 25 * 9)) (x := 1) rfl (by omega), if_neg (by omega), hRd_up u2 (a := 155) (k := (250 * sc.length + 25 * 8 + 2)) (x := (48 + (p : Int) % 10)) rfl (by omega), if_neg (by omega), hRd_up u1 (a := 155) (k := (250 * sc.length + 25 * 8 + 1)) (x := (48 + (p : Int))) rfl (by omega), if_neg (by omega), hRd_up hs1 (a := 155) (k := (250 * sc.length + 25 * 8)) (x := 1) rfl (by omega), if_neg (by omega), f1.at (by decide)]; exact h67
  have x63 : hRd (hUp (hUp (hUp (hUp (hUp ph1 155 (250 * sc.length + 25 * 8) 1) 155 (250 * sc.length + 25 * 8 + 1) (48 + (p : Int))) 155 (250 * sc.length + 25 * 8 + 2) (48 + (p : Int) % 10)) 155 (250 * sc.length + 25 * 9) 1) 155 (250 * sc.length + 25 * 9 + 1) c) 163 m = (b : Int) := by rw [hRd_up u4 (a := 155) (k := (250 * sc.length + 25 * 9 + 1)) (x := c) rfl (by omega), if_neg (by omega), hRd_up u3 (a := 155) (k := (250 * sc.length + 25 * 9)) (x := 1) rfl (by omega), if_neg (by omega), hRd_up u2 (a := 155) (k := (250 * sc.length + 25 * 8 + 2)) (x := (48 + (p : Int) % 10)) rfl (by omega), if_neg (by omega), hRd_up u1 (a := 155) (k := (250 * sc.length + 25 * 8 + 1)) (x := (48 + (p : Int))) rfl (by omega), if_neg (by omega), hRd_up hs1 (a := 155) (k := (250 * sc.length + 25 * 8)) (x := 1) rfl (by omega), if_neg (by omega), f1.at (by decide)]; exact h63
  refine tK (l := xk_192) rfl rfl (fun _ _ _ _ _ => rfl) ?_
  refine tK (l := xk_192) rfl rfl (hGetR (o := some 165) hs1 rfl rfl rfl (by decide) (by decide) rfl) ?_
  refine tK (l := xk_192) rfl rfl (fun _ _ _ _ _ => rfl) ?_
  first | refine tK (l := xk_192) rfl rfl (hIaldN hs1 rfl rfl (by omega)) ?_ | refine tK (l := xk_192) rfl rfl (hIald hs1 rfl (by omega) (by omega)) ?_
  rw [e65]
  refine tSt (l := xk_192) rfl rfl (fun _ _ _ _ _ => rfl) (Nat.le_of_ble_eq_true rfl) ?_
  refine tK (l := xk_192) rfl rfl (fun _ _ _ _ _ => rfl) ?_
  refine tK (l := xk_192) rfl rfl (hGetI hs1 rfl rfl rfl (by decide) (by decide)) ?_
  rw [e28]
  refine tK (l := xk_192) rfl rfl (fun _ _ _ _ _ => rfl) ?_
  refine tK (l := xk_192) rfl rfl (hSub ⟨by omega, by omega⟩) ?_
  rw [e28b]
  refine tK (l := xk_192) rfl rfl (fun _ _ _ _ _ => rfl) ?_
  refine tCa (l := xk_192) rfl rfl (hInvS rfl rfl rfl rfl (Nat.le_of_ble_eq_true rfl) (Nat.le_of_ble_eq_true rfl)) ?_
  refine s188 (k := sc.length) (n := 8) (by omega) (by omega) ?_
  refine tKv ?_
  refine tSt (l := xk_192) rfl rfl (fun _ _ _ _ _ => rfl) (Nat.le_of_ble_eq_true rfl) ?_
  refine tK (l := xk_192) rfl rfl (fun _ _ _ _ _ => rfl) ?_
  refine tK (l := xk_192) rfl rfl (hGetR (o := some 155) hs1 rfl rfl rfl (by decide) (by decide) rfl) ?_
  refine tK (l := xk_192) rfl rfl (fun _ _ _ _ _ => rfl) ?_
  refine tK (l := xk_192) rfl rfl (fun _ _ _ _ _ => rfl) ?_
  refine tK (l := xk_192) rfl rfl (fun _ _ _ _ _ => rfl) ?_
  refine tIc_le (l := xk_192) (pc' := 38) rfl rfl rfl (fun hc => ?_) (fun hc => ?_)
  · exfalso; omega
  · refine tK (l := xk_192) rfl rfl (fun _ _ _ _ _ => rfl) ?_
    first | refine tK (l := xk_192) rfl rfl (hIastN hs1 rfl rfl (by omega)) ?_ | refine tK (l := xk_192) rfl rfl (hIast hs1 rfl (by omega) (by omega)) ?_
    refine tK (l := xk_192) rfl rfl (fun _ _ _ _ _ => rfl) ?_
    refine tK (l := xk_192) rfl rfl (hGetR (o := some 155) (hShI1 _ hs1 rfl rfl) rfl rfl rfl (by decide) (by decide) rfl) ?_
    refine tK (l := xk_192) rfl rfl (fun _ _ _ _ _ => rfl) ?_
    refine tK (l := xk_192) rfl rfl (fun _ _ _ _ _ => rfl) ?_
    refine tK (l := xk_192) rfl rfl (hAdd ⟨by omega, by omega⟩) ?_
    rw [show (((250 * sc.length + 25 * 8) : Nat) : Int) + 1 = (((250 * sc.length + 25 * 8) + 1 : Nat) : Int) by omega]
    refine tK (l := xk_192) rfl rfl (fun _ _ _ _ _ => rfl) ?_
    refine tK (l := xk_192) rfl rfl (fun _ _ _ _ _ => rfl) ?_
    refine tK (l := xk_192) rfl rfl (fun _ _ _ _ _ => rfl) ?_
    refine tIc_le (l := xk_192) (pc' := 62) rfl rfl rfl (fun hc => ?_) (fun hc => ?_)
    · exfalso; omega
    · refine tK (l := xk_192) rfl rfl (fun _ _ _ _ _ => rfl) ?_
      refine tK (l := xk_192) rfl rfl (hAdd ⟨by omega, by omega⟩) ?_
      first | refine tK (l := xk_192) rfl rfl (hIastN (hShI1 _ hs1 rfl rfl) rfl rfl (by omega)) ?_ | refine tK (l := xk_192) rfl rfl (hIast (hShI1 _ hs1 rfl rfl) rfl (by omega) (by omega)) ?_
      refine tK (l := xk_192) rfl rfl (fun _ _ _ _ _ => rfl) ?_
      refine tK (l := xk_192) rfl rfl (hGetR (o := some 155) (hShI1 _ (hShI1 _ hs1 rfl rfl) rfl rfl) rfl rfl rfl (by decide) (by decide) rfl) ?_
      refine tK (l := xk_192) rfl rfl (fun _ _ _ _ _ => rfl) ?_
      refine tK (l := xk_192) rfl rfl (fun _ _ _ _ _ => rfl) ?_
      refine tK (l := xk_192) rfl rfl (hAdd ⟨by omega, by omega⟩) ?_
      rw [show (((250 * sc.length + 25 * 8) : Nat) : Int) + 2 = (((250 * sc.length + 25 * 8) + 2 : Nat) : Int) by omega]
      refine tK (l := xk_192) rfl rfl (fun _ _ _ _ _ => rfl) ?_
      refine tK (l := xk_192) rfl rfl (fun _ _ _ _ _ => rfl) ?_
      refine tK (l := xk_192) rfl rfl (fun _ _ _ _ _ => rfl) ?_
      refine tK (l := xk_192) rfl rfl (hRem ⟨by omega, by omega⟩) ?_
      refine tK (l := xk_192) rfl rfl (hAdd ⟨by omega, by omega⟩) ?_
      first | refine tK (l := xk_192) rfl rfl (hIastN (hShI1 _ (hShI1 _ hs1 rfl rfl) rfl rfl) rfl rfl (by omega)) ?_ | refine tK (l := xk_192) rfl rfl (hIast (hShI1 _ (hShI1 _ hs1 rfl rfl) rfl rfl) rfl (by omega) (by omega)) ?_
      refine tK (l := xk_192) rfl rfl (fun _ _ _ _ _ => rfl) ?_
      refine tK (l := xk_192) rfl rfl (hGetR (o := some 155) (hShI1 _ (hShI1 _ (hShI1 _ hs1 rfl rfl) rfl rfl) rfl rfl) rfl rfl rfl (by decide) (by decide) rfl) ?_
      refine tK (l := xk_192) rfl rfl (fun _ _ _ _ _ => rfl) ?_
      refine tK (l := xk_192) rfl rfl (hGetI (hShI1 _ (hShI1 _ (hShI1 _ hs1 rfl rfl) rfl rfl) rfl rfl) rfl rfl rfl (by decide) (by decide)) ?_
      rw [x28]
      refine tK (l := xk_192) rfl rfl (fun _ _ _ _ _ => rfl) ?_
      refine tK (l := xk_192) rfl rfl (hSub ⟨by omega, by omega⟩) ?_
      rw [e28b]
      refine tK (l := xk_192) rfl rfl (fun _ _ _ _ _ => rfl) ?_
      refine tCa (l := xk_192) rfl rfl (hInvS rfl rfl rfl rfl (Nat.le_of_ble_eq_true rfl) (Nat.le_of_ble_eq_true rfl)) ?_
      refine s188 (k := sc.length) (n := 9) (by omega) (by omega) ?_
      refine tKv ?_
      refine tK (l := xk_192) rfl rfl (fun _ _ _ _ _ => rfl) ?_
      first | refine tK (l := xk_192) rfl rfl (hIastN (hShI1 _ (hShI1 _ (hShI1 _ hs1 rfl rfl) rfl rfl) rfl rfl) rfl rfl (by omega)) ?_ | refine tK (l := xk_192) rfl rfl (hIast (hShI1 _ (hShI1 _ (hShI1 _ hs1 rfl rfl) rfl rfl) rfl rfl) rfl (by omega) (by omega)) ?_
      refine tK (l := xk_192) rfl rfl (fun _ _ _ _ _ => rfl) ?_
      refine tK (l := xk_192) rfl rfl (hGetR (o := some 155) (hShI1 _ (hShI1 _ (hShI1 _ (hShI1 _ hs1 rfl rfl) rfl rfl) rfl rfl) rfl rfl) rfl rfl rfl (by decide) (by decide) rfl) ?_
      refine tK (l := xk_192) rfl rfl (fun _ _ _ _ _ => rfl) ?_
      refine tK (l := xk_192) rfl rfl (hGetI (hShI1 _ (hShI1 _ (hShI1 _ (hShI1 _ hs1 rfl rfl) rfl rfl) rfl rfl) rfl rfl) rfl rfl rfl (by decide) (by decide)) ?_
      rw [y28]
      refine tK (l := xk_192) rfl rfl (fun _ _ _ _ _ => rfl) ?_
      refine tK (l := xk_192) rfl rfl (hSub ⟨by omega, by omega⟩) ?_
      rw [e28b]
      refine tK (l := xk_192) rfl rfl (fun _ _ _ _ _ => rfl) ?_
      refine tCa (l := xk_192) rfl rfl (hInvS rfl rfl rfl rfl (Nat.le_of_ble_eq_true rfl) (Nat.le_of_ble_eq_true rfl)) ?_
      refine s188 (k := sc.length) (n := 9) (by omega) (by omega) ?_
      refine tKv ?_
      refine tK (l := xk_192) rfl rfl (fun _ _ _ _ _ => rfl) ?_
      refine tK (l := xk_192) rfl rfl (hAdd ⟨by omega, by omega⟩) ?_
      rw [show (((250 * sc.length + 25 * 9) : Nat) : Int) + 1 = (((250 * sc.length + 25 * 9) + 1 : Nat) : Int) by omega]
      refine tK (l := xk_192) rfl rfl (fun _ _ _ _ _ => rfl) ?_
      refine tK (l := xk_192) rfl rfl (hGetR (o := some 167) (hShI1 _ (hShI1 _ (hShI1 _ (hShI1 _ hs1 rfl rfl) rfl rfl) rfl rfl) rfl rfl) rfl rfl rfl (by decide) (by decide) rfl) ?_
      refine tK (l := xk_192) rfl rfl (fun _ _ _ _ _ => rfl) ?_
      refine tK (l := xk_192) rfl rfl (fun _ _ _ _ _ => rfl) ?_
      refine tK (l := xk_192) rfl rfl (hMul ⟨by omega, by omega⟩) ?_
      refine tK (l := xk_192) rfl rfl (fun _ _ _ _ _ => rfl) ?_
      refine tK (l := xk_192) rfl rfl (hAdd ⟨by omega, by omega⟩) ?_
      rw [show (24 : Int) * (m : Int) + (p : Int) = ((24 * m + p : Nat) : Int) by omega]
      first | refine tK (l := xk_192) rfl rfl (hIaldN (hShI1 _ (hShI1 _ (hShI1 _ (hShI1 _ hs1 rfl rfl) rfl rfl) rfl rfl) rfl rfl) rfl rfl (by omega)) ?_ | refine tK (l := xk_192) rfl rfl (hIald (hShI1 _ (hShI1 _ (hShI1 _ (hShI1 _ hs1 rfl rfl) rfl rfl) rfl rfl) rfl rfl) rfl (by omega) (by omega)) ?_
      rw [x67]
      first | refine tK (l := xk_192) rfl rfl (hIastN (hShI1 _ (hShI1 _ (hShI1 _ (hShI1 _ hs1 rfl rfl) rfl rfl) rfl rfl) rfl rfl) rfl rfl (by omega)) ?_ | refine tK (l := xk_192) rfl rfl (hIast (hShI1 _ (hShI1 _ (hShI1 _ (hShI1 _ hs1 rfl rfl) rfl rfl) rfl rfl) rfl rfl) rfl (by omega) (by omega)) ?_
      refine tK (l := xk_192) rfl rfl (fun _ _ _ _ _ => rfl) ?_
      refine tK (l := xk_192) rfl rfl (hGetR (o := some 162) (hShI1 _ (hShI1 _ (hShI1 _ (hShI1 _ (hShI1 _ hs1 rfl rfl) rfl rfl) rfl rfl) rfl rfl) rfl rfl) rfl rfl rfl (by decide) (by decide) rfl) ?_
      refine tK (l := xk_192) rfl rfl (fun _ _ _ _ _ => rfl) ?_
      refine tK (l := xk_192) rfl rfl (fun _ _ _ _ _ => rfl) ?_
      refine tK (l := xk_192) rfl rfl (hGetR (o := some 163) (hShI1 _ (hShI1 _ (hShI1 _ (hShI1 _ (hShI1 _ hs1 rfl rfl) rfl rfl) rfl rfl) rfl rfl) rfl rfl) rfl rfl rfl (by decide) (by decide) rfl) ?_
      refine tK (l := xk_192) rfl rfl (fun _ _ _ _ _ => rfl) ?_
      first | refine tK (l := xk_192) rfl rfl (hIaldN (hShI1 _ (hShI1 _ (hShI1 _ (hShI1 _ (hShI1 _ hs1 rfl rfl) rfl rfl) rfl rfl) rfl rfl) rfl rfl) rfl rfl (by omega)) ?_ | refine tK (l := xk_192) rfl rfl (hIald (hShI1 _ (hShI1 _ (hShI1 _ (hShI1 _ (hShI1 _ hs1 rfl rfl) rfl rfl) rfl rfl) rfl rfl) rfl rfl) rfl (by omega) (by omega)) ?_
      rw [x63]
      first | refine tK (l := xk_192) rfl rfl (hIastN (hShI1 _ (hShI1 _ (hShI1 _ (hShI1 _ (hShI1 _ hs1 rfl rfl) rfl rfl) rfl rfl) rfl rfl) rfl rfl) rfl rfl (by omega)) ?_ | refine tK (l := xk_192) rfl rfl (hIast (hShI1 _ (hShI1 _ (hShI1 _ (hShI1 _ (hShI1 _ hs1 rfl rfl) rfl rfl) rfl rfl) rfl rfl) rfl rfl) rfl (by omega) (by omega)) ?_
      refine tRt (l := xk_192) rfl rfl (fun _ _ _ _ _ => rfl) ?_
      have rd : ∀ q j, hRd (hUp (hUp (hUp (hUp (hUp (hUp ph1 155 (250 * sc.length + 25 * 8) 1) 155 (250 * sc.length + 25 * 8 + 1) (48 + (p : Int))) 155 (250 * sc.length + 25 * 8 + 2) (48 + (p : Int) % 10)) 155 (250 * sc.length + 25 * 9) 1) 155 (250 * sc.length + 25 * 9 + 1) c) 162 m (b : Int)) q j = if q = 162 ∧ j = m then (b : Int) else if q = 155 ∧ j = 250 * sc.length + 25 * 9 + 1 then c else if q = 155 ∧ j = 250 * sc.length + 25 * 9 then 1 else if q = 155 ∧ j = 250 * sc.length + 25 * 8 + 2 then (48 + (p : Int) % 10) else if q = 155 ∧ j = 250 * sc.length + 25 * 8 + 1 then (48 + (p : Int)) else if q = 155 ∧ j = 250 * sc.length + 25 * 8 then 1 else hRd ph1 q j := fun q j => by rw [hRd_up u5 (a := 162) (k := m) (x := (b : Int)) rfl (by omega), hRd_up u4 (a := 155) (k := (250 * sc.length + 25 * 9 + 1)) (x := c) rfl (by omega), hRd_up u3 (a := 155) (k := (250 * sc.length + 25 * 9)) (x := 1) rfl (by omega), hRd_up u2 (a := 155) (k := (250 * sc.length + 25 * 8 + 2)) (x := (48 + (p : Int) % 10)) rfl (by omega), hRd_up u1 (a := 155) (k := (250 * sc.length + 25 * 8 + 1)) (x := (48 + (p : Int))) rfl (by omega), hRd_up hs1 (a := 155) (k := (250 * sc.length + 25 * 8)) (x := 1) rfl (by omega)]
      have f2 : hFM [28] [155, 162] ph1 (hUp (hUp (hUp (hUp (hUp (hUp ph1 155 (250 * sc.length + 25 * 8) 1) 155 (250 * sc.length + 25 * 8 + 1) (48 + (p : Int))) 155 (250 * sc.length + 25 * 8 + 2) (48 + (p : Int) % 10)) 155 (250 * sc.length + 25 * 9) 1) 155 (250 * sc.length + 25 * 9 + 1) c) 162 m (b : Int)) := (((((hFM_a hs1 rfl (by omega) (by decide) (by decide)).trans (hFM_a u1 rfl (by omega) (by decide) (by decide))).trans (hFM_a u2 rfl (by omega) (by decide) (by decide))).trans (hFM_a u3 rfl (by omega) (by decide) (by decide))).trans (hFM_a u4 rfl (by omega) (by decide) (by decide))).trans (hFM_a u5 rfl (by omega) (by decide) (by decide))
      have N6 : ∀ q j, q ≠ 162 → q ≠ 155 → hRd (hUp (hUp (hUp (hUp (hUp (hUp ph1 155 (250 * sc.length + 25 * 8) 1) 155 (250 * sc.length + 25 * 8 + 1) (48 + (p : Int))) 155 (250 * sc.length + 25 * 8 + 2) (48 + (p : Int) % 10)) 155 (250 * sc.length + 25 * 9) 1) 155 (250 * sc.length + 25 * 9 + 1) c) 162 m (b : Int)) q j = hRd ph1 q j := fun q j w1 w2 => by rw [rd, if_neg (by omega), if_neg (by omega), if_neg (by omega), if_neg (by omega), if_neg (by omega), if_neg (by omega)]
      have hml := r1.2.1.2.2
      refine hQ _ (h.scs (hShI1 _ (hShI1 _ (hShI1 _ (hShI1 _ (hShI1 _ (hShI1 _ hs1 rfl rfl) rfl rfl) rfl rfl) rfl rfl) rfl rfl) rfl rfl) ((f1.mono (by decide) (by decide)).trans f2) (by rw [N6 _ _ (by decide) (by decide)]; exact r1.2.1.1) (by simp only [List.length_cons]; omega) ⟨fun n hn => ?_, hml.2.eq (fun j hj => by rw [rd, if_neg (by omega), if_neg (by omega), if_neg (by omega), if_neg (by omega), if_neg (by omega), if_neg (by omega)])⟩) ((f1.mono (by decide) (by decide)).trans f2) (fun j hj => ?_) ?_
      · by_cases e8 : n = 8
        · subst e8
          have ed : psc p c 8 = some (dg p) := rfl
          rw [ed]
          have e9 : dg p = [48 + (p : Int)] := by unfold dg; rw [if_pos (by omega)]
          rw [e9]
          refine ⟨by rw [rd, if_neg (by omega), if_neg (by omega), if_neg (by omega), if_neg (by omega), if_neg (by omega), if_pos ⟨rfl, rfl⟩]; rfl, fun s hs => ?_⟩
          cases hs
          refine ⟨by simp, fun i c2 hi => ?_⟩
          match i, hi with
          | 0, hi =>
            simp only [List.getElem?_cons_zero, Option.some.injEq] at hi
            rw [rd, if_neg (by omega), if_neg (by omega), if_neg (by omega), if_neg (by omega), if_pos ⟨rfl, rfl⟩, hi]
          | i + 1, hi => simp at hi
        · by_cases e9 : n = 9
          · subst e9
            have ed : psc p c 9 = some [c] := rfl
            rw [ed]
            refine ⟨by rw [rd, if_neg (by omega), if_neg (by omega), if_pos ⟨rfl, rfl⟩]; rfl, fun s hs => ?_⟩
            cases hs
            refine ⟨by simp, fun i c2 hi => ?_⟩
            match i, hi with
            | 0, hi =>
              simp only [List.getElem?_cons_zero, Option.some.injEq] at hi
              rw [rd, if_neg (by omega), if_pos ⟨rfl, rfl⟩, hi]
            | i + 1, hi => simp at hi
          · have ed : psc p c n = none := by unfold psc; rw [if_neg e8, if_neg e9]
            rw [ed]
            refine ⟨?_, fun s hs => by cases hs⟩
            rw [rd, if_neg (by omega), if_neg (by omega), if_neg (by omega), if_neg (by omega), if_neg (by omega), if_neg (by omega)]
            exact (hml.1 n hn).1
      · rw [rd, if_neg (by omega), if_neg (by omega), if_neg (by omega), if_neg (by omega), if_neg (by omega), if_neg (by omega), f1.at (by decide)]
      · rw [rd, if_pos ⟨rfl, rfl⟩]
theorem s192 {m p b : Nat} {c : Int} (h : hMN zs ph (sc, r2)) (hl : sc.length ≤ 40) (hm : m < 64) (h65 : hRd ph 165 m = (p : Int)) (hp : p ≤ 23) (h67 : hRd ph 167 (24 * m + p) = c) (h63 : hRd ph 163 m = (b : Int)) (hQ : ∀ ph2, hMN zs ph2 (psc p c :: sc, r2) → hFM [28] [155, 162] ph ph2 → (∀ j, j ≠ m → hRd ph2 162 j = hRd ph 162 j) → hRd ph2 162 m = (b : Int) → Q (.inl none, ph2, g)) : xTC (d + 2) 192 [.inr (.inl (some 147)), .inl (m : Int)] ph g Q := by
  by_cases hb : 9 < p
  · exact s192_1 hb h hl hm h65 hp h67 h63 hQ
  · exact s192_0 hb h hl hm h65 hp h67 h63 hQ
end MPS
