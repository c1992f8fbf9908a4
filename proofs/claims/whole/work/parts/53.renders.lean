/-! ===== the model renders ===== -/
section MRP
variable {d : Nat} {ph : xH} {zs : List xV} {g : Nat} {Q : xR → Prop} {fs : List Fm} {rs : RS}
theorem hMC.top {m : Nat} (h : hMC zs ph fs rs) (hm : fs.length = m + 1) : hRd ph 161 m = (frO (cP fs).length : Int) ∧ hRd ph 162 m = (cX fs : Int) := by
  obtain ⟨a1, a2, a3, -⟩ := h
  cases fs with
  | nil => exact absurd rfl a2
  | cons f gs =>
    simp only [List.length_cons, Nat.add_right_cancel_iff] at hm
    subst hm
    exact ⟨a3.2.2.2.2.1, a3.2.2.2.2.2.1⟩
theorem hMC.cnt (h : hMC zs ph fs rs) (hst : rs.2.2.2.1 < 200) : hMC zs (hUp ph 147 23 ((rs.2.2.2.1 : Int) + 1)) fs (ctS rs) ∧ hFM [23] [] ph (hUp ph 147 23 ((rs.2.2.2.1 : Int) + 1)) := by
  have hs := h.1.1
  have f1 : hFM [23] [] ph (hUp ph 147 23 ((rs.2.2.2.1 : Int) + 1)) := hFM_f hs rfl (by decide) (by decide)
  obtain ⟨-, ⟨q1, q2, q3⟩, ⟨q4, q5, q6⟩, ⟨q7, q8, q9⟩, q10, q11, q12, q13, q14, q15⟩ := h.1
  exact ⟨h.fr ⟨hShI1 _ hs rfl rfl, ⟨by rw [f1.fl (by decide)]; exact q1, q2, q3.eq (fun j _ => f1.at (by decide) j)⟩, ⟨by rw [f1.fl (by decide)]; exact q4, q5, q6.eq (fun j _ => f1.at (by decide) j) (fun j _ => f1.at (by decide) j)⟩, ⟨by rw [f1.fl (by decide)]; exact q7, q8, fun i c hi => by rw [f1.at (by decide)]; exact q9 i c hi⟩, by rw [hRd_up hs rfl (by decide), if_pos ⟨rfl, rfl⟩]; simp [ctS], (show rs.2.2.2.1 + 1 ≤ 200 by omega), by rw [f1.fl (by decide)]; exact q12, by rw [f1.fl (by decide)]; exact q13, by rw [f1.fl (by decide)]; exact q14, q15⟩ rfl f1, f1⟩
theorem s193_f {x : Nat} {c : Int} {D : Cf} (h : hMC zs ph fs rs) (hok : okC (RU fs rs)) (hx : cX fs = x) (hst : rs.2.2.2.1 = 200) (g1 : (cT fs)[x]? = some c) (hD : D = FL fs rs 3 x) (hQ : ∀ ph2, TM zs ph2 D → hFM mF mA ph ph2 → Q (.inl none, ph2, g)) : xTC (d + 6) 193 [.inr (.inl (some 147))] ph g Q := by
  obtain ⟨z1, z2, z3, z4, z5, z6, z7, z8⟩ := hSzM
  obtain ⟨y1, y2, y3, y4, y5, y6, y7, y8, y9⟩ := hSzO
  obtain ⟨a1, a2, a3, a4, a5, a6, a7, a8⟩ := id h
  have hs := a1.1
  obtain ⟨t1, t2, t3, t4⟩ := h.text
  have hokt : oks (cT fs) := ok_cT hok.1
  have hfp := List.length_pos_iff.mpr a2
  obtain ⟨m, hm⟩ : ∃ m, fs.length = m + 1 := ⟨fs.length - 1, by omega⟩
  have e43 : hRd ph 147 43 = ((m + 1 : Nat) : Int) := by rw [a4, hm]
  have ek : ((m + 1 : Nat) : Int) - 1 = (m : Int) := by omega
  obtain ⟨eF, eX⟩ := h.top hm
  rw [hx] at eX
  have e23 : hRd ph 147 23 = (rs.2.2.2.1 : Int) := a1.2.2.2.2.1
  have e0 : hRd ph 152 ((frO (cP fs).length) + x) = c := t1 x c g1
  have hxl := (List.getElem?_eq_some_iff.mp g1).1
  refine tEn (ls := [some (.inr (.inl (some 147))), none, none, none, none]) (fun k => by match k with | 0 => rfl | 1 => rfl | 2 => rfl | 3 => rfl | 4 => rfl | k + 5 => rfl) ?_
  refine tK (l := xk_193) rfl rfl (fun _ _ _ _ _ => rfl) ?_
  refine tK (l := xk_193) rfl rfl (hGetI hs rfl rfl rfl (by decide) (by decide)) ?_
  rw [e43]
  refine tK (l := xk_193) rfl rfl (fun _ _ _ _ _ => rfl) ?_
  refine tK (l := xk_193) rfl rfl (hSub ⟨by omega, by omega⟩) ?_
  rw [ek]
  refine tSt (l := xk_193) rfl rfl (fun _ _ _ _ _ => rfl) (Nat.le_of_ble_eq_true rfl) ?_
  refine tK (l := xk_193) rfl rfl (fun _ _ _ _ _ => rfl) ?_
  refine tK (l := xk_193) rfl rfl (hGetR (o := some 161) hs rfl rfl rfl (by decide) (by decide) rfl) ?_
  refine tK (l := xk_193) rfl rfl (fun _ _ _ _ _ => rfl) ?_
  first | refine tK (l := xk_193) rfl rfl (hIaldN hs rfl rfl (by omega)) ?_ | refine tK (l := xk_193) rfl rfl (hIald hs rfl (by omega) (by omega)) ?_
  rw [eF]
  refine tSt (l := xk_193) rfl rfl (fun _ _ _ _ _ => rfl) (Nat.le_of_ble_eq_true rfl) ?_
  refine tK (l := xk_193) rfl rfl (fun _ _ _ _ _ => rfl) ?_
  refine tK (l := xk_193) rfl rfl (hGetR (o := some 162) hs rfl rfl rfl (by decide) (by decide) rfl) ?_
  refine tK (l := xk_193) rfl rfl (fun _ _ _ _ _ => rfl) ?_
  first | refine tK (l := xk_193) rfl rfl (hIaldN hs rfl rfl (by omega)) ?_ | refine tK (l := xk_193) rfl rfl (hIald hs rfl (by omega) (by omega)) ?_
  rw [eX]
  refine tSt (l := xk_193) rfl rfl (fun _ _ _ _ _ => rfl) (Nat.le_of_ble_eq_true rfl) ?_
  refine tK (l := xk_193) rfl rfl (fun _ _ _ _ _ => rfl) ?_
  refine tK (l := xk_193) rfl rfl (hGetR (o := some 152) hs rfl rfl rfl (by decide) (by decide) rfl) ?_
  refine tK (l := xk_193) rfl rfl (fun _ _ _ _ _ => rfl) ?_
  refine tK (l := xk_193) rfl rfl (fun _ _ _ _ _ => rfl) ?_
  refine tK (l := xk_193) rfl rfl (hAdd ⟨by omega, by omega⟩) ?_
  rw [show ((frO (cP fs).length) : Int) + (x : Int) = (((frO (cP fs).length) + x : Nat) : Int) by omega]
  first | refine tK (l := xk_193) rfl rfl (hIaldN hs rfl rfl (by omega)) ?_ | refine tK (l := xk_193) rfl rfl (hIald hs rfl (by omega) (by omega)) ?_
  rw [e0]
  refine tSt (l := xk_193) rfl rfl (fun _ _ _ _ _ => rfl) (Nat.le_of_ble_eq_true rfl) ?_
  refine tK (l := xk_193) rfl rfl (fun _ _ _ _ _ => rfl) ?_
  refine tK (l := xk_193) rfl rfl (hGetI hs rfl rfl rfl (by decide) (by decide)) ?_
  rw [e23]
  refine tK (l := xk_193) rfl rfl (fun _ _ _ _ _ => rfl) ?_
  refine tIc_ne (l := xk_193) (pc' := 48) rfl rfl rfl (fun hc => ?_) (fun hc => ?_)
  · refine tK (l := xk_193) rfl rfl (fun _ _ _ _ _ => rfl) ?_
    refine tK (l := xk_193) rfl rfl (fun _ _ _ _ _ => rfl) ?_
    refine tK (l := xk_193) rfl rfl (fun _ _ _ _ _ => rfl) ?_
    refine tCa (l := xk_193) rfl rfl (hInvV (c := 10) hs rfl rfl rfl rfl rfl (Nat.le_of_ble_eq_true rfl) (Nat.le_of_ble_eq_true rfl)) ?_
    refine s194 (why := 3) (ip := (cP fs).reverse) hs a6 (fun ph2 hs2 f2 hx2 => ?_)
    refine tKn ?_
    refine tRt (l := xk_193) rfl rfl (fun _ _ _ _ _ => rfl) ?_
    subst hD
    exact hQ ph2 (TMf (a1.fr hs2 f2) hx2 rfl (by decide)) f2.big
  · exfalso; omega
theorem s193_0 {x nm : Nat} {D : Cf} (h : hMC zs ph fs rs) (hok : okC (RU fs rs)) (hx : cX fs = x) (hst : rs.2.2.2.1 < 200) {w : Nat} {cd : Int} (hsh : hSim (cT fs) x 0 cd nm w) (hD : PSim fs x 0 cd nm (ctS rs) D) (hQ : ∀ ph2, TM zs ph2 D → hFM mF mA ph ph2 → Q (.inl none, ph2, g)) : xTC (d + 6) 193 [.inr (.inl (some 147))] ph g Q := by
  obtain ⟨z1, z2, z3, z4, z5, z6, z7, z8⟩ := hSzM
  obtain ⟨y1, y2, y3, y4, y5, y6, y7, y8, y9⟩ := hSzO
  obtain ⟨a1, a2, a3, a4, a5, a6, a7, a8⟩ := id h
  have hs := a1.1
  obtain ⟨t1, t2, t3, t4⟩ := h.text
  have hokt : oks (cT fs) := ok_cT hok.1
  have hfp := List.length_pos_iff.mpr a2
  obtain ⟨m, hm⟩ : ∃ m, fs.length = m + 1 := ⟨fs.length - 1, by omega⟩
  have e43 : hRd ph 147 43 = ((m + 1 : Nat) : Int) := by rw [a4, hm]
  have ek : ((m + 1 : Nat) : Int) - 1 = (m : Int) := by omega
  obtain ⟨eF, eX⟩ := h.top hm
  rw [hx] at eX
  have e23 : hRd ph 147 23 = (rs.2.2.2.1 : Int) := a1.2.2.2.2.1
  obtain ⟨g1, g3, g4, g5⟩ : (cT fs)[x]? = some cd ∧ cd ≠ 123 ∧ cd ≠ 125 ∧ cd ≠ 126 := by rcases hsh with q | q | q | q <;> first | exact q.2.2 | exact absurd q.1 (by decide)
  have e0 : hRd ph 152 ((frO (cP fs).length) + x) = cd := t1 x _ g1
  have hxl := (List.getElem?_eq_some_iff.mp g1).1
  obtain ⟨h1, f1⟩ := h.cnt hst
  obtain ⟨hAt, fH⟩ := h1.at (y := x + 1) hm
  have a6H := hAt.2.2.2.2.2.1
  rw [cP_fsN] at a6H
  refine tEn (ls := [some (.inr (.inl (some 147))), none, none, none, none]) (fun k => by match k with | 0 => rfl | 1 => rfl | 2 => rfl | 3 => rfl | 4 => rfl | k + 5 => rfl) ?_
  refine tK (l := xk_193) rfl rfl (fun _ _ _ _ _ => rfl) ?_
  refine tK (l := xk_193) rfl rfl (hGetI hs rfl rfl rfl (by decide) (by decide)) ?_
  rw [e43]
  refine tK (l := xk_193) rfl rfl (fun _ _ _ _ _ => rfl) ?_
  refine tK (l := xk_193) rfl rfl (hSub ⟨by omega, by omega⟩) ?_
  rw [ek]
  refine tSt (l := xk_193) rfl rfl (fun _ _ _ _ _ => rfl) (Nat.le_of_ble_eq_true rfl) ?_
  refine tK (l := xk_193) rfl rfl (fun _ _ _ _ _ => rfl) ?_
  refine tK (l := xk_193) rfl rfl (hGetR (o := some 161) hs rfl rfl rfl (by decide) (by decide) rfl) ?_
  refine tK (l := xk_193) rfl rfl (fun _ _ _ _ _ => rfl) ?_
  first | refine tK (l := xk_193) rfl rfl (hIaldN hs rfl rfl (by omega)) ?_ | refine tK (l := xk_193) rfl rfl (hIald hs rfl (by omega) (by omega)) ?_
  rw [eF]
  refine tSt (l := xk_193) rfl rfl (fun _ _ _ _ _ => rfl) (Nat.le_of_ble_eq_true rfl) ?_
  refine tK (l := xk_193) rfl rfl (fun _ _ _ _ _ => rfl) ?_
  refine tK (l := xk_193) rfl rfl (hGetR (o := some 162) hs rfl rfl rfl (by decide) (by decide) rfl) ?_
  refine tK (l := xk_193) rfl rfl (fun _ _ _ _ _ => rfl) ?_
  first | refine tK (l := xk_193) rfl rfl (hIaldN hs rfl rfl (by omega)) ?_ | refine tK (l := xk_193) rfl rfl (hIald hs rfl (by omega) (by omega)) ?_
  rw [eX]
  refine tSt (l := xk_193) rfl rfl (fun _ _ _ _ _ => rfl) (Nat.le_of_ble_eq_true rfl) ?_
  refine tK (l := xk_193) rfl rfl (fun _ _ _ _ _ => rfl) ?_
  refine tK (l := xk_193) rfl rfl (hGetR (o := some 152) hs rfl rfl rfl (by decide) (by decide) rfl) ?_
  refine tK (l := xk_193) rfl rfl (fun _ _ _ _ _ => rfl) ?_
  refine tK (l := xk_193) rfl rfl (fun _ _ _ _ _ => rfl) ?_
  refine tK (l := xk_193) rfl rfl (hAdd ⟨by omega, by omega⟩) ?_
  rw [show ((frO (cP fs).length) : Int) + (x : Int) = (((frO (cP fs).length) + x : Nat) : Int) by omega]
  first | refine tK (l := xk_193) rfl rfl (hIaldN hs rfl rfl (by omega)) ?_ | refine tK (l := xk_193) rfl rfl (hIald hs rfl (by omega) (by omega)) ?_
  rw [e0]
  refine tSt (l := xk_193) rfl rfl (fun _ _ _ _ _ => rfl) (Nat.le_of_ble_eq_true rfl) ?_
  refine tK (l := xk_193) rfl rfl (fun _ _ _ _ _ => rfl) ?_
  refine tK (l := xk_193) rfl rfl (hGetI hs rfl rfl rfl (by decide) (by decide)) ?_
  rw [e23]
  refine tK (l := xk_193) rfl rfl (fun _ _ _ _ _ => rfl) ?_
  refine tIc_ne (l := xk_193) (pc' := 48) rfl rfl rfl (fun hc => ?_) (fun hc => ?_)
  · exfalso; omega
  · refine tK (l := xk_193) rfl rfl (fun _ _ _ _ _ => rfl) ?_
    refine tK (l := xk_193) rfl rfl (fun _ _ _ _ _ => rfl) ?_
    refine tK (l := xk_193) rfl rfl (hGetI hs rfl rfl rfl (by decide) (by decide)) ?_
    rw [e23]
    refine tK (l := xk_193) rfl rfl (fun _ _ _ _ _ => rfl) ?_
    refine tK (l := xk_193) rfl rfl (hAdd ⟨by omega, by omega⟩) ?_
    refine tK (l := xk_193) rfl rfl (hPutV hs rfl rfl (by decide) (by decide) rfl) ?_
    refine tK (l := xk_193) rfl rfl (fun _ _ _ _ _ => rfl) ?_
    refine tK (l := xk_193) rfl rfl (fun _ _ _ _ _ => rfl) ?_
    refine tIc_ne (l := xk_193) (pc' := 74) rfl rfl rfl (fun hc => ?_) (fun hc => ?_)
    · exact absurd hc g3
    · refine tK (l := xk_193) rfl rfl (fun _ _ _ _ _ => rfl) ?_
      refine tK (l := xk_193) rfl rfl (fun _ _ _ _ _ => rfl) ?_
      refine tIc_ne (l := xk_193) (pc' := 109) rfl rfl rfl (fun hc => ?_) (fun hc => ?_)
      · exact absurd hc g5
      · refine tK (l := xk_193) rfl rfl (fun _ _ _ _ _ => rfl) ?_
        refine tK (l := xk_193) rfl rfl (hGetR (o := some 162) (hShI1 _ hs rfl rfl) rfl rfl rfl (by decide) (by decide) rfl) ?_
        refine tK (l := xk_193) rfl rfl (fun _ _ _ _ _ => rfl) ?_
        refine tK (l := xk_193) rfl rfl (fun _ _ _ _ _ => rfl) ?_
        refine tK (l := xk_193) rfl rfl (fun _ _ _ _ _ => rfl) ?_
        refine tK (l := xk_193) rfl rfl (hAdd ⟨by omega, by omega⟩) ?_
        rw [show (x : Int) + 1 = ((x + 1 : Nat) : Int) by omega]
        first | refine tK (l := xk_193) rfl rfl (hIastN (hShI1 _ hs rfl rfl) rfl rfl (by omega)) ?_ | refine tK (l := xk_193) rfl rfl (hIast (hShI1 _ hs rfl rfl) rfl (by omega) (by omega)) ?_
        refine tK (l := xk_193) rfl rfl (fun _ _ _ _ _ => rfl) ?_
        refine tK (l := xk_193) rfl rfl (fun _ _ _ _ _ => rfl) ?_
        refine tK (l := xk_193) rfl rfl (fun _ _ _ _ _ => rfl) ?_
        refine tK (l := xk_193) rfl rfl (fun _ _ _ _ _ => rfl) ?_
        refine tCa (l := xk_193) rfl rfl (hInvV (c := 10) (hShI1 _ (hShI1 _ hs rfl rfl) rfl rfl) rfl rfl rfl rfl rfl (Nat.le_of_ble_eq_true rfl) (Nat.le_of_ble_eq_true rfl)) ?_
        have hD9 : D = oP fs x (x + 1 + 0) (prF cd 0 (ctS rs)) := by rcases hD with ⟨q0, hz⟩ | ⟨q0, hz⟩ | ⟨q0, hz⟩ | ⟨q0, hz⟩ | ⟨q0, hz⟩ | ⟨q0, hz⟩ | ⟨q0, hz⟩ <;> first | exact hz | exact absurd q0 (by decide)
        refine s198_0 (ip := (cP fs).reverse) hAt.1 a6H (fun ph3 n3 w3 f3 => ?_) (fun ph3 n3 w3 f3 x3 => ?_)
        · refine tKn ?_
          refine tRt (l := xk_193) rfl rfl (fun _ _ _ _ _ => rfl) ?_
          exact hQ ph3 (TM_oP hAt n3 (f3.mono (F2 := [19, 20, 22, 24, 25, 26]) (S2 := [153, 154, 156, 157]) (by decide) (by decide)) (by rw [f3.fl (by decide), hAt.2.2.2.2.2.2.1.1]; exact congrArg Int.ofNat w3.symm) (fun _ => f3.fl (by decide)) (fun q => absurd w3 q) (by rw [(prF_sc _ _ _).1]; rfl) hD9) (f1.big.trans (fH.big.trans f3.big))
        · refine tKn ?_
          refine tRt (l := xk_193) rfl rfl (fun _ _ _ _ _ => rfl) ?_
          exact hQ ph3 (TM_oP hAt n3 (f3.mono (F2 := [19, 20, 22, 24, 25, 26]) (S2 := [153, 154, 156, 157]) (by decide) (by decide)) x3.1 (fun q => absurd q w3) (fun _ => x3) (by rw [(prF_sc _ _ _).1]; rfl) hD9) (f1.big.trans (fH.big.trans f3.big))
theorem s193_1 {x nm : Nat} {D : Cf} (h : hMC zs ph fs rs) (hok : okC (RU fs rs)) (hx : cX fs = x) (hst : rs.2.2.2.1 < 200) {w : Nat} {cd : Int} (hsh : hSim (cT fs) x 1 cd nm w) (hD : PSim fs x 1 cd nm (ctS rs) D) (hQ : ∀ ph2, TM zs ph2 D → hFM mF mA ph ph2 → Q (.inl none, ph2, g)) : xTC (d + 6) 193 [.inr (.inl (some 147))] ph g Q := by
  obtain ⟨z1, z2, z3, z4, z5, z6, z7, z8⟩ := hSzM
  obtain ⟨y1, y2, y3, y4, y5, y6, y7, y8, y9⟩ := hSzO
  obtain ⟨a1, a2, a3, a4, a5, a6, a7, a8⟩ := id h
  have hs := a1.1
  obtain ⟨t1, t2, t3, t4⟩ := h.text
  have hokt : oks (cT fs) := ok_cT hok.1
  have hfp := List.length_pos_iff.mpr a2
  obtain ⟨m, hm⟩ : ∃ m, fs.length = m + 1 := ⟨fs.length - 1, by omega⟩
  have e43 : hRd ph 147 43 = ((m + 1 : Nat) : Int) := by rw [a4, hm]
  have ek : ((m + 1 : Nat) : Int) - 1 = (m : Int) := by omega
  obtain ⟨eF, eX⟩ := h.top hm
  rw [hx] at eX
  have e23 : hRd ph 147 23 = (rs.2.2.2.1 : Int) := a1.2.2.2.2.1
  obtain ⟨g1, g2⟩ : (cT fs)[x]? = some 126 ∧ (cT fs)[x + 1]? = some cd := by rcases hsh with q | q | q | q <;> first | exact q.2.2 | exact absurd q.1 (by decide)
  have hxl2 := (List.getElem?_eq_some_iff.mp g2).1
  have e0 : hRd ph 152 ((frO (cP fs).length) + x) = 126 := t1 x _ g1
  have hxl := (List.getElem?_eq_some_iff.mp g1).1
  obtain ⟨h1, f1⟩ := h.cnt hst
  obtain ⟨hAt, fH⟩ := h1.at (y := x + 2) hm
  have a6H := hAt.2.2.2.2.2.1
  rw [cP_fsN] at a6H
  have e1 : hRd (hUp (hUp ph 147 23 ((rs.2.2.2.1 : Int) + 1)) 162 m ((x + 2 : Nat) : Int)) 152 ((frO (cP fs).length) + x + 1) = cd := by rw [fH.at (by decide), f1.at (by decide)]; exact t1 (x + 1) cd g2
  refine tEn (ls := [some (.inr (.inl (some 147))), none, none, none, none]) (fun k => by match k with | 0 => rfl | 1 => rfl | 2 => rfl | 3 => rfl | 4 => rfl | k + 5 => rfl) ?_
  refine tK (l := xk_193) rfl rfl (fun _ _ _ _ _ => rfl) ?_
  refine tK (l := xk_193) rfl rfl (hGetI hs rfl rfl rfl (by decide) (by decide)) ?_
  rw [e43]
  refine tK (l := xk_193) rfl rfl (fun _ _ _ _ _ => rfl) ?_
  refine tK (l := xk_193) rfl rfl (hSub ⟨by omega, by omega⟩) ?_
  rw [ek]
  refine tSt (l := xk_193) rfl rfl (fun _ _ _ _ _ => rfl) (Nat.le_of_ble_eq_true rfl) ?_
  refine tK (l := xk_193) rfl rfl (fun _ _ _ _ _ => rfl) ?_
  refine tK (l := xk_193) rfl rfl (hGetR (o := some 161) hs rfl rfl rfl (by decide) (by decide) rfl) ?_
  refine tK (l := xk_193) rfl rfl (fun _ _ _ _ _ => rfl) ?_
  first | refine tK (l := xk_193) rfl rfl (hIaldN hs rfl rfl (by omega)) ?_ | refine tK (l := xk_193) rfl rfl (hIald hs rfl (by omega) (by omega)) ?_
  rw [eF]
  refine tSt (l := xk_193) rfl rfl (fun _ _ _ _ _ => rfl) (Nat.le_of_ble_eq_true rfl) ?_
  refine tK (l := xk_193) rfl rfl (fun _ _ _ _ _ => rfl) ?_
  refine tK (l := xk_193) rfl rfl (hGetR (o := some 162) hs rfl rfl rfl (by decide) (by decide) rfl) ?_
  refine tK (l := xk_193) rfl rfl (fun _ _ _ _ _ => rfl) ?_
  first | refine tK (l := xk_193) rfl rfl (hIaldN hs rfl rfl (by omega)) ?_ | refine tK (l := xk_193) rfl rfl (hIald hs rfl (by omega) (by omega)) ?_
  rw [eX]
  refine tSt (l := xk_193) rfl rfl (fun _ _ _ _ _ => rfl) (Nat.le_of_ble_eq_true rfl) ?_
  refine tK (l := xk_193) rfl rfl (fun _ _ _ _ _ => rfl) ?_
  refine tK (l := xk_193) rfl rfl (hGetR (o := some 152) hs rfl rfl rfl (by decide) (by decide) rfl) ?_
  refine tK (l := xk_193) rfl rfl (fun _ _ _ _ _ => rfl) ?_
  refine tK (l := xk_193) rfl rfl (fun _ _ _ _ _ => rfl) ?_
  refine tK (l := xk_193) rfl rfl (hAdd ⟨by omega, by omega⟩) ?_
  rw [show ((frO (cP fs).length) : Int) + (x : Int) = (((frO (cP fs).length) + x : Nat) : Int) by omega]
  first | refine tK (l := xk_193) rfl rfl (hIaldN hs rfl rfl (by omega)) ?_ | refine tK (l := xk_193) rfl rfl (hIald hs rfl (by omega) (by omega)) ?_
  rw [e0]
  refine tSt (l := xk_193) rfl rfl (fun _ _ _ _ _ => rfl) (Nat.le_of_ble_eq_true rfl) ?_
  refine tK (l := xk_193) rfl rfl (fun _ _ _ _ _ => rfl) ?_
  refine tK (l := xk_193) rfl rfl (hGetI hs rfl rfl rfl (by decide) (by decide)) ?_
  rw [e23]
  refine tK (l := xk_193) rfl rfl (fun _ _ _ _ _ => rfl) ?_
  refine tIc_ne (l := xk_193) (pc' := 48) rfl rfl rfl (fun hc => ?_) (fun hc => ?_)
  · exfalso; omega
  · refine tK (l := xk_193) rfl rfl (fun _ _ _ _ _ => rfl) ?_
    refine tK (l := xk_193) rfl rfl (fun _ _ _ _ _ => rfl) ?_
    refine tK (l := xk_193) rfl rfl (hGetI hs rfl rfl rfl (by decide) (by decide)) ?_
    rw [e23]
    refine tK (l := xk_193) rfl rfl (fun _ _ _ _ _ => rfl) ?_
    refine tK (l := xk_193) rfl rfl (hAdd ⟨by omega, by omega⟩) ?_
    refine tK (l := xk_193) rfl rfl (hPutV hs rfl rfl (by decide) (by decide) rfl) ?_
    refine tK (l := xk_193) rfl rfl (fun _ _ _ _ _ => rfl) ?_
    refine tK (l := xk_193) rfl rfl (fun _ _ _ _ _ => rfl) ?_
    refine tIc_ne (l := xk_193) (pc' := 74) rfl rfl rfl (fun hc => ?_) (fun hc => ?_)
    · exact absurd hc (by decide)
    · refine tK (l := xk_193) rfl rfl (fun _ _ _ _ _ => rfl) ?_
      refine tK (l := xk_193) rfl rfl (fun _ _ _ _ _ => rfl) ?_
      refine tIc_ne (l := xk_193) (pc' := 109) rfl rfl rfl (fun hc => ?_) (fun hc => ?_)
      · refine tK (l := xk_193) rfl rfl (fun _ _ _ _ _ => rfl) ?_
        refine tK (l := xk_193) rfl rfl (hGetR (o := some 162) (hShI1 _ hs rfl rfl) rfl rfl rfl (by decide) (by decide) rfl) ?_
        refine tK (l := xk_193) rfl rfl (fun _ _ _ _ _ => rfl) ?_
        refine tK (l := xk_193) rfl rfl (fun _ _ _ _ _ => rfl) ?_
        refine tK (l := xk_193) rfl rfl (fun _ _ _ _ _ => rfl) ?_
        refine tK (l := xk_193) rfl rfl (hAdd ⟨by omega, by omega⟩) ?_
        rw [show (x : Int) + 2 = ((x + 2 : Nat) : Int) by omega]
        first | refine tK (l := xk_193) rfl rfl (hIastN (hShI1 _ hs rfl rfl) rfl rfl (by omega)) ?_ | refine tK (l := xk_193) rfl rfl (hIast (hShI1 _ hs rfl rfl) rfl (by omega) (by omega)) ?_
        refine tK (l := xk_193) rfl rfl (fun _ _ _ _ _ => rfl) ?_
        refine tK (l := xk_193) rfl rfl (fun _ _ _ _ _ => rfl) ?_
        refine tK (l := xk_193) rfl rfl (hGetR (o := some 152) (hShI1 _ (hShI1 _ hs rfl rfl) rfl rfl) rfl rfl rfl (by decide) (by decide) rfl) ?_
        refine tK (l := xk_193) rfl rfl (fun _ _ _ _ _ => rfl) ?_
        refine tK (l := xk_193) rfl rfl (fun _ _ _ _ _ => rfl) ?_
        refine tK (l := xk_193) rfl rfl (hAdd ⟨by omega, by omega⟩) ?_
        rw [show ((frO (cP fs).length) : Int) + (x : Int) = (((frO (cP fs).length) + x : Nat) : Int) by omega]
        refine tK (l := xk_193) rfl rfl (fun _ _ _ _ _ => rfl) ?_
        refine tK (l := xk_193) rfl rfl (hAdd ⟨by omega, by omega⟩) ?_
        rw [show (((frO (cP fs).length) + x : Nat) : Int) + 1 = (((frO (cP fs).length) + x + 1 : Nat) : Int) by omega]
        first | refine tK (l := xk_193) rfl rfl (hIaldN (hShI1 _ (hShI1 _ hs rfl rfl) rfl rfl) rfl rfl (by omega)) ?_ | refine tK (l := xk_193) rfl rfl (hIald (hShI1 _ (hShI1 _ hs rfl rfl) rfl rfl) rfl (by omega) (by omega)) ?_
        rw [e1]
        refine tK (l := xk_193) rfl rfl (fun _ _ _ _ _ => rfl) ?_
        refine tK (l := xk_193) rfl rfl (fun _ _ _ _ _ => rfl) ?_
        refine tCa (l := xk_193) rfl rfl (hInvV (c := 10) (hShI1 _ (hShI1 _ hs rfl rfl) rfl rfl) rfl rfl rfl rfl rfl (Nat.le_of_ble_eq_true rfl) (Nat.le_of_ble_eq_true rfl)) ?_
        have hD9 : D = oP fs x (x + 1 + 1) (prF cd 1 (ctS rs)) := by rcases hD with ⟨q0, hz⟩ | ⟨q0, hz⟩ | ⟨q0, hz⟩ | ⟨q0, hz⟩ | ⟨q0, hz⟩ | ⟨q0, hz⟩ | ⟨q0, hz⟩ <;> first | exact hz | exact absurd q0 (by decide)
        refine s198_1 (ip := (cP fs).reverse) hAt.1 a6H (fun ph3 n3 w3 f3 => ?_) (fun ph3 n3 w3 f3 x3 => ?_)
        · refine tKn ?_
          refine tK (l := xk_193) rfl rfl (fun _ _ _ _ _ => rfl) ?_
          refine tRt (l := xk_193) rfl rfl (fun _ _ _ _ _ => rfl) ?_
          exact hQ ph3 (TM_oP hAt n3 (f3.mono (F2 := [19, 20, 22, 24, 25, 26]) (S2 := [153, 154, 156, 157]) (by decide) (by decide)) (by rw [f3.fl (by decide), hAt.2.2.2.2.2.2.1.1]; exact congrArg Int.ofNat w3.symm) (fun _ => f3.fl (by decide)) (fun q => absurd w3 q) (by rw [(prF_sc _ _ _).1]; rfl) hD9) (f1.big.trans (fH.big.trans f3.big))
        · refine tKn ?_
          refine tK (l := xk_193) rfl rfl (fun _ _ _ _ _ => rfl) ?_
          refine tRt (l := xk_193) rfl rfl (fun _ _ _ _ _ => rfl) ?_
          exact hQ ph3 (TM_oP hAt n3 (f3.mono (F2 := [19, 20, 22, 24, 25, 26]) (S2 := [153, 154, 156, 157]) (by decide) (by decide)) x3.1 (fun q => absurd q w3) (fun _ => x3) (by rw [(prF_sc _ _ _).1]; rfl) hD9) (f1.big.trans (fH.big.trans f3.big))
      · exact absurd rfl hc
theorem s193_2 {x nm : Nat} {D : Cf} (h : hMC zs ph fs rs) (hok : okC (RU fs rs)) (hx : cX fs = x) (hst : rs.2.2.2.1 < 200) {w : Nat} {cd : Int} (hsh : hSim (cT fs) x 2 cd nm w) (hD : PSim fs x 2 cd nm (ctS rs) D) (hQ : ∀ ph2, TM zs ph2 D → hFM mF mA ph ph2 → Q (.inl none, ph2, g)) : xTC (d + 6) 193 [.inr (.inl (some 147))] ph g Q := by
  obtain ⟨z1, z2, z3, z4, z5, z6, z7, z8⟩ := hSzM
  obtain ⟨y1, y2, y3, y4, y5, y6, y7, y8, y9⟩ := hSzO
  obtain ⟨a1, a2, a3, a4, a5, a6, a7, a8⟩ := id h
  have hs := a1.1
  obtain ⟨t1, t2, t3, t4⟩ := h.text
  have hokt : oks (cT fs) := ok_cT hok.1
  have hfp := List.length_pos_iff.mpr a2
  obtain ⟨m, hm⟩ : ∃ m, fs.length = m + 1 := ⟨fs.length - 1, by omega⟩
  have e43 : hRd ph 147 43 = ((m + 1 : Nat) : Int) := by rw [a4, hm]
  have ek : ((m + 1 : Nat) : Int) - 1 = (m : Int) := by omega
  obtain ⟨eF, eX⟩ := h.top hm
  rw [hx] at eX
  have e23 : hRd ph 147 23 = (rs.2.2.2.1 : Int) := a1.2.2.2.2.1
  have g1 : (cT fs)[x]? = some 123 := by rcases hsh with q | q | q | q <;> first | exact q.2.2.1 | exact absurd q.1 (by decide)
  have e0 : hRd ph 152 ((frO (cP fs).length) + x) = 123 := t1 x _ g1
  have hxl := (List.getElem?_eq_some_iff.mp g1).1
  obtain ⟨h1, f1⟩ := h.cnt hst
  refine tEn (ls := [some (.inr (.inl (some 147))), none, none, none, none]) (fun k => by match k with | 0 => rfl | 1 => rfl | 2 => rfl | 3 => rfl | 4 => rfl | k + 5 => rfl) ?_
  refine tK (l := xk_193) rfl rfl (fun _ _ _ _ _ => rfl) ?_
  refine tK (l := xk_193) rfl rfl (hGetI hs rfl rfl rfl (by decide) (by decide)) ?_
  rw [e43]
  refine tK (l := xk_193) rfl rfl (fun _ _ _ _ _ => rfl) ?_
  refine tK (l := xk_193) rfl rfl (hSub ⟨by omega, by omega⟩) ?_
  rw [ek]
  refine tSt (l := xk_193) rfl rfl (fun _ _ _ _ _ => rfl) (Nat.le_of_ble_eq_true rfl) ?_
  refine tK (l := xk_193) rfl rfl (fun _ _ _ _ _ => rfl) ?_
  refine tK (l := xk_193) rfl rfl (hGetR (o := some 161) hs rfl rfl rfl (by decide) (by decide) rfl) ?_
  refine tK (l := xk_193) rfl rfl (fun _ _ _ _ _ => rfl) ?_
  first | refine tK (l := xk_193) rfl rfl (hIaldN hs rfl rfl (by omega)) ?_ | refine tK (l := xk_193) rfl rfl (hIald hs rfl (by omega) (by omega)) ?_
  rw [eF]
  refine tSt (l := xk_193) rfl rfl (fun _ _ _ _ _ => rfl) (Nat.le_of_ble_eq_true rfl) ?_
  refine tK (l := xk_193) rfl rfl (fun _ _ _ _ _ => rfl) ?_
  refine tK (l := xk_193) rfl rfl (hGetR (o := some 162) hs rfl rfl rfl (by decide) (by decide) rfl) ?_
  refine tK (l := xk_193) rfl rfl (fun _ _ _ _ _ => rfl) ?_
  first | refine tK (l := xk_193) rfl rfl (hIaldN hs rfl rfl (by omega)) ?_ | refine tK (l := xk_193) rfl rfl (hIald hs rfl (by omega) (by omega)) ?_
  rw [eX]
  refine tSt (l := xk_193) rfl rfl (fun _ _ _ _ _ => rfl) (Nat.le_of_ble_eq_true rfl) ?_
  refine tK (l := xk_193) rfl rfl (fun _ _ _ _ _ => rfl) ?_
  refine tK (l := xk_193) rfl rfl (hGetR (o := some 152) hs rfl rfl rfl (by decide) (by decide) rfl) ?_
  refine tK (l := xk_193) rfl rfl (fun _ _ _ _ _ => rfl) ?_
  refine tK (l := xk_193) rfl rfl (fun _ _ _ _ _ => rfl) ?_
  refine tK (l := xk_193) rfl rfl (hAdd ⟨by omega, by omega⟩) ?_
  rw [show ((frO (cP fs).length) : Int) + (x : Int) = (((frO (cP fs).length) + x : Nat) : Int) by omega]
  first | refine tK (l := xk_193) rfl rfl (hIaldN hs rfl rfl (by omega)) ?_ | refine tK (l := xk_193) rfl rfl (hIald hs rfl (by omega) (by omega)) ?_
  rw [e0]
  refine tSt (l := xk_193) rfl rfl (fun _ _ _ _ _ => rfl) (Nat.le_of_ble_eq_true rfl) ?_
  refine tK (l := xk_193) rfl rfl (fun _ _ _ _ _ => rfl) ?_
  refine tK (l := xk_193) rfl rfl (hGetI hs rfl rfl rfl (by decide) (by decide)) ?_
  rw [e23]
  refine tK (l := xk_193) rfl rfl (fun _ _ _ _ _ => rfl) ?_
  refine tIc_ne (l := xk_193) (pc' := 48) rfl rfl rfl (fun hc => ?_) (fun hc => ?_)
  · exfalso; omega
  · refine tK (l := xk_193) rfl rfl (fun _ _ _ _ _ => rfl) ?_
    refine tK (l := xk_193) rfl rfl (fun _ _ _ _ _ => rfl) ?_
    refine tK (l := xk_193) rfl rfl (hGetI hs rfl rfl rfl (by decide) (by decide)) ?_
    rw [e23]
    refine tK (l := xk_193) rfl rfl (fun _ _ _ _ _ => rfl) ?_
    refine tK (l := xk_193) rfl rfl (hAdd ⟨by omega, by omega⟩) ?_
    refine tK (l := xk_193) rfl rfl (hPutV hs rfl rfl (by decide) (by decide) rfl) ?_
    refine tK (l := xk_193) rfl rfl (fun _ _ _ _ _ => rfl) ?_
    refine tK (l := xk_193) rfl rfl (fun _ _ _ _ _ => rfl) ?_
    refine tIc_ne (l := xk_193) (pc' := 74) rfl rfl rfl (fun hc => ?_) (fun hc => ?_)
    · refine tK (l := xk_193) rfl rfl (fun _ _ _ _ _ => rfl) ?_
      refine tK (l := xk_193) rfl rfl (fun _ _ _ _ _ => rfl) ?_
      refine tK (l := xk_193) rfl rfl (fun _ _ _ _ _ => rfl) ?_
      refine tCa (l := xk_193) rfl rfl (hInvV (c := 10) (hShI1 _ hs rfl rfl) rfl rfl rfl rfl rfl (Nat.le_of_ble_eq_true rfl) (Nat.le_of_ble_eq_true rfl)) ?_
      refine s195_2 h1 hok hx hsh hD (fun ph3 y3 f3 => ?_)
      refine tKn ?_
      refine tK (l := xk_193) rfl rfl (fun _ _ _ _ _ => rfl) ?_
      refine tRt (l := xk_193) rfl rfl (fun _ _ _ _ _ => rfl) ?_
      exact hQ ph3 y3 (f1.big.trans f3)
    · exact absurd rfl hc
theorem s193_3 {x nm : Nat} {D : Cf} (h : hMC zs ph fs rs) (hok : okC (RU fs rs)) (hx : cX fs = x) (hst : rs.2.2.2.1 < 200) {w : Nat} {cd : Int} (hsh : hSim (cT fs) x 3 cd nm w) (hD : PSim fs x 3 cd nm (ctS rs) D) (hQ : ∀ ph2, TM zs ph2 D → hFM mF mA ph ph2 → Q (.inl none, ph2, g)) : xTC (d + 6) 193 [.inr (.inl (some 147))] ph g Q := by
  obtain ⟨z1, z2, z3, z4, z5, z6, z7, z8⟩ := hSzM
  obtain ⟨y1, y2, y3, y4, y5, y6, y7, y8, y9⟩ := hSzO
  obtain ⟨a1, a2, a3, a4, a5, a6, a7, a8⟩ := id h
  have hs := a1.1
  obtain ⟨t1, t2, t3, t4⟩ := h.text
  have hokt : oks (cT fs) := ok_cT hok.1
  have hfp := List.length_pos_iff.mpr a2
  obtain ⟨m, hm⟩ : ∃ m, fs.length = m + 1 := ⟨fs.length - 1, by omega⟩
  have e43 : hRd ph 147 43 = ((m + 1 : Nat) : Int) := by rw [a4, hm]
  have ek : ((m + 1 : Nat) : Int) - 1 = (m : Int) := by omega
  obtain ⟨eF, eX⟩ := h.top hm
  rw [hx] at eX
  have e23 : hRd ph 147 23 = (rs.2.2.2.1 : Int) := a1.2.2.2.2.1
  have g1 : (cT fs)[x]? = some 123 := by rcases hsh with q | q | q | q <;> first | exact q.2.2.1 | exact absurd q.1 (by decide)
  have e0 : hRd ph 152 ((frO (cP fs).length) + x) = 123 := t1 x _ g1
  have hxl := (List.getElem?_eq_some_iff.mp g1).1
  obtain ⟨h1, f1⟩ := h.cnt hst
  refine tEn (ls := [some (.inr (.inl (some 147))), none, none, none, none]) (fun k => by match k with | 0 => rfl | 1 => rfl | 2 => rfl | 3 => rfl | 4 => rfl | k + 5 => rfl) ?_
  refine tK (l := xk_193) rfl rfl (fun _ _ _ _ _ => rfl) ?_
  refine tK (l := xk_193) rfl rfl (hGetI hs rfl rfl rfl (by decide) (by decide)) ?_
  rw [e43]
  refine tK (l := xk_193) rfl rfl (fun _ _ _ _ _ => rfl) ?_
  refine tK (l := xk_193) rfl rfl (hSub ⟨by omega, by omega⟩) ?_
  rw [ek]
  refine tSt (l := xk_193) rfl rfl (fun _ _ _ _ _ => rfl) (Nat.le_of_ble_eq_true rfl) ?_
  refine tK (l := xk_193) rfl rfl (fun _ _ _ _ _ => rfl) ?_
  refine tK (l := xk_193) rfl rfl (hGetR (o := some 161) hs rfl rfl rfl (by decide) (by decide) rfl) ?_
  refine tK (l := xk_193) rfl rfl (fun _ _ _ _ _ => rfl) ?_
  first | refine tK (l := xk_193) rfl rfl (hIaldN hs rfl rfl (by omega)) ?_ | refine tK (l := xk_193) rfl rfl (hIald hs rfl (by omega) (by omega)) ?_
  rw [eF]
  refine tSt (l := xk_193) rfl rfl (fun _ _ _ _ _ => rfl) (Nat.le_of_ble_eq_true rfl) ?_
  refine tK (l := xk_193) rfl rfl (fun _ _ _ _ _ => rfl) ?_
  refine tK (l := xk_193) rfl rfl (hGetR (o := some 162) hs rfl rfl rfl (by decide) (by decide) rfl) ?_
  refine tK (l := xk_193) rfl rfl (fun _ _ _ _ _ => rfl) ?_
  first | refine tK (l := xk_193) rfl rfl (hIaldN hs rfl rfl (by omega)) ?_ | refine tK (l := xk_193) rfl rfl (hIald hs rfl (by omega) (by omega)) ?_
  rw [eX]
  refine tSt (l := xk_193) rfl rfl (fun _ _ _ _ _ => rfl) (Nat.le_of_ble_eq_true rfl) ?_
  refine tK (l := xk_193) rfl rfl (fun _ _ _ _ _ => rfl) ?_
  refine tK (l := xk_193) rfl rfl (hGetR (o := some 152) hs rfl rfl rfl (by decide) (by decide) rfl) ?_
  refine tK (l := xk_193) rfl rfl (fun _ _ _ _ _ => rfl) ?_
  refine tK (l := xk_193) rfl rfl (fun _ _ _ _ _ => rfl) ?_
  refine tK (l := xk_193) rfl rfl (hAdd ⟨by omega, by omega⟩) ?_
  rw [show ((frO (cP fs).length) : Int) + (x : Int) = (((frO (cP fs).length) + x : Nat) : Int) by omega]
  first | refine tK (l := xk_193) rfl rfl (hIaldN hs rfl rfl (by omega)) ?_ | refine tK (l := xk_193) rfl rfl (hIald hs rfl (by omega) (by omega)) ?_
  rw [e0]
  refine tSt (l := xk_193) rfl rfl (fun _ _ _ _ _ => rfl) (Nat.le_of_ble_eq_true rfl) ?_
  refine tK (l := xk_193) rfl rfl (fun _ _ _ _ _ => rfl) ?_
  refine tK (l := xk_193) rfl rfl (hGetI hs rfl rfl rfl (by decide) (by decide)) ?_
  rw [e23]
  refine tK (l := xk_193) rfl rfl (fun _ _ _ _ _ => rfl) ?_
  refine tIc_ne (l := xk_193) (pc' := 48) rfl rfl rfl (fun hc => ?_) (fun hc => ?_)
  · exfalso; omega
  · refine tK (l := xk_193) rfl rfl (fun _ _ _ _ _ => rfl) ?_
    refine tK (l := xk_193) rfl rfl (fun _ _ _ _ _ => rfl) ?_
    refine tK (l := xk_193) rfl rfl (hGetI hs rfl rfl rfl (by decide) (by decide)) ?_
    rw [e23]
    refine tK (l := xk_193) rfl rfl (fun _ _ _ _ _ => rfl) ?_
    refine tK (l := xk_193) rfl rfl (hAdd ⟨by omega, by omega⟩) ?_
    refine tK (l := xk_193) rfl rfl (hPutV hs rfl rfl (by decide) (by decide) rfl) ?_
    refine tK (l := xk_193) rfl rfl (fun _ _ _ _ _ => rfl) ?_
    refine tK (l := xk_193) rfl rfl (fun _ _ _ _ _ => rfl) ?_
    refine tIc_ne (l := xk_193) (pc' := 74) rfl rfl rfl (fun hc => ?_) (fun hc => ?_)
    · refine tK (l := xk_193) rfl rfl (fun _ _ _ _ _ => rfl) ?_
      refine tK (l := xk_193) rfl rfl (fun _ _ _ _ _ => rfl) ?_
      refine tK (l := xk_193) rfl rfl (fun _ _ _ _ _ => rfl) ?_
      refine tCa (l := xk_193) rfl rfl (hInvV (c := 10) (hShI1 _ hs rfl rfl) rfl rfl rfl rfl rfl (Nat.le_of_ble_eq_true rfl) (Nat.le_of_ble_eq_true rfl)) ?_
      refine s195_3 h1 hok hx hsh hD (fun ph3 y3 f3 => ?_)
      refine tKn ?_
      refine tK (l := xk_193) rfl rfl (fun _ _ _ _ _ => rfl) ?_
      refine tRt (l := xk_193) rfl rfl (fun _ _ _ _ _ => rfl) ?_
      exact hQ ph3 y3 (f1.big.trans f3)
    · exact absurd rfl hc
theorem s193_4 {x nm : Nat} {D : Cf} (h : hMC zs ph fs rs) (hok : okC (RU fs rs)) (hx : cX fs = x) (hst : rs.2.2.2.1 < 200) {w : Nat} {cd : Int} (hsh : hSim (cT fs) x 4 cd nm w) (hD : PSim fs x 4 cd nm (ctS rs) D) (hQ : ∀ ph2, TM zs ph2 D → hFM mF mA ph ph2 → Q (.inl none, ph2, g)) : xTC (d + 6) 193 [.inr (.inl (some 147))] ph g Q := by
  obtain ⟨z1, z2, z3, z4, z5, z6, z7, z8⟩ := hSzM
  obtain ⟨y1, y2, y3, y4, y5, y6, y7, y8, y9⟩ := hSzO
  obtain ⟨a1, a2, a3, a4, a5, a6, a7, a8⟩ := id h
  have hs := a1.1
  obtain ⟨t1, t2, t3, t4⟩ := h.text
  have hokt : oks (cT fs) := ok_cT hok.1
  have hfp := List.length_pos_iff.mpr a2
  obtain ⟨m, hm⟩ : ∃ m, fs.length = m + 1 := ⟨fs.length - 1, by omega⟩
  have e43 : hRd ph 147 43 = ((m + 1 : Nat) : Int) := by rw [a4, hm]
  have ek : ((m + 1 : Nat) : Int) - 1 = (m : Int) := by omega
  obtain ⟨eF, eX⟩ := h.top hm
  rw [hx] at eX
  have e23 : hRd ph 147 23 = (rs.2.2.2.1 : Int) := a1.2.2.2.2.1
  have g1 : (cT fs)[x]? = some 123 := by rcases hsh with q | q | q | q <;> first | exact q.2.2.1 | exact absurd q.1 (by decide)
  have e0 : hRd ph 152 ((frO (cP fs).length) + x) = 123 := t1 x _ g1
  have hxl := (List.getElem?_eq_some_iff.mp g1).1
  obtain ⟨h1, f1⟩ := h.cnt hst
  refine tEn (ls := [some (.inr (.inl (some 147))), none, none, none, none]) (fun k => by match k with | 0 => rfl | 1 => rfl | 2 => rfl | 3 => rfl | 4 => rfl | k + 5 => rfl) ?_
  refine tK (l := xk_193) rfl rfl (fun _ _ _ _ _ => rfl) ?_
  refine tK (l := xk_193) rfl rfl (hGetI hs rfl rfl rfl (by decide) (by decide)) ?_
  rw [e43]
  refine tK (l := xk_193) rfl rfl (fun _ _ _ _ _ => rfl) ?_
  refine tK (l := xk_193) rfl rfl (hSub ⟨by omega, by omega⟩) ?_
  rw [ek]
  refine tSt (l := xk_193) rfl rfl (fun _ _ _ _ _ => rfl) (Nat.le_of_ble_eq_true rfl) ?_
  refine tK (l := xk_193) rfl rfl (fun _ _ _ _ _ => rfl) ?_
  refine tK (l := xk_193) rfl rfl (hGetR (o := some 161) hs rfl rfl rfl (by decide) (by decide) rfl) ?_
  refine tK (l := xk_193) rfl rfl (fun _ _ _ _ _ => rfl) ?_
  first | refine tK (l := xk_193) rfl rfl (hIaldN hs rfl rfl (by omega)) ?_ | refine tK (l := xk_193) rfl rfl (hIald hs rfl (by omega) (by omega)) ?_
  rw [eF]
  refine tSt (l := xk_193) rfl rfl (fun _ _ _ _ _ => rfl) (Nat.le_of_ble_eq_true rfl) ?_
  refine tK (l := xk_193) rfl rfl (fun _ _ _ _ _ => rfl) ?_
  refine tK (l := xk_193) rfl rfl (hGetR (o := some 162) hs rfl rfl rfl (by decide) (by decide) rfl) ?_
  refine tK (l := xk_193) rfl rfl (fun _ _ _ _ _ => rfl) ?_
  first | refine tK (l := xk_193) rfl rfl (hIaldN hs rfl rfl (by omega)) ?_ | refine tK (l := xk_193) rfl rfl (hIald hs rfl (by omega) (by omega)) ?_
  rw [eX]
  refine tSt (l := xk_193) rfl rfl (fun _ _ _ _ _ => rfl) (Nat.le_of_ble_eq_true rfl) ?_
  refine tK (l := xk_193) rfl rfl (fun _ _ _ _ _ => rfl) ?_
  refine tK (l := xk_193) rfl rfl (hGetR (o := some 152) hs rfl rfl rfl (by decide) (by decide) rfl) ?_
  refine tK (l := xk_193) rfl rfl (fun _ _ _ _ _ => rfl) ?_
  refine tK (l := xk_193) rfl rfl (fun _ _ _ _ _ => rfl) ?_
  refine tK (l := xk_193) rfl rfl (hAdd ⟨by omega, by omega⟩) ?_
  rw [show ((frO (cP fs).length) : Int) + (x : Int) = (((frO (cP fs).length) + x : Nat) : Int) by omega]
  first | refine tK (l := xk_193) rfl rfl (hIaldN hs rfl rfl (by omega)) ?_ | refine tK (l := xk_193) rfl rfl (hIald hs rfl (by omega) (by omega)) ?_
  rw [e0]
  refine tSt (l := xk_193) rfl rfl (fun _ _ _ _ _ => rfl) (Nat.le_of_ble_eq_true rfl) ?_
  refine tK (l := xk_193) rfl rfl (fun _ _ _ _ _ => rfl) ?_
  refine tK (l := xk_193) rfl rfl (hGetI hs rfl rfl rfl (by decide) (by decide)) ?_
  rw [e23]
  refine tK (l := xk_193) rfl rfl (fun _ _ _ _ _ => rfl) ?_
  refine tIc_ne (l := xk_193) (pc' := 48) rfl rfl rfl (fun hc => ?_) (fun hc => ?_)
  · exfalso; omega
  · refine tK (l := xk_193) rfl rfl (fun _ _ _ _ _ => rfl) ?_
    refine tK (l := xk_193) rfl rfl (fun _ _ _ _ _ => rfl) ?_
    refine tK (l := xk_193) rfl rfl (hGetI hs rfl rfl rfl (by decide) (by decide)) ?_
    rw [e23]
    refine tK (l := xk_193) rfl rfl (fun _ _ _ _ _ => rfl) ?_
    refine tK (l := xk_193) rfl rfl (hAdd ⟨by omega, by omega⟩) ?_
    refine tK (l := xk_193) rfl rfl (hPutV hs rfl rfl (by decide) (by decide) rfl) ?_
    refine tK (l := xk_193) rfl rfl (fun _ _ _ _ _ => rfl) ?_
    refine tK (l := xk_193) rfl rfl (fun _ _ _ _ _ => rfl) ?_
    refine tIc_ne (l := xk_193) (pc' := 74) rfl rfl rfl (fun hc => ?_) (fun hc => ?_)
    · refine tK (l := xk_193) rfl rfl (fun _ _ _ _ _ => rfl) ?_
      refine tK (l := xk_193) rfl rfl (fun _ _ _ _ _ => rfl) ?_
      refine tK (l := xk_193) rfl rfl (fun _ _ _ _ _ => rfl) ?_
      refine tCa (l := xk_193) rfl rfl (hInvV (c := 10) (hShI1 _ hs rfl rfl) rfl rfl rfl rfl rfl (Nat.le_of_ble_eq_true rfl) (Nat.le_of_ble_eq_true rfl)) ?_
      refine s195_4 h1 hok hx hsh hD (fun ph3 y3 f3 => ?_)
      refine tKn ?_
      refine tK (l := xk_193) rfl rfl (fun _ _ _ _ _ => rfl) ?_
      refine tRt (l := xk_193) rfl rfl (fun _ _ _ _ _ => rfl) ?_
      exact hQ ph3 y3 (f1.big.trans f3)
    · exact absurd rfl hc
theorem s193_5 {x nm : Nat} {D : Cf} (h : hMC zs ph fs rs) (hok : okC (RU fs rs)) (hx : cX fs = x) (hst : rs.2.2.2.1 < 200) (hsh : hBlk (cT fs) x 5 nm) (hD : PBlk fs x 5 nm (ctS rs) D) (hQ : ∀ ph2, TM zs ph2 D → hFM mF mA ph ph2 → Q (.inl none, ph2, g)) : xTC (d + 6) 193 [.inr (.inl (some 147))] ph g Q := by
  obtain ⟨z1, z2, z3, z4, z5, z6, z7, z8⟩ := hSzM
  obtain ⟨y1, y2, y3, y4, y5, y6, y7, y8, y9⟩ := hSzO
  obtain ⟨a1, a2, a3, a4, a5, a6, a7, a8⟩ := id h
  have hs := a1.1
  obtain ⟨t1, t2, t3, t4⟩ := h.text
  have hokt : oks (cT fs) := ok_cT hok.1
  have hfp := List.length_pos_iff.mpr a2
  obtain ⟨m, hm⟩ : ∃ m, fs.length = m + 1 := ⟨fs.length - 1, by omega⟩
  have e43 : hRd ph 147 43 = ((m + 1 : Nat) : Int) := by rw [a4, hm]
  have ek : ((m + 1 : Nat) : Int) - 1 = (m : Int) := by omega
  obtain ⟨eF, eX⟩ := h.top hm
  rw [hx] at eX
  have e23 : hRd ph 147 23 = (rs.2.2.2.1 : Int) := a1.2.2.2.2.1
  have g1 : (cT fs)[x]? = some 123 := hsh.2.1
  have e0 : hRd ph 152 ((frO (cP fs).length) + x) = 123 := t1 x _ g1
  have hxl := (List.getElem?_eq_some_iff.mp g1).1
  obtain ⟨h1, f1⟩ := h.cnt hst
  refine tEn (ls := [some (.inr (.inl (some 147))), none, none, none, none]) (fun k => by match k with | 0 => rfl | 1 => rfl | 2 => rfl | 3 => rfl | 4 => rfl | k + 5 => rfl) ?_
  refine tK (l := xk_193) rfl rfl (fun _ _ _ _ _ => rfl) ?_
  refine tK (l := xk_193) rfl rfl (hGetI hs rfl rfl rfl (by decide) (by decide)) ?_
  rw [e43]
  refine tK (l := xk_193) rfl rfl (fun _ _ _ _ _ => rfl) ?_
  refine tK (l := xk_193) rfl rfl (hSub ⟨by omega, by omega⟩) ?_
  rw [ek]
  refine tSt (l := xk_193) rfl rfl (fun _ _ _ _ _ => rfl) (Nat.le_of_ble_eq_true rfl) ?_
  refine tK (l := xk_193) rfl rfl (fun _ _ _ _ _ => rfl) ?_
  refine tK (l := xk_193) rfl rfl (hGetR (o := some 161) hs rfl rfl rfl (by decide) (by decide) rfl) ?_
  refine tK (l := xk_193) rfl rfl (fun _ _ _ _ _ => rfl) ?_
  first | refine tK (l := xk_193) rfl rfl (hIaldN hs rfl rfl (by omega)) ?_ | refine tK (l := xk_193) rfl rfl (hIald hs rfl (by omega) (by omega)) ?_
  rw [eF]
  refine tSt (l := xk_193) rfl rfl (fun _ _ _ _ _ => rfl) (Nat.le_of_ble_eq_true rfl) ?_
  refine tK (l := xk_193) rfl rfl (fun _ _ _ _ _ => rfl) ?_
  refine tK (l := xk_193) rfl rfl (hGetR (o := some 162) hs rfl rfl rfl (by decide) (by decide) rfl) ?_
  refine tK (l := xk_193) rfl rfl (fun _ _ _ _ _ => rfl) ?_
  first | refine tK (l := xk_193) rfl rfl (hIaldN hs rfl rfl (by omega)) ?_ | refine tK (l := xk_193) rfl rfl (hIald hs rfl (by omega) (by omega)) ?_
  rw [eX]
  refine tSt (l := xk_193) rfl rfl (fun _ _ _ _ _ => rfl) (Nat.le_of_ble_eq_true rfl) ?_
  refine tK (l := xk_193) rfl rfl (fun _ _ _ _ _ => rfl) ?_
  refine tK (l := xk_193) rfl rfl (hGetR (o := some 152) hs rfl rfl rfl (by decide) (by decide) rfl) ?_
  refine tK (l := xk_193) rfl rfl (fun _ _ _ _ _ => rfl) ?_
  refine tK (l := xk_193) rfl rfl (fun _ _ _ _ _ => rfl) ?_
  refine tK (l := xk_193) rfl rfl (hAdd ⟨by omega, by omega⟩) ?_
  rw [show ((frO (cP fs).length) : Int) + (x : Int) = (((frO (cP fs).length) + x : Nat) : Int) by omega]
  first | refine tK (l := xk_193) rfl rfl (hIaldN hs rfl rfl (by omega)) ?_ | refine tK (l := xk_193) rfl rfl (hIald hs rfl (by omega) (by omega)) ?_
  rw [e0]
  refine tSt (l := xk_193) rfl rfl (fun _ _ _ _ _ => rfl) (Nat.le_of_ble_eq_true rfl) ?_
  refine tK (l := xk_193) rfl rfl (fun _ _ _ _ _ => rfl) ?_
  refine tK (l := xk_193) rfl rfl (hGetI hs rfl rfl rfl (by decide) (by decide)) ?_
  rw [e23]
  refine tK (l := xk_193) rfl rfl (fun _ _ _ _ _ => rfl) ?_
  refine tIc_ne (l := xk_193) (pc' := 48) rfl rfl rfl (fun hc => ?_) (fun hc => ?_)
  · exfalso; omega
  · refine tK (l := xk_193) rfl rfl (fun _ _ _ _ _ => rfl) ?_
    refine tK (l := xk_193) rfl rfl (fun _ _ _ _ _ => rfl) ?_
    refine tK (l := xk_193) rfl rfl (hGetI hs rfl rfl rfl (by decide) (by decide)) ?_
    rw [e23]
    refine tK (l := xk_193) rfl rfl (fun _ _ _ _ _ => rfl) ?_
    refine tK (l := xk_193) rfl rfl (hAdd ⟨by omega, by omega⟩) ?_
    refine tK (l := xk_193) rfl rfl (hPutV hs rfl rfl (by decide) (by decide) rfl) ?_
    refine tK (l := xk_193) rfl rfl (fun _ _ _ _ _ => rfl) ?_
    refine tK (l := xk_193) rfl rfl (fun _ _ _ _ _ => rfl) ?_
    refine tIc_ne (l := xk_193) (pc' := 74) rfl rfl rfl (fun hc => ?_) (fun hc => ?_)
    · refine tK (l := xk_193) rfl rfl (fun _ _ _ _ _ => rfl) ?_
      refine tK (l := xk_193) rfl rfl (fun _ _ _ _ _ => rfl) ?_
      refine tK (l := xk_193) rfl rfl (fun _ _ _ _ _ => rfl) ?_
      refine tCa (l := xk_193) rfl rfl (hInvV (c := 10) (hShI1 _ hs rfl rfl) rfl rfl rfl rfl rfl (Nat.le_of_ble_eq_true rfl) (Nat.le_of_ble_eq_true rfl)) ?_
      refine s195_5 h1 hok hx hsh hD (fun ph3 y3 f3 => ?_)
      refine tKn ?_
      refine tK (l := xk_193) rfl rfl (fun _ _ _ _ _ => rfl) ?_
      refine tRt (l := xk_193) rfl rfl (fun _ _ _ _ _ => rfl) ?_
      exact hQ ph3 y3 (f1.big.trans f3)
    · exact absurd rfl hc
theorem s193_6 {x nm : Nat} {D : Cf} (h : hMC zs ph fs rs) (hok : okC (RU fs rs)) (hx : cX fs = x) (hst : rs.2.2.2.1 < 200) (hsh : hBlk (cT fs) x 6 nm) (hD : PBlk fs x 6 nm (ctS rs) D) (hQ : ∀ ph2, TM zs ph2 D → hFM mF mA ph ph2 → Q (.inl none, ph2, g)) : xTC (d + 6) 193 [.inr (.inl (some 147))] ph g Q := by
  obtain ⟨z1, z2, z3, z4, z5, z6, z7, z8⟩ := hSzM
  obtain ⟨y1, y2, y3, y4, y5, y6, y7, y8, y9⟩ := hSzO
  obtain ⟨a1, a2, a3, a4, a5, a6, a7, a8⟩ := id h
  have hs := a1.1
  obtain ⟨t1, t2, t3, t4⟩ := h.text
  have hokt : oks (cT fs) := ok_cT hok.1
  have hfp := List.length_pos_iff.mpr a2
  obtain ⟨m, hm⟩ : ∃ m, fs.length = m + 1 := ⟨fs.length - 1, by omega⟩
  have e43 : hRd ph 147 43 = ((m + 1 : Nat) : Int) := by rw [a4, hm]
  have ek : ((m + 1 : Nat) : Int) - 1 = (m : Int) := by omega
  obtain ⟨eF, eX⟩ := h.top hm
  rw [hx] at eX
  have e23 : hRd ph 147 23 = (rs.2.2.2.1 : Int) := a1.2.2.2.2.1
  have g1 : (cT fs)[x]? = some 123 := hsh.2.1
  have e0 : hRd ph 152 ((frO (cP fs).length) + x) = 123 := t1 x _ g1
  have hxl := (List.getElem?_eq_some_iff.mp g1).1
  obtain ⟨h1, f1⟩ := h.cnt hst
  refine tEn (ls := [some (.inr (.inl (some 147))), none, none, none, none]) (fun k => by match k with | 0 => rfl | 1 => rfl | 2 => rfl | 3 => rfl | 4 => rfl | k + 5 => rfl) ?_
  refine tK (l := xk_193) rfl rfl (fun _ _ _ _ _ => rfl) ?_
  refine tK (l := xk_193) rfl rfl (hGetI hs rfl rfl rfl (by decide) (by decide)) ?_
  rw [e43]
  refine tK (l := xk_193) rfl rfl (fun _ _ _ _ _ => rfl) ?_
  refine tK (l := xk_193) rfl rfl (hSub ⟨by omega, by omega⟩) ?_
  rw [ek]
  refine tSt (l := xk_193) rfl rfl (fun _ _ _ _ _ => rfl) (Nat.le_of_ble_eq_true rfl) ?_
  refine tK (l := xk_193) rfl rfl (fun _ _ _ _ _ => rfl) ?_
  refine tK (l := xk_193) rfl rfl (hGetR (o := some 161) hs rfl rfl rfl (by decide) (by decide) rfl) ?_
  refine tK (l := xk_193) rfl rfl (fun _ _ _ _ _ => rfl) ?_
  first | refine tK (l := xk_193) rfl rfl (hIaldN hs rfl rfl (by omega)) ?_ | refine tK (l := xk_193) rfl rfl (hIald hs rfl (by omega) (by omega)) ?_
  rw [eF]
  refine tSt (l := xk_193) rfl rfl (fun _ _ _ _ _ => rfl) (Nat.le_of_ble_eq_true rfl) ?_
  refine tK (l := xk_193) rfl rfl (fun _ _ _ _ _ => rfl) ?_
  refine tK (l := xk_193) rfl rfl (hGetR (o := some 162) hs rfl rfl rfl (by decide) (by decide) rfl) ?_
  refine tK (l := xk_193) rfl rfl (fun _ _ _ _ _ => rfl) ?_
  first | refine tK (l := xk_193) rfl rfl (hIaldN hs rfl rfl (by omega)) ?_ | refine tK (l := xk_193) rfl rfl (hIald hs rfl (by omega) (by omega)) ?_
  rw [eX]
  refine tSt (l := xk_193) rfl rfl (fun _ _ _ _ _ => rfl) (Nat.le_of_ble_eq_true rfl) ?_
  refine tK (l := xk_193) rfl rfl (fun _ _ _ _ _ => rfl) ?_
  refine tK (l := xk_193) rfl rfl (hGetR (o := some 152) hs rfl rfl rfl (by decide) (by decide) rfl) ?_
  refine tK (l := xk_193) rfl rfl (fun _ _ _ _ _ => rfl) ?_
  refine tK (l := xk_193) rfl rfl (fun _ _ _ _ _ => rfl) ?_
  refine tK (l := xk_193) rfl rfl (hAdd ⟨by omega, by omega⟩) ?_
  rw [show ((frO (cP fs).length) : Int) + (x : Int) = (((frO (cP fs).length) + x : Nat) : Int) by omega]
  first | refine tK (l := xk_193) rfl rfl (hIaldN hs rfl rfl (by omega)) ?_ | refine tK (l := xk_193) rfl rfl (hIald hs rfl (by omega) (by omega)) ?_
  rw [e0]
  refine tSt (l := xk_193) rfl rfl (fun _ _ _ _ _ => rfl) (Nat.le_of_ble_eq_true rfl) ?_
  refine tK (l := xk_193) rfl rfl (fun _ _ _ _ _ => rfl) ?_
  refine tK (l := xk_193) rfl rfl (hGetI hs rfl rfl rfl (by decide) (by decide)) ?_
  rw [e23]
  refine tK (l := xk_193) rfl rfl (fun _ _ _ _ _ => rfl) ?_
  refine tIc_ne (l := xk_193) (pc' := 48) rfl rfl rfl (fun hc => ?_) (fun hc => ?_)
  · exfalso; omega
  · refine tK (l := xk_193) rfl rfl (fun _ _ _ _ _ => rfl) ?_
    refine tK (l := xk_193) rfl rfl (fun _ _ _ _ _ => rfl) ?_
    refine tK (l := xk_193) rfl rfl (hGetI hs rfl rfl rfl (by decide) (by decide)) ?_
    rw [e23]
    refine tK (l := xk_193) rfl rfl (fun _ _ _ _ _ => rfl) ?_
    refine tK (l := xk_193) rfl rfl (hAdd ⟨by omega, by omega⟩) ?_
    refine tK (l := xk_193) rfl rfl (hPutV hs rfl rfl (by decide) (by decide) rfl) ?_
    refine tK (l := xk_193) rfl rfl (fun _ _ _ _ _ => rfl) ?_
    refine tK (l := xk_193) rfl rfl (fun _ _ _ _ _ => rfl) ?_
    refine tIc_ne (l := xk_193) (pc' := 74) rfl rfl rfl (fun hc => ?_) (fun hc => ?_)
    · refine tK (l := xk_193) rfl rfl (fun _ _ _ _ _ => rfl) ?_
      refine tK (l := xk_193) rfl rfl (fun _ _ _ _ _ => rfl) ?_
      refine tK (l := xk_193) rfl rfl (fun _ _ _ _ _ => rfl) ?_
      refine tCa (l := xk_193) rfl rfl (hInvV (c := 10) (hShI1 _ hs rfl rfl) rfl rfl rfl rfl rfl (Nat.le_of_ble_eq_true rfl) (Nat.le_of_ble_eq_true rfl)) ?_
      refine s195_6 h1 hok hx hsh hD (fun ph3 y3 f3 => ?_)
      refine tKn ?_
      refine tK (l := xk_193) rfl rfl (fun _ _ _ _ _ => rfl) ?_
      refine tRt (l := xk_193) rfl rfl (fun _ _ _ _ _ => rfl) ?_
      exact hQ ph3 y3 (f1.big.trans f3)
    · exact absurd rfl hc
theorem s193_7 {x nm : Nat} {D : Cf} (h : hMC zs ph fs rs) (hok : okC (RU fs rs)) (hx : cX fs = x) (hst : rs.2.2.2.1 < 200) (hsh : hBlk (cT fs) x 7 nm) (hD : PBlk fs x 7 nm (ctS rs) D) (hQ : ∀ ph2, TM zs ph2 D → hFM mF mA ph ph2 → Q (.inl none, ph2, g)) : xTC (d + 6) 193 [.inr (.inl (some 147))] ph g Q := by
  obtain ⟨z1, z2, z3, z4, z5, z6, z7, z8⟩ := hSzM
  obtain ⟨y1, y2, y3, y4, y5, y6, y7, y8, y9⟩ := hSzO
  obtain ⟨a1, a2, a3, a4, a5, a6, a7, a8⟩ := id h
  have hs := a1.1
  obtain ⟨t1, t2, t3, t4⟩ := h.text
  have hokt : oks (cT fs) := ok_cT hok.1
  have hfp := List.length_pos_iff.mpr a2
  obtain ⟨m, hm⟩ : ∃ m, fs.length = m + 1 := ⟨fs.length - 1, by omega⟩
  have e43 : hRd ph 147 43 = ((m + 1 : Nat) : Int) := by rw [a4, hm]
  have ek : ((m + 1 : Nat) : Int) - 1 = (m : Int) := by omega
  obtain ⟨eF, eX⟩ := h.top hm
  rw [hx] at eX
  have e23 : hRd ph 147 23 = (rs.2.2.2.1 : Int) := a1.2.2.2.2.1
  have g1 : (cT fs)[x]? = some 123 := hsh.2.1
  have e0 : hRd ph 152 ((frO (cP fs).length) + x) = 123 := t1 x _ g1
  have hxl := (List.getElem?_eq_some_iff.mp g1).1
  obtain ⟨h1, f1⟩ := h.cnt hst
  refine tEn (ls := [some (.inr (.inl (some 147))), none, none, none, none]) (fun k => by match k with | 0 => rfl | 1 => rfl | 2 => rfl | 3 => rfl | 4 => rfl | k + 5 => rfl) ?_
  refine tK (l := xk_193) rfl rfl (fun _ _ _ _ _ => rfl) ?_
  refine tK (l := xk_193) rfl rfl (hGetI hs rfl rfl rfl (by decide) (by decide)) ?_
  rw [e43]
  refine tK (l := xk_193) rfl rfl (fun _ _ _ _ _ => rfl) ?_
  refine tK (l := xk_193) rfl rfl (hSub ⟨by omega, by omega⟩) ?_
  rw [ek]
  refine tSt (l := xk_193) rfl rfl (fun _ _ _ _ _ => rfl) (Nat.le_of_ble_eq_true rfl) ?_
  refine tK (l := xk_193) rfl rfl (fun _ _ _ _ _ => rfl) ?_
  refine tK (l := xk_193) rfl rfl (hGetR (o := some 161) hs rfl rfl rfl (by decide) (by decide) rfl) ?_
  refine tK (l := xk_193) rfl rfl (fun _ _ _ _ _ => rfl) ?_
  first | refine tK (l := xk_193) rfl rfl (hIaldN hs rfl rfl (by omega)) ?_ | refine tK (l := xk_193) rfl rfl (hIald hs rfl (by omega) (by omega)) ?_
  rw [eF]
  refine tSt (l := xk_193) rfl rfl (fun _ _ _ _ _ => rfl) (Nat.le_of_ble_eq_true rfl) ?_
  refine tK (l := xk_193) rfl rfl (fun _ _ _ _ _ => rfl) ?_
  refine tK (l := xk_193) rfl rfl (hGetR (o := some 162) hs rfl rfl rfl (by decide) (by decide) rfl) ?_
  refine tK (l := xk_193) rfl rfl (fun _ _ _ _ _ => rfl) ?_
  first | refine tK (l := xk_193) rfl rfl (hIaldN hs rfl rfl (by omega)) ?_ | refine tK (l := xk_193) rfl rfl (hIald hs rfl (by omega) (by omega)) ?_
  rw [eX]
  refine tSt (l := xk_193) rfl rfl (fun _ _ _ _ _ => rfl) (Nat.le_of_ble_eq_true rfl) ?_
  refine tK (l := xk_193) rfl rfl (fun _ _ _ _ _ => rfl) ?_
  refine tK (l := xk_193) rfl rfl (hGetR (o := some 152) hs rfl rfl rfl (by decide) (by decide) rfl) ?_
  refine tK (l := xk_193) rfl rfl (fun _ _ _ _ _ => rfl) ?_
  refine tK (l := xk_193) rfl rfl (fun _ _ _ _ _ => rfl) ?_
  refine tK (l := xk_193) rfl rfl (hAdd ⟨by omega, by omega⟩) ?_
  rw [show ((frO (cP fs).length) : Int) + (x : Int) = (((frO (cP fs).length) + x : Nat) : Int) by omega]
  first | refine tK (l := xk_193) rfl rfl (hIaldN hs rfl rfl (by omega)) ?_ | refine tK (l := xk_193) rfl rfl (hIald hs rfl (by omega) (by omega)) ?_
  rw [e0]
  refine tSt (l := xk_193) rfl rfl (fun _ _ _ _ _ => rfl) (Nat.le_of_ble_eq_true rfl) ?_
  refine tK (l := xk_193) rfl rfl (fun _ _ _ _ _ => rfl) ?_
  refine tK (l := xk_193) rfl rfl (hGetI hs rfl rfl rfl (by decide) (by decide)) ?_
  rw [e23]
  refine tK (l := xk_193) rfl rfl (fun _ _ _ _ _ => rfl) ?_
  refine tIc_ne (l := xk_193) (pc' := 48) rfl rfl rfl (fun hc => ?_) (fun hc => ?_)
  · exfalso; omega
  · refine tK (l := xk_193) rfl rfl (fun _ _ _ _ _ => rfl) ?_
    refine tK (l := xk_193) rfl rfl (fun _ _ _ _ _ => rfl) ?_
    refine tK (l := xk_193) rfl rfl (hGetI hs rfl rfl rfl (by decide) (by decide)) ?_
    rw [e23]
    refine tK (l := xk_193) rfl rfl (fun _ _ _ _ _ => rfl) ?_
    refine tK (l := xk_193) rfl rfl (hAdd ⟨by omega, by omega⟩) ?_
    refine tK (l := xk_193) rfl rfl (hPutV hs rfl rfl (by decide) (by decide) rfl) ?_
    refine tK (l := xk_193) rfl rfl (fun _ _ _ _ _ => rfl) ?_
    refine tK (l := xk_193) rfl rfl (fun _ _ _ _ _ => rfl) ?_
    refine tIc_ne (l := xk_193) (pc' := 74) rfl rfl rfl (fun hc => ?_) (fun hc => ?_)
    · refine tK (l := xk_193) rfl rfl (fun _ _ _ _ _ => rfl) ?_
      refine tK (l := xk_193) rfl rfl (fun _ _ _ _ _ => rfl) ?_
      refine tK (l := xk_193) rfl rfl (fun _ _ _ _ _ => rfl) ?_
      refine tCa (l := xk_193) rfl rfl (hInvV (c := 10) (hShI1 _ hs rfl rfl) rfl rfl rfl rfl rfl (Nat.le_of_ble_eq_true rfl) (Nat.le_of_ble_eq_true rfl)) ?_
      refine s195_7 h1 hok hx hsh hD (fun ph3 y3 f3 => ?_)
      refine tKn ?_
      refine tK (l := xk_193) rfl rfl (fun _ _ _ _ _ => rfl) ?_
      refine tRt (l := xk_193) rfl rfl (fun _ _ _ _ _ => rfl) ?_
      exact hQ ph3 y3 (f1.big.trans f3)
    · exact absurd rfl hc
theorem s193 {D : Cf} (h : hMC zs ph fs rs) (hok : okC (RU fs rs)) (hst : StP (RU fs rs) D) (hQ : ∀ ph2, TM zs ph2 D → hFM mF mA ph ph2 → Q (.inl none, ph2, g)) : xTC (d + 6) 193 [.inr (.inl (some 147))] ph g Q := by
  obtain ⟨c, hc1, hc2⟩ := StP_ch hst
  obtain ⟨fs', rs', k, cd, nm, hc, hne, hsh, h9⟩ := hst
  obtain ⟨rfl, rfl⟩ := RU_inj hc
  rcases h9 with ⟨h1, h2⟩ | ⟨h1, ⟨w, h2⟩, h3⟩ | ⟨h1, h2, h3⟩
  · exact s193_f h hok rfl h1 hc1 h2 hQ
  · have hk := (hSim_w h2).2
    match k, hk with
    | 0, _ => exact s193_0 h hok rfl h1 h2 h3 hQ
    | 1, _ => exact s193_1 h hok rfl h1 h2 h3 hQ
    | 2, _ => exact s193_2 h hok rfl h1 h2 h3 hQ
    | 3, _ => exact s193_3 h hok rfl h1 h2 h3 hQ
    | 4, _ => exact s193_4 h hok rfl h1 h2 h3 hQ
    | k + 5, hk => exact absurd hk (by omega)
  · rcases h2.1 with rfl | rfl | rfl
    · exact s193_5 h hok rfl h1 h2 h3 hQ
    · exact s193_6 h hok rfl h1 h2 h3 hQ
    · exact s193_7 h hok rfl h1 h2 h3 hQ
/-- the model's rendering has come to its end -/
def TE (zs : List xV) (ph : xH) (D : Cf) : Prop := hMN zs ph D.2.1 ∧ hMx ph D.2.2.1 D.2.2.2
theorem s186_loop {n : Nat} {x1 : Option xV} {x2 x3 : Option xV} {t : List Int} {D : Cf} (hD : D.2.2.1 = 0 → D.1 = fs0 t.length t ∧ D.2.2.2 = []) : ∀ {fs : List Fm} {rs : RS} {ph : xH}, hMC zs ph fs rs → okC (RU fs rs) → Run n (RU fs rs) D → (∀ ph2, TE zs ph2 D → hFM mF mA ph ph2 → Q (.inl none, ph2, g)) → xT (d + 7) 186 125 (xlo [some (.inr (.inl (some 147))), x1, x2, x3]) [] ph g Q := by
  have stop : ∀ (phi : xH), hSh zs phi → (hRd phi 147 43 = 0 ∨ hRd phi 147 20 ≠ 0) → Q (.inl none, phi, g) → xT (d + 7) 186 125 (xlo [some (.inr (.inl (some 147))), x1, x2, x3]) [] phi g Q := by
    intro phi hs ho hq
    refine tK (l := xk_186) rfl rfl (fun _ _ _ _ _ => rfl) ?_
    refine tK (l := xk_186) rfl rfl (hGetI hs rfl rfl rfl (by decide) (by decide)) ?_
    refine tIf_le (l := xk_186) (pc' := 160) rfl rfl rfl (fun hc => ?_) (fun hc => ?_)
    · refine tK (l := xk_186) rfl rfl (fun _ _ _ _ _ => rfl) ?_
      refine tK (l := xk_186) rfl rfl (hGetI hs rfl rfl rfl (by decide) (by decide)) ?_
      refine tIf_ne (l := xk_186) (pc' := 160) rfl rfl rfl (fun hc => ?_) (fun hc => ?_)
      · exfalso
        rcases ho with ho | ho
        · omega
        · exact ho hc
      · refine tRt (l := xk_186) rfl rfl (fun _ _ _ _ _ => rfl) ?_
        exact hq
    · refine tRt (l := xk_186) rfl rfl (fun _ _ _ _ _ => rfl) ?_
      exact hq
  induction n with
  | zero =>
    intro fs rs ph h hok hrn hQ
    cases hrn
    obtain ⟨e1, -⟩ := hD rfl
    have e1 : fs = fs0 t.length t := e1
    subst e1
    have hs := h.1.1
    have e43 : hRd ph 147 43 = 1 := h.2.2.2.1
    have e20 := h.2.2.2.2.2.2.1.1
    refine tK (l := xk_186) rfl rfl (fun _ _ _ _ _ => rfl) ?_
    refine tK (l := xk_186) rfl rfl (hGetI hs rfl rfl rfl (by decide) (by decide)) ?_
    rw [e43]
    refine tIf_le (l := xk_186) (pc' := 160) rfl rfl rfl (fun hc => ?_) (fun hc => ?_)
    · refine tK (l := xk_186) rfl rfl (fun _ _ _ _ _ => rfl) ?_
      refine tK (l := xk_186) rfl rfl (hGetI hs rfl rfl rfl (by decide) (by decide)) ?_
      rw [e20]
      refine tIf_ne (l := xk_186) (pc' := 160) rfl rfl rfl (fun hc => ?_) (fun hc => ?_)
      · refine tK (l := xk_186) rfl rfl (fun _ _ _ _ _ => rfl) ?_
        refine tCa (l := xk_186) rfl rfl (hInvV (c := 10) hs rfl rfl rfl rfl rfl (Nat.le_of_ble_eq_true rfl) (Nat.le_of_ble_eq_true rfl)) ?_
        refine s190_z h rfl ?_
        refine tKv ?_
        rw [if_pos (show t.length = t.length from rfl)]
        refine tIf_eq (l := xk_186) (pc' := 153) rfl rfl rfl (fun hc => ?_) (fun hc => ?_)
        · exact absurd hc (by decide)
        · refine tK (l := xk_186) rfl rfl (fun _ _ _ _ _ => rfl) ?_
          refine tCa (l := xk_186) rfl rfl (hInvV (c := 10) hs rfl rfl rfl rfl rfl (Nat.le_of_ble_eq_true rfl) (Nat.le_of_ble_eq_true rfl)) ?_
          refine s191_e h rfl (fun ph2 n2 w43 w20 f2 => ?_)
          refine tKn ?_
          refine tK (l := xk_186) rfl rfl (fun _ _ _ _ _ => rfl) ?_
          exact stop ph2 n2.1 (Or.inl w43) (hQ ph2 ⟨n2, w20.1, w20.2, fun k x hx => absurd hx (by simp [RU])⟩ f2)
      · exact absurd rfl hc
    · exact absurd (by decide) hc
  | succ n ih =>
    intro fs rs ph h hok ⟨e, hst, hrn⟩ hQ
    have hs := h.1.1
    have e20 := h.2.2.2.2.2.2.1.1
    have e43 := h.2.2.2.1
    have hfp := List.length_pos_iff.mpr h.2.1
    have hok2 := Sto_ok hst hok
    have nx : ∀ ph2, e = RU e.1 e.2.1 → hMC zs ph2 e.1 e.2.1 → hFM mF mA ph ph2 → xT (d + 7) 186 125 (xlo [some (.inr (.inl (some 147))), x1, x2, x3]) [] ph2 g Q := by
      intro ph2 ee h1 h2
      rw [ee] at hrn hok2
      exact ih h1 hok2 hrn (fun ph3 t3 f3 => hQ ph3 t3 (h2.trans f3))
    rcases hst with hst | hst
    · obtain ⟨c, hc1, hc2⟩ := StP_ch hst
      have hxl := (List.getElem?_eq_some_iff.mp hc1).1
      refine tK (l := xk_186) rfl rfl (fun _ _ _ _ _ => rfl) ?_
      refine tK (l := xk_186) rfl rfl (hGetI hs rfl rfl rfl (by decide) (by decide)) ?_
      rw [e43]
      refine tIf_le (l := xk_186) (pc' := 160) rfl rfl rfl (fun hc => ?_) (fun hc => ?_)
      · refine tK (l := xk_186) rfl rfl (fun _ _ _ _ _ => rfl) ?_
        refine tK (l := xk_186) rfl rfl (hGetI hs rfl rfl rfl (by decide) (by decide)) ?_
        rw [e20]
        refine tIf_ne (l := xk_186) (pc' := 160) rfl rfl rfl (fun hc => ?_) (fun hc => ?_)
        · refine tK (l := xk_186) rfl rfl (fun _ _ _ _ _ => rfl) ?_
          refine tCa (l := xk_186) rfl rfl (hInvV (c := 10) hs rfl rfl rfl rfl rfl (Nat.le_of_ble_eq_true rfl) (Nat.le_of_ble_eq_true rfl)) ?_
          have hend : ∀ (Q9 : xR → Prop), Q9 (.inl (some (.inl 0)), ph, g) → xTC (d + 6) 190 [.inr (.inl (some 147))] ph g Q9 := by
            intro Q9 hq9
            cases fs with
            | nil => exact absurd rfl h.2.1
            | cons f gs =>
              by_cases h0 : f.1 = 0
              · refine s190_z h h0 ?_
                have hcT : cT (f :: gs) = f.2.2.2.2.2 := by simp only [cT]; rw [if_pos h0]
                rw [if_neg (show ¬ f.2.1 = f.2.2.2.2.2.length by rw [hcT] at hxl; have : cX (f :: gs) = f.2.1 := rfl; omega)]
                exact hq9
              · refine s190_n h h0 hc1 ?_
                rw [if_neg hc2]
                exact hq9
          refine hend _ ?_
          refine tKv ?_
          refine tIf_eq (l := xk_186) (pc' := 153) rfl rfl rfl (fun hc => ?_) (fun hc => ?_)
          · refine tK (l := xk_186) rfl rfl (fun _ _ _ _ _ => rfl) ?_
            refine tCa (l := xk_186) rfl rfl (hInvV (c := 10) hs rfl rfl rfl rfl rfl (Nat.le_of_ble_eq_true rfl) (Nat.le_of_ble_eq_true rfl)) ?_
            refine s193 h hok hst (fun ph2 y2 f2 => ?_)
            refine tKn ?_
            refine tK (l := xk_186) rfl rfl (fun _ _ _ _ _ => rfl) ?_
            by_cases h0 : e.2.2.1 = 0
            · have ee : e = RU e.1 e.2.1 := by
                cases n with
                | zero =>
                  have hrn9 : e = D := hrn
                  rw [hrn9] at h0 ⊢
                  exact Cf_eta h0 (hD h0).2
                | succ n =>
                  obtain ⟨e2, q1, -⟩ := hrn
                  exact Sto_RU q1
              exact nx ph2 ee (y2.2.1 h0) f2
            · have ee : e = D := by
                cases n with
                | zero => exact hrn
                | succ n =>
                  obtain ⟨e2, q1, -⟩ := hrn
                  exact absurd (by rw [Sto_RU q1]; rfl) h0
              rw [ee] at y2 h0
              exact stop ph2 y2.1.1 (Or.inr (by rw [y2.2.2.1]; omega)) (hQ ph2 ⟨y2.1, y2.2.2.2 h0⟩ f2)
          · exact absurd rfl hc
        · exact absurd rfl hc
      · exfalso; omega
    · obtain ⟨f, gq, gs, rs', hc, hst⟩ := hst
      obtain ⟨rfl, rfl⟩ := RU_inj hc
      have key : ∀ (Q9 : xR → Prop), (∀ ph2, hMC zs ph2 e.1 e.2.1 → e = RU e.1 e.2.1 → hFM mF mA ph ph2 → Q9 (.inl none, ph2, g)) → xTC (d + 6) 191 [.inr (.inl (some 147))] ph g Q9 := by
        intro Q9 hq
        obtain ⟨sc9, r2⟩ := rs
        rcases hst with ⟨hk, -, f0, sc, hr9, rfl⟩ | ⟨hk, he, f0, sc, hr9, ⟨c2, h1, rfl⟩ | ⟨h1, rfl⟩⟩ | ⟨hk, he, rfl⟩ | ⟨hk, he, hnm, f0, sc, s0, sg, hr9, hr8, rfl⟩
        · simp only at hr9
          subst hr9
          exact s191_0 h hk (fun ph2 k1 k2 => hq ph2 k1 rfl k2)
        · simp only at hr9
          subst hr9
          exact s191_5a h hk h1 (fun ph2 k1 k2 => hq ph2 k1 rfl k2)
        · simp only at hr9
          subst hr9
          have hxl := (List.getElem?_eq_some_iff.mp he).1
          have t2 := h.text.2.1
          rw [cT_k (by omega)] at t2
          exact s191_5b h hk (by omega) h1 (fun ph2 k1 k2 => hq ph2 k1 rfl k2)
        · have hxl := (List.getElem?_eq_some_iff.mp he).1
          have t2 := h.text.2.1
          rw [cT_k (by omega)] at t2
          exact s191_6 h hk (by omega) (fun ph2 k1 k2 => hq ph2 k1 rfl k2)
        · obtain ⟨sg9, r3⟩ := r2
          simp only at hr9 hr8
          subst hr9 hr8
          have hxl := (List.getElem?_eq_some_iff.mp he).1
          have t2 := h.text.2.1
          rw [cT_k (by omega)] at t2
          exact s191_7 h hk hnm (by omega) (fun ph2 k1 k2 => hq ph2 k1 rfl k2)
      have hend : ∀ (Q9 : xR → Prop), Q9 (.inl (some (.inl 1)), ph, g) → xTC (d + 6) 190 [.inr (.inl (some 147))] ph g Q9 := by
        intro Q9 hq9
        by_cases h0 : f.1 = 0
        · refine s190_z h h0 ?_
          have : f.2.1 = f.2.2.2.2.2.length := by rcases hst with ⟨-, h9, -⟩ | ⟨h9, -⟩ | ⟨h9, -⟩ | ⟨h9, -⟩ <;> first | exact h9 | omega
          rw [if_pos this]
          exact hq9
        · have he : (cT (gq :: gs))[f.2.1]? = some 125 := by rcases hst with ⟨h9, -⟩ | ⟨-, h9, -⟩ | ⟨-, h9, -⟩ | ⟨-, h9, -⟩ <;> first | exact h9 | exact absurd h9 h0
          refine s190_n h h0 (c := 125) (by rw [cT_k h0]; exact he) ?_
          rw [if_pos rfl]
          exact hq9
      refine tK (l := xk_186) rfl rfl (fun _ _ _ _ _ => rfl) ?_
      refine tK (l := xk_186) rfl rfl (hGetI hs rfl rfl rfl (by decide) (by decide)) ?_
      rw [e43]
      refine tIf_le (l := xk_186) (pc' := 160) rfl rfl rfl (fun hc => ?_) (fun hc => ?_)
      · refine tK (l := xk_186) rfl rfl (fun _ _ _ _ _ => rfl) ?_
        refine tK (l := xk_186) rfl rfl (hGetI hs rfl rfl rfl (by decide) (by decide)) ?_
        rw [e20]
        refine tIf_ne (l := xk_186) (pc' := 160) rfl rfl rfl (fun hc => ?_) (fun hc => ?_)
        · refine tK (l := xk_186) rfl rfl (fun _ _ _ _ _ => rfl) ?_
          refine tCa (l := xk_186) rfl rfl (hInvV (c := 10) hs rfl rfl rfl rfl rfl (Nat.le_of_ble_eq_true rfl) (Nat.le_of_ble_eq_true rfl)) ?_
          refine hend _ ?_
          refine tKv ?_
          refine tIf_eq (l := xk_186) (pc' := 153) rfl rfl rfl (fun hc => ?_) (fun hc => ?_)
          · exact absurd hc (by decide)
          · refine tK (l := xk_186) rfl rfl (fun _ _ _ _ _ => rfl) ?_
            refine tCa (l := xk_186) rfl rfl (hInvV (c := 10) hs rfl rfl rfl rfl rfl (Nat.le_of_ble_eq_true rfl) (Nat.le_of_ble_eq_true rfl)) ?_
            refine key _ (fun ph2 h1 ee f2 => ?_)
            refine tKn ?_
            refine tK (l := xk_186) rfl rfl (fun _ _ _ _ _ => rfl) ?_
            exact nx ph2 ee h1 f2
        · exact absurd rfl hc
      · exfalso; omega
end MRP
