/-! ===== the model renders a part ===== -/
section MBR
variable {d : Nat} {ph : xH} {zs : List xV} {g : Nat} {Q : xR → Prop} {fs : List Fm} {rs : RS}
theorem TM_oP {pha phb : xH} {F S : List Nat} {rsa : RS} {D : Cf} {x y : Nat} {q : RS × Nat} (h : hMC zs pha (fsN fs y) rsa) (hn : hMN zs phb q.1) (hf : hFM F S pha phb) (h20b : hRd phb 147 20 = (q.2 : Int)) (h22 : q.2 = 0 → hRd phb 147 22 = hRd pha 147 22) (hx : q.2 ≠ 0 → hMx phb q.2 ((cP fs).reverse ++ [x])) (hl : q.1.1.length = rsa.1.length) (hD : D = oP fs x y q) (hF : ∀ k ∈ [9, 34, 43], k ∉ F := by decide) (hS : ∀ a ∈ [152, 158, 159, 160, 161, 162, 163, 164, 165, 166, 167], a ∉ 147 :: S := by decide) : TM zs phb D := by
  subst hD
  unfold oP
  by_cases h0 : q.2 = 0
  · rw [if_pos h0]
    refine TMr ?_ rfl
    obtain ⟨a1, a2, a3, a4, a5, a6, a7, a8⟩ := h
    refine ⟨hn, a2, a3.eq (fun a j q1 q2 _ => hf.at (hS a (by simp only [List.mem_cons, List.not_mem_nil, or_false]; omega)) j) (fun j _ => hf.at (hS _ (by decide)) j) (fun j _ => hf.at (hS _ (by decide)) j) (hf.fl (hF _ (by decide))) (fun j _ => hf.at (hS _ (by decide)) j), by rw [hf.fl (hF _ (by decide))]; exact a4, a5, a6.fr hf (hF _ (by decide)) (hS _ (by decide)), ⟨by rw [h20b, h0]; rfl, by rw [h22 h0]; exact a7.2⟩, by rw [hl]; exact a8⟩
  · rw [if_neg h0]
    exact TMf hn (hx h0) rfl h0
theorem s195_2 {x nm : Nat} {D : Cf} (h : hMC zs ph fs rs) (hok : okC (RU fs rs)) (hx : cX fs = x) {w : Nat} {cd : Int} (hsh : hSim (cT fs) x 2 cd nm w) (hD : PSim fs x 2 cd nm rs D) (hQ : ∀ ph2, TM zs ph2 D → hFM mF mA ph ph2 → Q (.inl none, ph2, g)) : xTC (d + 5) 195 [.inr (.inl (some 147)), .inl (frO (cP fs).length : Int), .inl (x : Int)] ph g Q := by
  obtain ⟨z1, z2, z3, z4, z5, z6, z7, z8⟩ := hSzM
  obtain ⟨y1, y2, y3, y4, y5, y6, y7, y8, y9⟩ := hSzO
  obtain ⟨a1, a2, a3, a4, a5, a6, a7, a8⟩ := id h
  have hs := a1.1
  obtain ⟨t1, t2, t3, t4⟩ := h.text
  have hokt : oks (cT fs) := ok_cT hok.1
  have hfp := List.length_pos_iff.mpr a2
  obtain ⟨m, hm⟩ : ∃ m, fs.length = m + 1 := ⟨fs.length - 1, by omega⟩
  have e43 : hRd ph 147 43 = ((m + 1 : Nat) : Int) := by rw [a4, hm]
  have ek : ((m + 1 : Nat) : Int) - 1 = (m : Int) := by omega
  obtain ⟨g1, ⟨c1, g2, g3, g4⟩, g5⟩ : (cT fs)[x]? = some 123 ∧ (∃ c, (cT fs)[x + 1]? = some c ∧ kdF c = 2 ∧ nmF c = (nm : Int)) ∧ (cT fs)[x + 2]? = some 125 := by rcases hsh with q | q | q | q <;> first | exact q.2.2 | exact absurd q.1 (by decide)
  have hnm : nm < 10 := by have := nmF_le c1; omega
  have hkd := kdF_inv g3
  have hcb := hokt c1 (List.mem_of_getElem? g2)
  have e1 : hRd ph 152 ((frO (cP fs).length) + x + 1) = c1 := t1 (x + 1) c1 g2
  have hxl := (List.getElem?_eq_some_iff.mp g2).1
  obtain ⟨hAt, fH⟩ := h.at (y := x + 3) hm
  have a6H := hAt.2.2.2.2.2.1
  rw [cP_fsN] at a6H
  refine tEn (ls := [some (.inr (.inl (some 147))), some (.inl (frO (cP fs).length : Int)), some (.inl (x : Int)), none, none, none, none]) (fun k => by match k with | 0 => rfl | 1 => rfl | 2 => rfl | 3 => rfl | 4 => rfl | 5 => rfl | 6 => rfl | k + 7 => rfl) ?_
  refine tK (l := xk_195) rfl rfl (fun _ _ _ _ _ => rfl) ?_
  refine tK (l := xk_195) rfl rfl (hGetR (o := some 152) hs rfl rfl rfl (by decide) (by decide) rfl) ?_
  refine tK (l := xk_195) rfl rfl (fun _ _ _ _ _ => rfl) ?_
  refine tK (l := xk_195) rfl rfl (fun _ _ _ _ _ => rfl) ?_
  refine tK (l := xk_195) rfl rfl (hAdd ⟨by omega, by omega⟩) ?_
  rw [show ((frO (cP fs).length) : Int) + (x : Int) = (((frO (cP fs).length) + x : Nat) : Int) by omega]
  refine tK (l := xk_195) rfl rfl (fun _ _ _ _ _ => rfl) ?_
  refine tK (l := xk_195) rfl rfl (hAdd ⟨by omega, by omega⟩) ?_
  rw [show (((frO (cP fs).length) + x : Nat) : Int) + 1 = (((frO (cP fs).length) + x + 1 : Nat) : Int) by omega]
  first | refine tK (l := xk_195) rfl rfl (hIaldN hs rfl rfl (by omega)) ?_ | refine tK (l := xk_195) rfl rfl (hIald hs rfl (by omega) (by omega)) ?_
  rw [e1]
  refine tSt (l := xk_195) rfl rfl (fun _ _ _ _ _ => rfl) (Nat.le_of_ble_eq_true rfl) ?_
  refine tK (l := xk_195) rfl rfl (fun _ _ _ _ _ => rfl) ?_
  refine tCa (l := xk_195) rfl rfl (hInvS rfl rfl rfl rfl (Nat.le_of_ble_eq_true rfl) (Nat.le_of_ble_eq_true rfl)) ?_
  refine s154 (by omega) ?_
  refine tKv ?_
  rw [g4]
  refine tSt (l := xk_195) rfl rfl (fun _ _ _ _ _ => rfl) (Nat.le_of_ble_eq_true rfl) ?_
  refine tK (l := xk_195) rfl rfl (fun _ _ _ _ _ => rfl) ?_
  refine tIf_lt (l := xk_195) (pc' := 27) rfl rfl rfl (fun hc => ?_) (fun hc => ?_)
  · exfalso; omega
  · refine tK (l := xk_195) rfl rfl (fun _ _ _ _ _ => rfl) ?_
    refine tK (l := xk_195) rfl rfl (fun _ _ _ _ _ => rfl) ?_
    refine tSt (l := xk_195) rfl rfl (fun _ _ _ _ _ => rfl) (Nat.le_of_ble_eq_true rfl) ?_
    refine tK (l := xk_195) rfl rfl (fun _ _ _ _ _ => rfl) ?_
    refine tK (l := xk_195) rfl rfl (fun _ _ _ _ _ => rfl) ?_
    refine tCa (l := xk_195) rfl rfl (hInvV (c := 10) hs rfl rfl rfl rfl rfl (Nat.le_of_ble_eq_true rfl) (Nat.le_of_ble_eq_true rfl)) ?_
    refine s196 (sc := rs.1) hnm hs a1.2.1.1 a1.2.1.2.1 a1.2.1.2.2 ?_
    refine tKv ?_
    cases hlk : lk rs.1 nm with
    | none =>
      rw [lkA_none hlk]
      refine tSt (l := xk_195) rfl rfl (fun _ _ _ _ _ => rfl) (Nat.le_of_ble_eq_true rfl) ?_
      refine tK (l := xk_195) rfl rfl (fun _ _ _ _ _ => rfl) ?_
      refine tK (l := xk_195) rfl rfl (hGetR (o := some 162) hs rfl rfl rfl (by decide) (by decide) rfl) ?_
      refine tK (l := xk_195) rfl rfl (fun _ _ _ _ _ => rfl) ?_
      refine tK (l := xk_195) rfl rfl (hGetI hs rfl rfl rfl (by decide) (by decide)) ?_
      rw [e43]
      refine tK (l := xk_195) rfl rfl (fun _ _ _ _ _ => rfl) ?_
      refine tK (l := xk_195) rfl rfl (hSub ⟨by omega, by omega⟩) ?_
      rw [ek]
      refine tK (l := xk_195) rfl rfl (fun _ _ _ _ _ => rfl) ?_
      refine tK (l := xk_195) rfl rfl (fun _ _ _ _ _ => rfl) ?_
      refine tIf_lt (l := xk_195) (pc' := 70) rfl rfl rfl (fun hc => ?_) (fun hc => ?_)
      · exfalso; omega
      · refine tK (l := xk_195) rfl rfl (fun _ _ _ _ _ => rfl) ?_
        refine tK (l := xk_195) rfl rfl (fun _ _ _ _ _ => rfl) ?_
        refine tK (l := xk_195) rfl rfl (hAdd ⟨by omega, by omega⟩) ?_
        rw [show (x : Int) + 3 = ((x + 3 : Nat) : Int) by omega]
        first | refine tK (l := xk_195) rfl rfl (hIastN hs rfl rfl (by omega)) ?_ | refine tK (l := xk_195) rfl rfl (hIast hs rfl (by omega) (by omega)) ?_
        refine tK (l := xk_195) rfl rfl (fun _ _ _ _ _ => rfl) ?_
        refine tIf_ge (l := xk_195) (pc' := 99) rfl rfl rfl (fun hc => ?_) (fun hc => ?_)
        · refine tK (l := xk_195) rfl rfl (fun _ _ _ _ _ => rfl) ?_
          refine tK (l := xk_195) rfl rfl (fun _ _ _ _ _ => rfl) ?_
          refine tIc_eq (l := xk_195) (pc' := 99) rfl rfl rfl (fun hc => ?_) (fun hc => ?_)
          · exact absurd hc (by omega)
          · refine tK (l := xk_195) rfl rfl (fun _ _ _ _ _ => rfl) ?_
            refine tK (l := xk_195) rfl rfl (fun _ _ _ _ _ => rfl) ?_
            refine tIc_eq (l := xk_195) (pc' := 99) rfl rfl rfl (fun hc => ?_) (fun hc => ?_)
            · exact absurd hc (by omega)
            · refine tK (l := xk_195) rfl rfl (fun _ _ _ _ _ => rfl) ?_
              refine tK (l := xk_195) rfl rfl (fun _ _ _ _ _ => rfl) ?_
              refine tK (l := xk_195) rfl rfl (fun _ _ _ _ _ => rfl) ?_
              refine tCa (l := xk_195) rfl rfl (hInvV (c := 10) (hShI1 _ hs rfl rfl) rfl rfl rfl rfl rfl (Nat.le_of_ble_eq_true rfl) (Nat.le_of_ble_eq_true rfl)) ?_
              refine s194 (why := 1) (ip := (cP fs).reverse) hAt.1.1 a6H (fun ph3 hs3 f3 hx3 => ?_)
              refine tKn ?_
              refine tK (l := xk_195) rfl rfl (fun _ _ _ _ _ => rfl) ?_
              refine tRt (l := xk_195) rfl rfl (fun _ _ _ _ _ => rfl) ?_
              have hD9 : D = FL fs rs 1 x := by rcases hD with ⟨q0, hz⟩ | ⟨q0, hv2, hz⟩ | ⟨q0, v, hv2, hz⟩ | ⟨q0, hz⟩ | ⟨q0, hz⟩ | ⟨q0, hz⟩ | ⟨q0, hz⟩ <;> first | exact hz | (rw [hlk] at hv2; cases hv2) | exact absurd q0 (by decide)
              subst hD9
              exact hQ ph3 (TMf (hAt.1.fr hs3 f3) hx3 rfl (by decide)) (fH.big.trans f3.big)
        · exact absurd (by decide) hc
    | some v =>
      obtain ⟨a, ea, ha, hv⟩ := lkA_some hnm a1.2.1.2.2 hlk
      have h41 := a1.2.1.2.1
      rw [ea]
      have hvH : hMv (hUp ph 162 m ((x + 3 : Nat) : Int)) 155 a (some v) := hv.eq (fun j _ _ => fH.at (by decide) j)
      have hokv : oks v := ok_lk hok.2.1 hlk
      refine tSt (l := xk_195) rfl rfl (fun _ _ _ _ _ => rfl) (Nat.le_of_ble_eq_true rfl) ?_
      refine tK (l := xk_195) rfl rfl (fun _ _ _ _ _ => rfl) ?_
      refine tK (l := xk_195) rfl rfl (hGetR (o := some 162) hs rfl rfl rfl (by decide) (by decide) rfl) ?_
      refine tK (l := xk_195) rfl rfl (fun _ _ _ _ _ => rfl) ?_
      refine tK (l := xk_195) rfl rfl (hGetI hs rfl rfl rfl (by decide) (by decide)) ?_
      rw [e43]
      refine tK (l := xk_195) rfl rfl (fun _ _ _ _ _ => rfl) ?_
      refine tK (l := xk_195) rfl rfl (hSub ⟨by omega, by omega⟩) ?_
      rw [ek]
      refine tK (l := xk_195) rfl rfl (fun _ _ _ _ _ => rfl) ?_
      refine tK (l := xk_195) rfl rfl (fun _ _ _ _ _ => rfl) ?_
      refine tIf_lt (l := xk_195) (pc' := 70) rfl rfl rfl (fun hc => ?_) (fun hc => ?_)
      · exfalso; omega
      · refine tK (l := xk_195) rfl rfl (fun _ _ _ _ _ => rfl) ?_
        refine tK (l := xk_195) rfl rfl (fun _ _ _ _ _ => rfl) ?_
        refine tK (l := xk_195) rfl rfl (hAdd ⟨by omega, by omega⟩) ?_
        rw [show (x : Int) + 3 = ((x + 3 : Nat) : Int) by omega]
        first | refine tK (l := xk_195) rfl rfl (hIastN hs rfl rfl (by omega)) ?_ | refine tK (l := xk_195) rfl rfl (hIast hs rfl (by omega) (by omega)) ?_
        refine tK (l := xk_195) rfl rfl (fun _ _ _ _ _ => rfl) ?_
        refine tIf_ge (l := xk_195) (pc' := 99) rfl rfl rfl (fun hc => ?_) (fun hc => ?_)
        · exfalso; omega
        · refine tK (l := xk_195) rfl rfl (fun _ _ _ _ _ => rfl) ?_
          refine tIf_ge (l := xk_195) (pc' := 110) rfl rfl rfl (fun hc => ?_) (fun hc => ?_)
          · exfalso; omega
          · refine tK (l := xk_195) rfl rfl (fun _ _ _ _ _ => rfl) ?_
            refine tK (l := xk_195) rfl rfl (fun _ _ _ _ _ => rfl) ?_
            refine tK (l := xk_195) rfl rfl (fun _ _ _ _ _ => rfl) ?_
            refine tK (l := xk_195) rfl rfl (fun _ _ _ _ _ => rfl) ?_
            refine tIc_ne (l := xk_195) (pc' := 123) rfl rfl rfl (fun hc => ?_) (fun hc => ?_)
            · exact absurd hc (by omega)
            · refine tK (l := xk_195) rfl rfl (fun _ _ _ _ _ => rfl) ?_
              refine tK (l := xk_195) rfl rfl (fun _ _ _ _ _ => rfl) ?_
              refine tCa (l := xk_195) rfl rfl (hInvV (c := 10) (hShI1 _ hs rfl rfl) rfl rfl rfl rfl rfl (Nat.le_of_ble_eq_true rfl) (Nat.le_of_ble_eq_true rfl)) ?_
              refine s197_2 (ip := (cP fs).reverse) (s := rs) hAt.1 a6H hAt.2.2.2.2.2.2.1.1 (by omega) hvH (fun ph3 n3 f3 e3 w3 x3 => ?_)
              refine tKn ?_
              refine tK (l := xk_195) rfl rfl (fun _ _ _ _ _ => rfl) ?_
              refine tRt (l := xk_195) rfl rfl (fun _ _ _ _ _ => rfl) ?_
              have hD9 : D = oP fs x (x + 1 + 2) (pvF false 2 v rs) := by rcases hD with ⟨q0, hz⟩ | ⟨q0, hv2, hz⟩ | ⟨q0, v2, hv2, hz⟩ | ⟨q0, hz⟩ | ⟨q0, hz⟩ | ⟨q0, hz⟩ | ⟨q0, hz⟩ <;> first | (rw [hlk] at hv2; cases hv2; exact hz) | (rw [hlk] at hv2; cases hv2) | exact absurd q0 (by decide)
              exact hQ ph3 (TM_oP hAt n3 f3 e3 w3 x3 (by rw [(pvF_sc _ _ _ _).1]) hD9) (fH.big.trans f3.big)
theorem s195_3 {x nm : Nat} {D : Cf} (h : hMC zs ph fs rs) (hok : okC (RU fs rs)) (hx : cX fs = x) {w : Nat} {cd : Int} (hsh : hSim (cT fs) x 3 cd nm w) (hD : PSim fs x 3 cd nm rs D) (hQ : ∀ ph2, TM zs ph2 D → hFM mF mA ph ph2 → Q (.inl none, ph2, g)) : xTC (d + 5) 195 [.inr (.inl (some 147)), .inl (frO (cP fs).length : Int), .inl (x : Int)] ph g Q := by
  obtain ⟨z1, z2, z3, z4, z5, z6, z7, z8⟩ := hSzM
  obtain ⟨y1, y2, y3, y4, y5, y6, y7, y8, y9⟩ := hSzO
  obtain ⟨a1, a2, a3, a4, a5, a6, a7, a8⟩ := id h
  have hs := a1.1
  obtain ⟨t1, t2, t3, t4⟩ := h.text
  have hokt : oks (cT fs) := ok_cT hok.1
  have hfp := List.length_pos_iff.mpr a2
  obtain ⟨m, hm⟩ : ∃ m, fs.length = m + 1 := ⟨fs.length - 1, by omega⟩
  have e43 : hRd ph 147 43 = ((m + 1 : Nat) : Int) := by rw [a4, hm]
  have ek : ((m + 1 : Nat) : Int) - 1 = (m : Int) := by omega
  obtain ⟨g1, ⟨c1, g2, g3⟩, ⟨c2, g4, g5⟩⟩ : (cT fs)[x]? = some 123 ∧ (∃ c, (cT fs)[x + 1]? = some c ∧ kdF c = 3) ∧ (∃ c, (cT fs)[x + 2]? = some c ∧ nmF c = (nm : Int)) := by rcases hsh with q | q | q | q <;> first | exact ⟨q.2.2.1, q.2.2.2.1, q.2.2.2.2.1⟩ | exact absurd q.1 (by decide)
  have hnm : nm < 10 := by have := nmF_le c2; omega
  have hc1 : c1 = 33 := by have := kdF_inv g3; omega
  subst hc1
  have hcb := hokt c2 (List.mem_of_getElem? g4)
  have e1 : hRd ph 152 ((frO (cP fs).length) + x + 1) = 33 := t1 (x + 1) _ g2
  have e2 : hRd ph 152 ((frO (cP fs).length) + x + 2) = c2 := t1 (x + 2) _ g4
  have hxl := (List.getElem?_eq_some_iff.mp g2).1
  have hxl2 := (List.getElem?_eq_some_iff.mp g4).1
  obtain ⟨hAt, fH⟩ := h.at (y := x + 4) hm
  have a6H := hAt.2.2.2.2.2.1
  rw [cP_fsN] at a6H
  refine tEn (ls := [some (.inr (.inl (some 147))), some (.inl (frO (cP fs).length : Int)), some (.inl (x : Int)), none, none, none, none]) (fun k => by match k with | 0 => rfl | 1 => rfl | 2 => rfl | 3 => rfl | 4 => rfl | 5 => rfl | 6 => rfl | k + 7 => rfl) ?_
  refine tK (l := xk_195) rfl rfl (fun _ _ _ _ _ => rfl) ?_
  refine tK (l := xk_195) rfl rfl (hGetR (o := some 152) hs rfl rfl rfl (by decide) (by decide) rfl) ?_
  refine tK (l := xk_195) rfl rfl (fun _ _ _ _ _ => rfl) ?_
  refine tK (l := xk_195) rfl rfl (fun _ _ _ _ _ => rfl) ?_
  refine tK (l := xk_195) rfl rfl (hAdd ⟨by omega, by omega⟩) ?_
  rw [show ((frO (cP fs).length) : Int) + (x : Int) = (((frO (cP fs).length) + x : Nat) : Int) by omega]
  refine tK (l := xk_195) rfl rfl (fun _ _ _ _ _ => rfl) ?_
  refine tK (l := xk_195) rfl rfl (hAdd ⟨by omega, by omega⟩) ?_
  rw [show (((frO (cP fs).length) + x : Nat) : Int) + 1 = (((frO (cP fs).length) + x + 1 : Nat) : Int) by omega]
  first | refine tK (l := xk_195) rfl rfl (hIaldN hs rfl rfl (by omega)) ?_ | refine tK (l := xk_195) rfl rfl (hIald hs rfl (by omega) (by omega)) ?_
  rw [e1]
  refine tSt (l := xk_195) rfl rfl (fun _ _ _ _ _ => rfl) (Nat.le_of_ble_eq_true rfl) ?_
  refine tK (l := xk_195) rfl rfl (fun _ _ _ _ _ => rfl) ?_
  refine tCa (l := xk_195) rfl rfl (hInvS rfl rfl rfl rfl (Nat.le_of_ble_eq_true rfl) (Nat.le_of_ble_eq_true rfl)) ?_
  refine s154 (by decide) ?_
  refine tKv ?_
  rw [show nmF 33 = -1 from rfl]
  refine tSt (l := xk_195) rfl rfl (fun _ _ _ _ _ => rfl) (Nat.le_of_ble_eq_true rfl) ?_
  refine tK (l := xk_195) rfl rfl (fun _ _ _ _ _ => rfl) ?_
  refine tIf_lt (l := xk_195) (pc' := 27) rfl rfl rfl (fun hc => ?_) (fun hc => ?_)
  · refine tK (l := xk_195) rfl rfl (fun _ _ _ _ _ => rfl) ?_
    refine tK (l := xk_195) rfl rfl (hGetR (o := some 152) hs rfl rfl rfl (by decide) (by decide) rfl) ?_
    refine tK (l := xk_195) rfl rfl (fun _ _ _ _ _ => rfl) ?_
    refine tK (l := xk_195) rfl rfl (fun _ _ _ _ _ => rfl) ?_
    refine tK (l := xk_195) rfl rfl (hAdd ⟨by omega, by omega⟩) ?_
    rw [show ((frO (cP fs).length) : Int) + (x : Int) = (((frO (cP fs).length) + x : Nat) : Int) by omega]
    refine tK (l := xk_195) rfl rfl (fun _ _ _ _ _ => rfl) ?_
    refine tK (l := xk_195) rfl rfl (hAdd ⟨by omega, by omega⟩) ?_
    rw [show (((frO (cP fs).length) + x : Nat) : Int) + 2 = (((frO (cP fs).length) + x + 2 : Nat) : Int) by omega]
    first | refine tK (l := xk_195) rfl rfl (hIaldN hs rfl rfl (by omega)) ?_ | refine tK (l := xk_195) rfl rfl (hIald hs rfl (by omega) (by omega)) ?_
    rw [e2]
    refine tCa (l := xk_195) rfl rfl (hInvS rfl rfl rfl rfl (Nat.le_of_ble_eq_true rfl) (Nat.le_of_ble_eq_true rfl)) ?_
    refine s154 (by omega) ?_
    refine tKv ?_
    rw [g5]
    refine tSt (l := xk_195) rfl rfl (fun _ _ _ _ _ => rfl) (Nat.le_of_ble_eq_true rfl) ?_
    refine tK (l := xk_195) rfl rfl (fun _ _ _ _ _ => rfl) ?_
    refine tK (l := xk_195) rfl rfl (fun _ _ _ _ _ => rfl) ?_
    refine tCa (l := xk_195) rfl rfl (hInvV (c := 10) hs rfl rfl rfl rfl rfl (Nat.le_of_ble_eq_true rfl) (Nat.le_of_ble_eq_true rfl)) ?_
    refine s196 (sc := rs.1) hnm hs a1.2.1.1 a1.2.1.2.1 a1.2.1.2.2 ?_
    refine tKv ?_
    cases hlk : lk rs.1 nm with
    | none =>
      rw [lkA_none hlk]
      refine tSt (l := xk_195) rfl rfl (fun _ _ _ _ _ => rfl) (Nat.le_of_ble_eq_true rfl) ?_
      refine tK (l := xk_195) rfl rfl (fun _ _ _ _ _ => rfl) ?_
      refine tK (l := xk_195) rfl rfl (hGetR (o := some 162) hs rfl rfl rfl (by decide) (by decide) rfl) ?_
      refine tK (l := xk_195) rfl rfl (fun _ _ _ _ _ => rfl) ?_
      refine tK (l := xk_195) rfl rfl (hGetI hs rfl rfl rfl (by decide) (by decide)) ?_
      rw [e43]
      refine tK (l := xk_195) rfl rfl (fun _ _ _ _ _ => rfl) ?_
      refine tK (l := xk_195) rfl rfl (hSub ⟨by omega, by omega⟩) ?_
      rw [ek]
      refine tK (l := xk_195) rfl rfl (fun _ _ _ _ _ => rfl) ?_
      refine tK (l := xk_195) rfl rfl (fun _ _ _ _ _ => rfl) ?_
      refine tIf_lt (l := xk_195) (pc' := 70) rfl rfl rfl (fun hc => ?_) (fun hc => ?_)
      · refine tK (l := xk_195) rfl rfl (fun _ _ _ _ _ => rfl) ?_
        refine tK (l := xk_195) rfl rfl (hAdd ⟨by omega, by omega⟩) ?_
        rw [show (x : Int) + 4 = ((x + 4 : Nat) : Int) by omega]
        first | refine tK (l := xk_195) rfl rfl (hIastN hs rfl rfl (by omega)) ?_ | refine tK (l := xk_195) rfl rfl (hIast hs rfl (by omega) (by omega)) ?_
        refine tK (l := xk_195) rfl rfl (fun _ _ _ _ _ => rfl) ?_
        refine tIf_ge (l := xk_195) (pc' := 99) rfl rfl rfl (fun hc => ?_) (fun hc => ?_)
        · refine tK (l := xk_195) rfl rfl (fun _ _ _ _ _ => rfl) ?_
          refine tK (l := xk_195) rfl rfl (fun _ _ _ _ _ => rfl) ?_
          refine tIc_eq (l := xk_195) (pc' := 99) rfl rfl rfl (fun hc => ?_) (fun hc => ?_)
          · exact absurd hc (by decide)
          · refine tK (l := xk_195) rfl rfl (fun _ _ _ _ _ => rfl) ?_
            refine tK (l := xk_195) rfl rfl (fun _ _ _ _ _ => rfl) ?_
            refine tIc_eq (l := xk_195) (pc' := 99) rfl rfl rfl (fun hc => ?_) (fun hc => ?_)
            · exact absurd hc (by decide)
            · refine tK (l := xk_195) rfl rfl (fun _ _ _ _ _ => rfl) ?_
              refine tK (l := xk_195) rfl rfl (fun _ _ _ _ _ => rfl) ?_
              refine tK (l := xk_195) rfl rfl (fun _ _ _ _ _ => rfl) ?_
              refine tCa (l := xk_195) rfl rfl (hInvV (c := 10) (hShI1 _ hs rfl rfl) rfl rfl rfl rfl rfl (Nat.le_of_ble_eq_true rfl) (Nat.le_of_ble_eq_true rfl)) ?_
              refine s194 (why := 1) (ip := (cP fs).reverse) hAt.1.1 a6H (fun ph3 hs3 f3 hx3 => ?_)
              refine tKn ?_
              refine tK (l := xk_195) rfl rfl (fun _ _ _ _ _ => rfl) ?_
              refine tRt (l := xk_195) rfl rfl (fun _ _ _ _ _ => rfl) ?_
              have hD9 : D = FL fs rs 1 x := by rcases hD with ⟨q0, hz⟩ | ⟨q0, hv2, hz⟩ | ⟨q0, v, hv2, hz⟩ | ⟨q0, hz⟩ | ⟨q0, hz⟩ | ⟨q0, hz⟩ | ⟨q0, hz⟩ <;> first | exact hz | (rw [hlk] at hv2; cases hv2) | exact absurd q0 (by decide)
              subst hD9
              exact hQ ph3 (TMf (hAt.1.fr hs3 f3) hx3 rfl (by decide)) (fH.big.trans f3.big)
        · exact absurd (by decide) hc
      · exact absurd (by decide) hc
    | some v =>
      obtain ⟨a, ea, ha, hv⟩ := lkA_some hnm a1.2.1.2.2 hlk
      have h41 := a1.2.1.2.1
      rw [ea]
      have hvH : hMv (hUp ph 162 m ((x + 4 : Nat) : Int)) 155 a (some v) := hv.eq (fun j _ _ => fH.at (by decide) j)
      have hokv : oks v := ok_lk hok.2.1 hlk
      refine tSt (l := xk_195) rfl rfl (fun _ _ _ _ _ => rfl) (Nat.le_of_ble_eq_true rfl) ?_
      refine tK (l := xk_195) rfl rfl (fun _ _ _ _ _ => rfl) ?_
      refine tK (l := xk_195) rfl rfl (hGetR (o := some 162) hs rfl rfl rfl (by decide) (by decide) rfl) ?_
      refine tK (l := xk_195) rfl rfl (fun _ _ _ _ _ => rfl) ?_
      refine tK (l := xk_195) rfl rfl (hGetI hs rfl rfl rfl (by decide) (by decide)) ?_
      rw [e43]
      refine tK (l := xk_195) rfl rfl (fun _ _ _ _ _ => rfl) ?_
      refine tK (l := xk_195) rfl rfl (hSub ⟨by omega, by omega⟩) ?_
      rw [ek]
      refine tK (l := xk_195) rfl rfl (fun _ _ _ _ _ => rfl) ?_
      refine tK (l := xk_195) rfl rfl (fun _ _ _ _ _ => rfl) ?_
      refine tIf_lt (l := xk_195) (pc' := 70) rfl rfl rfl (fun hc => ?_) (fun hc => ?_)
      · refine tK (l := xk_195) rfl rfl (fun _ _ _ _ _ => rfl) ?_
        refine tK (l := xk_195) rfl rfl (hAdd ⟨by omega, by omega⟩) ?_
        rw [show (x : Int) + 4 = ((x + 4 : Nat) : Int) by omega]
        first | refine tK (l := xk_195) rfl rfl (hIastN hs rfl rfl (by omega)) ?_ | refine tK (l := xk_195) rfl rfl (hIast hs rfl (by omega) (by omega)) ?_
        refine tK (l := xk_195) rfl rfl (fun _ _ _ _ _ => rfl) ?_
        refine tIf_ge (l := xk_195) (pc' := 99) rfl rfl rfl (fun hc => ?_) (fun hc => ?_)
        · exfalso; omega
        · refine tK (l := xk_195) rfl rfl (fun _ _ _ _ _ => rfl) ?_
          refine tIf_ge (l := xk_195) (pc' := 110) rfl rfl rfl (fun hc => ?_) (fun hc => ?_)
          · refine tK (l := xk_195) rfl rfl (fun _ _ _ _ _ => rfl) ?_
            refine tK (l := xk_195) rfl rfl (fun _ _ _ _ _ => rfl) ?_
            refine tIc_ne (l := xk_195) (pc' := 131) rfl rfl rfl (fun hc => ?_) (fun hc => ?_)
            · refine tK (l := xk_195) rfl rfl (fun _ _ _ _ _ => rfl) ?_
              refine tK (l := xk_195) rfl rfl (fun _ _ _ _ _ => rfl) ?_
              refine tK (l := xk_195) rfl rfl (fun _ _ _ _ _ => rfl) ?_
              refine tK (l := xk_195) rfl rfl (fun _ _ _ _ _ => rfl) ?_
              refine tIc_ne (l := xk_195) (pc' := 123) rfl rfl rfl (fun hc => ?_) (fun hc => ?_)
              · refine tK (l := xk_195) rfl rfl (fun _ _ _ _ _ => rfl) ?_
                refine tK (l := xk_195) rfl rfl (fun _ _ _ _ _ => rfl) ?_
                refine tK (l := xk_195) rfl rfl (fun _ _ _ _ _ => rfl) ?_
                refine tCa (l := xk_195) rfl rfl (hInvV (c := 10) (hShI1 _ hs rfl rfl) rfl rfl rfl rfl rfl (Nat.le_of_ble_eq_true rfl) (Nat.le_of_ble_eq_true rfl)) ?_
                refine s197_3 (ip := (cP fs).reverse) (s := rs) hAt.1 a6H hAt.2.2.2.2.2.2.1.1 (by omega) hvH (fun ph3 n3 f3 e3 w3 x3 => ?_)
                refine tKn ?_
                refine tK (l := xk_195) rfl rfl (fun _ _ _ _ _ => rfl) ?_
                refine tRt (l := xk_195) rfl rfl (fun _ _ _ _ _ => rfl) ?_
                have hD9 : D = oP fs x (x + 1 + 3) (pvF true 3 v rs) := by rcases hD with ⟨q0, hz⟩ | ⟨q0, hv2, hz⟩ | ⟨q0, v2, hv2, hz⟩ | ⟨q0, hz⟩ | ⟨q0, hz⟩ | ⟨q0, hz⟩ | ⟨q0, hz⟩ <;> first | (rw [hlk] at hv2; cases hv2; exact hz) | (rw [hlk] at hv2; cases hv2) | exact absurd q0 (by decide)
                exact hQ ph3 (TM_oP hAt n3 f3 e3 w3 x3 (by rw [(pvF_sc _ _ _ _).1]) hD9) (fH.big.trans f3.big)
              · exact absurd rfl hc
            · exact absurd rfl hc
          · exact absurd (by decide) hc
      · exact absurd (by decide) hc
  · exact absurd (by decide) hc
theorem s195_4 {x nm : Nat} {D : Cf} (h : hMC zs ph fs rs) (hok : okC (RU fs rs)) (hx : cX fs = x) {w : Nat} {cd : Int} (hsh : hSim (cT fs) x 4 cd nm w) (hD : PSim fs x 4 cd nm rs D) (hQ : ∀ ph2, TM zs ph2 D → hFM mF mA ph ph2 → Q (.inl none, ph2, g)) : xTC (d + 5) 195 [.inr (.inl (some 147)), .inl (frO (cP fs).length : Int), .inl (x : Int)] ph g Q := by
  obtain ⟨z1, z2, z3, z4, z5, z6, z7, z8⟩ := hSzM
  obtain ⟨y1, y2, y3, y4, y5, y6, y7, y8, y9⟩ := hSzO
  obtain ⟨a1, a2, a3, a4, a5, a6, a7, a8⟩ := id h
  have hs := a1.1
  obtain ⟨t1, t2, t3, t4⟩ := h.text
  have hokt : oks (cT fs) := ok_cT hok.1
  have hfp := List.length_pos_iff.mpr a2
  obtain ⟨m, hm⟩ : ∃ m, fs.length = m + 1 := ⟨fs.length - 1, by omega⟩
  have e43 : hRd ph 147 43 = ((m + 1 : Nat) : Int) := by rw [a4, hm]
  have ek : ((m + 1 : Nat) : Int) - 1 = (m : Int) := by omega
  obtain ⟨g1, ⟨c1, g2, g3⟩, ⟨c2, g4, g5⟩⟩ : (cT fs)[x]? = some 123 ∧ (∃ c, (cT fs)[x + 1]? = some c ∧ kdF c = 4) ∧ (∃ c, (cT fs)[x + 2]? = some c ∧ nmF c = (nm : Int)) := by rcases hsh with q | q | q | q <;> first | exact ⟨q.2.2.1, q.2.2.2.1, q.2.2.2.2.1⟩ | exact absurd q.1 (by decide)
  have hnm : nm < 10 := by have := nmF_le c2; omega
  have hc1 : c1 = 94 := by have := kdF_inv g3; omega
  subst hc1
  have hcb := hokt c2 (List.mem_of_getElem? g4)
  have e1 : hRd ph 152 ((frO (cP fs).length) + x + 1) = 94 := t1 (x + 1) _ g2
  have e2 : hRd ph 152 ((frO (cP fs).length) + x + 2) = c2 := t1 (x + 2) _ g4
  have hxl := (List.getElem?_eq_some_iff.mp g2).1
  have hxl2 := (List.getElem?_eq_some_iff.mp g4).1
  obtain ⟨hAt, fH⟩ := h.at (y := x + 4) hm
  have a6H := hAt.2.2.2.2.2.1
  rw [cP_fsN] at a6H
  refine tEn (ls := [some (.inr (.inl (some 147))), some (.inl (frO (cP fs).length : Int)), some (.inl (x : Int)), none, none, none, none]) (fun k => by match k with | 0 => rfl | 1 => rfl | 2 => rfl | 3 => rfl | 4 => rfl | 5 => rfl | 6 => rfl | k + 7 => rfl) ?_
  refine tK (l := xk_195) rfl rfl (fun _ _ _ _ _ => rfl) ?_
  refine tK (l := xk_195) rfl rfl (hGetR (o := some 152) hs rfl rfl rfl (by decide) (by decide) rfl) ?_
  refine tK (l := xk_195) rfl rfl (fun _ _ _ _ _ => rfl) ?_
  refine tK (l := xk_195) rfl rfl (fun _ _ _ _ _ => rfl) ?_
  refine tK (l := xk_195) rfl rfl (hAdd ⟨by omega, by omega⟩) ?_
  rw [show ((frO (cP fs).length) : Int) + (x : Int) = (((frO (cP fs).length) + x : Nat) : Int) by omega]
  refine tK (l := xk_195) rfl rfl (fun _ _ _ _ _ => rfl) ?_
  refine tK (l := xk_195) rfl rfl (hAdd ⟨by omega, by omega⟩) ?_
  rw [show (((frO (cP fs).length) + x : Nat) : Int) + 1 = (((frO (cP fs).length) + x + 1 : Nat) : Int) by omega]
  first | refine tK (l := xk_195) rfl rfl (hIaldN hs rfl rfl (by omega)) ?_ | refine tK (l := xk_195) rfl rfl (hIald hs rfl (by omega) (by omega)) ?_
  rw [e1]
  refine tSt (l := xk_195) rfl rfl (fun _ _ _ _ _ => rfl) (Nat.le_of_ble_eq_true rfl) ?_
  refine tK (l := xk_195) rfl rfl (fun _ _ _ _ _ => rfl) ?_
  refine tCa (l := xk_195) rfl rfl (hInvS rfl rfl rfl rfl (Nat.le_of_ble_eq_true rfl) (Nat.le_of_ble_eq_true rfl)) ?_
  refine s154 (by decide) ?_
  refine tKv ?_
  rw [show nmF 94 = -1 from rfl]
  refine tSt (l := xk_195) rfl rfl (fun _ _ _ _ _ => rfl) (Nat.le_of_ble_eq_true rfl) ?_
  refine tK (l := xk_195) rfl rfl (fun _ _ _ _ _ => rfl) ?_
  refine tIf_lt (l := xk_195) (pc' := 27) rfl rfl rfl (fun hc => ?_) (fun hc => ?_)
  · refine tK (l := xk_195) rfl rfl (fun _ _ _ _ _ => rfl) ?_
    refine tK (l := xk_195) rfl rfl (hGetR (o := some 152) hs rfl rfl rfl (by decide) (by decide) rfl) ?_
    refine tK (l := xk_195) rfl rfl (fun _ _ _ _ _ => rfl) ?_
    refine tK (l := xk_195) rfl rfl (fun _ _ _ _ _ => rfl) ?_
    refine tK (l := xk_195) rfl rfl (hAdd ⟨by omega, by omega⟩) ?_
    rw [show ((frO (cP fs).length) : Int) + (x : Int) = (((frO (cP fs).length) + x : Nat) : Int) by omega]
    refine tK (l := xk_195) rfl rfl (fun _ _ _ _ _ => rfl) ?_
    refine tK (l := xk_195) rfl rfl (hAdd ⟨by omega, by omega⟩) ?_
    rw [show (((frO (cP fs).length) + x : Nat) : Int) + 2 = (((frO (cP fs).length) + x + 2 : Nat) : Int) by omega]
    first | refine tK (l := xk_195) rfl rfl (hIaldN hs rfl rfl (by omega)) ?_ | refine tK (l := xk_195) rfl rfl (hIald hs rfl (by omega) (by omega)) ?_
    rw [e2]
    refine tCa (l := xk_195) rfl rfl (hInvS rfl rfl rfl rfl (Nat.le_of_ble_eq_true rfl) (Nat.le_of_ble_eq_true rfl)) ?_
    refine s154 (by omega) ?_
    refine tKv ?_
    rw [g5]
    refine tSt (l := xk_195) rfl rfl (fun _ _ _ _ _ => rfl) (Nat.le_of_ble_eq_true rfl) ?_
    refine tK (l := xk_195) rfl rfl (fun _ _ _ _ _ => rfl) ?_
    refine tK (l := xk_195) rfl rfl (fun _ _ _ _ _ => rfl) ?_
    refine tCa (l := xk_195) rfl rfl (hInvV (c := 10) hs rfl rfl rfl rfl rfl (Nat.le_of_ble_eq_true rfl) (Nat.le_of_ble_eq_true rfl)) ?_
    refine s196 (sc := rs.1) hnm hs a1.2.1.1 a1.2.1.2.1 a1.2.1.2.2 ?_
    refine tKv ?_
    cases hlk : lk rs.1 nm with
    | none =>
      rw [lkA_none hlk]
      refine tSt (l := xk_195) rfl rfl (fun _ _ _ _ _ => rfl) (Nat.le_of_ble_eq_true rfl) ?_
      refine tK (l := xk_195) rfl rfl (fun _ _ _ _ _ => rfl) ?_
      refine tK (l := xk_195) rfl rfl (hGetR (o := some 162) hs rfl rfl rfl (by decide) (by decide) rfl) ?_
      refine tK (l := xk_195) rfl rfl (fun _ _ _ _ _ => rfl) ?_
      refine tK (l := xk_195) rfl rfl (hGetI hs rfl rfl rfl (by decide) (by decide)) ?_
      rw [e43]
      refine tK (l := xk_195) rfl rfl (fun _ _ _ _ _ => rfl) ?_
      refine tK (l := xk_195) rfl rfl (hSub ⟨by omega, by omega⟩) ?_
      rw [ek]
      refine tK (l := xk_195) rfl rfl (fun _ _ _ _ _ => rfl) ?_
      refine tK (l := xk_195) rfl rfl (fun _ _ _ _ _ => rfl) ?_
      refine tIf_lt (l := xk_195) (pc' := 70) rfl rfl rfl (fun hc => ?_) (fun hc => ?_)
      · refine tK (l := xk_195) rfl rfl (fun _ _ _ _ _ => rfl) ?_
        refine tK (l := xk_195) rfl rfl (hAdd ⟨by omega, by omega⟩) ?_
        rw [show (x : Int) + 4 = ((x + 4 : Nat) : Int) by omega]
        first | refine tK (l := xk_195) rfl rfl (hIastN hs rfl rfl (by omega)) ?_ | refine tK (l := xk_195) rfl rfl (hIast hs rfl (by omega) (by omega)) ?_
        refine tK (l := xk_195) rfl rfl (fun _ _ _ _ _ => rfl) ?_
        refine tIf_ge (l := xk_195) (pc' := 99) rfl rfl rfl (fun hc => ?_) (fun hc => ?_)
        · refine tK (l := xk_195) rfl rfl (fun _ _ _ _ _ => rfl) ?_
          refine tK (l := xk_195) rfl rfl (fun _ _ _ _ _ => rfl) ?_
          refine tIc_eq (l := xk_195) (pc' := 99) rfl rfl rfl (fun hc => ?_) (fun hc => ?_)
          · exact absurd hc (by decide)
          · refine tK (l := xk_195) rfl rfl (fun _ _ _ _ _ => rfl) ?_
            refine tK (l := xk_195) rfl rfl (fun _ _ _ _ _ => rfl) ?_
            refine tIc_eq (l := xk_195) (pc' := 99) rfl rfl rfl (fun hc => ?_) (fun hc => ?_)
            · exact absurd hc (by decide)
            · refine tK (l := xk_195) rfl rfl (fun _ _ _ _ _ => rfl) ?_
              refine tK (l := xk_195) rfl rfl (fun _ _ _ _ _ => rfl) ?_
              refine tK (l := xk_195) rfl rfl (fun _ _ _ _ _ => rfl) ?_
              refine tCa (l := xk_195) rfl rfl (hInvV (c := 10) (hShI1 _ hs rfl rfl) rfl rfl rfl rfl rfl (Nat.le_of_ble_eq_true rfl) (Nat.le_of_ble_eq_true rfl)) ?_
              refine s194 (why := 1) (ip := (cP fs).reverse) hAt.1.1 a6H (fun ph3 hs3 f3 hx3 => ?_)
              refine tKn ?_
              refine tK (l := xk_195) rfl rfl (fun _ _ _ _ _ => rfl) ?_
              refine tRt (l := xk_195) rfl rfl (fun _ _ _ _ _ => rfl) ?_
              have hD9 : D = FL fs rs 1 x := by rcases hD with ⟨q0, hz⟩ | ⟨q0, hz⟩ | ⟨q0, hz⟩ | ⟨q0, hv2, hz⟩ | ⟨q0, v2, hv2, hz⟩ | ⟨q0, v2, hv2, hz⟩ | ⟨q0, v2, hv2, hz⟩ <;> first | exact hz | (rw [hlk] at hv2; cases hv2) | exact absurd q0 (by decide)
              subst hD9
              exact hQ ph3 (TMf (hAt.1.fr hs3 f3) hx3 rfl (by decide)) (fH.big.trans f3.big)
        · exact absurd (by decide) hc
      · exact absurd (by decide) hc
    | some v =>
      obtain ⟨a, ea, ha, hv⟩ := lkA_some hnm a1.2.1.2.2 hlk
      have h41 := a1.2.1.2.1
      rw [ea]
      have hvH : hMv (hUp ph 162 m ((x + 4 : Nat) : Int)) 155 a (some v) := hv.eq (fun j _ _ => fH.at (by decide) j)
      have hokv : oks v := ok_lk hok.2.1 hlk
      refine tSt (l := xk_195) rfl rfl (fun _ _ _ _ _ => rfl) (Nat.le_of_ble_eq_true rfl) ?_
      refine tK (l := xk_195) rfl rfl (fun _ _ _ _ _ => rfl) ?_
      refine tK (l := xk_195) rfl rfl (hGetR (o := some 162) hs rfl rfl rfl (by decide) (by decide) rfl) ?_
      refine tK (l := xk_195) rfl rfl (fun _ _ _ _ _ => rfl) ?_
      refine tK (l := xk_195) rfl rfl (hGetI hs rfl rfl rfl (by decide) (by decide)) ?_
      rw [e43]
      refine tK (l := xk_195) rfl rfl (fun _ _ _ _ _ => rfl) ?_
      refine tK (l := xk_195) rfl rfl (hSub ⟨by omega, by omega⟩) ?_
      rw [ek]
      refine tK (l := xk_195) rfl rfl (fun _ _ _ _ _ => rfl) ?_
      refine tK (l := xk_195) rfl rfl (fun _ _ _ _ _ => rfl) ?_
      refine tIf_lt (l := xk_195) (pc' := 70) rfl rfl rfl (fun hc => ?_) (fun hc => ?_)
      · refine tK (l := xk_195) rfl rfl (fun _ _ _ _ _ => rfl) ?_
        refine tK (l := xk_195) rfl rfl (hAdd ⟨by omega, by omega⟩) ?_
        rw [show (x : Int) + 4 = ((x + 4 : Nat) : Int) by omega]
        first | refine tK (l := xk_195) rfl rfl (hIastN hs rfl rfl (by omega)) ?_ | refine tK (l := xk_195) rfl rfl (hIast hs rfl (by omega) (by omega)) ?_
        refine tK (l := xk_195) rfl rfl (fun _ _ _ _ _ => rfl) ?_
        refine tIf_ge (l := xk_195) (pc' := 99) rfl rfl rfl (fun hc => ?_) (fun hc => ?_)
        · exfalso; omega
        · refine tK (l := xk_195) rfl rfl (fun _ _ _ _ _ => rfl) ?_
          refine tIf_ge (l := xk_195) (pc' := 110) rfl rfl rfl (fun hc => ?_) (fun hc => ?_)
          · refine tK (l := xk_195) rfl rfl (fun _ _ _ _ _ => rfl) ?_
            refine tK (l := xk_195) rfl rfl (fun _ _ _ _ _ => rfl) ?_
            refine tIc_ne (l := xk_195) (pc' := 131) rfl rfl rfl (fun hc => ?_) (fun hc => ?_)
            · exact absurd hc (by decide)
            · refine tK (l := xk_195) rfl rfl (fun _ _ _ _ _ => rfl) ?_
              refine tK (l := xk_195) rfl rfl (fun _ _ _ _ _ => rfl) ?_
              refine tIc_ne (l := xk_195) (pc' := 147) rfl rfl rfl (fun hc => ?_) (fun hc => ?_)
              · refine tK (l := xk_195) rfl rfl (fun _ _ _ _ _ => rfl) ?_
                refine tK (l := xk_195) rfl rfl (fun _ _ _ _ _ => rfl) ?_
                refine tK (l := xk_195) rfl rfl (fun _ _ _ _ _ => rfl) ?_
                refine tCa (l := xk_195) rfl rfl (hInvV (c := 10) (hShI1 _ hs rfl rfl) rfl rfl rfl rfl rfl (Nat.le_of_ble_eq_true rfl) (Nat.le_of_ble_eq_true rfl)) ?_
                rcases hD with ⟨q0, hz⟩ | ⟨q0, hz⟩ | ⟨q0, hz⟩ | ⟨q0, hv2, hD9⟩ | ⟨q0, v2, hv2, hL, hD9⟩ | ⟨q0, v2, hv2, hL, hw, hv24, hD9⟩ | ⟨q0, v2, hv2, hL, hw, hv24, hfl, hsc, hD9⟩
                · exact absurd q0 (by decide)
                · exact absurd q0 (by decide)
                · exact absurd q0 (by decide)
                · rw [hlk] at hv2; cases hv2
                · rw [hlk] at hv2
                  cases hv2
                  refine s199_4 (nm := nm) hAt (by omega) hvH hokv hL hD9 (fun ph3 y3 f3 => ?_)
                  refine tKn ?_
                  refine tK (l := xk_195) rfl rfl (fun _ _ _ _ _ => rfl) ?_
                  refine tRt (l := xk_195) rfl rfl (fun _ _ _ _ _ => rfl) ?_
                  exact hQ ph3 y3 (fH.big.trans f3)
                · rw [hlk] at hv2
                  cases hv2
                  refine s199_5 (nm := nm) hAt (by omega) hvH hokv hL hw hD9 (fun ph3 y3 f3 => ?_)
                  refine tKn ?_
                  refine tK (l := xk_195) rfl rfl (fun _ _ _ _ _ => rfl) ?_
                  refine tRt (l := xk_195) rfl rfl (fun _ _ _ _ _ => rfl) ?_
                  exact hQ ph3 y3 (fH.big.trans f3)
                · rw [hlk] at hv2
                  cases hv2
                  refine s199_6 hAt (by omega) hvH hokv hL hw hfl hsc hD9 (fun ph3 y3 f3 => ?_)
                  refine tKn ?_
                  refine tK (l := xk_195) rfl rfl (fun _ _ _ _ _ => rfl) ?_
                  refine tRt (l := xk_195) rfl rfl (fun _ _ _ _ _ => rfl) ?_
                  exact hQ ph3 y3 (fH.big.trans f3)
              · exact absurd rfl hc
          · exact absurd (by decide) hc
      · exact absurd (by decide) hc
  · exact absurd (by decide) hc
theorem s195_5 {x nm : Nat} {D : Cf} (h : hMC zs ph fs rs) (hok : okC (RU fs rs)) (hx : cX fs = x) (hsh : hBlk (cT fs) x 5 nm) (hD : PBlk fs x 5 nm rs D) (hQ : ∀ ph2, TM zs ph2 D → hFM mF mA ph ph2 → Q (.inl none, ph2, g)) : xTC (d + 5) 195 [.inr (.inl (some 147)), .inl (frO (cP fs).length : Int), .inl (x : Int)] ph g Q := by
  obtain ⟨z1, z2, z3, z4, z5, z6, z7, z8⟩ := hSzM
  obtain ⟨y1, y2, y3, y4, y5, y6, y7, y8, y9⟩ := hSzO
  obtain ⟨a1, a2, a3, a4, a5, a6, a7, a8⟩ := id h
  have hs := a1.1
  obtain ⟨t1, t2, t3, t4⟩ := h.text
  have hokt : oks (cT fs) := ok_cT hok.1
  have hfp := List.length_pos_iff.mpr a2
  obtain ⟨m, hm⟩ : ∃ m, fs.length = m + 1 := ⟨fs.length - 1, by omega⟩
  have e43 : hRd ph 147 43 = ((m + 1 : Nat) : Int) := by rw [a4, hm]
  have ek : ((m + 1 : Nat) : Int) - 1 = (m : Int) := by omega
  obtain ⟨g1, ⟨c1, g2, g3⟩, ⟨c2, g4, g5⟩⟩ : (cT fs)[x]? = some 123 ∧ (∃ c, (cT fs)[x + 1]? = some c ∧ kdF c = 5) ∧ (∃ c, (cT fs)[x + 2]? = some c ∧ nmF c = (nm : Int)) := ⟨hsh.2.1, hsh.2.2.1, hsh.2.2.2.1⟩
  have hnm : nm < 10 := by have := nmF_le c2; omega
  have hc1 : c1 = 42 := by have := kdF_inv g3; omega
  subst hc1
  have hcb := hokt c2 (List.mem_of_getElem? g4)
  have e1 : hRd ph 152 ((frO (cP fs).length) + x + 1) = 42 := t1 (x + 1) _ g2
  have e2 : hRd ph 152 ((frO (cP fs).length) + x + 2) = c2 := t1 (x + 2) _ g4
  have hxl := (List.getElem?_eq_some_iff.mp g2).1
  have hxl2 := (List.getElem?_eq_some_iff.mp g4).1
  obtain ⟨hAt, fH⟩ := h.at (y := x + 4) hm
  have a6H := hAt.2.2.2.2.2.1
  rw [cP_fsN] at a6H
  refine tEn (ls := [some (.inr (.inl (some 147))), some (.inl (frO (cP fs).length : Int)), some (.inl (x : Int)), none, none, none, none]) (fun k => by match k with | 0 => rfl | 1 => rfl | 2 => rfl | 3 => rfl | 4 => rfl | 5 => rfl | 6 => rfl | k + 7 => rfl) ?_
  refine tK (l := xk_195) rfl rfl (fun _ _ _ _ _ => rfl) ?_
  refine tK (l := xk_195) rfl rfl (hGetR (o := some 152) hs rfl rfl rfl (by decide) (by decide) rfl) ?_
  refine tK (l := xk_195) rfl rfl (fun _ _ _ _ _ => rfl) ?_
  refine tK (l := xk_195) rfl rfl (fun _ _ _ _ _ => rfl) ?_
  refine tK (l := xk_195) rfl rfl (hAdd ⟨by omega, by omega⟩) ?_
  rw [show ((frO (cP fs).length) : Int) + (x : Int) = (((frO (cP fs).length) + x : Nat) : Int) by omega]
  refine tK (l := xk_195) rfl rfl (fun _ _ _ _ _ => rfl) ?_
  refine tK (l := xk_195) rfl rfl (hAdd ⟨by omega, by omega⟩) ?_
  rw [show (((frO (cP fs).length) + x : Nat) : Int) + 1 = (((frO (cP fs).length) + x + 1 : Nat) : Int) by omega]
  first | refine tK (l := xk_195) rfl rfl (hIaldN hs rfl rfl (by omega)) ?_ | refine tK (l := xk_195) rfl rfl (hIald hs rfl (by omega) (by omega)) ?_
  rw [e1]
  refine tSt (l := xk_195) rfl rfl (fun _ _ _ _ _ => rfl) (Nat.le_of_ble_eq_true rfl) ?_
  refine tK (l := xk_195) rfl rfl (fun _ _ _ _ _ => rfl) ?_
  refine tCa (l := xk_195) rfl rfl (hInvS rfl rfl rfl rfl (Nat.le_of_ble_eq_true rfl) (Nat.le_of_ble_eq_true rfl)) ?_
  refine s154 (by decide) ?_
  refine tKv ?_
  rw [show nmF 42 = -1 from rfl]
  refine tSt (l := xk_195) rfl rfl (fun _ _ _ _ _ => rfl) (Nat.le_of_ble_eq_true rfl) ?_
  refine tK (l := xk_195) rfl rfl (fun _ _ _ _ _ => rfl) ?_
  refine tIf_lt (l := xk_195) (pc' := 27) rfl rfl rfl (fun hc => ?_) (fun hc => ?_)
  · refine tK (l := xk_195) rfl rfl (fun _ _ _ _ _ => rfl) ?_
    refine tK (l := xk_195) rfl rfl (hGetR (o := some 152) hs rfl rfl rfl (by decide) (by decide) rfl) ?_
    refine tK (l := xk_195) rfl rfl (fun _ _ _ _ _ => rfl) ?_
    refine tK (l := xk_195) rfl rfl (fun _ _ _ _ _ => rfl) ?_
    refine tK (l := xk_195) rfl rfl (hAdd ⟨by omega, by omega⟩) ?_
    rw [show ((frO (cP fs).length) : Int) + (x : Int) = (((frO (cP fs).length) + x : Nat) : Int) by omega]
    refine tK (l := xk_195) rfl rfl (fun _ _ _ _ _ => rfl) ?_
    refine tK (l := xk_195) rfl rfl (hAdd ⟨by omega, by omega⟩) ?_
    rw [show (((frO (cP fs).length) + x : Nat) : Int) + 2 = (((frO (cP fs).length) + x + 2 : Nat) : Int) by omega]
    first | refine tK (l := xk_195) rfl rfl (hIaldN hs rfl rfl (by omega)) ?_ | refine tK (l := xk_195) rfl rfl (hIald hs rfl (by omega) (by omega)) ?_
    rw [e2]
    refine tCa (l := xk_195) rfl rfl (hInvS rfl rfl rfl rfl (Nat.le_of_ble_eq_true rfl) (Nat.le_of_ble_eq_true rfl)) ?_
    refine s154 (by omega) ?_
    refine tKv ?_
    rw [g5]
    refine tSt (l := xk_195) rfl rfl (fun _ _ _ _ _ => rfl) (Nat.le_of_ble_eq_true rfl) ?_
    refine tK (l := xk_195) rfl rfl (fun _ _ _ _ _ => rfl) ?_
    refine tK (l := xk_195) rfl rfl (fun _ _ _ _ _ => rfl) ?_
    refine tCa (l := xk_195) rfl rfl (hInvV (c := 10) hs rfl rfl rfl rfl rfl (Nat.le_of_ble_eq_true rfl) (Nat.le_of_ble_eq_true rfl)) ?_
    refine s196 (sc := rs.1) hnm hs a1.2.1.1 a1.2.1.2.1 a1.2.1.2.2 ?_
    refine tKv ?_
    cases hlk : lk rs.1 nm with
    | none =>
      rw [lkA_none hlk]
      refine tSt (l := xk_195) rfl rfl (fun _ _ _ _ _ => rfl) (Nat.le_of_ble_eq_true rfl) ?_
      refine tK (l := xk_195) rfl rfl (fun _ _ _ _ _ => rfl) ?_
      refine tK (l := xk_195) rfl rfl (hGetR (o := some 162) hs rfl rfl rfl (by decide) (by decide) rfl) ?_
      refine tK (l := xk_195) rfl rfl (fun _ _ _ _ _ => rfl) ?_
      refine tK (l := xk_195) rfl rfl (hGetI hs rfl rfl rfl (by decide) (by decide)) ?_
      rw [e43]
      refine tK (l := xk_195) rfl rfl (fun _ _ _ _ _ => rfl) ?_
      refine tK (l := xk_195) rfl rfl (hSub ⟨by omega, by omega⟩) ?_
      rw [ek]
      refine tK (l := xk_195) rfl rfl (fun _ _ _ _ _ => rfl) ?_
      refine tK (l := xk_195) rfl rfl (fun _ _ _ _ _ => rfl) ?_
      refine tIf_lt (l := xk_195) (pc' := 70) rfl rfl rfl (fun hc => ?_) (fun hc => ?_)
      · refine tK (l := xk_195) rfl rfl (fun _ _ _ _ _ => rfl) ?_
        refine tK (l := xk_195) rfl rfl (hAdd ⟨by omega, by omega⟩) ?_
        rw [show (x : Int) + 4 = ((x + 4 : Nat) : Int) by omega]
        first | refine tK (l := xk_195) rfl rfl (hIastN hs rfl rfl (by omega)) ?_ | refine tK (l := xk_195) rfl rfl (hIast hs rfl (by omega) (by omega)) ?_
        refine tK (l := xk_195) rfl rfl (fun _ _ _ _ _ => rfl) ?_
        refine tIf_ge (l := xk_195) (pc' := 99) rfl rfl rfl (fun hc => ?_) (fun hc => ?_)
        · refine tK (l := xk_195) rfl rfl (fun _ _ _ _ _ => rfl) ?_
          refine tK (l := xk_195) rfl rfl (fun _ _ _ _ _ => rfl) ?_
          refine tIc_eq (l := xk_195) (pc' := 99) rfl rfl rfl (fun hc => ?_) (fun hc => ?_)
          · exact absurd hc (by decide)
          · refine tK (l := xk_195) rfl rfl (fun _ _ _ _ _ => rfl) ?_
            refine tK (l := xk_195) rfl rfl (fun _ _ _ _ _ => rfl) ?_
            refine tIc_eq (l := xk_195) (pc' := 99) rfl rfl rfl (fun hc => ?_) (fun hc => ?_)
            · exact absurd hc (by decide)
            · refine tK (l := xk_195) rfl rfl (fun _ _ _ _ _ => rfl) ?_
              refine tK (l := xk_195) rfl rfl (fun _ _ _ _ _ => rfl) ?_
              refine tK (l := xk_195) rfl rfl (fun _ _ _ _ _ => rfl) ?_
              refine tCa (l := xk_195) rfl rfl (hInvV (c := 10) (hShI1 _ hs rfl rfl) rfl rfl rfl rfl rfl (Nat.le_of_ble_eq_true rfl) (Nat.le_of_ble_eq_true rfl)) ?_
              refine s194 (why := 1) (ip := (cP fs).reverse) hAt.1.1 a6H (fun ph3 hs3 f3 hx3 => ?_)
              refine tKn ?_
              refine tK (l := xk_195) rfl rfl (fun _ _ _ _ _ => rfl) ?_
              refine tRt (l := xk_195) rfl rfl (fun _ _ _ _ _ => rfl) ?_
              have hD9 : D = FL fs rs 1 x := by rcases hD with ⟨q0, hv2, hz⟩ | ⟨hv2, hz⟩ | ⟨q0, q1, q2, c9, v9, hv2, hz⟩ | ⟨q0, hz⟩ | ⟨q0, hz⟩ <;> first | exact hz | (rcases hv2 with ⟨-, hv2⟩ | ⟨q0, -⟩; (rw [hlk] at hv2; cases hv2); exact absurd q0 (by decide)) | (rw [hlk] at hv2; cases hv2) | exact absurd q0 (by decide)
              subst hD9
              exact hQ ph3 (TMf (hAt.1.fr hs3 f3) hx3 rfl (by decide)) (fH.big.trans f3.big)
        · exact absurd (by decide) hc
      · exact absurd (by decide) hc
    | some v =>
      obtain ⟨a, ea, ha, hv⟩ := lkA_some hnm a1.2.1.2.2 hlk
      have h41 := a1.2.1.2.1
      rw [ea]
      have hvH : hMv (hUp ph 162 m ((x + 4 : Nat) : Int)) 155 a (some v) := hv.eq (fun j _ _ => fH.at (by decide) j)
      have hokv : oks v := ok_lk hok.2.1 hlk
      refine tSt (l := xk_195) rfl rfl (fun _ _ _ _ _ => rfl) (Nat.le_of_ble_eq_true rfl) ?_
      refine tK (l := xk_195) rfl rfl (fun _ _ _ _ _ => rfl) ?_
      refine tK (l := xk_195) rfl rfl (hGetR (o := some 162) hs rfl rfl rfl (by decide) (by decide) rfl) ?_
      refine tK (l := xk_195) rfl rfl (fun _ _ _ _ _ => rfl) ?_
      refine tK (l := xk_195) rfl rfl (hGetI hs rfl rfl rfl (by decide) (by decide)) ?_
      rw [e43]
      refine tK (l := xk_195) rfl rfl (fun _ _ _ _ _ => rfl) ?_
      refine tK (l := xk_195) rfl rfl (hSub ⟨by omega, by omega⟩) ?_
      rw [ek]
      refine tK (l := xk_195) rfl rfl (fun _ _ _ _ _ => rfl) ?_
      refine tK (l := xk_195) rfl rfl (fun _ _ _ _ _ => rfl) ?_
      refine tIf_lt (l := xk_195) (pc' := 70) rfl rfl rfl (fun hc => ?_) (fun hc => ?_)
      · refine tK (l := xk_195) rfl rfl (fun _ _ _ _ _ => rfl) ?_
        refine tK (l := xk_195) rfl rfl (hAdd ⟨by omega, by omega⟩) ?_
        rw [show (x : Int) + 4 = ((x + 4 : Nat) : Int) by omega]
        first | refine tK (l := xk_195) rfl rfl (hIastN hs rfl rfl (by omega)) ?_ | refine tK (l := xk_195) rfl rfl (hIast hs rfl (by omega) (by omega)) ?_
        refine tK (l := xk_195) rfl rfl (fun _ _ _ _ _ => rfl) ?_
        refine tIf_ge (l := xk_195) (pc' := 99) rfl rfl rfl (fun hc => ?_) (fun hc => ?_)
        · exfalso; omega
        · refine tK (l := xk_195) rfl rfl (fun _ _ _ _ _ => rfl) ?_
          refine tIf_ge (l := xk_195) (pc' := 110) rfl rfl rfl (fun hc => ?_) (fun hc => ?_)
          · refine tK (l := xk_195) rfl rfl (fun _ _ _ _ _ => rfl) ?_
            refine tK (l := xk_195) rfl rfl (fun _ _ _ _ _ => rfl) ?_
            refine tIc_ne (l := xk_195) (pc' := 131) rfl rfl rfl (fun hc => ?_) (fun hc => ?_)
            · exact absurd hc (by decide)
            · refine tK (l := xk_195) rfl rfl (fun _ _ _ _ _ => rfl) ?_
              refine tK (l := xk_195) rfl rfl (fun _ _ _ _ _ => rfl) ?_
              refine tIc_ne (l := xk_195) (pc' := 147) rfl rfl rfl (fun hc => ?_) (fun hc => ?_)
              · exact absurd hc (by decide)
              · refine tK (l := xk_195) rfl rfl (fun _ _ _ _ _ => rfl) ?_
                refine tK (l := xk_195) rfl rfl (fun _ _ _ _ _ => rfl) ?_
                refine tIc_ne (l := xk_195) (pc' := 168) rfl rfl rfl (fun hc => ?_) (fun hc => ?_)
                · refine tK (l := xk_195) rfl rfl (fun _ _ _ _ _ => rfl) ?_
                  refine tK (l := xk_195) rfl rfl (fun _ _ _ _ _ => rfl) ?_
                  refine tK (l := xk_195) rfl rfl (fun _ _ _ _ _ => rfl) ?_
                  refine tK (l := xk_195) rfl rfl (fun _ _ _ _ _ => rfl) ?_
                  refine tK (l := xk_195) rfl rfl (fun _ _ _ _ _ => rfl) ?_
                  refine tK (l := xk_195) rfl rfl (hAdd ⟨by omega, by omega⟩) ?_
                  rw [show (x : Int) + 4 = ((x + 4 : Nat) : Int) by omega]
                  refine tK (l := xk_195) rfl rfl (fun _ _ _ _ _ => rfl) ?_
                  refine tCa (l := xk_195) rfl rfl (hInvV (c := 10) (hShI1 _ hs rfl rfl) rfl rfl rfl rfl rfl (Nat.le_of_ble_eq_true rfl) (Nat.le_of_ble_eq_true rfl)) ?_
                  rcases hD with ⟨q0, hv2, hD9⟩ | ⟨hv2, n9, ps9, p9, q9, e9, hsg, he, hD9⟩ | ⟨q0, hfl, hsc, c9, v9, hv2, hv23, hD9⟩ | ⟨q0, hz⟩ | ⟨q0, hz⟩
                  · rw [hlk] at hv2; cases hv2
                  · have hv5 : lk rs.1 nm = some [] := by rcases hv2 with ⟨-, hv2⟩ | ⟨q0, -⟩; exact hv2; exact absurd q0 (by decide)
                    rw [hlk] at hv5
                    cases hv5
                    refine s200_e hAt hokt (by omega) hvH hsg he hD9 (fun ph3 y3 f3 => ?_)
                    refine tKn ?_
                    refine tK (l := xk_195) rfl rfl (fun _ _ _ _ _ => rfl) ?_
                    refine tRt (l := xk_195) rfl rfl (fun _ _ _ _ _ => rfl) ?_
                    exact hQ ph3 y3 (fH.big.trans f3)
                  · rw [hlk] at hv2
                    cases hv2
                    refine s200_p hAt hokt (by omega) hvH hfl hsc hD9 (fun ph3 y3 f3 => ?_)
                    refine tKn ?_
                    refine tK (l := xk_195) rfl rfl (fun _ _ _ _ _ => rfl) ?_
                    refine tRt (l := xk_195) rfl rfl (fun _ _ _ _ _ => rfl) ?_
                    exact hQ ph3 y3 (fH.big.trans f3)
                  · exact absurd q0 (by decide)
                  · exact absurd q0 (by decide)
                · exact absurd rfl hc
          · exact absurd (by decide) hc
      · exact absurd (by decide) hc
  · exact absurd (by decide) hc
theorem s195_6 {x nm : Nat} {D : Cf} (h : hMC zs ph fs rs) (hok : okC (RU fs rs)) (hx : cX fs = x) (hsh : hBlk (cT fs) x 6 nm) (hD : PBlk fs x 6 nm rs D) (hQ : ∀ ph2, TM zs ph2 D → hFM mF mA ph ph2 → Q (.inl none, ph2, g)) : xTC (d + 5) 195 [.inr (.inl (some 147)), .inl (frO (cP fs).length : Int), .inl (x : Int)] ph g Q := by
  obtain ⟨z1, z2, z3, z4, z5, z6, z7, z8⟩ := hSzM
  obtain ⟨y1, y2, y3, y4, y5, y6, y7, y8, y9⟩ := hSzO
  obtain ⟨a1, a2, a3, a4, a5, a6, a7, a8⟩ := id h
  have hs := a1.1
  obtain ⟨t1, t2, t3, t4⟩ := h.text
  have hokt : oks (cT fs) := ok_cT hok.1
  have hfp := List.length_pos_iff.mpr a2
  obtain ⟨m, hm⟩ : ∃ m, fs.length = m + 1 := ⟨fs.length - 1, by omega⟩
  have e43 : hRd ph 147 43 = ((m + 1 : Nat) : Int) := by rw [a4, hm]
  have ek : ((m + 1 : Nat) : Int) - 1 = (m : Int) := by omega
  obtain ⟨g1, ⟨c1, g2, g3⟩, ⟨c2, g4, g5⟩⟩ : (cT fs)[x]? = some 123 ∧ (∃ c, (cT fs)[x + 1]? = some c ∧ kdF c = 6) ∧ (∃ c, (cT fs)[x + 2]? = some c ∧ nmF c = (nm : Int)) := ⟨hsh.2.1, hsh.2.2.1, hsh.2.2.2.1⟩
  have hnm : nm < 10 := by have := nmF_le c2; omega
  have hc1 : c1 = 63 := by have := kdF_inv g3; omega
  subst hc1
  have hcb := hokt c2 (List.mem_of_getElem? g4)
  have e1 : hRd ph 152 ((frO (cP fs).length) + x + 1) = 63 := t1 (x + 1) _ g2
  have e2 : hRd ph 152 ((frO (cP fs).length) + x + 2) = c2 := t1 (x + 2) _ g4
  have hxl := (List.getElem?_eq_some_iff.mp g2).1
  have hxl2 := (List.getElem?_eq_some_iff.mp g4).1
  obtain ⟨hAt, fH⟩ := h.at (y := x + 4) hm
  have a6H := hAt.2.2.2.2.2.1
  rw [cP_fsN] at a6H
  refine tEn (ls := [some (.inr (.inl (some 147))), some (.inl (frO (cP fs).length : Int)), some (.inl (x : Int)), none, none, none, none]) (fun k => by match k with | 0 => rfl | 1 => rfl | 2 => rfl | 3 => rfl | 4 => rfl | 5 => rfl | 6 => rfl | k + 7 => rfl) ?_
  refine tK (l := xk_195) rfl rfl (fun _ _ _ _ _ => rfl) ?_
  refine tK (l := xk_195) rfl rfl (hGetR (o := some 152) hs rfl rfl rfl (by decide) (by decide) rfl) ?_
  refine tK (l := xk_195) rfl rfl (fun _ _ _ _ _ => rfl) ?_
  refine tK (l := xk_195) rfl rfl (fun _ _ _ _ _ => rfl) ?_
  refine tK (l := xk_195) rfl rfl (hAdd ⟨by omega, by omega⟩) ?_
  rw [show ((frO (cP fs).length) : Int) + (x : Int) = (((frO (cP fs).length) + x : Nat) : Int) by omega]
  refine tK (l := xk_195) rfl rfl (fun _ _ _ _ _ => rfl) ?_
  refine tK (l := xk_195) rfl rfl (hAdd ⟨by omega, by omega⟩) ?_
  rw [show (((frO (cP fs).length) + x : Nat) : Int) + 1 = (((frO (cP fs).length) + x + 1 : Nat) : Int) by omega]
  first | refine tK (l := xk_195) rfl rfl (hIaldN hs rfl rfl (by omega)) ?_ | refine tK (l := xk_195) rfl rfl (hIald hs rfl (by omega) (by omega)) ?_
  rw [e1]
  refine tSt (l := xk_195) rfl rfl (fun _ _ _ _ _ => rfl) (Nat.le_of_ble_eq_true rfl) ?_
  refine tK (l := xk_195) rfl rfl (fun _ _ _ _ _ => rfl) ?_
  refine tCa (l := xk_195) rfl rfl (hInvS rfl rfl rfl rfl (Nat.le_of_ble_eq_true rfl) (Nat.le_of_ble_eq_true rfl)) ?_
  refine s154 (by decide) ?_
  refine tKv ?_
  rw [show nmF 63 = -1 from rfl]
  refine tSt (l := xk_195) rfl rfl (fun _ _ _ _ _ => rfl) (Nat.le_of_ble_eq_true rfl) ?_
  refine tK (l := xk_195) rfl rfl (fun _ _ _ _ _ => rfl) ?_
  refine tIf_lt (l := xk_195) (pc' := 27) rfl rfl rfl (fun hc => ?_) (fun hc => ?_)
  · refine tK (l := xk_195) rfl rfl (fun _ _ _ _ _ => rfl) ?_
    refine tK (l := xk_195) rfl rfl (hGetR (o := some 152) hs rfl rfl rfl (by decide) (by decide) rfl) ?_
    refine tK (l := xk_195) rfl rfl (fun _ _ _ _ _ => rfl) ?_
    refine tK (l := xk_195) rfl rfl (fun _ _ _ _ _ => rfl) ?_
    refine tK (l := xk_195) rfl rfl (hAdd ⟨by omega, by omega⟩) ?_
    rw [show ((frO (cP fs).length) : Int) + (x : Int) = (((frO (cP fs).length) + x : Nat) : Int) by omega]
    refine tK (l := xk_195) rfl rfl (fun _ _ _ _ _ => rfl) ?_
    refine tK (l := xk_195) rfl rfl (hAdd ⟨by omega, by omega⟩) ?_
    rw [show (((frO (cP fs).length) + x : Nat) : Int) + 2 = (((frO (cP fs).length) + x + 2 : Nat) : Int) by omega]
    first | refine tK (l := xk_195) rfl rfl (hIaldN hs rfl rfl (by omega)) ?_ | refine tK (l := xk_195) rfl rfl (hIald hs rfl (by omega) (by omega)) ?_
    rw [e2]
    refine tCa (l := xk_195) rfl rfl (hInvS rfl rfl rfl rfl (Nat.le_of_ble_eq_true rfl) (Nat.le_of_ble_eq_true rfl)) ?_
    refine s154 (by omega) ?_
    refine tKv ?_
    rw [g5]
    refine tSt (l := xk_195) rfl rfl (fun _ _ _ _ _ => rfl) (Nat.le_of_ble_eq_true rfl) ?_
    refine tK (l := xk_195) rfl rfl (fun _ _ _ _ _ => rfl) ?_
    refine tK (l := xk_195) rfl rfl (fun _ _ _ _ _ => rfl) ?_
    refine tCa (l := xk_195) rfl rfl (hInvV (c := 10) hs rfl rfl rfl rfl rfl (Nat.le_of_ble_eq_true rfl) (Nat.le_of_ble_eq_true rfl)) ?_
    refine s196 (sc := rs.1) hnm hs a1.2.1.1 a1.2.1.2.1 a1.2.1.2.2 ?_
    refine tKv ?_
    cases hlk : lk rs.1 nm with
    | none =>
      rw [lkA_none hlk]
      have hD9 : ∃ n ps p q e, Sg n (cT fs) ps p q (x + 4) e ∧ (cT fs)[e]? = some 125 ∧ D = RU (fsN fs (e + 1)) rs := by rcases hD with ⟨q0, hz⟩ | ⟨q0, hz⟩ | ⟨q0, hz⟩ | ⟨q0, q1, ⟨c9, v9, hv2⟩, hz⟩ | ⟨q0, hz⟩ <;> first | exact hz | (rw [hlk] at hv2; cases hv2) | exact absurd q0 (by decide)
      obtain ⟨n9, ps9, p9, q9, e9, hsg, he, hD9⟩ := hD9
      have eH43 : hRd (hUp ph 162 m ((x + 4 : Nat) : Int)) 147 43 = ((m + 1 : Nat) : Int) := by rw [fH.fl (by decide)]; exact e43
      refine tSt (l := xk_195) rfl rfl (fun _ _ _ _ _ => rfl) (Nat.le_of_ble_eq_true rfl) ?_
      refine tK (l := xk_195) rfl rfl (fun _ _ _ _ _ => rfl) ?_
      refine tK (l := xk_195) rfl rfl (hGetR (o := some 162) hs rfl rfl rfl (by decide) (by decide) rfl) ?_
      refine tK (l := xk_195) rfl rfl (fun _ _ _ _ _ => rfl) ?_
      refine tK (l := xk_195) rfl rfl (hGetI hs rfl rfl rfl (by decide) (by decide)) ?_
      rw [e43]
      refine tK (l := xk_195) rfl rfl (fun _ _ _ _ _ => rfl) ?_
      refine tK (l := xk_195) rfl rfl (hSub ⟨by omega, by omega⟩) ?_
      rw [ek]
      refine tK (l := xk_195) rfl rfl (fun _ _ _ _ _ => rfl) ?_
      refine tK (l := xk_195) rfl rfl (fun _ _ _ _ _ => rfl) ?_
      refine tIf_lt (l := xk_195) (pc' := 70) rfl rfl rfl (fun hc => ?_) (fun hc => ?_)
      · refine tK (l := xk_195) rfl rfl (fun _ _ _ _ _ => rfl) ?_
        refine tK (l := xk_195) rfl rfl (hAdd ⟨by omega, by omega⟩) ?_
        rw [show (x : Int) + 4 = ((x + 4 : Nat) : Int) by omega]
        first | refine tK (l := xk_195) rfl rfl (hIastN hs rfl rfl (by omega)) ?_ | refine tK (l := xk_195) rfl rfl (hIast hs rfl (by omega) (by omega)) ?_
        refine tK (l := xk_195) rfl rfl (fun _ _ _ _ _ => rfl) ?_
        refine tIf_ge (l := xk_195) (pc' := 99) rfl rfl rfl (fun hc => ?_) (fun hc => ?_)
        · refine tK (l := xk_195) rfl rfl (fun _ _ _ _ _ => rfl) ?_
          refine tK (l := xk_195) rfl rfl (fun _ _ _ _ _ => rfl) ?_
          refine tIc_eq (l := xk_195) (pc' := 99) rfl rfl rfl (fun hc => ?_) (fun hc => ?_)
          · refine tK (l := xk_195) rfl rfl (fun _ _ _ _ _ => rfl) ?_
            refine tIf_ge (l := xk_195) (pc' := 110) rfl rfl rfl (fun hc => ?_) (fun hc => ?_)
            · refine tK (l := xk_195) rfl rfl (fun _ _ _ _ _ => rfl) ?_
              refine tK (l := xk_195) rfl rfl (fun _ _ _ _ _ => rfl) ?_
              refine tIc_ne (l := xk_195) (pc' := 131) rfl rfl rfl (fun hc => ?_) (fun hc => ?_)
              · exact absurd hc (by decide)
              · refine tK (l := xk_195) rfl rfl (fun _ _ _ _ _ => rfl) ?_
                refine tK (l := xk_195) rfl rfl (fun _ _ _ _ _ => rfl) ?_
                refine tIc_ne (l := xk_195) (pc' := 147) rfl rfl rfl (fun hc => ?_) (fun hc => ?_)
                · exact absurd hc (by decide)
                · refine tK (l := xk_195) rfl rfl (fun _ _ _ _ _ => rfl) ?_
                  refine tK (l := xk_195) rfl rfl (fun _ _ _ _ _ => rfl) ?_
                  refine tIc_ne (l := xk_195) (pc' := 168) rfl rfl rfl (fun hc => ?_) (fun hc => ?_)
                  · exact absurd hc (by decide)
                  · refine tK (l := xk_195) rfl rfl (fun _ _ _ _ _ => rfl) ?_
                    refine tK (l := xk_195) rfl rfl (fun _ _ _ _ _ => rfl) ?_
                    refine tIc_ne (l := xk_195) (pc' := 209) rfl rfl rfl (fun hc => ?_) (fun hc => ?_)
                    · exact absurd hc (by decide)
                    · refine tK (l := xk_195) rfl rfl (fun _ _ _ _ _ => rfl) ?_
                      refine tIf_lt (l := xk_195) (pc' := 239) rfl rfl rfl (fun hc => ?_) (fun hc => ?_)
                      · refine tK (l := xk_195) rfl rfl (fun _ _ _ _ _ => rfl) ?_
                        refine tK (l := xk_195) rfl rfl (hGetR (o := some 162) (hShI1 _ hs rfl rfl) rfl rfl rfl (by decide) (by decide) rfl) ?_
                        refine tK (l := xk_195) rfl rfl (fun _ _ _ _ _ => rfl) ?_
                        refine tK (l := xk_195) rfl rfl (hGetI (hShI1 _ hs rfl rfl) rfl rfl rfl (by decide) (by decide)) ?_
                        rw [eH43]
                        refine tK (l := xk_195) rfl rfl (fun _ _ _ _ _ => rfl) ?_
                        refine tK (l := xk_195) rfl rfl (hSub ⟨by omega, by omega⟩) ?_
                        rw [ek]
                        refine tK (l := xk_195) rfl rfl (fun _ _ _ _ _ => rfl) ?_
                        refine tK (l := xk_195) rfl rfl (fun _ _ _ _ _ => rfl) ?_
                        refine tK (l := xk_195) rfl rfl (fun _ _ _ _ _ => rfl) ?_
                        refine tK (l := xk_195) rfl rfl (fun _ _ _ _ _ => rfl) ?_
                        refine tK (l := xk_195) rfl rfl (hAdd ⟨by omega, by omega⟩) ?_
                        rw [show (x : Int) + 4 = ((x + 4 : Nat) : Int) by omega]
                        refine tCa (l := xk_195) rfl rfl (hInvV (c := 10) (hShI1 _ hs rfl rfl) rfl rfl rfl rfl rfl (Nat.le_of_ble_eq_true rfl) (Nat.le_of_ble_eq_true rfl)) ?_
                        refine hAt.skip hokt hsg he ?_
                        refine tKv ?_
                        first | refine tK (l := xk_195) rfl rfl (hIastN (hShI1 _ hs rfl rfl) rfl rfl (by omega)) ?_ | refine tK (l := xk_195) rfl rfl (hIast (hShI1 _ hs rfl rfl) rfl (by omega) (by omega)) ?_
                        refine tRt (l := xk_195) rfl rfl (fun _ _ _ _ _ => rfl) ?_
                        obtain ⟨k1, k2⟩ := hAt.at (y := e9 + 1) (by rw [fsN_len]; exact hm)
                        rw [fsN_fsN] at k1
                        subst hD9
                        exact hQ _ (TMr k1 rfl) (fH.big.trans k2.big)
                      · exact absurd (by decide) hc
            · exact absurd (by decide) hc
          · exact absurd rfl hc
        · exact absurd (by decide) hc
      · exact absurd (by decide) hc
    | some v =>
      obtain ⟨a, ea, ha, hv⟩ := lkA_some hnm a1.2.1.2.2 hlk
      have h41 := a1.2.1.2.1
      rw [ea]
      have hvH : hMv (hUp ph 162 m ((x + 4 : Nat) : Int)) 155 a (some v) := hv.eq (fun j _ _ => fH.at (by decide) j)
      have hokv : oks v := ok_lk hok.2.1 hlk
      cases v with
      | nil =>
        have hv1 : hRd (hUp ph 162 m ((x + 4 : Nat) : Int)) 155 a = 0 := hvH.1
        have hD9 : ∃ n ps p q e, Sg n (cT fs) ps p q (x + 4) e ∧ (cT fs)[e]? = some 125 ∧ D = RU (fsN fs (e + 1)) rs := by rcases hD with ⟨q0, hz⟩ | ⟨q0, hz⟩ | ⟨q0, hz⟩ | ⟨q0, q1, ⟨c9, v9, hv2⟩, hz⟩ | ⟨q0, hz⟩ <;> first | exact hz | (rw [hlk] at hv2; cases hv2) | exact absurd q0 (by decide)
        obtain ⟨n9, ps9, p9, q9, e9, hsg, he, hD9⟩ := hD9
        have eH43 : hRd (hUp ph 162 m ((x + 4 : Nat) : Int)) 147 43 = ((m + 1 : Nat) : Int) := by rw [fH.fl (by decide)]; exact e43
        refine tSt (l := xk_195) rfl rfl (fun _ _ _ _ _ => rfl) (Nat.le_of_ble_eq_true rfl) ?_
        refine tK (l := xk_195) rfl rfl (fun _ _ _ _ _ => rfl) ?_
        refine tK (l := xk_195) rfl rfl (hGetR (o := some 162) hs rfl rfl rfl (by decide) (by decide) rfl) ?_
        refine tK (l := xk_195) rfl rfl (fun _ _ _ _ _ => rfl) ?_
        refine tK (l := xk_195) rfl rfl (hGetI hs rfl rfl rfl (by decide) (by decide)) ?_
        rw [e43]
        refine tK (l := xk_195) rfl rfl (fun _ _ _ _ _ => rfl) ?_
        refine tK (l := xk_195) rfl rfl (hSub ⟨by omega, by omega⟩) ?_
        rw [ek]
        refine tK (l := xk_195) rfl rfl (fun _ _ _ _ _ => rfl) ?_
        refine tK (l := xk_195) rfl rfl (fun _ _ _ _ _ => rfl) ?_
        refine tIf_lt (l := xk_195) (pc' := 70) rfl rfl rfl (fun hc => ?_) (fun hc => ?_)
        · refine tK (l := xk_195) rfl rfl (fun _ _ _ _ _ => rfl) ?_
          refine tK (l := xk_195) rfl rfl (hAdd ⟨by omega, by omega⟩) ?_
          rw [show (x : Int) + 4 = ((x + 4 : Nat) : Int) by omega]
          first | refine tK (l := xk_195) rfl rfl (hIastN hs rfl rfl (by omega)) ?_ | refine tK (l := xk_195) rfl rfl (hIast hs rfl (by omega) (by omega)) ?_
          refine tK (l := xk_195) rfl rfl (fun _ _ _ _ _ => rfl) ?_
          refine tIf_ge (l := xk_195) (pc' := 99) rfl rfl rfl (fun hc => ?_) (fun hc => ?_)
          · exfalso; omega
          · refine tK (l := xk_195) rfl rfl (fun _ _ _ _ _ => rfl) ?_
            refine tIf_ge (l := xk_195) (pc' := 110) rfl rfl rfl (fun hc => ?_) (fun hc => ?_)
            · refine tK (l := xk_195) rfl rfl (fun _ _ _ _ _ => rfl) ?_
              refine tK (l := xk_195) rfl rfl (fun _ _ _ _ _ => rfl) ?_
              refine tIc_ne (l := xk_195) (pc' := 131) rfl rfl rfl (fun hc => ?_) (fun hc => ?_)
              · exact absurd hc (by decide)
              · refine tK (l := xk_195) rfl rfl (fun _ _ _ _ _ => rfl) ?_
                refine tK (l := xk_195) rfl rfl (fun _ _ _ _ _ => rfl) ?_
                refine tIc_ne (l := xk_195) (pc' := 147) rfl rfl rfl (fun hc => ?_) (fun hc => ?_)
                · exact absurd hc (by decide)
                · refine tK (l := xk_195) rfl rfl (fun _ _ _ _ _ => rfl) ?_
                  refine tK (l := xk_195) rfl rfl (fun _ _ _ _ _ => rfl) ?_
                  refine tIc_ne (l := xk_195) (pc' := 168) rfl rfl rfl (fun hc => ?_) (fun hc => ?_)
                  · exact absurd hc (by decide)
                  · refine tK (l := xk_195) rfl rfl (fun _ _ _ _ _ => rfl) ?_
                    refine tK (l := xk_195) rfl rfl (fun _ _ _ _ _ => rfl) ?_
                    refine tIc_ne (l := xk_195) (pc' := 209) rfl rfl rfl (fun hc => ?_) (fun hc => ?_)
                    · exact absurd hc (by decide)
                    · refine tK (l := xk_195) rfl rfl (fun _ _ _ _ _ => rfl) ?_
                      refine tIf_lt (l := xk_195) (pc' := 239) rfl rfl rfl (fun hc => ?_) (fun hc => ?_)
                      · exfalso; omega
                      · refine tK (l := xk_195) rfl rfl (fun _ _ _ _ _ => rfl) ?_
                        refine tK (l := xk_195) rfl rfl (hGetR (o := some 155) (hShI1 _ hs rfl rfl) rfl rfl rfl (by decide) (by decide) rfl) ?_
                        refine tK (l := xk_195) rfl rfl (fun _ _ _ _ _ => rfl) ?_
                        first | refine tK (l := xk_195) rfl rfl (hIaldN (hShI1 _ hs rfl rfl) rfl rfl (by omega)) ?_ | refine tK (l := xk_195) rfl rfl (hIald (hShI1 _ hs rfl rfl) rfl (by omega) (by omega)) ?_
                        rw [hv1]
                        refine tIf_le (l := xk_195) (pc' := 239) rfl rfl rfl (fun hc => ?_) (fun hc => ?_)
                        · exact absurd hc (by decide)
                        · refine tK (l := xk_195) rfl rfl (fun _ _ _ _ _ => rfl) ?_
                          refine tK (l := xk_195) rfl rfl (hGetR (o := some 162) (hShI1 _ hs rfl rfl) rfl rfl rfl (by decide) (by decide) rfl) ?_
                          refine tK (l := xk_195) rfl rfl (fun _ _ _ _ _ => rfl) ?_
                          refine tK (l := xk_195) rfl rfl (hGetI (hShI1 _ hs rfl rfl) rfl rfl rfl (by decide) (by decide)) ?_
                          rw [eH43]
                          refine tK (l := xk_195) rfl rfl (fun _ _ _ _ _ => rfl) ?_
                          refine tK (l := xk_195) rfl rfl (hSub ⟨by omega, by omega⟩) ?_
                          rw [ek]
                          refine tK (l := xk_195) rfl rfl (fun _ _ _ _ _ => rfl) ?_
                          refine tK (l := xk_195) rfl rfl (fun _ _ _ _ _ => rfl) ?_
                          refine tK (l := xk_195) rfl rfl (fun _ _ _ _ _ => rfl) ?_
                          refine tK (l := xk_195) rfl rfl (fun _ _ _ _ _ => rfl) ?_
                          refine tK (l := xk_195) rfl rfl (hAdd ⟨by omega, by omega⟩) ?_
                          rw [show (x : Int) + 4 = ((x + 4 : Nat) : Int) by omega]
                          refine tCa (l := xk_195) rfl rfl (hInvV (c := 10) (hShI1 _ hs rfl rfl) rfl rfl rfl rfl rfl (Nat.le_of_ble_eq_true rfl) (Nat.le_of_ble_eq_true rfl)) ?_
                          refine hAt.skip hokt hsg he ?_
                          refine tKv ?_
                          first | refine tK (l := xk_195) rfl rfl (hIastN (hShI1 _ hs rfl rfl) rfl rfl (by omega)) ?_ | refine tK (l := xk_195) rfl rfl (hIast (hShI1 _ hs rfl rfl) rfl (by omega) (by omega)) ?_
                          refine tRt (l := xk_195) rfl rfl (fun _ _ _ _ _ => rfl) ?_
                          obtain ⟨k1, k2⟩ := hAt.at (y := e9 + 1) (by rw [fsN_len]; exact hm)
                          rw [fsN_fsN] at k1
                          subst hD9
                          exact hQ _ (TMr k1 rfl) (fH.big.trans k2.big)
            · exact absurd (by decide) hc
        · exact absurd (by decide) hc
      | cons c9 v9 =>
        have hv1 : hRd (hUp ph 162 m ((x + 4 : Nat) : Int)) 155 a = (((c9 :: v9).length : Nat) : Int) := hvH.1
        simp only [List.length_cons] at hv1
        have hD9 : fs.length ≤ 39 ∧ D = RU ((6, x + 4, x + 4, nm, 0, []) :: fsN fs (x + 4)) rs := by rcases hD with ⟨q0, hz⟩ | ⟨q0, hz⟩ | ⟨q0, hz⟩ | ⟨q0, q1, q2, hz⟩ | ⟨q0, hz⟩ <;> first | exact ⟨q1, hz⟩ | exact absurd q0 (by decide) | (rcases q0 with ⟨q0, -⟩ | ⟨-, q0 | q0⟩; (exact absurd q0 (by decide)); (rw [hlk] at q0; cases q0); (rw [hlk] at q0; cases q0))
        obtain ⟨hfl, hD9⟩ := hD9
        refine tSt (l := xk_195) rfl rfl (fun _ _ _ _ _ => rfl) (Nat.le_of_ble_eq_true rfl) ?_
        refine tK (l := xk_195) rfl rfl (fun _ _ _ _ _ => rfl) ?_
        refine tK (l := xk_195) rfl rfl (hGetR (o := some 162) hs rfl rfl rfl (by decide) (by decide) rfl) ?_
        refine tK (l := xk_195) rfl rfl (fun _ _ _ _ _ => rfl) ?_
        refine tK (l := xk_195) rfl rfl (hGetI hs rfl rfl rfl (by decide) (by decide)) ?_
        rw [e43]
        refine tK (l := xk_195) rfl rfl (fun _ _ _ _ _ => rfl) ?_
        refine tK (l := xk_195) rfl rfl (hSub ⟨by omega, by omega⟩) ?_
        rw [ek]
        refine tK (l := xk_195) rfl rfl (fun _ _ _ _ _ => rfl) ?_
        refine tK (l := xk_195) rfl rfl (fun _ _ _ _ _ => rfl) ?_
        refine tIf_lt (l := xk_195) (pc' := 70) rfl rfl rfl (fun hc => ?_) (fun hc => ?_)
        · refine tK (l := xk_195) rfl rfl (fun _ _ _ _ _ => rfl) ?_
          refine tK (l := xk_195) rfl rfl (hAdd ⟨by omega, by omega⟩) ?_
          rw [show (x : Int) + 4 = ((x + 4 : Nat) : Int) by omega]
          first | refine tK (l := xk_195) rfl rfl (hIastN hs rfl rfl (by omega)) ?_ | refine tK (l := xk_195) rfl rfl (hIast hs rfl (by omega) (by omega)) ?_
          refine tK (l := xk_195) rfl rfl (fun _ _ _ _ _ => rfl) ?_
          refine tIf_ge (l := xk_195) (pc' := 99) rfl rfl rfl (fun hc => ?_) (fun hc => ?_)
          · exfalso; omega
          · refine tK (l := xk_195) rfl rfl (fun _ _ _ _ _ => rfl) ?_
            refine tIf_ge (l := xk_195) (pc' := 110) rfl rfl rfl (fun hc => ?_) (fun hc => ?_)
            · refine tK (l := xk_195) rfl rfl (fun _ _ _ _ _ => rfl) ?_
              refine tK (l := xk_195) rfl rfl (fun _ _ _ _ _ => rfl) ?_
              refine tIc_ne (l := xk_195) (pc' := 131) rfl rfl rfl (fun hc => ?_) (fun hc => ?_)
              · exact absurd hc (by decide)
              · refine tK (l := xk_195) rfl rfl (fun _ _ _ _ _ => rfl) ?_
                refine tK (l := xk_195) rfl rfl (fun _ _ _ _ _ => rfl) ?_
                refine tIc_ne (l := xk_195) (pc' := 147) rfl rfl rfl (fun hc => ?_) (fun hc => ?_)
                · exact absurd hc (by decide)
                · refine tK (l := xk_195) rfl rfl (fun _ _ _ _ _ => rfl) ?_
                  refine tK (l := xk_195) rfl rfl (fun _ _ _ _ _ => rfl) ?_
                  refine tIc_ne (l := xk_195) (pc' := 168) rfl rfl rfl (fun hc => ?_) (fun hc => ?_)
                  · exact absurd hc (by decide)
                  · refine tK (l := xk_195) rfl rfl (fun _ _ _ _ _ => rfl) ?_
                    refine tK (l := xk_195) rfl rfl (fun _ _ _ _ _ => rfl) ?_
                    refine tIc_ne (l := xk_195) (pc' := 209) rfl rfl rfl (fun hc => ?_) (fun hc => ?_)
                    · exact absurd hc (by decide)
                    · refine tK (l := xk_195) rfl rfl (fun _ _ _ _ _ => rfl) ?_
                      refine tIf_lt (l := xk_195) (pc' := 239) rfl rfl rfl (fun hc => ?_) (fun hc => ?_)
                      · exfalso; omega
                      · refine tK (l := xk_195) rfl rfl (fun _ _ _ _ _ => rfl) ?_
                        refine tK (l := xk_195) rfl rfl (hGetR (o := some 155) (hShI1 _ hs rfl rfl) rfl rfl rfl (by decide) (by decide) rfl) ?_
                        refine tK (l := xk_195) rfl rfl (fun _ _ _ _ _ => rfl) ?_
                        first | refine tK (l := xk_195) rfl rfl (hIaldN (hShI1 _ hs rfl rfl) rfl rfl (by omega)) ?_ | refine tK (l := xk_195) rfl rfl (hIald (hShI1 _ hs rfl rfl) rfl (by omega) (by omega)) ?_
                        rw [hv1]
                        refine tIf_le (l := xk_195) (pc' := 239) rfl rfl rfl (fun hc => ?_) (fun hc => ?_)
                        · refine tK (l := xk_195) rfl rfl (fun _ _ _ _ _ => rfl) ?_
                          refine tK (l := xk_195) rfl rfl (fun _ _ _ _ _ => rfl) ?_
                          refine tK (l := xk_195) rfl rfl (fun _ _ _ _ _ => rfl) ?_
                          refine tK (l := xk_195) rfl rfl (fun _ _ _ _ _ => rfl) ?_
                          refine tK (l := xk_195) rfl rfl (fun _ _ _ _ _ => rfl) ?_
                          refine tK (l := xk_195) rfl rfl (hAdd ⟨by omega, by omega⟩) ?_
                          rw [show (x : Int) + 4 = ((x + 4 : Nat) : Int) by omega]
                          refine tK (l := xk_195) rfl rfl (fun _ _ _ _ _ => rfl) ?_
                          refine tCa (l := xk_195) rfl rfl (hInvV (c := 10) (hShI1 _ hs rfl rfl) rfl rfl rfl rfl rfl (Nat.le_of_ble_eq_true rfl) (Nat.le_of_ble_eq_true rfl)) ?_
                          refine s189 (m := (fsN fs (x + 4)).length) (fo := (frO (cP fs).length)) (nx := x + 4) hAt.1.1 hAt.2.2.2.1 (by rw [fsN_len]; omega) (fun ph3 hs3 f3 rd3 => ?_)
                          refine tKn ?_
                          refine tK (l := xk_195) rfl rfl (fun _ _ _ _ _ => rfl) ?_
                          refine tRt (l := xk_195) rfl rfl (fun _ _ _ _ _ => rfl) ?_
                          subst hD9
                          have key := hAt.push (f := (6, x + 4, x + 4, nm, 0, [])) (rs3 := rs) rfl (by rw [fsN_len]; omega) (by rw [cP_fsN]; exact rd3) (hAt.1.fr hs3 f3) (hFM.refl (F := []) (S := [])) (by decide) (by decide) (fun _ _ => rfl) (fun _ _ => rfl) (fun _ _ => rfl) (by simp) rfl (fun q => absurd q (by simp)) (fun q => absurd q (by simp)) (by rw [nsc_n (by simp), nsc_fsN]; exact a8)
                          exact hQ ph3 (TMr key rfl) (fH.big.trans f3.big)
                        · exfalso; omega
            · exact absurd (by decide) hc
        · exact absurd (by decide) hc
  · exact absurd (by decide) hc
theorem s195_7 {x nm : Nat} {D : Cf} (h : hMC zs ph fs rs) (hok : okC (RU fs rs)) (hx : cX fs = x) (hsh : hBlk (cT fs) x 7 nm) (hD : PBlk fs x 7 nm rs D) (hQ : ∀ ph2, TM zs ph2 D → hFM mF mA ph ph2 → Q (.inl none, ph2, g)) : xTC (d + 5) 195 [.inr (.inl (some 147)), .inl (frO (cP fs).length : Int), .inl (x : Int)] ph g Q := by
  obtain ⟨z1, z2, z3, z4, z5, z6, z7, z8⟩ := hSzM
  obtain ⟨y1, y2, y3, y4, y5, y6, y7, y8, y9⟩ := hSzO
  obtain ⟨a1, a2, a3, a4, a5, a6, a7, a8⟩ := id h
  have hs := a1.1
  obtain ⟨t1, t2, t3, t4⟩ := h.text
  have hokt : oks (cT fs) := ok_cT hok.1
  have hfp := List.length_pos_iff.mpr a2
  obtain ⟨m, hm⟩ : ∃ m, fs.length = m + 1 := ⟨fs.length - 1, by omega⟩
  have e43 : hRd ph 147 43 = ((m + 1 : Nat) : Int) := by rw [a4, hm]
  have ek : ((m + 1 : Nat) : Int) - 1 = (m : Int) := by omega
  obtain ⟨g1, ⟨c1, g2, g3⟩, ⟨c2, g4, g5⟩⟩ : (cT fs)[x]? = some 123 ∧ (∃ c, (cT fs)[x + 1]? = some c ∧ kdF c = 7) ∧ (∃ c, (cT fs)[x + 2]? = some c ∧ nmF c = (nm : Int)) := ⟨hsh.2.1, hsh.2.2.1, hsh.2.2.2.1⟩
  have hnm : nm < 10 := by have := nmF_le c2; omega
  have hc1 : c1 = 61 := by have := kdF_inv g3; omega
  subst hc1
  have hcb := hokt c2 (List.mem_of_getElem? g4)
  have e1 : hRd ph 152 ((frO (cP fs).length) + x + 1) = 61 := t1 (x + 1) _ g2
  have e2 : hRd ph 152 ((frO (cP fs).length) + x + 2) = c2 := t1 (x + 2) _ g4
  have hxl := (List.getElem?_eq_some_iff.mp g2).1
  have hxl2 := (List.getElem?_eq_some_iff.mp g4).1
  obtain ⟨hAt, fH⟩ := h.at (y := x + 4) hm
  have a6H := hAt.2.2.2.2.2.1
  rw [cP_fsN] at a6H
  refine tEn (ls := [some (.inr (.inl (some 147))), some (.inl (frO (cP fs).length : Int)), some (.inl (x : Int)), none, none, none, none]) (fun k => by match k with | 0 => rfl | 1 => rfl | 2 => rfl | 3 => rfl | 4 => rfl | 5 => rfl | 6 => rfl | k + 7 => rfl) ?_
  refine tK (l := xk_195) rfl rfl (fun _ _ _ _ _ => rfl) ?_
  refine tK (l := xk_195) rfl rfl (hGetR (o := some 152) hs rfl rfl rfl (by decide) (by decide) rfl) ?_
  refine tK (l := xk_195) rfl rfl (fun _ _ _ _ _ => rfl) ?_
  refine tK (l := xk_195) rfl rfl (fun _ _ _ _ _ => rfl) ?_
  refine tK (l := xk_195) rfl rfl (hAdd ⟨by omega, by omega⟩) ?_
  rw [show ((frO (cP fs).length) : Int) + (x : Int) = (((frO (cP fs).length) + x : Nat) : Int) by omega]
  refine tK (l := xk_195) rfl rfl (fun _ _ _ _ _ => rfl) ?_
  refine tK (l := xk_195) rfl rfl (hAdd ⟨by omega, by omega⟩) ?_
  rw [show (((frO (cP fs).length) + x : Nat) : Int) + 1 = (((frO (cP fs).length) + x + 1 : Nat) : Int) by omega]
  first | refine tK (l := xk_195) rfl rfl (hIaldN hs rfl rfl (by omega)) ?_ | refine tK (l := xk_195) rfl rfl (hIald hs rfl (by omega) (by omega)) ?_
  rw [e1]
  refine tSt (l := xk_195) rfl rfl (fun _ _ _ _ _ => rfl) (Nat.le_of_ble_eq_true rfl) ?_
  refine tK (l := xk_195) rfl rfl (fun _ _ _ _ _ => rfl) ?_
  refine tCa (l := xk_195) rfl rfl (hInvS rfl rfl rfl rfl (Nat.le_of_ble_eq_true rfl) (Nat.le_of_ble_eq_true rfl)) ?_
  refine s154 (by decide) ?_
  refine tKv ?_
  rw [show nmF 61 = -1 from rfl]
  refine tSt (l := xk_195) rfl rfl (fun _ _ _ _ _ => rfl) (Nat.le_of_ble_eq_true rfl) ?_
  refine tK (l := xk_195) rfl rfl (fun _ _ _ _ _ => rfl) ?_
  refine tIf_lt (l := xk_195) (pc' := 27) rfl rfl rfl (fun hc => ?_) (fun hc => ?_)
  · refine tK (l := xk_195) rfl rfl (fun _ _ _ _ _ => rfl) ?_
    refine tK (l := xk_195) rfl rfl (hGetR (o := some 152) hs rfl rfl rfl (by decide) (by decide) rfl) ?_
    refine tK (l := xk_195) rfl rfl (fun _ _ _ _ _ => rfl) ?_
    refine tK (l := xk_195) rfl rfl (fun _ _ _ _ _ => rfl) ?_
    refine tK (l := xk_195) rfl rfl (hAdd ⟨by omega, by omega⟩) ?_
    rw [show ((frO (cP fs).length) : Int) + (x : Int) = (((frO (cP fs).length) + x : Nat) : Int) by omega]
    refine tK (l := xk_195) rfl rfl (fun _ _ _ _ _ => rfl) ?_
    refine tK (l := xk_195) rfl rfl (hAdd ⟨by omega, by omega⟩) ?_
    rw [show (((frO (cP fs).length) + x : Nat) : Int) + 2 = (((frO (cP fs).length) + x + 2 : Nat) : Int) by omega]
    first | refine tK (l := xk_195) rfl rfl (hIaldN hs rfl rfl (by omega)) ?_ | refine tK (l := xk_195) rfl rfl (hIald hs rfl (by omega) (by omega)) ?_
    rw [e2]
    refine tCa (l := xk_195) rfl rfl (hInvS rfl rfl rfl rfl (Nat.le_of_ble_eq_true rfl) (Nat.le_of_ble_eq_true rfl)) ?_
    refine s154 (by omega) ?_
    refine tKv ?_
    rw [g5]
    refine tSt (l := xk_195) rfl rfl (fun _ _ _ _ _ => rfl) (Nat.le_of_ble_eq_true rfl) ?_
    refine tK (l := xk_195) rfl rfl (fun _ _ _ _ _ => rfl) ?_
    refine tK (l := xk_195) rfl rfl (fun _ _ _ _ _ => rfl) ?_
    refine tCa (l := xk_195) rfl rfl (hInvV (c := 10) hs rfl rfl rfl rfl rfl (Nat.le_of_ble_eq_true rfl) (Nat.le_of_ble_eq_true rfl)) ?_
    refine s196 (sc := rs.1) hnm hs a1.2.1.1 a1.2.1.2.1 a1.2.1.2.2 ?_
    refine tKv ?_
    have hD9 : 39 ≥ fs.length ∧ rs.2.1.length ≤ 39 ∧ D = RU ((7, x + 4, x + 4, nm, 0, []) :: fsN fs (x + 4)) (opS rs) := by rcases hD with ⟨q0, hz⟩ | ⟨q0, hz⟩ | ⟨q0, hz⟩ | ⟨q0, hz⟩ | ⟨q0, hz⟩ <;> first | exact hz | exact absurd q0 (by decide) | (rcases q0 with ⟨q0, -⟩ | ⟨q0, -⟩ <;> exact absurd q0 (by decide))
    obtain ⟨hfl, hst9, hD9⟩ := hD9
    cases hlk : lk rs.1 nm with
    | none =>
      rw [lkA_none hlk]
      refine tSt (l := xk_195) rfl rfl (fun _ _ _ _ _ => rfl) (Nat.le_of_ble_eq_true rfl) ?_
      refine tK (l := xk_195) rfl rfl (fun _ _ _ _ _ => rfl) ?_
      refine tK (l := xk_195) rfl rfl (hGetR (o := some 162) hs rfl rfl rfl (by decide) (by decide) rfl) ?_
      refine tK (l := xk_195) rfl rfl (fun _ _ _ _ _ => rfl) ?_
      refine tK (l := xk_195) rfl rfl (hGetI hs rfl rfl rfl (by decide) (by decide)) ?_
      rw [e43]
      refine tK (l := xk_195) rfl rfl (fun _ _ _ _ _ => rfl) ?_
      refine tK (l := xk_195) rfl rfl (hSub ⟨by omega, by omega⟩) ?_
      rw [ek]
      refine tK (l := xk_195) rfl rfl (fun _ _ _ _ _ => rfl) ?_
      refine tK (l := xk_195) rfl rfl (fun _ _ _ _ _ => rfl) ?_
      refine tIf_lt (l := xk_195) (pc' := 70) rfl rfl rfl (fun hc => ?_) (fun hc => ?_)
      · refine tK (l := xk_195) rfl rfl (fun _ _ _ _ _ => rfl) ?_
        refine tK (l := xk_195) rfl rfl (hAdd ⟨by omega, by omega⟩) ?_
        rw [show (x : Int) + 4 = ((x + 4 : Nat) : Int) by omega]
        first | refine tK (l := xk_195) rfl rfl (hIastN hs rfl rfl (by omega)) ?_ | refine tK (l := xk_195) rfl rfl (hIast hs rfl (by omega) (by omega)) ?_
        refine tK (l := xk_195) rfl rfl (fun _ _ _ _ _ => rfl) ?_
        refine tIf_ge (l := xk_195) (pc' := 99) rfl rfl rfl (fun hc => ?_) (fun hc => ?_)
        · refine tK (l := xk_195) rfl rfl (fun _ _ _ _ _ => rfl) ?_
          refine tK (l := xk_195) rfl rfl (fun _ _ _ _ _ => rfl) ?_
          refine tIc_eq (l := xk_195) (pc' := 99) rfl rfl rfl (fun hc => ?_) (fun hc => ?_)
          · exact absurd hc (by decide)
          · refine tK (l := xk_195) rfl rfl (fun _ _ _ _ _ => rfl) ?_
            refine tK (l := xk_195) rfl rfl (fun _ _ _ _ _ => rfl) ?_
            refine tIc_eq (l := xk_195) (pc' := 99) rfl rfl rfl (fun hc => ?_) (fun hc => ?_)
            · refine tK (l := xk_195) rfl rfl (fun _ _ _ _ _ => rfl) ?_
              refine tIf_ge (l := xk_195) (pc' := 110) rfl rfl rfl (fun hc => ?_) (fun hc => ?_)
              · refine tK (l := xk_195) rfl rfl (fun _ _ _ _ _ => rfl) ?_
                refine tK (l := xk_195) rfl rfl (fun _ _ _ _ _ => rfl) ?_
                refine tIc_ne (l := xk_195) (pc' := 131) rfl rfl rfl (fun hc => ?_) (fun hc => ?_)
                · exact absurd hc (by decide)
                · refine tK (l := xk_195) rfl rfl (fun _ _ _ _ _ => rfl) ?_
                  refine tK (l := xk_195) rfl rfl (fun _ _ _ _ _ => rfl) ?_
                  refine tIc_ne (l := xk_195) (pc' := 147) rfl rfl rfl (fun hc => ?_) (fun hc => ?_)
                  · exact absurd hc (by decide)
                  · refine tK (l := xk_195) rfl rfl (fun _ _ _ _ _ => rfl) ?_
                    refine tK (l := xk_195) rfl rfl (fun _ _ _ _ _ => rfl) ?_
                    refine tIc_ne (l := xk_195) (pc' := 168) rfl rfl rfl (fun hc => ?_) (fun hc => ?_)
                    · exact absurd hc (by decide)
                    · refine tK (l := xk_195) rfl rfl (fun _ _ _ _ _ => rfl) ?_
                      refine tK (l := xk_195) rfl rfl (fun _ _ _ _ _ => rfl) ?_
                      refine tIc_ne (l := xk_195) (pc' := 209) rfl rfl rfl (fun hc => ?_) (fun hc => ?_)
                      · have e31 : hRd (hUp ph 162 m ((x + 4 : Nat) : Int)) 147 31 = (rs.2.1.length : Int) := hAt.1.2.2.1.1
                        have hsH := hAt.1.1
                        have s2 : hSh zs (hUp (hUp ph 162 m ((x + 4 : Nat) : Int)) 156 rs.2.1.length 0) := hShI1 _ hsH rfl rfl
                        have rd1 := hRd_up (x := 0) hsH (show hKi (hTg 156) rs.2.1.length = true from rfl) (by omega)
                        have e31b : hRd (hUp (hUp ph 162 m ((x + 4 : Nat) : Int)) 156 rs.2.1.length 0) 147 31 = (rs.2.1.length : Int) := by rw [rd1, if_neg (by omega)]; exact e31
                        have s3 : hSh zs (hUp (hUp (hUp ph 162 m ((x + 4 : Nat) : Int)) 156 rs.2.1.length 0) 147 31 ((rs.2.1.length : Int) + 1)) := hShI1 _ s2 rfl rfl
                        have rd2 := hRd_up (x := (rs.2.1.length : Int) + 1) s2 (show hKi (hTg 147) 31 = true from rfl) (by decide)
                        have f23 : hFM [31] [156] (hUp ph 162 m ((x + 4 : Nat) : Int)) (hUp (hUp (hUp ph 162 m ((x + 4 : Nat) : Int)) 156 rs.2.1.length 0) 147 31 ((rs.2.1.length : Int) + 1)) := (hFM_a hsH rfl (by omega) (by decide) (by decide)).trans (hFM_f s2 rfl (by decide) (by decide))
                        have h3 : hMC zs (hUp (hUp (hUp ph 162 m ((x + 4 : Nat) : Int)) 156 rs.2.1.length 0) 147 31 ((rs.2.1.length : Int) + 1)) (fsN fs (x + 4)) (opS rs) := by
                          obtain ⟨-, ⟨q1, q2, q3⟩, ⟨q4, q5, q6⟩, ⟨q7, q8, q9⟩, q10, q11, q12, q13, q14, q15⟩ := hAt.1
                          refine hAt.fr ⟨s3, ⟨by rw [f23.fl (by decide)]; exact q1, q2, q3.eq (fun j _ => f23.at (by decide) j)⟩, ⟨by rw [rd2, if_pos ⟨rfl, rfl⟩]; simp [opS], by simp only [opS, List.length_cons]; omega, ⟨⟨by rw [rd2, if_neg (by omega), rd1, if_pos ⟨rfl, rfl⟩]; rfl, Nat.zero_le _, fun i c hi => by simp at hi⟩, q6.eq (fun j hj => by rw [rd2, if_neg (by omega), rd1, if_neg (by omega)]) (fun j _ => f23.at (by decide) j)⟩⟩, ⟨by rw [f23.fl (by decide)]; exact q7, q8, fun i c hi => by rw [f23.at (by decide)]; exact q9 i c hi⟩, by rw [f23.fl (by decide)]; exact q10, q11, by rw [f23.fl (by decide)]; exact q12, by rw [f23.fl (by decide)]; exact q13, by rw [f23.fl (by decide)]; exact q14, q15⟩ rfl f23
                        refine tK (l := xk_195) rfl rfl (fun _ _ _ _ _ => rfl) ?_
                        refine tK (l := xk_195) rfl rfl (hGetR (o := some 156) (hShI1 _ hs rfl rfl) rfl rfl rfl (by decide) (by decide) rfl) ?_
                        refine tK (l := xk_195) rfl rfl (fun _ _ _ _ _ => rfl) ?_
                        refine tK (l := xk_195) rfl rfl (hGetI (hShI1 _ hs rfl rfl) rfl rfl rfl (by decide) (by decide)) ?_
                        rw [e31]
                        refine tK (l := xk_195) rfl rfl (fun _ _ _ _ _ => rfl) ?_
                        first | refine tK (l := xk_195) rfl rfl (hIastN (hShI1 _ hs rfl rfl) rfl rfl (by omega)) ?_ | refine tK (l := xk_195) rfl rfl (hIast (hShI1 _ hs rfl rfl) rfl (by omega) (by omega)) ?_
                        refine tK (l := xk_195) rfl rfl (fun _ _ _ _ _ => rfl) ?_
                        refine tK (l := xk_195) rfl rfl (fun _ _ _ _ _ => rfl) ?_
                        refine tK (l := xk_195) rfl rfl (hGetI (hShI1 _ (hShI1 _ hs rfl rfl) rfl rfl) rfl rfl rfl (by decide) (by decide)) ?_
                        rw [e31b]
                        refine tK (l := xk_195) rfl rfl (fun _ _ _ _ _ => rfl) ?_
                        refine tK (l := xk_195) rfl rfl (hAdd ⟨by omega, by omega⟩) ?_
                        refine tK (l := xk_195) rfl rfl (hPutV (hShI1 _ (hShI1 _ hs rfl rfl) rfl rfl) rfl rfl (by decide) (by decide) rfl) ?_
                        refine tK (l := xk_195) rfl rfl (fun _ _ _ _ _ => rfl) ?_
                        refine tK (l := xk_195) rfl rfl (fun _ _ _ _ _ => rfl) ?_
                        refine tK (l := xk_195) rfl rfl (fun _ _ _ _ _ => rfl) ?_
                        refine tK (l := xk_195) rfl rfl (fun _ _ _ _ _ => rfl) ?_
                        refine tK (l := xk_195) rfl rfl (fun _ _ _ _ _ => rfl) ?_
                        refine tK (l := xk_195) rfl rfl (hAdd ⟨by omega, by omega⟩) ?_
                        rw [show (x : Int) + 4 = ((x + 4 : Nat) : Int) by omega]
                        refine tK (l := xk_195) rfl rfl (fun _ _ _ _ _ => rfl) ?_
                        refine tCa (l := xk_195) rfl rfl (hInvV (c := 10) (hShI1 _ (hShI1 _ (hShI1 _ hs rfl rfl) rfl rfl) rfl rfl) rfl rfl rfl rfl rfl (Nat.le_of_ble_eq_true rfl) (Nat.le_of_ble_eq_true rfl)) ?_
                        refine s189 (m := (fsN fs (x + 4)).length) (fo := (frO (cP fs).length)) (nx := x + 4) h3.1.1 h3.2.2.2.1 (by rw [fsN_len]; omega) (fun ph3 hs3 f3 rd3 => ?_)
                        refine tKn ?_
                        refine tK (l := xk_195) rfl rfl (fun _ _ _ _ _ => rfl) ?_
                        refine tRt (l := xk_195) rfl rfl (fun _ _ _ _ _ => rfl) ?_
                        subst hD9
                        have key := h3.push (f := (7, x + 4, x + 4, nm, 0, [])) (rs3 := opS rs) rfl (by rw [fsN_len]; omega) (by rw [cP_fsN]; exact rd3) (h3.1.fr hs3 f3) (hFM.refl (F := []) (S := [])) (by decide) (by decide) (fun _ _ => rfl) (fun _ _ => rfl) (fun _ _ => rfl) (by simp) rfl (fun _ => rfl) (fun q => absurd q (by simp)) (by rw [nsc_n (by simp), nsc_fsN]; exact a8)
                        exact hQ ph3 (TMr key rfl) (fH.big.trans (f23.big.trans f3.big))
                      · exact absurd rfl hc
              · exact absurd (by decide) hc
            · exact absurd rfl hc
        · exact absurd (by decide) hc
      · exact absurd (by decide) hc
    | some v =>
      obtain ⟨a, ea, ha, hv⟩ := lkA_some hnm a1.2.1.2.2 hlk
      have h41 := a1.2.1.2.1
      rw [ea]
      have hvH : hMv (hUp ph 162 m ((x + 4 : Nat) : Int)) 155 a (some v) := hv.eq (fun j _ _ => fH.at (by decide) j)
      have hokv : oks v := ok_lk hok.2.1 hlk
      refine tSt (l := xk_195) rfl rfl (fun _ _ _ _ _ => rfl) (Nat.le_of_ble_eq_true rfl) ?_
      refine tK (l := xk_195) rfl rfl (fun _ _ _ _ _ => rfl) ?_
      refine tK (l := xk_195) rfl rfl (hGetR (o := some 162) hs rfl rfl rfl (by decide) (by decide) rfl) ?_
      refine tK (l := xk_195) rfl rfl (fun _ _ _ _ _ => rfl) ?_
      refine tK (l := xk_195) rfl rfl (hGetI hs rfl rfl rfl (by decide) (by decide)) ?_
      rw [e43]
      refine tK (l := xk_195) rfl rfl (fun _ _ _ _ _ => rfl) ?_
      refine tK (l := xk_195) rfl rfl (hSub ⟨by omega, by omega⟩) ?_
      rw [ek]
      refine tK (l := xk_195) rfl rfl (fun _ _ _ _ _ => rfl) ?_
      refine tK (l := xk_195) rfl rfl (fun _ _ _ _ _ => rfl) ?_
      refine tIf_lt (l := xk_195) (pc' := 70) rfl rfl rfl (fun hc => ?_) (fun hc => ?_)
      · refine tK (l := xk_195) rfl rfl (fun _ _ _ _ _ => rfl) ?_
        refine tK (l := xk_195) rfl rfl (hAdd ⟨by omega, by omega⟩) ?_
        rw [show (x : Int) + 4 = ((x + 4 : Nat) : Int) by omega]
        first | refine tK (l := xk_195) rfl rfl (hIastN hs rfl rfl (by omega)) ?_ | refine tK (l := xk_195) rfl rfl (hIast hs rfl (by omega) (by omega)) ?_
        refine tK (l := xk_195) rfl rfl (fun _ _ _ _ _ => rfl) ?_
        refine tIf_ge (l := xk_195) (pc' := 99) rfl rfl rfl (fun hc => ?_) (fun hc => ?_)
        · exfalso; omega
        · refine tK (l := xk_195) rfl rfl (fun _ _ _ _ _ => rfl) ?_
          refine tIf_ge (l := xk_195) (pc' := 110) rfl rfl rfl (fun hc => ?_) (fun hc => ?_)
          · refine tK (l := xk_195) rfl rfl (fun _ _ _ _ _ => rfl) ?_
            refine tK (l := xk_195) rfl rfl (fun _ _ _ _ _ => rfl) ?_
            refine tIc_ne (l := xk_195) (pc' := 131) rfl rfl rfl (fun hc => ?_) (fun hc => ?_)
            · exact absurd hc (by decide)
            · refine tK (l := xk_195) rfl rfl (fun _ _ _ _ _ => rfl) ?_
              refine tK (l := xk_195) rfl rfl (fun _ _ _ _ _ => rfl) ?_
              refine tIc_ne (l := xk_195) (pc' := 147) rfl rfl rfl (fun hc => ?_) (fun hc => ?_)
              · exact absurd hc (by decide)
              · refine tK (l := xk_195) rfl rfl (fun _ _ _ _ _ => rfl) ?_
                refine tK (l := xk_195) rfl rfl (fun _ _ _ _ _ => rfl) ?_
                refine tIc_ne (l := xk_195) (pc' := 168) rfl rfl rfl (fun hc => ?_) (fun hc => ?_)
                · exact absurd hc (by decide)
                · refine tK (l := xk_195) rfl rfl (fun _ _ _ _ _ => rfl) ?_
                  refine tK (l := xk_195) rfl rfl (fun _ _ _ _ _ => rfl) ?_
                  refine tIc_ne (l := xk_195) (pc' := 209) rfl rfl rfl (fun hc => ?_) (fun hc => ?_)
                  · have e31 : hRd (hUp ph 162 m ((x + 4 : Nat) : Int)) 147 31 = (rs.2.1.length : Int) := hAt.1.2.2.1.1
                    have hsH := hAt.1.1
                    have s2 : hSh zs (hUp (hUp ph 162 m ((x + 4 : Nat) : Int)) 156 rs.2.1.length 0) := hShI1 _ hsH rfl rfl
                    have rd1 := hRd_up (x := 0) hsH (show hKi (hTg 156) rs.2.1.length = true from rfl) (by omega)
                    have e31b : hRd (hUp (hUp ph 162 m ((x + 4 : Nat) : Int)) 156 rs.2.1.length 0) 147 31 = (rs.2.1.length : Int) := by rw [rd1, if_neg (by omega)]; exact e31
                    have s3 : hSh zs (hUp (hUp (hUp ph 162 m ((x + 4 : Nat) : Int)) 156 rs.2.1.length 0) 147 31 ((rs.2.1.length : Int) + 1)) := hShI1 _ s2 rfl rfl
                    have rd2 := hRd_up (x := (rs.2.1.length : Int) + 1) s2 (show hKi (hTg 147) 31 = true from rfl) (by decide)
                    have f23 : hFM [31] [156] (hUp ph 162 m ((x + 4 : Nat) : Int)) (hUp (hUp (hUp ph 162 m ((x + 4 : Nat) : Int)) 156 rs.2.1.length 0) 147 31 ((rs.2.1.length : Int) + 1)) := (hFM_a hsH rfl (by omega) (by decide) (by decide)).trans (hFM_f s2 rfl (by decide) (by decide))
                    have h3 : hMC zs (hUp (hUp (hUp ph 162 m ((x + 4 : Nat) : Int)) 156 rs.2.1.length 0) 147 31 ((rs.2.1.length : Int) + 1)) (fsN fs (x + 4)) (opS rs) := by
                      obtain ⟨-, ⟨q1, q2, q3⟩, ⟨q4, q5, q6⟩, ⟨q7, q8, q9⟩, q10, q11, q12, q13, q14, q15⟩ := hAt.1
                      refine hAt.fr ⟨s3, ⟨by rw [f23.fl (by decide)]; exact q1, q2, q3.eq (fun j _ => f23.at (by decide) j)⟩, ⟨by rw [rd2, if_pos ⟨rfl, rfl⟩]; simp [opS], by simp only [opS, List.length_cons]; omega, ⟨⟨by rw [rd2, if_neg (by omega), rd1, if_pos ⟨rfl, rfl⟩]; rfl, Nat.zero_le _, fun i c hi => by simp at hi⟩, q6.eq (fun j hj => by rw [rd2, if_neg (by omega), rd1, if_neg (by omega)]) (fun j _ => f23.at (by decide) j)⟩⟩, ⟨by rw [f23.fl (by decide)]; exact q7, q8, fun i c hi => by rw [f23.at (by decide)]; exact q9 i c hi⟩, by rw [f23.fl (by decide)]; exact q10, q11, by rw [f23.fl (by decide)]; exact q12, by rw [f23.fl (by decide)]; exact q13, by rw [f23.fl (by decide)]; exact q14, q15⟩ rfl f23
                    refine tK (l := xk_195) rfl rfl (fun _ _ _ _ _ => rfl) ?_
                    refine tK (l := xk_195) rfl rfl (hGetR (o := some 156) (hShI1 _ hs rfl rfl) rfl rfl rfl (by decide) (by decide) rfl) ?_
                    refine tK (l := xk_195) rfl rfl (fun _ _ _ _ _ => rfl) ?_
                    refine tK (l := xk_195) rfl rfl (hGetI (hShI1 _ hs rfl rfl) rfl rfl rfl (by decide) (by decide)) ?_
                    rw [e31]
                    refine tK (l := xk_195) rfl rfl (fun _ _ _ _ _ => rfl) ?_
                    first | refine tK (l := xk_195) rfl rfl (hIastN (hShI1 _ hs rfl rfl) rfl rfl (by omega)) ?_ | refine tK (l := xk_195) rfl rfl (hIast (hShI1 _ hs rfl rfl) rfl (by omega) (by omega)) ?_
                    refine tK (l := xk_195) rfl rfl (fun _ _ _ _ _ => rfl) ?_
                    refine tK (l := xk_195) rfl rfl (fun _ _ _ _ _ => rfl) ?_
                    refine tK (l := xk_195) rfl rfl (hGetI (hShI1 _ (hShI1 _ hs rfl rfl) rfl rfl) rfl rfl rfl (by decide) (by decide)) ?_
                    rw [e31b]
                    refine tK (l := xk_195) rfl rfl (fun _ _ _ _ _ => rfl) ?_
                    refine tK (l := xk_195) rfl rfl (hAdd ⟨by omega, by omega⟩) ?_
                    refine tK (l := xk_195) rfl rfl (hPutV (hShI1 _ (hShI1 _ hs rfl rfl) rfl rfl) rfl rfl (by decide) (by decide) rfl) ?_
                    refine tK (l := xk_195) rfl rfl (fun _ _ _ _ _ => rfl) ?_
                    refine tK (l := xk_195) rfl rfl (fun _ _ _ _ _ => rfl) ?_
                    refine tK (l := xk_195) rfl rfl (fun _ _ _ _ _ => rfl) ?_
                    refine tK (l := xk_195) rfl rfl (fun _ _ _ _ _ => rfl) ?_
                    refine tK (l := xk_195) rfl rfl (fun _ _ _ _ _ => rfl) ?_
                    refine tK (l := xk_195) rfl rfl (hAdd ⟨by omega, by omega⟩) ?_
                    rw [show (x : Int) + 4 = ((x + 4 : Nat) : Int) by omega]
                    refine tK (l := xk_195) rfl rfl (fun _ _ _ _ _ => rfl) ?_
                    refine tCa (l := xk_195) rfl rfl (hInvV (c := 10) (hShI1 _ (hShI1 _ (hShI1 _ hs rfl rfl) rfl rfl) rfl rfl) rfl rfl rfl rfl rfl (Nat.le_of_ble_eq_true rfl) (Nat.le_of_ble_eq_true rfl)) ?_
                    refine s189 (m := (fsN fs (x + 4)).length) (fo := (frO (cP fs).length)) (nx := x + 4) h3.1.1 h3.2.2.2.1 (by rw [fsN_len]; omega) (fun ph3 hs3 f3 rd3 => ?_)
                    refine tKn ?_
                    refine tK (l := xk_195) rfl rfl (fun _ _ _ _ _ => rfl) ?_
                    refine tRt (l := xk_195) rfl rfl (fun _ _ _ _ _ => rfl) ?_
                    subst hD9
                    have key := h3.push (f := (7, x + 4, x + 4, nm, 0, [])) (rs3 := opS rs) rfl (by rw [fsN_len]; omega) (by rw [cP_fsN]; exact rd3) (h3.1.fr hs3 f3) (hFM.refl (F := []) (S := [])) (by decide) (by decide) (fun _ _ => rfl) (fun _ _ => rfl) (fun _ _ => rfl) (by simp) rfl (fun _ => rfl) (fun q => absurd q (by simp)) (by rw [nsc_n (by simp), nsc_fsN]; exact a8)
                    exact hQ ph3 (TMr key rfl) (fH.big.trans (f23.big.trans f3.big))
                  · exact absurd rfl hc
          · exact absurd (by decide) hc
      · exact absurd (by decide) hc
  · exact absurd (by decide) hc
end MBR
