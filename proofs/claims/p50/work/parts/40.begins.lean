/-! ===== ByText: a part begins ===== -/
section BTB
variable {d : Nat} {ph : xH} {zs : List xV} {g : Nat} {Q : xR → Prop} {fs gs : List Fm} {rs : RS}
theorem hBT.push {ph2 ph3 : xH} {f : Fm} {sg nm9 rw9 : Int} {m : Nat} {rs3 : RS} (hb : hBT zs ph gs rs) (hm : gs.length = m + 1) (hl : gs.length ≤ 39) (hf : hFr [57, 68, 69, 70, 71, 72] ph ph2)
    (rd : ∀ b j, hRd ph2 b j = if b = 57 ∧ j = 11 then (m : Int) + 1 else if b = 72 ∧ j = m then 0 else if b = 71 ∧ j = m then rw9 else if b = 70 ∧ j = m then hRd ph 57 5 else if b = 69 ∧ j = m then nm9 else if b = 68 ∧ j = m then sg else hRd ph b j)
    (hr3 : hRN zs ph3 rs3) (hf3 : hFr [43, 49, 51, 52, 54, 55] ph2 ph3) (hrows : ∀ r, r < nsc gs * 10 → hTo ph3 50 r = hTo ph2 50 r) (hk : f.1 ≠ 0) (hx : f.2.1 = cX gs) (hsg : sg = sgK f.1) (h7 : f.1 = 7 → nm9 = (f.2.2.2.1 : Int))
    (h5 : f.1 = 5 → f.2.2.1 = cX gs ∧ f.2.2.2.2.1 = 0 ∧ ∃ r0 : Nat, rw9 = (r0 : Int) ∧ r0 < nsc gs * 10 ∧ hTo ph 50 r0 = some f.2.2.2.2.2) (hl3 : rs3.1.length = nsc (f :: gs)) : hBT zs ph3 (f :: gs) rs3 ∧ hFd bT ph ph3 := by
  obtain ⟨b1, b2, b3, b4, b5, b6, b7, b8, b9, b10⟩ := hb
  have fA : hFr [43, 49, 51, 52, 54, 55, 57, 68, 69, 70, 71, 72] ph ph3 := (hf.mono (by decide)).trans (hf3.mono (by decide))
  have eA : ∀ r, r < nsc gs * 10 → hTo ph3 50 r = hTo ph 50 r := fun r hr => (hrows r hr).trans (hf.to (by decide) (by decide))
  have n3 : ∀ a, 57 ≤ a → a ∉ [43, 49, 51, 52, 54, 55] := fun a ha => by simp only [List.mem_cons, List.not_mem_nil, or_false]; omega
  refine ⟨⟨hr3, List.cons_ne_nil _ _, ⟨b3.eq (fun a k q1 q2 q3 => ?_) (fun l _ => fA.to (by decide) (by decide)) (fun r hr => eA r (by omega)), Or.inr b2, fun q => absurd q hk, fun _ => ?_⟩, hl3, fA.tw (by decide) b5, ?_, by rw [cP_k hk]; exact b7, ?_, ?_, by simp only [List.length_cons]; omega⟩, (hf.bt (by decide)).trans (hf3.bt (by decide))⟩
  · rw [hf3.at (n3 a (by omega)), rd, if_neg (by omega), if_neg (by omega), if_neg (by omega), if_neg (by omega), if_neg (by omega), if_neg (by omega)]
  · rw [hm, Nat.add_sub_cancel]
    refine ⟨?_, fun q => absurd q hk, fun q => ?_, fun q => ?_⟩
    · rw [hf3.at (by decide), rd, if_neg (by omega), if_neg (by omega), if_neg (by omega), if_neg (by omega), if_neg (by omega), if_pos ⟨rfl, rfl⟩]; exact hsg
    · rw [hf3.at (by decide), rd, if_neg (by omega), if_neg (by omega), if_neg (by omega), if_neg (by omega), if_pos ⟨rfl, rfl⟩]; exact h7 q
    · obtain ⟨c1, c2, r0, c3, c4, c5⟩ := h5 q
      refine ⟨?_, ?_, r0, ?_, c4, by rw [eA r0 c4]; exact c5⟩
      · rw [hf3.at (by decide), rd, if_neg (by omega), if_neg (by omega), if_neg (by omega), if_pos ⟨rfl, rfl⟩, c1]; exact b8
      · rw [hf3.at (by decide), rd, if_neg (by omega), if_pos ⟨rfl, rfl⟩, c2]; rfl
      · rw [hf3.at (by decide), rd, if_neg (by omega), if_neg (by omega), if_pos ⟨rfl, rfl⟩]; exact c3
  · rw [hf3.at (by decide), rd, if_neg (by decide), if_neg (by omega), if_neg (by omega), if_neg (by omega), if_neg (by omega), if_neg (by omega), cP_k hk]; exact b6
  · rw [hf3.at (by decide), rd, if_neg (by decide), if_neg (by omega), if_neg (by omega), if_neg (by omega), if_neg (by omega), if_neg (by omega), b8]; show (cX gs : Int) = (f.2.1 : Int); rw [hx]
  · rw [hf3.at (by decide), rd, if_pos ⟨rfl, rfl⟩]; simp only [List.length_cons, hm]; push_cast; rfl
theorem TBr {D : Cf} {fs2 : List Fm} {rs2 : RS} (h : hBT zs ph fs2 rs2) (e : D = RU fs2 rs2) : TB zs ph D := by
  subst e
  exact ⟨h.1, fun _ => h, h.2.2.2.2.1⟩
theorem TBf {D : Cf} {rs2 : RS} (h : hRN zs ph rs2) (e : D.2.1 = rs2) (h0 : D.2.2.1 ≠ 0) (hw : hTW ph 65) : TB zs ph D := by
  subst e
  exact ⟨h, fun q => absurd q h0, hw⟩
theorem hBT.row {v : List Int} {nm : Nat} (hb : hBT zs ph gs rs) (hnm : nm < 10) (hv : lk rs.1 nm = some v) : ∃ r0, lkR rs.1 nm = some r0 ∧ r0 < nsc gs * 10 ∧ r0 < 410 ∧ hTo ph 50 r0 = some v ∧ v.length ≤ 24 := by
  obtain ⟨r0, hl0⟩ := lk_lkR hv
  have hr0 := lkR_some hnm hl0
  obtain ⟨hto, -⟩ := lkR_to hnm hb.1.1.2.2.2.2 hl0
  rw [hv] at hto
  have h41 := hb.1.1.2.2.2.1
  have hz := hRw50
  have hlen := hTo_len hb.1.1.2.1 (show r0 < hRw 50 by omega) hto
  have := hWd50
  exact ⟨r0, hl0, by rw [← hb.2.2.2.1]; exact hr0, by omega, hto, by omega⟩
theorem lkR_no {sc : List xSc} {nm : Nat} (hv : lk sc nm = none) (hn : nm < 10) : lkR sc nm = none := by
  cases e : lkR sc nm with
  | none => rfl
  | some r =>
    exfalso
    have : ∀ (sc : List xSc) (r : Nat), lkR sc nm = some r → lk sc nm ≠ none := by
      intro sc
      induction sc with
      | nil => intro r h; cases h
      | cons f t ih =>
        intro r h
        simp only [lkR] at h
        simp only [lk]
        cases hf : f nm with
        | some v => simp
        | none => rw [hf] at h; exact ih r h
    exact this sc r e hv
theorem hBT.skip {e n p q : Nat} {ps : List PP} {x : Nat} (hb : hBT zs ph (fsN fs (x + 4)) rs) (hne : fs ≠ []) (hsg : Sg n (cT fs) ps p q (x + 4) e) (he : (cT fs)[e]? = some 125) (hQ : ∀ ph2, hBT zs ph2 (fsN fs (e + 1)) rs → hFd bT ph ph2 → Q (.inl none, ph2, g)) : xTC (d + 2) 18 [.inr (.inl (some 57))] ph g Q := by
  obtain ⟨b1, b2, b3, b4, b5, b6, b7, b8, b9, b10⟩ := id hb
  obtain ⟨t1, t2⟩ := hBs_cT b2 b3
  rw [cT_fsN] at t1 t2
  rw [cX_fsN hne] at b8
  obtain ⟨m, m1, m2, m3⟩ := Skp_sg (o := 1) Nat.zero_lt_one hsg
  have hel := (List.getElem?_eq_some_iff.mp he).1
  refine s18 (m := m + 1) (y := e + 1) b1.1.1 b5 (show (cP (fsN fs (x + 4))).length < 5 by omega) b6 b8 t1 t2 (by omega) (m3.trans (Skp_c he)) (fun ph2 a5 => ?_)
  have := hb.at a5
  rw [fsN_fsN] at this
  exact hQ ph2 this (a5.2.1.bt (by decide))
theorem hRw65b : hRw 65 = 5 ∧ hWd 65 = 60 := hRw65
theorem s15n {x nm : Nat} {D : Cf} (hb : hBT zs ph (fsN fs (x + 4)) rs) (hnm : nm < 10) (hv : lk rs.1 nm = none) (hD : D = FL fs rs 1 x) (hQ : ∀ ph2, TB zs ph2 D → hFd bT ph ph2 → Q (.inl (some (.inl (D.2.2.1 : Int))), ph2, g)) : xTC (d + 5) 15 [.inr (.inl (some 57)), .inl (nm : Int)] ph g Q := by
  obtain ⟨b1, b2, b3, b4, b5, b6, b7, b8, b9, b10⟩ := id hb
  have hs := b1.1.1
  have hne : fs ≠ [] := by rintro rfl; exact b2 rfl
  refine tEn (ls := [some (.inr (.inl (some 57))), some (.inl (nm : Int)), none]) (fun k => by match k with | 0 => rfl | 1 => rfl | 2 => rfl | k + 3 => rfl) ?_
  refine tK (l := xk_15) rfl rfl (fun _ _ _ _ _ => rfl) ?_
  refine tK (l := xk_15) rfl rfl (hGetR (o := some 49) hs rfl rfl rfl (by decide) (by decide) rfl) ?_
  refine tK (l := xk_15) rfl rfl (fun _ _ _ _ _ => rfl) ?_
  refine tCa (l := xk_15) rfl rfl (hInvV (c := 5) hs rfl rfl rfl rfl rfl (Nat.le_of_ble_eq_true rfl) (Nat.le_of_ble_eq_true rfl)) ?_
  refine s45 b1.1 hnm ?_
  refine tKv ?_
  simp only [lkR_no hv hnm, lkI]
  refine tSt (l := xk_15) rfl rfl (fun _ _ _ _ _ => rfl) (Nat.le_of_ble_eq_true rfl) ?_
  refine tK (l := xk_15) rfl rfl (fun _ _ _ _ _ => rfl) ?_
  refine tK (l := xk_15) rfl rfl (fun _ _ _ _ _ => rfl) ?_
  refine tIc_ne (l := xk_15) (pc' := 16) rfl rfl rfl (fun hc => ?_) (fun hc => ?_)
  · refine tK (l := xk_15) rfl rfl (fun _ _ _ _ _ => rfl) ?_
    refine tRt (l := xk_15) rfl rfl (fun _ _ _ _ _ => rfl) ?_
    subst hD
    exact hQ ph (TBf b1 rfl (by show (1 : Nat) ≠ 0; decide) b5) hFd.refl
  · exact absurd rfl hc
theorem s15_4 {x nm : Nat} {D : Cf} (hb : hBT zs ph (fsN fs (x + 4)) rs) (hnm : nm < 10) {v : List Int} (hv : lk rs.1 nm = some v) (hL : (cP fs).length = 4) (hD : D = FL fs rs 4 x) (hQ : ∀ ph2, TB zs ph2 D → hFd bT ph ph2 → Q (.inl (some (.inl (D.2.2.1 : Int))), ph2, g)) : xTC (d + 5) 15 [.inr (.inl (some 57)), .inl (nm : Int)] ph g Q := by
  obtain ⟨b1, b2, b3, b4, b5, b6, b7, b8, b9, b10⟩ := id hb
  have hs := b1.1.1
  have hne : fs ≠ [] := by rintro rfl; exact b2 rfl
  obtain ⟨r0, hl0, hrn, hr4, hto, hv24⟩ := hb.row hnm hv
  have hz50 := hRw50
  have hz65 := hRw65
  rw [cP_fsN] at b6
  refine tEn (ls := [some (.inr (.inl (some 57))), some (.inl (nm : Int)), none]) (fun k => by match k with | 0 => rfl | 1 => rfl | 2 => rfl | k + 3 => rfl) ?_
  refine tK (l := xk_15) rfl rfl (fun _ _ _ _ _ => rfl) ?_
  refine tK (l := xk_15) rfl rfl (hGetR (o := some 49) hs rfl rfl rfl (by decide) (by decide) rfl) ?_
  refine tK (l := xk_15) rfl rfl (fun _ _ _ _ _ => rfl) ?_
  refine tCa (l := xk_15) rfl rfl (hInvV (c := 5) hs rfl rfl rfl rfl rfl (Nat.le_of_ble_eq_true rfl) (Nat.le_of_ble_eq_true rfl)) ?_
  refine s45 b1.1 hnm ?_
  refine tKv ?_
  simp only [hl0, lkI]
  refine tSt (l := xk_15) rfl rfl (fun _ _ _ _ _ => rfl) (Nat.le_of_ble_eq_true rfl) ?_
  refine tK (l := xk_15) rfl rfl (fun _ _ _ _ _ => rfl) ?_
  refine tK (l := xk_15) rfl rfl (fun _ _ _ _ _ => rfl) ?_
  refine tIc_ne (l := xk_15) (pc' := 16) rfl rfl rfl (fun hc => ?_) (fun hc => ?_)
  · exfalso
    have h9 : (r0 : Int) = -1 := hc
    omega
  · refine tK (l := xk_15) rfl rfl (fun _ _ _ _ _ => rfl) ?_
    refine tK (l := xk_15) rfl rfl (hGetI hs rfl rfl rfl (by decide) (by decide)) ?_
    rw [b6]
    refine tK (l := xk_15) rfl rfl (fun _ _ _ _ _ => rfl) ?_
    refine tIc_lt (l := xk_15) (pc' := 26) rfl rfl rfl (fun hc => ?_) (fun hc => ?_)
    · exfalso; omega
    · refine tK (l := xk_15) rfl rfl (fun _ _ _ _ _ => rfl) ?_
      refine tRt (l := xk_15) rfl rfl (fun _ _ _ _ _ => rfl) ?_
      subst hD
      exact hQ ph (TBf b1 rfl (by show (4 : Nat) ≠ 0; decide) b5) hFd.refl
theorem s15_5 {x nm : Nat} {D : Cf} (hb : hBT zs ph (fsN fs (x + 4)) rs) (hnm : nm < 10) {v : List Int} {pls : List Nat} (hv : lk rs.1 nm = some v) (hL : (cP fs).length < 4) (hw : pWh v = false) (hD : D = (fs, rs, 5, pls)) (hQ : ∀ ph2, TB zs ph2 D → hFd bT ph ph2 → Q (.inl (some (.inl (D.2.2.1 : Int))), ph2, g)) : xTC (d + 5) 15 [.inr (.inl (some 57)), .inl (nm : Int)] ph g Q := by
  obtain ⟨b1, b2, b3, b4, b5, b6, b7, b8, b9, b10⟩ := id hb
  have hs := b1.1.1
  have hne : fs ≠ [] := by rintro rfl; exact b2 rfl
  obtain ⟨r0, hl0, hrn, hr4, hto, hv24⟩ := hb.row hnm hv
  have hz50 := hRw50
  have hz65 := hRw65
  rw [cP_fsN] at b6
  refine tEn (ls := [some (.inr (.inl (some 57))), some (.inl (nm : Int)), none]) (fun k => by match k with | 0 => rfl | 1 => rfl | 2 => rfl | k + 3 => rfl) ?_
  refine tK (l := xk_15) rfl rfl (fun _ _ _ _ _ => rfl) ?_
  refine tK (l := xk_15) rfl rfl (hGetR (o := some 49) hs rfl rfl rfl (by decide) (by decide) rfl) ?_
  refine tK (l := xk_15) rfl rfl (fun _ _ _ _ _ => rfl) ?_
  refine tCa (l := xk_15) rfl rfl (hInvV (c := 5) hs rfl rfl rfl rfl rfl (Nat.le_of_ble_eq_true rfl) (Nat.le_of_ble_eq_true rfl)) ?_
  refine s45 b1.1 hnm ?_
  refine tKv ?_
  simp only [hl0, lkI]
  refine tSt (l := xk_15) rfl rfl (fun _ _ _ _ _ => rfl) (Nat.le_of_ble_eq_true rfl) ?_
  refine tK (l := xk_15) rfl rfl (fun _ _ _ _ _ => rfl) ?_
  refine tK (l := xk_15) rfl rfl (fun _ _ _ _ _ => rfl) ?_
  refine tIc_ne (l := xk_15) (pc' := 16) rfl rfl rfl (fun hc => ?_) (fun hc => ?_)
  · exfalso
    have h9 : (r0 : Int) = -1 := hc
    omega
  · refine tK (l := xk_15) rfl rfl (fun _ _ _ _ _ => rfl) ?_
    refine tK (l := xk_15) rfl rfl (hGetI hs rfl rfl rfl (by decide) (by decide)) ?_
    rw [b6]
    refine tK (l := xk_15) rfl rfl (fun _ _ _ _ _ => rfl) ?_
    refine tIc_lt (l := xk_15) (pc' := 26) rfl rfl rfl (fun hc => ?_) (fun hc => ?_)
    · refine tK (l := xk_15) rfl rfl (fun _ _ _ _ _ => rfl) ?_
      refine tK (l := xk_15) rfl rfl (hGetR (o := some 58) hs rfl rfl rfl (by decide) (by decide) rfl) ?_
      refine tK (l := xk_15) rfl rfl (fun _ _ _ _ _ => rfl) ?_
      refine tK (l := xk_15) rfl rfl (hGetR (o := some 49) hs rfl rfl rfl (by decide) (by decide) rfl) ?_
      refine tK (l := xk_15) rfl rfl (hGetR (o := some 50) hs rfl rfl rfl (by decide) (by decide) rfl) ?_
      refine tK (l := xk_15) rfl rfl (fun _ _ _ _ _ => rfl) ?_
      refine tCa (l := xk_15) rfl rfl (hInvV (c := 7) hs rfl rfl rfl rfl rfl (Nat.le_of_ble_eq_true rfl) (Nat.le_of_ble_eq_true rfl)) ?_
      refine s52 (T := 58) hs rfl rfl b1.1.2.1 (by omega) hto (by omega) (fun ph1 rs1 f1 => ?_)
      refine tKn ?_
      have f1 : hFr [58, 59, 60, 61, 62, 63, 64] ph ph1 := f1
      have hs1 := rs1.1
      refine tK (l := xk_15) rfl rfl (fun _ _ _ _ _ => rfl) ?_
      refine tK (l := xk_15) rfl rfl (hGetR (o := some 58) rs1.1 rfl rfl rfl (by decide) (by decide) rfl) ?_
      refine tCa (l := xk_15) rfl rfl (hInvV (c := 7) rs1.1 rfl rfl rfl rfl rfl (Nat.le_of_ble_eq_true rfl) (Nat.le_of_ble_eq_true rfl)) ?_
      refine s62 rs1 rfl ?_
      refine tKv ?_
      rw [if_neg (by rw [hw]; decide)]
      refine tIf_ne (l := xk_15) (pc' := 53) rfl rfl rfl (fun hc => ?_) (fun hc => ?_)
      · refine tK (l := xk_15) rfl rfl (fun _ _ _ _ _ => rfl) ?_
        refine tRt (l := xk_15) rfl rfl (fun _ _ _ _ _ => rfl) ?_
        subst hD
        exact hQ ph1 (TBf (b1.fr rs1.1 f1 (by decide)) rfl (by show (5 : Nat) ≠ 0; decide) (f1.tw (by decide) b5)) (f1.bt (by decide))
      · exact absurd rfl hc
    · exfalso; omega
theorem hFr.tw2 {S : List Nat} {pha phb : xH} {t : Nat} (h : hFr S pha phb) (h2 : True) (hw : hTW phb t) : hTW phb t := hw
theorem s15_6 {x nm : Nat} {D : Cf} (hb : hBT zs ph (fsN fs (x + 4)) rs) (hnm : nm < 10) {v : List Int} (hv : lk rs.1 nm = some v) (hL : (cP fs).length < 4) (hw : pWh v = true) (hfl : fs.length ≤ 39) (hsc : rs.1.length ≤ 40) (hD : D = RU ((0, 0, x, nm, 0, v) :: fsN fs (x + 4)) (spS rs (fun _ => none))) (hQ : ∀ ph2, TB zs ph2 D → hFd bT ph ph2 → Q (.inl (some (.inl (D.2.2.1 : Int))), ph2, g)) : xTC (d + 5) 15 [.inr (.inl (some 57)), .inl (nm : Int)] ph g Q := by
  obtain ⟨b1, b2, b3, b4, b5, b6, b7, b8, b9, b10⟩ := id hb
  have hs := b1.1.1
  have hne : fs ≠ [] := by rintro rfl; exact b2 rfl
  obtain ⟨r0, hl0, hrn, hr4, hto, hv24⟩ := hb.row hnm hv
  have hz50 := hRw50
  have hz65 := hRw65
  rw [cP_fsN] at b6
  have hfp := List.length_pos_iff.mpr hne
  obtain ⟨m, hm⟩ : ∃ m, fs.length = m + 1 := ⟨fs.length - 1, by omega⟩
  have hm9 : (fsN fs (x + 4)).length = m + 1 := by rw [fsN_len]; exact hm
  rw [hm9] at b9
  refine tEn (ls := [some (.inr (.inl (some 57))), some (.inl (nm : Int)), none]) (fun k => by match k with | 0 => rfl | 1 => rfl | 2 => rfl | k + 3 => rfl) ?_
  refine tK (l := xk_15) rfl rfl (fun _ _ _ _ _ => rfl) ?_
  refine tK (l := xk_15) rfl rfl (hGetR (o := some 49) hs rfl rfl rfl (by decide) (by decide) rfl) ?_
  refine tK (l := xk_15) rfl rfl (fun _ _ _ _ _ => rfl) ?_
  refine tCa (l := xk_15) rfl rfl (hInvV (c := 5) hs rfl rfl rfl rfl rfl (Nat.le_of_ble_eq_true rfl) (Nat.le_of_ble_eq_true rfl)) ?_
  refine s45 b1.1 hnm ?_
  refine tKv ?_
  simp only [hl0, lkI]
  refine tSt (l := xk_15) rfl rfl (fun _ _ _ _ _ => rfl) (Nat.le_of_ble_eq_true rfl) ?_
  refine tK (l := xk_15) rfl rfl (fun _ _ _ _ _ => rfl) ?_
  refine tK (l := xk_15) rfl rfl (fun _ _ _ _ _ => rfl) ?_
  refine tIc_ne (l := xk_15) (pc' := 16) rfl rfl rfl (fun hc => ?_) (fun hc => ?_)
  · exfalso
    have h9 : (r0 : Int) = -1 := hc
    omega
  · refine tK (l := xk_15) rfl rfl (fun _ _ _ _ _ => rfl) ?_
    refine tK (l := xk_15) rfl rfl (hGetI hs rfl rfl rfl (by decide) (by decide)) ?_
    rw [b6]
    refine tK (l := xk_15) rfl rfl (fun _ _ _ _ _ => rfl) ?_
    refine tIc_lt (l := xk_15) (pc' := 26) rfl rfl rfl (fun hc => ?_) (fun hc => ?_)
    · refine tK (l := xk_15) rfl rfl (fun _ _ _ _ _ => rfl) ?_
      refine tK (l := xk_15) rfl rfl (hGetR (o := some 58) hs rfl rfl rfl (by decide) (by decide) rfl) ?_
      refine tK (l := xk_15) rfl rfl (fun _ _ _ _ _ => rfl) ?_
      refine tK (l := xk_15) rfl rfl (hGetR (o := some 49) hs rfl rfl rfl (by decide) (by decide) rfl) ?_
      refine tK (l := xk_15) rfl rfl (hGetR (o := some 50) hs rfl rfl rfl (by decide) (by decide) rfl) ?_
      refine tK (l := xk_15) rfl rfl (fun _ _ _ _ _ => rfl) ?_
      refine tCa (l := xk_15) rfl rfl (hInvV (c := 7) hs rfl rfl rfl rfl rfl (Nat.le_of_ble_eq_true rfl) (Nat.le_of_ble_eq_true rfl)) ?_
      refine s52 (T := 58) hs rfl rfl b1.1.2.1 (by omega) hto (by omega) (fun ph1 rs1 f1 => ?_)
      refine tKn ?_
      have f1 : hFr [58, 59, 60, 61, 62, 63, 64] ph ph1 := f1
      have hs1 := rs1.1
      refine tK (l := xk_15) rfl rfl (fun _ _ _ _ _ => rfl) ?_
      refine tK (l := xk_15) rfl rfl (hGetR (o := some 58) rs1.1 rfl rfl rfl (by decide) (by decide) rfl) ?_
      refine tCa (l := xk_15) rfl rfl (hInvV (c := 7) rs1.1 rfl rfl rfl rfl rfl (Nat.le_of_ble_eq_true rfl) (Nat.le_of_ble_eq_true rfl)) ?_
      refine s62 rs1 rfl ?_
      refine tKv ?_
      rw [if_pos hw]
      refine tIf_ne (l := xk_15) (pc' := 53) rfl rfl rfl (fun hc => ?_) (fun hc => ?_)
      · exact absurd hc (by decide)
      · refine tK (l := xk_15) rfl rfl (fun _ _ _ _ _ => rfl) ?_
        refine tK (l := xk_15) rfl rfl (fun _ _ _ _ _ => rfl) ?_
        refine tK (l := xk_15) rfl rfl (fun _ _ _ _ _ => rfl) ?_
        refine tK (l := xk_15) rfl rfl (fun _ _ _ _ _ => rfl) ?_
        refine tCa (l := xk_15) rfl rfl (hInvV (c := 1) rs1.1 rfl rfl rfl rfl rfl (Nat.le_of_ble_eq_true rfl) (Nat.le_of_ble_eq_true rfl)) ?_
        refine s16 (m := m) hs1 (by rw [f1.at (by decide)]; omega) (by omega) (fun ph2 hs2 f2 rd2 => ?_)
        refine tKv ?_
        have r12 : hRN zs ph2 rs := (b1.fr hs1 f1 (by decide)).fr hs2 f2 (by decide)
        refine tIf_eq (l := xk_15) (pc' := 74) rfl rfl rfl (fun hc => ?_) (fun hc => ?_)
        · exact absurd hc (by decide)
        · refine tK (l := xk_15) rfl rfl (fun _ _ _ _ _ => rfl) ?_
          refine tK (l := xk_15) rfl rfl (hGetR (o := some 49) hs2 rfl rfl rfl (by decide) (by decide) rfl) ?_
          refine tCa (l := xk_15) rfl rfl (hInvV (c := 5) hs2 rfl rfl rfl rfl rfl (Nat.le_of_ble_eq_true rfl) (Nat.le_of_ble_eq_true rfl)) ?_
          refine s42 r12.1 hsc (fun ph3 q3 f3 w3 => ?_)
          refine tKv ?_
          have r3 := hRN.scs r12 q3 f3
          have hs3 := q3.1
          have e4 : hRd ph3 57 4 = ((cP fs).length : Int) := by rw [f3.at (by decide), rd2, if_neg (by decide), if_neg (by omega), if_neg (by omega), if_neg (by omega), if_neg (by omega), if_neg (by omega), f1.at (by decide)]; exact b6
          refine tIf_ne (l := xk_15) (pc' := 76) rfl rfl rfl (fun hc => ?_) (fun hc => ?_)
          · exact absurd hc (by decide)
          · refine tK (l := xk_15) rfl rfl (fun _ _ _ _ _ => rfl) ?_
            refine tK (l := xk_15) rfl rfl (fun _ _ _ _ _ => rfl) ?_
            refine tK (l := xk_15) rfl rfl (hGetI q3.1 rfl rfl rfl (by decide) (by decide)) ?_
            rw [e4]
            refine tK (l := xk_15) rfl rfl (fun _ _ _ _ _ => rfl) ?_
            refine tK (l := xk_15) rfl rfl (hAdd ⟨by omega, by omega⟩) ?_
            refine tK (l := xk_15) rfl rfl (hPutV q3.1 rfl rfl (by decide) (by decide) rfl) ?_
            have hs4 : hSh zs (hUp ph3 57 4 (((cP fs).length : Int) + 1)) := hShI1 _ hs3 rfl rfl
            have f4 : hFr [57] ph3 (hUp ph3 57 4 (((cP fs).length : Int) + 1)) := hUp_fr hs3 rfl (by decide) (by decide)
            have rd4 := hRd_up (x := ((cP fs).length : Int) + 1) hs3 (show hKi (hTg 57) 4 = true from rfl) (by decide)
            have e44 : hRd (hUp ph3 57 4 (((cP fs).length : Int) + 1)) 57 4 = (((cP fs).length + 1 : Nat) : Int) := by rw [rd4, if_pos ⟨rfl, rfl⟩]; push_cast; rfl
            have fB : hFr [49, 51, 52, 57, 58, 59, 60, 61, 62, 63, 64, 68, 69, 70, 71, 72] ph ph3 := ((f1.mono (by decide)).trans (f2.mono (by decide))).trans (f3.mono (by decide))
            have tw3 : hTW ph3 65 := fB.tw (by decide) b5
            have ht3 : hTo ph3 50 r0 = some v := by rw [w3 r0 (by omega), f2.to (by decide) (by decide), f1.to (by decide) (by decide)]; exact hto
            refine tK (l := xk_15) rfl rfl (fun _ _ _ _ _ => rfl) ?_
            refine tK (l := xk_15) rfl rfl (hGetR (o := some 65) (hShI1 _ q3.1 rfl rfl) rfl rfl rfl (by decide) (by decide) rfl) ?_
            refine tK (l := xk_15) rfl rfl (fun _ _ _ _ _ => rfl) ?_
            refine tK (l := xk_15) rfl rfl (hGetI (hShI1 _ q3.1 rfl rfl) rfl rfl rfl (by decide) (by decide)) ?_
            rw [e44]
            refine tK (l := xk_15) rfl rfl (fun _ _ _ _ _ => rfl) ?_
            refine tK (l := xk_15) rfl rfl (hGetR (o := some 49) (hShI1 _ q3.1 rfl rfl) rfl rfl rfl (by decide) (by decide) rfl) ?_
            refine tK (l := xk_15) rfl rfl (hGetR (o := some 50) (hShI1 _ q3.1 rfl rfl) rfl rfl rfl (by decide) (by decide) rfl) ?_
            refine tK (l := xk_15) rfl rfl (fun _ _ _ _ _ => rfl) ?_
            refine tCa (l := xk_15) rfl rfl (hInvV (c := 8) (hShI1 _ q3.1 rfl rfl) rfl rfl rfl rfl rfl (Nat.le_of_ble_eq_true rfl) (Nat.le_of_ble_eq_true rfl)) ?_
            refine a78 (t := 65) (f := 50) (r := (cP fs).length + 1) (q := r0) hs4 rfl rfl (f4.tw (by decide) tw3) (f4.tw (by decide) q3.2.1) (by omega) (by omega) ((f4.to (by decide) (by decide)).trans ht3) (fun s9 e9 => by cases e9; omega) (fun ph5 t5 => ?_)
            refine tKn ?_
            refine tK (l := xk_15) rfl rfl (fun _ _ _ _ _ => rfl) ?_
            refine tK (l := xk_15) rfl rfl (fun _ _ _ _ _ => rfl) ?_
            refine tK (l := xk_15) rfl rfl (hPutV t5.sh rfl rfl (by decide) (by decide) rfl) ?_
            refine tK (l := xk_15) rfl rfl (fun _ _ _ _ _ => rfl) ?_
            refine tRt (l := xk_15) rfl rfl (fun _ _ _ _ _ => rfl) ?_
            subst hD
            have t5f : hFr [66, 67] (hUp ph3 57 4 (((cP fs).length : Int) + 1)) ph5 := t5.fr (by decide) (by decide)
            have a5 := hA5_up (zs := zs) (y := 0) t5.sh
            have f6 : hFr [57] ph5 (hUp ph5 57 5 ((0 : Nat) : Int)) := a5.2.1
            have fC : hFr [49, 51, 52, 57, 58, 59, 60, 61, 62, 63, 64, 66, 67, 68, 69, 70, 71, 72] ph (hUp ph5 57 5 ((0 : Nat) : Int)) := (((fB.mono (by decide)).trans (f4.mono (by decide))).trans (t5f.mono (by decide))).trans (f6.mono (by decide))
            have fD : hFr [57, 66, 67] ph3 (hUp ph5 57 5 ((0 : Nat) : Int)) := ((f4.mono (by decide)).trans (t5f.mono (by decide))).trans (f6.mono (by decide))
            have rows : ∀ r, r < rs.1.length * 10 → hTo (hUp ph5 57 5 ((0 : Nat) : Int)) 50 r = hTo ph 50 r := fun r hr => by rw [fD.to (by decide) (by decide), w3 r hr, f2.to (by decide) (by decide), f1.to (by decide) (by decide)]
            have n3 : ∀ a, 68 ≤ a → a ∉ [57, 66, 67] := fun a ha => by simp only [List.mem_cons, List.not_mem_nil, or_false]; omega
            have n4 : ∀ a, 65 ≤ a → a ∉ [49, 51, 52] := fun a ha => by simp only [List.mem_cons, List.not_mem_nil, or_false]; omega
            have n5 : ∀ a, 65 ≤ a → a ∉ [58, 59, 60, 61, 62, 63, 64] := fun a ha => by simp only [List.mem_cons, List.not_mem_nil, or_false]; omega
            have l65 : ∀ l, l ≤ (cP fs).length → hTo (hUp ph5 57 5 ((0 : Nat) : Int)) 65 l = hTo ph 65 l := fun l hl => by rw [f6.to (by decide) (by decide), t5.rows (by omega) (by omega), f4.to (by decide) (by decide)]; exact fB.to (by decide) (by decide)
            have ecp : cP ((0, 0, x, nm, 0, v) :: fsN fs (x + 4)) = x :: cP fs := by simp only [cP]; rw [if_pos ⟨trivial, b2⟩, cP_fsN]
            have hlf : (fsN fs (x + 4)).length = m + 1 := hm9
            refine hQ (hUp ph5 57 5 ((0 : Nat) : Int)) (TBr (fs2 := (0, 0, x, nm, 0, v) :: fsN fs (x + 4)) (rs2 := spS rs (fun _ => none)) ⟨r3.fr a5.1 fD (by decide), List.cons_ne_nil _ _, ⟨b3.eq (fun a k q1 q2 q3 => ?_) (fun l hl => l65 l (by rw [cP_fsN] at hl; exact hl)) (fun r hr => rows r (by omega)), Or.inl rfl, fun _ => ⟨?_, by simp only; omega⟩, fun _ => ?_⟩, ?_, fC.tw2 (by decide) (f6.tw (by decide) t5.tw), ?_, by rw [ecp]; simp only [List.length_cons]; omega, a5.2.2.1, ?_, by simp only [List.length_cons]; omega⟩ rfl) (fC.bt (by decide))
            · rw [fD.at (n3 a (by omega)), f3.at (n4 a (by omega)), rd2, if_neg (by omega), if_neg (by omega), if_neg (by omega), if_neg (by omega), if_neg (by omega), if_neg (by omega), f1.at (n5 a (by omega))]
            · rw [ecp, List.length_cons, f6.to (by decide) (by decide)]; exact t5.row
            · rw [hlf, Nat.add_sub_cancel]
              refine ⟨?_, fun _ => ?_, fun q => absurd q (by simp), fun q => absurd q (by simp)⟩
              · rw [fD.at (by decide), f3.at (by decide), rd2, if_neg (by omega), if_neg (by omega), if_neg (by omega), if_neg (by omega), if_neg (by omega), if_pos ⟨rfl, rfl⟩]; rfl
              · rw [fD.at (by decide), f3.at (by decide), rd2, if_neg (by omega), if_neg (by omega), if_neg (by omega), if_pos ⟨rfl, rfl⟩, f1.at (by decide)]; exact b8
            · rw [nsc_s (Or.inl rfl)]; simp only [spS, List.length_cons]; omega
            · rw [a5.2.2.2 4 (by decide), t5f.at (by decide), e44, ecp]; rfl
            · rw [a5.2.2.2 11 (by decide), t5f.at (by decide), rd4, if_neg (by decide), f3.at (by decide), rd2, if_pos ⟨rfl, rfl⟩]; simp only [List.length_cons, hlf]; push_cast; rfl
    · exfalso; omega
theorem s17n {x nm : Nat} {D : Cf} (hb : hBT zs ph (fsN fs (x + 4)) rs) (hnm : nm < 10) (hv : lk rs.1 nm = none) (hD : D = FL fs rs 1 x) (hQ : ∀ ph2, TB zs ph2 D → hFd bT ph ph2 → Q (.inl (some (.inl (D.2.2.1 : Int))), ph2, g)) : xTC (d + 5) 17 [.inr (.inl (some 57)), .inl (nm : Int)] ph g Q := by
  obtain ⟨b1, b2, b3, b4, b5, b6, b7, b8, b9, b10⟩ := id hb
  have hs := b1.1.1
  have hne : fs ≠ [] := by rintro rfl; exact b2 rfl
  refine tEn (ls := [some (.inr (.inl (some 57))), some (.inl (nm : Int)), none]) (fun k => by match k with | 0 => rfl | 1 => rfl | 2 => rfl | k + 3 => rfl) ?_
  refine tK (l := xk_17) rfl rfl (fun _ _ _ _ _ => rfl) ?_
  refine tK (l := xk_17) rfl rfl (hGetR (o := some 49) hs rfl rfl rfl (by decide) (by decide) rfl) ?_
  refine tK (l := xk_17) rfl rfl (fun _ _ _ _ _ => rfl) ?_
  refine tCa (l := xk_17) rfl rfl (hInvV (c := 5) hs rfl rfl rfl rfl rfl (Nat.le_of_ble_eq_true rfl) (Nat.le_of_ble_eq_true rfl)) ?_
  refine s45 b1.1 hnm ?_
  refine tKv ?_
  simp only [lkR_no hv hnm, lkI]
  refine tSt (l := xk_17) rfl rfl (fun _ _ _ _ _ => rfl) (Nat.le_of_ble_eq_true rfl) ?_
  refine tK (l := xk_17) rfl rfl (fun _ _ _ _ _ => rfl) ?_
  refine tK (l := xk_17) rfl rfl (fun _ _ _ _ _ => rfl) ?_
  refine tIc_ne (l := xk_17) (pc' := 16) rfl rfl rfl (fun hc => ?_) (fun hc => ?_)
  · refine tK (l := xk_17) rfl rfl (fun _ _ _ _ _ => rfl) ?_
    refine tRt (l := xk_17) rfl rfl (fun _ _ _ _ _ => rfl) ?_
    subst hD
    exact hQ ph (TBf b1 rfl (by show (1 : Nat) ≠ 0; decide) b5) hFd.refl
  · exact absurd rfl hc
theorem s17e {x nm : Nat} {D : Cf} (hb : hBT zs ph (fsN fs (x + 4)) rs) (hnm : nm < 10) (hv : lk rs.1 nm = some []) {n p q e : Nat} {ps : List PP} (hsg : Sg n (cT fs) ps p q (x + 4) e) (he : (cT fs)[e]? = some 125) (hD : D = RU (fsN fs (e + 1)) rs) (hQ : ∀ ph2, TB zs ph2 D → hFd bT ph ph2 → Q (.inl (some (.inl (D.2.2.1 : Int))), ph2, g)) : xTC (d + 5) 17 [.inr (.inl (some 57)), .inl (nm : Int)] ph g Q := by
  obtain ⟨b1, b2, b3, b4, b5, b6, b7, b8, b9, b10⟩ := id hb
  have hs := b1.1.1
  have hne : fs ≠ [] := by rintro rfl; exact b2 rfl
  obtain ⟨r0, hl0, hrn, hr4, hto, hv24⟩ := hb.row hnm hv
  have hz50 := hRw50
  have hz65 := hRw65
  refine tEn (ls := [some (.inr (.inl (some 57))), some (.inl (nm : Int)), none]) (fun k => by match k with | 0 => rfl | 1 => rfl | 2 => rfl | k + 3 => rfl) ?_
  refine tK (l := xk_17) rfl rfl (fun _ _ _ _ _ => rfl) ?_
  refine tK (l := xk_17) rfl rfl (hGetR (o := some 49) hs rfl rfl rfl (by decide) (by decide) rfl) ?_
  refine tK (l := xk_17) rfl rfl (fun _ _ _ _ _ => rfl) ?_
  refine tCa (l := xk_17) rfl rfl (hInvV (c := 5) hs rfl rfl rfl rfl rfl (Nat.le_of_ble_eq_true rfl) (Nat.le_of_ble_eq_true rfl)) ?_
  refine s45 b1.1 hnm ?_
  refine tKv ?_
  simp only [hl0, lkI]
  refine tSt (l := xk_17) rfl rfl (fun _ _ _ _ _ => rfl) (Nat.le_of_ble_eq_true rfl) ?_
  refine tK (l := xk_17) rfl rfl (fun _ _ _ _ _ => rfl) ?_
  refine tK (l := xk_17) rfl rfl (fun _ _ _ _ _ => rfl) ?_
  refine tIc_ne (l := xk_17) (pc' := 16) rfl rfl rfl (fun hc => ?_) (fun hc => ?_)
  · exfalso
    have h9 : (r0 : Int) = -1 := hc
    omega
  · refine tK (l := xk_17) rfl rfl (fun _ _ _ _ _ => rfl) ?_
    refine tK (l := xk_17) rfl rfl (hGetR (o := some 49) hs rfl rfl rfl (by decide) (by decide) rfl) ?_
    refine tK (l := xk_17) rfl rfl (hGetR (o := some 50) hs rfl rfl rfl (by decide) (by decide) rfl) ?_
    refine tK (l := xk_17) rfl rfl (fun _ _ _ _ _ => rfl) ?_
    refine tCa (l := xk_17) rfl rfl (hInvV (c := 8) hs rfl rfl rfl rfl rfl (Nat.le_of_ble_eq_true rfl) (Nat.le_of_ble_eq_true rfl)) ?_
    refine a75 hs rfl b1.1.2.1 (by omega) hto ?_
    refine tKv ?_
    simp only [hLo, List.length_nil]
    refine tIf_ne (l := xk_17) (pc' := 36) rfl rfl rfl (fun hc => ?_) (fun hc => ?_)
    · refine tK (l := xk_17) rfl rfl (fun _ _ _ _ _ => rfl) ?_
      refine tCa (l := xk_17) rfl rfl (hInvV (c := 1) hs rfl rfl rfl rfl rfl (Nat.le_of_ble_eq_true rfl) (Nat.le_of_ble_eq_true rfl)) ?_
      refine hb.skip hne hsg he (fun ph2 hb2 f2 => ?_)
      refine tKn ?_
      refine tK (l := xk_17) rfl rfl (fun _ _ _ _ _ => rfl) ?_
      refine tRt (l := xk_17) rfl rfl (fun _ _ _ _ _ => rfl) ?_
      subst hD
      exact hQ ph2 (TBr hb2 rfl) f2
    · exact absurd rfl hc
theorem s17p {x nm : Nat} {D : Cf} (hb : hBT zs ph (fsN fs (x + 4)) rs) (hnm : nm < 10) {c : Int} {w9 : List Int} (hv : lk rs.1 nm = some (c :: w9)) (hfl : fs.length ≤ 39) (hsc : rs.1.length ≤ 40) (hD : D = RU ((5, x + 4, x + 4, nm, 0, c :: w9) :: fsN fs (x + 4)) (spS rs (psc 0 c))) (hQ : ∀ ph2, TB zs ph2 D → hFd bT ph ph2 → Q (.inl (some (.inl (D.2.2.1 : Int))), ph2, g)) : xTC (d + 5) 17 [.inr (.inl (some 57)), .inl (nm : Int)] ph g Q := by
  obtain ⟨b1, b2, b3, b4, b5, b6, b7, b8, b9, b10⟩ := id hb
  have hs := b1.1.1
  have hne : fs ≠ [] := by rintro rfl; exact b2 rfl
  obtain ⟨r0, hl0, hrn, hr4, hto, hv24⟩ := hb.row hnm hv
  have hz50 := hRw50
  have hz65 := hRw65
  have hfp := List.length_pos_iff.mpr hne
  obtain ⟨m, hm⟩ : ∃ m, fs.length = m + 1 := ⟨fs.length - 1, by omega⟩
  have hm9 : (fsN fs (x + 4)).length = m + 1 := by rw [fsN_len]; exact hm
  rw [hm9] at b9
  refine tEn (ls := [some (.inr (.inl (some 57))), some (.inl (nm : Int)), none]) (fun k => by match k with | 0 => rfl | 1 => rfl | 2 => rfl | k + 3 => rfl) ?_
  refine tK (l := xk_17) rfl rfl (fun _ _ _ _ _ => rfl) ?_
  refine tK (l := xk_17) rfl rfl (hGetR (o := some 49) hs rfl rfl rfl (by decide) (by decide) rfl) ?_
  refine tK (l := xk_17) rfl rfl (fun _ _ _ _ _ => rfl) ?_
  refine tCa (l := xk_17) rfl rfl (hInvV (c := 5) hs rfl rfl rfl rfl rfl (Nat.le_of_ble_eq_true rfl) (Nat.le_of_ble_eq_true rfl)) ?_
  refine s45 b1.1 hnm ?_
  refine tKv ?_
  simp only [hl0, lkI]
  refine tSt (l := xk_17) rfl rfl (fun _ _ _ _ _ => rfl) (Nat.le_of_ble_eq_true rfl) ?_
  refine tK (l := xk_17) rfl rfl (fun _ _ _ _ _ => rfl) ?_
  refine tK (l := xk_17) rfl rfl (fun _ _ _ _ _ => rfl) ?_
  refine tIc_ne (l := xk_17) (pc' := 16) rfl rfl rfl (fun hc => ?_) (fun hc => ?_)
  · exfalso
    have h9 : (r0 : Int) = -1 := hc
    omega
  · refine tK (l := xk_17) rfl rfl (fun _ _ _ _ _ => rfl) ?_
    refine tK (l := xk_17) rfl rfl (hGetR (o := some 49) hs rfl rfl rfl (by decide) (by decide) rfl) ?_
    refine tK (l := xk_17) rfl rfl (hGetR (o := some 50) hs rfl rfl rfl (by decide) (by decide) rfl) ?_
    refine tK (l := xk_17) rfl rfl (fun _ _ _ _ _ => rfl) ?_
    refine tCa (l := xk_17) rfl rfl (hInvV (c := 8) hs rfl rfl rfl rfl rfl (Nat.le_of_ble_eq_true rfl) (Nat.le_of_ble_eq_true rfl)) ?_
    refine a75 hs rfl b1.1.2.1 (by omega) hto ?_
    refine tKv ?_
    simp only [hLo, List.length_cons]
    rw [show ((w9.length + 1 : Nat) : Int) = (w9.length : Int) + 1 by push_cast; rfl]
    refine tIf_ne (l := xk_17) (pc' := 36) rfl rfl rfl (fun hc => ?_) (fun hc => ?_)
    · exfalso
      have h9 : ((w9.length : Int) + 1) = 0 := hc
      omega
    · refine tK (l := xk_17) rfl rfl (fun _ _ _ _ _ => rfl) ?_
      refine tK (l := xk_17) rfl rfl (fun _ _ _ _ _ => rfl) ?_
      refine tK (l := xk_17) rfl rfl (fun _ _ _ _ _ => rfl) ?_
      refine tK (l := xk_17) rfl rfl (fun _ _ _ _ _ => rfl) ?_
      refine tCa (l := xk_17) rfl rfl (hInvV (c := 1) hs rfl rfl rfl rfl rfl (Nat.le_of_ble_eq_true rfl) (Nat.le_of_ble_eq_true rfl)) ?_
      refine s16 (m := m) hs (by omega) (by omega) (fun ph2 hs2 f2 rd2 => ?_)
      refine tKv ?_
      have r12 : hRN zs ph2 rs := b1.fr hs2 f2 (by decide)
      refine tIf_eq (l := xk_17) (pc' := 63) rfl rfl rfl (fun hc => ?_) (fun hc => ?_)
      · exact absurd hc (by decide)
      · refine tK (l := xk_17) rfl rfl (fun _ _ _ _ _ => rfl) ?_
        refine tK (l := xk_17) rfl rfl (hGetR (o := some 49) hs2 rfl rfl rfl (by decide) (by decide) rfl) ?_
        refine tK (l := xk_17) rfl rfl (fun _ _ _ _ _ => rfl) ?_
        refine tK (l := xk_17) rfl rfl (fun _ _ _ _ _ => rfl) ?_
        refine tCa (l := xk_17) rfl rfl (hInvV (c := 5) hs2 rfl rfl rfl rfl rfl (Nat.le_of_ble_eq_true rfl) (Nat.le_of_ble_eq_true rfl)) ?_
        refine s47 (r := r0) (p := 0) r12.1 hsc (by omega) ((f2.to (by decide) (by decide)).trans hto) rfl (fun ph3 q3 f3 w3 => ?_)
        refine tKv ?_
        have r3 := hRN.scs r12 q3 f3
        refine tIf_eq (l := xk_17) (pc' := 63) rfl rfl rfl (fun hc => ?_) (fun hc => ?_)
        · exact absurd hc (by decide)
        · refine tK (l := xk_17) rfl rfl (fun _ _ _ _ _ => rfl) ?_
          refine tK (l := xk_17) rfl rfl (fun _ _ _ _ _ => rfl) ?_
          refine tRt (l := xk_17) rfl rfl (fun _ _ _ _ _ => rfl) ?_
          subst hD
          obtain ⟨y1, y2⟩ := hb.push (f := (5, x + 4, x + 4, nm, 0, c :: w9)) (rs3 := spS rs (psc 0 c)) hm9 (by omega) f2 rd2 r3 (f3.mono (by decide)) (fun r hr => w3 r (by omega)) (by simp) (by rw [cX_fsN hne]) rfl (fun q => absurd q (by simp)) (fun _ => ⟨by rw [cX_fsN hne], rfl, r0, rfl, hrn, hto⟩) (by rw [nsc_s (Or.inr rfl)]; simp only [spS, List.length_cons]; omega)
          exact hQ ph3 (TBr y1 rfl) y2
theorem s19e {x nm : Nat} {D : Cf} (hb : hBT zs ph (fsN fs (x + 4)) rs) (hnm : nm < 10) (hv : lk rs.1 nm = none ∨ lk rs.1 nm = some []) {n p q e : Nat} {ps : List PP} (hsg : Sg n (cT fs) ps p q (x + 4) e) (he : (cT fs)[e]? = some 125) (hD : D = RU (fsN fs (e + 1)) rs) (hQ : ∀ ph2, TB zs ph2 D → hFd bT ph ph2 → Q (.inl (some (.inl (D.2.2.1 : Int))), ph2, g)) : xTC (d + 5) 19 [.inr (.inl (some 57)), .inl (nm : Int)] ph g Q := by
  obtain ⟨b1, b2, b3, b4, b5, b6, b7, b8, b9, b10⟩ := id hb
  have hs := b1.1.1
  have hne : fs ≠ [] := by rintro rfl; exact b2 rfl
  have h0 : hoF (lk rs.1 nm) = 0 := by rcases hv with e1 | e1 <;> (rw [e1]; rfl)
  refine tEn (ls := [some (.inr (.inl (some 57))), some (.inl (nm : Int))]) (fun k => by match k with | 0 => rfl | 1 => rfl | k + 2 => rfl) ?_
  refine tK (l := xk_19) rfl rfl (fun _ _ _ _ _ => rfl) ?_
  refine tK (l := xk_19) rfl rfl (hGetR (o := some 43) hs rfl rfl rfl (by decide) (by decide) rfl) ?_
  refine tK (l := xk_19) rfl rfl (fun _ _ _ _ _ => rfl) ?_
  refine tCa (l := xk_19) rfl rfl (hInvV (c := 4) hs rfl rfl rfl rfl rfl (Nat.le_of_ble_eq_true rfl) (Nat.le_of_ble_eq_true rfl)) ?_
  refine s37 b1.1 hnm ?_
  refine tKv ?_
  refine tIf_ne (l := xk_19) (pc' := 17) rfl rfl rfl (fun hc => ?_) (fun hc => ?_)
  · refine tK (l := xk_19) rfl rfl (fun _ _ _ _ _ => rfl) ?_
    refine tCa (l := xk_19) rfl rfl (hInvV (c := 1) hs rfl rfl rfl rfl rfl (Nat.le_of_ble_eq_true rfl) (Nat.le_of_ble_eq_true rfl)) ?_
    refine hb.skip hne hsg he (fun ph2 hb2 f2 => ?_)
    refine tKn ?_
    refine tK (l := xk_19) rfl rfl (fun _ _ _ _ _ => rfl) ?_
    refine tRt (l := xk_19) rfl rfl (fun _ _ _ _ _ => rfl) ?_
    subst hD
    exact hQ ph2 (TBr hb2 rfl) f2
  · exact absurd h0 hc
theorem s19p {x nm : Nat} {D : Cf} (hb : hBT zs ph (fsN fs (x + 4)) rs) (hnm : nm < 10) {c : Int} {w9 : List Int} (hv : lk rs.1 nm = some (c :: w9)) (hfl : fs.length ≤ 39) (hD : D = RU ((6, x + 4, x + 4, nm, 0, []) :: fsN fs (x + 4)) rs) (hQ : ∀ ph2, TB zs ph2 D → hFd bT ph ph2 → Q (.inl (some (.inl (D.2.2.1 : Int))), ph2, g)) : xTC (d + 5) 19 [.inr (.inl (some 57)), .inl (nm : Int)] ph g Q := by
  obtain ⟨b1, b2, b3, b4, b5, b6, b7, b8, b9, b10⟩ := id hb
  have hs := b1.1.1
  have hne : fs ≠ [] := by rintro rfl; exact b2 rfl
  have hfp := List.length_pos_iff.mpr hne
  obtain ⟨m, hm⟩ : ∃ m, fs.length = m + 1 := ⟨fs.length - 1, by omega⟩
  have hm9 : (fsN fs (x + 4)).length = m + 1 := by rw [fsN_len]; exact hm
  rw [hm9] at b9
  have h0 : ¬ hoF (lk rs.1 nm) = 0 := by rw [hv]; simp [hoF]
  refine tEn (ls := [some (.inr (.inl (some 57))), some (.inl (nm : Int))]) (fun k => by match k with | 0 => rfl | 1 => rfl | k + 2 => rfl) ?_
  refine tK (l := xk_19) rfl rfl (fun _ _ _ _ _ => rfl) ?_
  refine tK (l := xk_19) rfl rfl (hGetR (o := some 43) hs rfl rfl rfl (by decide) (by decide) rfl) ?_
  refine tK (l := xk_19) rfl rfl (fun _ _ _ _ _ => rfl) ?_
  refine tCa (l := xk_19) rfl rfl (hInvV (c := 4) hs rfl rfl rfl rfl rfl (Nat.le_of_ble_eq_true rfl) (Nat.le_of_ble_eq_true rfl)) ?_
  refine s37 b1.1 hnm ?_
  refine tKv ?_
  refine tIf_ne (l := xk_19) (pc' := 17) rfl rfl rfl (fun hc => ?_) (fun hc => ?_)
  · exact absurd hc h0
  · refine tK (l := xk_19) rfl rfl (fun _ _ _ _ _ => rfl) ?_
    refine tK (l := xk_19) rfl rfl (fun _ _ _ _ _ => rfl) ?_
    refine tK (l := xk_19) rfl rfl (fun _ _ _ _ _ => rfl) ?_
    refine tK (l := xk_19) rfl rfl (fun _ _ _ _ _ => rfl) ?_
    refine tCa (l := xk_19) rfl rfl (hInvV (c := 1) hs rfl rfl rfl rfl rfl (Nat.le_of_ble_eq_true rfl) (Nat.le_of_ble_eq_true rfl)) ?_
    refine s16 (m := m) hs (by omega) (by omega) (fun ph2 hs2 f2 rd2 => ?_)
    refine tKv ?_
    have r12 : hRN zs ph2 rs := b1.fr hs2 f2 (by decide)
    refine tIf_eq (l := xk_19) (pc' := 32) rfl rfl rfl (fun hc => ?_) (fun hc => ?_)
    · exact absurd hc (by decide)
    · refine tK (l := xk_19) rfl rfl (fun _ _ _ _ _ => rfl) ?_
      refine tK (l := xk_19) rfl rfl (fun _ _ _ _ _ => rfl) ?_
      refine tRt (l := xk_19) rfl rfl (fun _ _ _ _ _ => rfl) ?_
      subst hD
      obtain ⟨y1, y2⟩ := hb.push (f := (6, x + 4, x + 4, nm, 0, [])) (rs3 := rs) hm9 (by omega) f2 rd2 r12 hFr.refl (fun r hr => rfl) (by simp) (by rw [cX_fsN hne]) rfl (fun q => absurd q (by simp)) (fun q => absurd q (by simp)) (by rw [nsc_n (by simp)]; exact b4)
      exact hQ ph2 (TBr y1 rfl) y2
theorem s20 {x nm : Nat} {D : Cf} (hb : hBT zs ph (fsN fs (x + 4)) rs) (hnm : nm < 10) (hfl : fs.length ≤ 39) (hst : rs.2.1.length ≤ 39) (hD : D = RU ((7, x + 4, x + 4, nm, 0, []) :: fsN fs (x + 4)) (opS rs)) (hQ : ∀ ph2, TB zs ph2 D → hFd bT ph ph2 → Q (.inl (some (.inl (D.2.2.1 : Int))), ph2, g)) : xTC (d + 5) 20 [.inr (.inl (some 57)), .inl (nm : Int)] ph g Q := by
  obtain ⟨sc, stg, ou, st, pl, es, vl⟩ := rs
  simp only at hst
  obtain ⟨b1, b2, b3, b4, b5, b6, b7, b8, b9, b10⟩ := id hb
  have hs := b1.1.1
  have hne : fs ≠ [] := by rintro rfl; exact b2 rfl
  have hfp := List.length_pos_iff.mpr hne
  obtain ⟨m, hm⟩ : ∃ m, fs.length = m + 1 := ⟨fs.length - 1, by omega⟩
  have hm9 : (fsN fs (x + 4)).length = m + 1 := by rw [fsN_len]; exact hm
  rw [hm9] at b9
  refine tEn (ls := [some (.inr (.inl (some 57))), some (.inl (nm : Int))]) (fun k => by match k with | 0 => rfl | 1 => rfl | k + 2 => rfl) ?_
  refine tK (l := xk_20) rfl rfl (fun _ _ _ _ _ => rfl) ?_
  refine tK (l := xk_20) rfl rfl (fun _ _ _ _ _ => rfl) ?_
  refine tK (l := xk_20) rfl rfl (fun _ _ _ _ _ => rfl) ?_
  refine tK (l := xk_20) rfl rfl (fun _ _ _ _ _ => rfl) ?_
  refine tCa (l := xk_20) rfl rfl (hInvV (c := 1) hs rfl rfl rfl rfl rfl (Nat.le_of_ble_eq_true rfl) (Nat.le_of_ble_eq_true rfl)) ?_
  refine s16 (m := m) hs (by omega) (by omega) (fun ph2 hs2 f2 rd2 => ?_)
  refine tKv ?_
  have r12 : hRN zs ph2 (sc, stg, ou, st, pl, es, vl) := b1.fr hs2 f2 (by decide)
  refine tIf_eq (l := xk_20) (pc' := 21) rfl rfl rfl (fun hc => ?_) (fun hc => ?_)
  · exact absurd hc (by decide)
  · refine tK (l := xk_20) rfl rfl (fun _ _ _ _ _ => rfl) ?_
    refine tK (l := xk_20) rfl rfl (hGetR (o := some 43) hs2 rfl rfl rfl (by decide) (by decide) rfl) ?_
    refine tCa (l := xk_20) rfl rfl (hInvV (c := 4) hs2 rfl rfl rfl rfl rfl (Nat.le_of_ble_eq_true rfl) (Nat.le_of_ble_eq_true rfl)) ?_
    refine s38 r12 (by omega) (fun ph3 r3 f3 => ?_)
    refine tKv ?_
    refine tK (l := xk_20) rfl rfl (fun _ _ _ _ _ => rfl) ?_
    refine tRt (l := xk_20) rfl rfl (fun _ _ _ _ _ => rfl) ?_
    subst hD
    obtain ⟨y1, y2⟩ := hb.push (f := (7, x + 4, x + 4, nm, 0, [])) (rs3 := (sc, [] :: stg, ou, st, pl, es, vl)) hm9 (by omega) f2 rd2 r3 (f3.mono (by decide)) (fun r hr => f3.to (by decide) (by decide)) (by simp) (by rw [cX_fsN hne]) rfl (fun _ => rfl) (fun q => absurd q (by simp)) (by rw [nsc_n (by simp)]; exact b4)
    exact hQ ph3 (TBr y1 rfl) y2
end BTB
