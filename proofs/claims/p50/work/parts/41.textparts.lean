/-! ===== ByText.beginPart ===== -/
section BTP
variable {d : Nat} {ph : xH} {zs : List xV} {g : Nat} {Q : xR → Prop} {fs : List Fm} {rs : RS}
theorem TB_oP {S : List Nat} {pha phb : xH} {rsa : RS} {D : Cf} {x y : Nat} {q : RS × Nat} (hb : hBT zs pha (fsN fs y) rsa) (hr : hRN zs phb q.1) (hf : hFr S pha phb) (hS : ∀ a ∈ S, a ∈ [43, 44, 46, 47, 54, 55]) (hl : q.1.1.length = rsa.1.length) (hD : D = oP fs x y q) : TB zs phb D ∧ D.2.2.1 = q.2 := by
  subst hD
  unfold oP
  by_cases h : q.2 = 0
  · rw [if_pos h]
    exact ⟨TBr (hb.fr hr hf hS hl) rfl, by rw [h]; rfl⟩
  · rw [if_neg h]
    exact ⟨TBf hr rfl h (hf.tw (fun q => absurd (hS _ q) (by decide)) hb.2.2.2.2.1), rfl⟩
theorem kdF_inv {c : Int} {k : Nat} (h : kdF c = k) : (k = 2 ∧ c ≠ 33 ∧ c ≠ 42 ∧ c ≠ 61 ∧ c ≠ 63 ∧ c ≠ 94) ∨ (k = 3 ∧ c = 33) ∨ (k = 4 ∧ c = 94) ∨ (k = 5 ∧ c = 42) ∨ (k = 6 ∧ c = 63) ∨ (k = 7 ∧ c = 61) := by
  unfold kdF at h
  (repeat' split at h) <;> omega
theorem s14f {D : Cf} (hb : hBT zs ph fs rs) (hst : rs.2.2.2.1 = 200) (hD : D = FL fs rs 3 (cX fs)) (hQ : ∀ ph2, TB zs ph2 D → hFd bT ph ph2 → Q (.inl (some (.inl (D.2.2.1 : Int))), ph2, g)) : xTC (d + 6) 14 [.inr (.inl (some 57))] ph g Q := by
  obtain ⟨sc, stg, ou, st, pl, es, vl⟩ := rs
  have hs := hb.1.1.1
  refine tEn (ls := [some (.inr (.inl (some 57))), none, none, none, none]) (fun k => by match k with | 0 => rfl | 1 => rfl | 2 => rfl | 3 => rfl | 4 => rfl | k + 5 => rfl) ?_
  refine tK (l := xk_14) rfl rfl (fun _ _ _ _ _ => rfl) ?_
  refine tK (l := xk_14) rfl rfl (hGetR (o := some 43) hs rfl rfl rfl (by decide) (by decide) rfl) ?_
  refine tCa (l := xk_14) rfl rfl (hInvV (c := 4) hs rfl rfl rfl rfl rfl (Nat.le_of_ble_eq_true rfl) (Nat.le_of_ble_eq_true rfl)) ?_
  refine s34f hb.1 hst ?_
  refine tKv ?_
  refine tSt (l := xk_14) rfl rfl (fun _ _ _ _ _ => rfl) (Nat.le_of_ble_eq_true rfl) ?_
  refine tK (l := xk_14) rfl rfl (fun _ _ _ _ _ => rfl) ?_
  refine tIf_eq (l := xk_14) (pc' := 14) rfl rfl rfl (fun hc => ?_) (fun hc => ?_)
  · exact absurd hc (by decide)
  · refine tK (l := xk_14) rfl rfl (fun _ _ _ _ _ => rfl) ?_
    refine tRt (l := xk_14) rfl rfl (fun _ _ _ _ _ => rfl) ?_
    subst hD
    exact hQ ph (TBf hb.1 rfl (by show (3 : Nat) ≠ 0; decide) hb.2.2.2.2.1) hFd.refl
theorem s14_0 {x nm : Nat} {D : Cf} (hb : hBT zs ph fs rs) (hx : cX fs = x) (hst : rs.2.2.2.1 < 200) {w : Nat} {cd : Int} (hsh : hSim (cT fs) x 0 cd nm w) (hD : PSim fs x 0 cd nm (ctS rs) D) (hQ : ∀ ph2, TB zs ph2 D → hFd bT ph ph2 → Q (.inl (some (.inl (D.2.2.1 : Int))), ph2, g)) : xTC (d + 6) 14 [.inr (.inl (some 57))] ph g Q := by
  obtain ⟨sc, stg, ou, st, pl, es, vl⟩ := rs
  obtain ⟨b1, b2, b3, b4, b5, b6, b7, b8, b9, b10⟩ := id hb
  have hs := b1.1.1
  rw [hx] at b8
  obtain ⟨t1, t2⟩ := hBs_cT b2 b3
  have hch := hTo_ch b1.1.1 rfl t1
  obtain ⟨g1, g3, g4, g5⟩ : (cT fs)[x]? = some cd ∧ cd ≠ 123 ∧ cd ≠ 125 ∧ cd ≠ 126 := by rcases hsh with q | q | q | q <;> first | exact q.2.2 | exact absurd q.1 (by decide)
  have hxl := (List.getElem?_eq_some_iff.mp g1).1
  have hcc := hch cd (List.mem_of_getElem? g1)
  refine tEn (ls := [some (.inr (.inl (some 57))), none, none, none, none]) (fun k => by match k with | 0 => rfl | 1 => rfl | 2 => rfl | 3 => rfl | 4 => rfl | k + 5 => rfl) ?_
  refine tK (l := xk_14) rfl rfl (fun _ _ _ _ _ => rfl) ?_
  refine tK (l := xk_14) rfl rfl (hGetR (o := some 43) hs rfl rfl rfl (by decide) (by decide) rfl) ?_
  refine tCa (l := xk_14) rfl rfl (hInvV (c := 4) hs rfl rfl rfl rfl rfl (Nat.le_of_ble_eq_true rfl) (Nat.le_of_ble_eq_true rfl)) ?_
  refine s34 b1 (by exact hst) (fun ph1 r1 f1 => ?_)
  refine tKv ?_
  have hs1 := r1.1.1
  have hb1 : hBT zs ph1 fs (sc, stg, ou, st + 1, pl, es, vl) := hb.fr r1 f1.1 (by decide) rfl
  have e5 : hRd ph1 57 5 = (x : Int) := by rw [f1.1.at (by decide)]; exact b8
  have e4 : hRd ph1 57 4 = ((cP fs).length : Int) := by rw [f1.1.at (by decide)]; exact b6
  have u1 : hTo ph1 65 (cP fs).length = some (cT fs) := (f1.to (by decide) (by decide)).trans t1
  have w1 : hTW ph1 65 := f1.1.tw (by decide) b5
  refine tSt (l := xk_14) rfl rfl (fun _ _ _ _ _ => rfl) (Nat.le_of_ble_eq_true rfl) ?_
  refine tK (l := xk_14) rfl rfl (fun _ _ _ _ _ => rfl) ?_
  refine tIf_eq (l := xk_14) (pc' := 14) rfl rfl rfl (fun hc => ?_) (fun hc => ?_)
  · refine tK (l := xk_14) rfl rfl (fun _ _ _ _ _ => rfl) ?_
    refine tK (l := xk_14) rfl rfl (fun _ _ _ _ _ => rfl) ?_
    refine tCa (l := xk_14) rfl rfl (hInvV (c := 1) hs1 rfl rfl rfl rfl rfl (Nat.le_of_ble_eq_true rfl) (Nat.le_of_ble_eq_true rfl)) ?_
    refine s11 (a := 0) hs1 w1 (show (cP fs).length < 5 by omega) e4 e5 (by omega) (by omega) u1 ?_
    refine tKv ?_
    rw [show chA (cT fs) (x + 0) = cd from chA_some g1]
    refine tSt (l := xk_14) rfl rfl (fun _ _ _ _ _ => rfl) (Nat.le_of_ble_eq_true rfl) ?_
    refine tK (l := xk_14) rfl rfl (fun _ _ _ _ _ => rfl) ?_
    refine tK (l := xk_14) rfl rfl (fun _ _ _ _ _ => rfl) ?_
    refine tCa (l := xk_14) rfl rfl (hInvV (c := 1) hs1 rfl rfl rfl rfl rfl (Nat.le_of_ble_eq_true rfl) (Nat.le_of_ble_eq_true rfl)) ?_
    refine s11 (a := 1) hs1 w1 (show (cP fs).length < 5 by omega) e4 e5 (by omega) (by omega) u1 ?_
    refine tKv ?_
    skip
    refine tSt (l := xk_14) rfl rfl (fun _ _ _ _ _ => rfl) (Nat.le_of_ble_eq_true rfl) ?_
    refine tK (l := xk_14) rfl rfl (fun _ _ _ _ _ => rfl) ?_
    refine tK (l := xk_14) rfl rfl (fun _ _ _ _ _ => rfl) ?_
    refine tIc_ne (l := xk_14) (pc' := 52) rfl rfl rfl (fun hc => ?_) (fun hc => ?_)
    · exact absurd hc g5
    · refine tK (l := xk_14) rfl rfl (fun _ _ _ _ _ => rfl) ?_
      refine tK (l := xk_14) rfl rfl (fun _ _ _ _ _ => rfl) ?_
      refine tIc_eq (l := xk_14) (pc' := 78) rfl rfl rfl (fun hc => ?_) (fun hc => ?_)
      · exact absurd hc g3
      · refine tK (l := xk_14) rfl rfl (fun _ _ _ _ _ => rfl) ?_
        refine tK (l := xk_14) rfl rfl (fun _ _ _ _ _ => rfl) ?_
        refine tK (l := xk_14) rfl rfl (hGetI hs1 rfl rfl rfl (by decide) (by decide)) ?_
        rw [e5]
        refine tK (l := xk_14) rfl rfl (fun _ _ _ _ _ => rfl) ?_
        refine tK (l := xk_14) rfl rfl (hAdd ⟨by omega, by omega⟩) ?_
        refine tK (l := xk_14) rfl rfl (hPutV hs1 rfl rfl (by decide) (by decide) rfl) ?_
        have a5 : hA5 zs ph1 (hUp ph1 57 5 ((x : Int) + 1)) (x + 1) := hA5_up hs1
        have hb2 := hb1.at a5
        refine tK (l := xk_14) rfl rfl (fun _ _ _ _ _ => rfl) ?_
        refine tK (l := xk_14) rfl rfl (hGetR (o := some 43) (hShI1 _ hs1 rfl rfl) rfl rfl rfl (by decide) (by decide) rfl) ?_
        refine tK (l := xk_14) rfl rfl (fun _ _ _ _ _ => rfl) ?_
        refine tK (l := xk_14) rfl rfl (fun _ _ _ _ _ => rfl) ?_
        refine tCa (l := xk_14) rfl rfl (hInvV (c := 4) (hShI1 _ hs1 rfl rfl) rfl rfl rfl rfl rfl (Nat.le_of_ble_eq_true rfl) (Nat.le_of_ble_eq_true rfl)) ?_
        have hD1 : D = oP fs x (x + 1 + 0) (prF cd (0 : Int) (sc, stg, ou, st + 1, pl, es, vl)) := by rcases hD with ⟨q0, h⟩ | ⟨q0, h⟩ | ⟨q0, h⟩ | ⟨q0, h⟩ | ⟨q0, h⟩ | ⟨q0, h⟩ | ⟨q0, h⟩ <;> first | exact h | exact absurd q0 (by decide)
        refine s36 (c := cd) (k := (0 : Int)) hb2.1 hcc (fun ph3 r3 f3 => ?_)
        refine tKv ?_
        refine tRt (l := xk_14) rfl rfl (fun _ _ _ _ _ => rfl) ?_
        obtain ⟨y1, y2⟩ := TB_oP hb2 r3 f3.1 (by decide) (by rw [(prF_sc _ _ _).1]) hD1
        rw [← y2]
        exact hQ ph3 y1 (((f1.1.bt (by decide)).trans (a5.2.1.bt (by decide))).trans (f3.1.bt (by decide)))
  · exact absurd rfl hc
theorem s14_1 {x nm : Nat} {D : Cf} (hb : hBT zs ph fs rs) (hx : cX fs = x) (hst : rs.2.2.2.1 < 200) {w : Nat} {cd : Int} (hsh : hSim (cT fs) x 1 cd nm w) (hD : PSim fs x 1 cd nm (ctS rs) D) (hQ : ∀ ph2, TB zs ph2 D → hFd bT ph ph2 → Q (.inl (some (.inl (D.2.2.1 : Int))), ph2, g)) : xTC (d + 6) 14 [.inr (.inl (some 57))] ph g Q := by
  obtain ⟨sc, stg, ou, st, pl, es, vl⟩ := rs
  obtain ⟨b1, b2, b3, b4, b5, b6, b7, b8, b9, b10⟩ := id hb
  have hs := b1.1.1
  rw [hx] at b8
  obtain ⟨t1, t2⟩ := hBs_cT b2 b3
  have hch := hTo_ch b1.1.1 rfl t1
  obtain ⟨g1, g2⟩ : (cT fs)[x]? = some 126 ∧ (cT fs)[x + 1]? = some cd := by rcases hsh with q | q | q | q <;> first | exact q.2.2 | exact absurd q.1 (by decide)
  have hxl := (List.getElem?_eq_some_iff.mp g1).1
  have hcc := hch cd (List.mem_of_getElem? g2)
  refine tEn (ls := [some (.inr (.inl (some 57))), none, none, none, none]) (fun k => by match k with | 0 => rfl | 1 => rfl | 2 => rfl | 3 => rfl | 4 => rfl | k + 5 => rfl) ?_
  refine tK (l := xk_14) rfl rfl (fun _ _ _ _ _ => rfl) ?_
  refine tK (l := xk_14) rfl rfl (hGetR (o := some 43) hs rfl rfl rfl (by decide) (by decide) rfl) ?_
  refine tCa (l := xk_14) rfl rfl (hInvV (c := 4) hs rfl rfl rfl rfl rfl (Nat.le_of_ble_eq_true rfl) (Nat.le_of_ble_eq_true rfl)) ?_
  refine s34 b1 (by exact hst) (fun ph1 r1 f1 => ?_)
  refine tKv ?_
  have hs1 := r1.1.1
  have hb1 : hBT zs ph1 fs (sc, stg, ou, st + 1, pl, es, vl) := hb.fr r1 f1.1 (by decide) rfl
  have e5 : hRd ph1 57 5 = (x : Int) := by rw [f1.1.at (by decide)]; exact b8
  have e4 : hRd ph1 57 4 = ((cP fs).length : Int) := by rw [f1.1.at (by decide)]; exact b6
  have u1 : hTo ph1 65 (cP fs).length = some (cT fs) := (f1.to (by decide) (by decide)).trans t1
  have w1 : hTW ph1 65 := f1.1.tw (by decide) b5
  refine tSt (l := xk_14) rfl rfl (fun _ _ _ _ _ => rfl) (Nat.le_of_ble_eq_true rfl) ?_
  refine tK (l := xk_14) rfl rfl (fun _ _ _ _ _ => rfl) ?_
  refine tIf_eq (l := xk_14) (pc' := 14) rfl rfl rfl (fun hc => ?_) (fun hc => ?_)
  · refine tK (l := xk_14) rfl rfl (fun _ _ _ _ _ => rfl) ?_
    refine tK (l := xk_14) rfl rfl (fun _ _ _ _ _ => rfl) ?_
    refine tCa (l := xk_14) rfl rfl (hInvV (c := 1) hs1 rfl rfl rfl rfl rfl (Nat.le_of_ble_eq_true rfl) (Nat.le_of_ble_eq_true rfl)) ?_
    refine s11 (a := 0) hs1 w1 (show (cP fs).length < 5 by omega) e4 e5 (by omega) (by omega) u1 ?_
    refine tKv ?_
    rw [show chA (cT fs) (x + 0) = 126 from chA_some g1]
    refine tSt (l := xk_14) rfl rfl (fun _ _ _ _ _ => rfl) (Nat.le_of_ble_eq_true rfl) ?_
    refine tK (l := xk_14) rfl rfl (fun _ _ _ _ _ => rfl) ?_
    refine tK (l := xk_14) rfl rfl (fun _ _ _ _ _ => rfl) ?_
    refine tCa (l := xk_14) rfl rfl (hInvV (c := 1) hs1 rfl rfl rfl rfl rfl (Nat.le_of_ble_eq_true rfl) (Nat.le_of_ble_eq_true rfl)) ?_
    refine s11 (a := 1) hs1 w1 (show (cP fs).length < 5 by omega) e4 e5 (by omega) (by omega) u1 ?_
    refine tKv ?_
    rw [show chA (cT fs) (x + 1) = cd from chA_some g2]
    refine tSt (l := xk_14) rfl rfl (fun _ _ _ _ _ => rfl) (Nat.le_of_ble_eq_true rfl) ?_
    refine tK (l := xk_14) rfl rfl (fun _ _ _ _ _ => rfl) ?_
    refine tK (l := xk_14) rfl rfl (fun _ _ _ _ _ => rfl) ?_
    refine tIc_ne (l := xk_14) (pc' := 52) rfl rfl rfl (fun hc => ?_) (fun hc => ?_)
    · refine tK (l := xk_14) rfl rfl (fun _ _ _ _ _ => rfl) ?_
      refine tK (l := xk_14) rfl rfl (fun _ _ _ _ _ => rfl) ?_
      refine tK (l := xk_14) rfl rfl (hGetI hs1 rfl rfl rfl (by decide) (by decide)) ?_
      rw [e5]
      refine tK (l := xk_14) rfl rfl (fun _ _ _ _ _ => rfl) ?_
      refine tK (l := xk_14) rfl rfl (hAdd ⟨by omega, by omega⟩) ?_
      refine tK (l := xk_14) rfl rfl (hPutV hs1 rfl rfl (by decide) (by decide) rfl) ?_
      have a5 : hA5 zs ph1 (hUp ph1 57 5 ((x : Int) + 2)) (x + 2) := hA5_up hs1
      have hb2 := hb1.at a5
      refine tK (l := xk_14) rfl rfl (fun _ _ _ _ _ => rfl) ?_
      refine tK (l := xk_14) rfl rfl (hGetR (o := some 43) (hShI1 _ hs1 rfl rfl) rfl rfl rfl (by decide) (by decide) rfl) ?_
      refine tK (l := xk_14) rfl rfl (fun _ _ _ _ _ => rfl) ?_
      refine tK (l := xk_14) rfl rfl (fun _ _ _ _ _ => rfl) ?_
      refine tCa (l := xk_14) rfl rfl (hInvV (c := 4) (hShI1 _ hs1 rfl rfl) rfl rfl rfl rfl rfl (Nat.le_of_ble_eq_true rfl) (Nat.le_of_ble_eq_true rfl)) ?_
      have hD1 : D = oP fs x (x + 1 + 1) (prF cd (1 : Int) (sc, stg, ou, st + 1, pl, es, vl)) := by rcases hD with ⟨q0, h⟩ | ⟨q0, h⟩ | ⟨q0, h⟩ | ⟨q0, h⟩ | ⟨q0, h⟩ | ⟨q0, h⟩ | ⟨q0, h⟩ <;> first | exact h | exact absurd q0 (by decide)
      refine s36 (c := cd) (k := (1 : Int)) hb2.1 hcc (fun ph3 r3 f3 => ?_)
      refine tKv ?_
      refine tRt (l := xk_14) rfl rfl (fun _ _ _ _ _ => rfl) ?_
      obtain ⟨y1, y2⟩ := TB_oP hb2 r3 f3.1 (by decide) (by rw [(prF_sc _ _ _).1]) hD1
      rw [← y2]
      exact hQ ph3 y1 (((f1.1.bt (by decide)).trans (a5.2.1.bt (by decide))).trans (f3.1.bt (by decide)))
    · exact absurd rfl hc
  · exact absurd rfl hc
theorem s14_2 {x nm : Nat} {D : Cf} (hb : hBT zs ph fs rs) (hx : cX fs = x) (hst : rs.2.2.2.1 < 200) {w : Nat} {cd : Int} (hsh : hSim (cT fs) x 2 cd nm w) (hD : PSim fs x 2 cd nm (ctS rs) D) (hQ : ∀ ph2, TB zs ph2 D → hFd bT ph ph2 → Q (.inl (some (.inl (D.2.2.1 : Int))), ph2, g)) : xTC (d + 6) 14 [.inr (.inl (some 57))] ph g Q := by
  obtain ⟨sc, stg, ou, st, pl, es, vl⟩ := rs
  obtain ⟨b1, b2, b3, b4, b5, b6, b7, b8, b9, b10⟩ := id hb
  have hs := b1.1.1
  rw [hx] at b8
  obtain ⟨t1, t2⟩ := hBs_cT b2 b3
  have hch := hTo_ch b1.1.1 rfl t1
  obtain ⟨g1, ⟨c1, g2, g3, g4⟩, g5⟩ : (cT fs)[x]? = some 123 ∧ (∃ c, (cT fs)[x + 1]? = some c ∧ kdF c = 2 ∧ nmF c = (nm : Int)) ∧ (cT fs)[x + 2]? = some 125 := by rcases hsh with q | q | q | q <;> first | exact q.2.2 | exact absurd q.1 (by decide)
  have hnm : nm < 10 := by have := nmF_le c1; omega
  have hkd := kdF_inv g3
  have hcb := hch c1 (List.mem_of_getElem? g2)
  have hxl := (List.getElem?_eq_some_iff.mp g1).1
  refine tEn (ls := [some (.inr (.inl (some 57))), none, none, none, none]) (fun k => by match k with | 0 => rfl | 1 => rfl | 2 => rfl | 3 => rfl | 4 => rfl | k + 5 => rfl) ?_
  refine tK (l := xk_14) rfl rfl (fun _ _ _ _ _ => rfl) ?_
  refine tK (l := xk_14) rfl rfl (hGetR (o := some 43) hs rfl rfl rfl (by decide) (by decide) rfl) ?_
  refine tCa (l := xk_14) rfl rfl (hInvV (c := 4) hs rfl rfl rfl rfl rfl (Nat.le_of_ble_eq_true rfl) (Nat.le_of_ble_eq_true rfl)) ?_
  refine s34 b1 (by exact hst) (fun ph1 r1 f1 => ?_)
  refine tKv ?_
  have hs1 := r1.1.1
  have hb1 : hBT zs ph1 fs (sc, stg, ou, st + 1, pl, es, vl) := hb.fr r1 f1.1 (by decide) rfl
  have e5 : hRd ph1 57 5 = (x : Int) := by rw [f1.1.at (by decide)]; exact b8
  have e4 : hRd ph1 57 4 = ((cP fs).length : Int) := by rw [f1.1.at (by decide)]; exact b6
  have u1 : hTo ph1 65 (cP fs).length = some (cT fs) := (f1.to (by decide) (by decide)).trans t1
  have w1 : hTW ph1 65 := f1.1.tw (by decide) b5
  refine tSt (l := xk_14) rfl rfl (fun _ _ _ _ _ => rfl) (Nat.le_of_ble_eq_true rfl) ?_
  refine tK (l := xk_14) rfl rfl (fun _ _ _ _ _ => rfl) ?_
  refine tIf_eq (l := xk_14) (pc' := 14) rfl rfl rfl (fun hc => ?_) (fun hc => ?_)
  · refine tK (l := xk_14) rfl rfl (fun _ _ _ _ _ => rfl) ?_
    refine tK (l := xk_14) rfl rfl (fun _ _ _ _ _ => rfl) ?_
    refine tCa (l := xk_14) rfl rfl (hInvV (c := 1) hs1 rfl rfl rfl rfl rfl (Nat.le_of_ble_eq_true rfl) (Nat.le_of_ble_eq_true rfl)) ?_
    refine s11 (a := 0) hs1 w1 (show (cP fs).length < 5 by omega) e4 e5 (by omega) (by omega) u1 ?_
    refine tKv ?_
    rw [show chA (cT fs) (x + 0) = 123 from chA_some g1]
    refine tSt (l := xk_14) rfl rfl (fun _ _ _ _ _ => rfl) (Nat.le_of_ble_eq_true rfl) ?_
    refine tK (l := xk_14) rfl rfl (fun _ _ _ _ _ => rfl) ?_
    refine tK (l := xk_14) rfl rfl (fun _ _ _ _ _ => rfl) ?_
    refine tCa (l := xk_14) rfl rfl (hInvV (c := 1) hs1 rfl rfl rfl rfl rfl (Nat.le_of_ble_eq_true rfl) (Nat.le_of_ble_eq_true rfl)) ?_
    refine s11 (a := 1) hs1 w1 (show (cP fs).length < 5 by omega) e4 e5 (by omega) (by omega) u1 ?_
    refine tKv ?_
    rw [show chA (cT fs) (x + 1) = c1 from chA_some g2]
    refine tSt (l := xk_14) rfl rfl (fun _ _ _ _ _ => rfl) (Nat.le_of_ble_eq_true rfl) ?_
    refine tK (l := xk_14) rfl rfl (fun _ _ _ _ _ => rfl) ?_
    refine tK (l := xk_14) rfl rfl (fun _ _ _ _ _ => rfl) ?_
    refine tIc_ne (l := xk_14) (pc' := 52) rfl rfl rfl (fun hc => ?_) (fun hc => ?_)
    · exact absurd hc (by decide)
    · refine tK (l := xk_14) rfl rfl (fun _ _ _ _ _ => rfl) ?_
      refine tK (l := xk_14) rfl rfl (fun _ _ _ _ _ => rfl) ?_
      refine tIc_eq (l := xk_14) (pc' := 78) rfl rfl rfl (fun hc => ?_) (fun hc => ?_)
      · refine tK (l := xk_14) rfl rfl (fun _ _ _ _ _ => rfl) ?_
        refine tK (l := xk_14) rfl rfl (fun _ _ _ _ _ => rfl) ?_
        refine tCa (l := xk_14) rfl rfl (hInvV (c := 1) hs1 rfl rfl rfl rfl rfl (Nat.le_of_ble_eq_true rfl) (Nat.le_of_ble_eq_true rfl)) ?_
        refine s11 (a := 2) hs1 w1 (show (cP fs).length < 5 by omega) e4 e5 (by omega) (by omega) u1 ?_
        refine tKv ?_
        rw [show chA (cT fs) (x + 2) = 125 from chA_some g5]
        refine tCa (l := xk_14) rfl rfl (hInvS rfl rfl rfl rfl (Nat.le_of_ble_eq_true rfl) (Nat.le_of_ble_eq_true rfl)) ?_
        refine s85 (by decide) ?_
        refine tKv ?_
        rw [show nmF 125 = -1 from rfl]
        refine tSt (l := xk_14) rfl rfl (fun _ _ _ _ _ => rfl) (Nat.le_of_ble_eq_true rfl) ?_
        refine tK (l := xk_14) rfl rfl (fun _ _ _ _ _ => rfl) ?_
        refine tK (l := xk_14) rfl rfl (fun _ _ _ _ _ => rfl) ?_
        refine tK (l := xk_14) rfl rfl (hGetI hs1 rfl rfl rfl (by decide) (by decide)) ?_
        rw [e5]
        refine tK (l := xk_14) rfl rfl (fun _ _ _ _ _ => rfl) ?_
        refine tK (l := xk_14) rfl rfl (fun _ _ _ _ _ => rfl) ?_
        refine tIc_ne (l := xk_14) (pc' := 103) rfl rfl rfl (fun hc => ?_) (fun hc => ?_)
        · refine tK (l := xk_14) rfl rfl (fun _ _ _ _ _ => rfl) ?_
          refine tK (l := xk_14) rfl rfl (fun _ _ _ _ _ => rfl) ?_
          refine tK (l := xk_14) rfl rfl (hAdd ⟨by omega, by omega⟩) ?_
          refine tK (l := xk_14) rfl rfl (hPutV hs1 rfl rfl (by decide) (by decide) rfl) ?_
          have a5 : hA5 zs ph1 (hUp ph1 57 5 ((x : Int) + 3)) (x + 3) := hA5_up hs1
          have hb2 := hb1.at a5
          refine tK (l := xk_14) rfl rfl (fun _ _ _ _ _ => rfl) ?_
          refine tK (l := xk_14) (pc' := 199) (lv' := xlo [some (.inr (.inl (some 57))), some (.inl 0), some (.inl 123), some (.inl c1), some (.inl (-1))]) (st' := []) (ph' := hUp ph1 57 5 ((x : Int) + 3)) rfl rfl (fun K9 _ _ _ _ => ?_) ?_
          · show K9 (xpc 109 (Op.lookupswitch.offset [(33, 51), (42, 69), (61, 83), (63, 76), (94, 62)] 90 c1)) _ _ _ = _
            rw [lkd (by intro q hq; simp only [List.mem_cons, List.not_mem_nil, or_false] at hq; rcases hq with rfl | rfl | rfl | rfl | rfl <;> omega)]
            rfl
          refine tK (l := xk_14) rfl rfl (fun _ _ _ _ _ => rfl) ?_
          refine tK (l := xk_14) rfl rfl (hGetR (o := some 43) (hShI1 _ hs1 rfl rfl) rfl rfl rfl (by decide) (by decide) rfl) ?_
          refine tK (l := xk_14) rfl rfl (fun _ _ _ _ _ => rfl) ?_
          refine tCa (l := xk_14) rfl rfl (hInvS rfl rfl rfl rfl (Nat.le_of_ble_eq_true rfl) (Nat.le_of_ble_eq_true rfl)) ?_
          refine s85 (by omega) ?_
          refine tKv ?_
          rw [g4]
          refine tK (l := xk_14) rfl rfl (fun _ _ _ _ _ => rfl) ?_
          refine tCa (l := xk_14) rfl rfl (hInvV (c := 4) (hShI1 _ hs1 rfl rfl) rfl rfl rfl rfl rfl (Nat.le_of_ble_eq_true rfl) (Nat.le_of_ble_eq_true rfl)) ?_
          have hD2 : (lk sc nm = none ∧ D = FL fs (sc, stg, ou, st + 1, pl, es, vl) 1 x) ∨ ∃ v, lk sc nm = some v ∧ D = oP fs x (x + 1 + 2) (pvF ((2 : Int) == 3) (2 : Int) v (sc, stg, ou, st + 1, pl, es, vl)) := by rcases hD with ⟨q0, h⟩ | ⟨q0, h⟩ | ⟨q0, h⟩ | ⟨q0, h⟩ | ⟨q0, h⟩ | ⟨q0, h⟩ | ⟨q0, h⟩ <;> first | exact Or.inl h | exact Or.inr h | exact absurd q0 (by decide)
          rcases hD2 with ⟨hlk, hD3⟩ | ⟨v, hlk, hD3⟩
          · refine s35n hb2.1 hnm hlk ?_
            refine tKv ?_
            refine tRt (l := xk_14) rfl rfl (fun _ _ _ _ _ => rfl) ?_
            subst hD3
            exact hQ _ (TBf hb2.1 rfl (by show (1 : Nat) ≠ 0; decide) hb2.2.2.2.2.1) ((f1.1.bt (by decide)).trans (a5.2.1.bt (by decide)))
          · refine s35 hb2.1 hnm hlk (fun ph3 r3 f3 => ?_)
            refine tKv ?_
            refine tRt (l := xk_14) rfl rfl (fun _ _ _ _ _ => rfl) ?_
            obtain ⟨y1, y2⟩ := TB_oP hb2 r3 f3.1 (by decide) (by rw [(pvF_sc _ _ _ _).1]) hD3
            rw [← y2]
            exact hQ ph3 y1 (((f1.1.bt (by decide)).trans (a5.2.1.bt (by decide))).trans (f3.1.bt (by decide)))
        · exact absurd rfl hc
      · exact absurd rfl hc
  · exact absurd rfl hc
theorem s14_3 {x nm : Nat} {D : Cf} (hb : hBT zs ph fs rs) (hx : cX fs = x) (hst : rs.2.2.2.1 < 200) {w : Nat} {cd : Int} (hsh : hSim (cT fs) x 3 cd nm w) (hD : PSim fs x 3 cd nm (ctS rs) D) (hQ : ∀ ph2, TB zs ph2 D → hFd bT ph ph2 → Q (.inl (some (.inl (D.2.2.1 : Int))), ph2, g)) : xTC (d + 6) 14 [.inr (.inl (some 57))] ph g Q := by
  obtain ⟨sc, stg, ou, st, pl, es, vl⟩ := rs
  obtain ⟨b1, b2, b3, b4, b5, b6, b7, b8, b9, b10⟩ := id hb
  have hs := b1.1.1
  rw [hx] at b8
  obtain ⟨t1, t2⟩ := hBs_cT b2 b3
  have hch := hTo_ch b1.1.1 rfl t1
  obtain ⟨g1, ⟨c1, g2, g3⟩, ⟨c2, g4, g5⟩⟩ : (cT fs)[x]? = some 123 ∧ (∃ c, (cT fs)[x + 1]? = some c ∧ kdF c = 3) ∧ (∃ c, (cT fs)[x + 2]? = some c ∧ nmF c = (nm : Int)) := by rcases hsh with q | q | q | q <;> first | exact ⟨q.2.2.1, q.2.2.2.1, q.2.2.2.2.1⟩ | exact absurd q.1 (by decide)
  have hnm : nm < 10 := by have := nmF_le c2; omega
  have hc1 : c1 = 33 := by have := kdF_inv g3; omega
  subst hc1
  have hcb := hch c2 (List.mem_of_getElem? g4)
  have hxl := (List.getElem?_eq_some_iff.mp g1).1
  refine tEn (ls := [some (.inr (.inl (some 57))), none, none, none, none]) (fun k => by match k with | 0 => rfl | 1 => rfl | 2 => rfl | 3 => rfl | 4 => rfl | k + 5 => rfl) ?_
  refine tK (l := xk_14) rfl rfl (fun _ _ _ _ _ => rfl) ?_
  refine tK (l := xk_14) rfl rfl (hGetR (o := some 43) hs rfl rfl rfl (by decide) (by decide) rfl) ?_
  refine tCa (l := xk_14) rfl rfl (hInvV (c := 4) hs rfl rfl rfl rfl rfl (Nat.le_of_ble_eq_true rfl) (Nat.le_of_ble_eq_true rfl)) ?_
  refine s34 b1 (by exact hst) (fun ph1 r1 f1 => ?_)
  refine tKv ?_
  have hs1 := r1.1.1
  have hb1 : hBT zs ph1 fs (sc, stg, ou, st + 1, pl, es, vl) := hb.fr r1 f1.1 (by decide) rfl
  have e5 : hRd ph1 57 5 = (x : Int) := by rw [f1.1.at (by decide)]; exact b8
  have e4 : hRd ph1 57 4 = ((cP fs).length : Int) := by rw [f1.1.at (by decide)]; exact b6
  have u1 : hTo ph1 65 (cP fs).length = some (cT fs) := (f1.to (by decide) (by decide)).trans t1
  have w1 : hTW ph1 65 := f1.1.tw (by decide) b5
  refine tSt (l := xk_14) rfl rfl (fun _ _ _ _ _ => rfl) (Nat.le_of_ble_eq_true rfl) ?_
  refine tK (l := xk_14) rfl rfl (fun _ _ _ _ _ => rfl) ?_
  refine tIf_eq (l := xk_14) (pc' := 14) rfl rfl rfl (fun hc => ?_) (fun hc => ?_)
  · refine tK (l := xk_14) rfl rfl (fun _ _ _ _ _ => rfl) ?_
    refine tK (l := xk_14) rfl rfl (fun _ _ _ _ _ => rfl) ?_
    refine tCa (l := xk_14) rfl rfl (hInvV (c := 1) hs1 rfl rfl rfl rfl rfl (Nat.le_of_ble_eq_true rfl) (Nat.le_of_ble_eq_true rfl)) ?_
    refine s11 (a := 0) hs1 w1 (show (cP fs).length < 5 by omega) e4 e5 (by omega) (by omega) u1 ?_
    refine tKv ?_
    rw [show chA (cT fs) (x + 0) = 123 from chA_some g1]
    refine tSt (l := xk_14) rfl rfl (fun _ _ _ _ _ => rfl) (Nat.le_of_ble_eq_true rfl) ?_
    refine tK (l := xk_14) rfl rfl (fun _ _ _ _ _ => rfl) ?_
    refine tK (l := xk_14) rfl rfl (fun _ _ _ _ _ => rfl) ?_
    refine tCa (l := xk_14) rfl rfl (hInvV (c := 1) hs1 rfl rfl rfl rfl rfl (Nat.le_of_ble_eq_true rfl) (Nat.le_of_ble_eq_true rfl)) ?_
    refine s11 (a := 1) hs1 w1 (show (cP fs).length < 5 by omega) e4 e5 (by omega) (by omega) u1 ?_
    refine tKv ?_
    rw [show chA (cT fs) (x + 1) = 33 from chA_some g2]
    refine tSt (l := xk_14) rfl rfl (fun _ _ _ _ _ => rfl) (Nat.le_of_ble_eq_true rfl) ?_
    refine tK (l := xk_14) rfl rfl (fun _ _ _ _ _ => rfl) ?_
    refine tK (l := xk_14) rfl rfl (fun _ _ _ _ _ => rfl) ?_
    refine tIc_ne (l := xk_14) (pc' := 52) rfl rfl rfl (fun hc => ?_) (fun hc => ?_)
    · exact absurd hc (by decide)
    · refine tK (l := xk_14) rfl rfl (fun _ _ _ _ _ => rfl) ?_
      refine tK (l := xk_14) rfl rfl (fun _ _ _ _ _ => rfl) ?_
      refine tIc_eq (l := xk_14) (pc' := 78) rfl rfl rfl (fun hc => ?_) (fun hc => ?_)
      · refine tK (l := xk_14) rfl rfl (fun _ _ _ _ _ => rfl) ?_
        refine tK (l := xk_14) rfl rfl (fun _ _ _ _ _ => rfl) ?_
        refine tCa (l := xk_14) rfl rfl (hInvV (c := 1) hs1 rfl rfl rfl rfl rfl (Nat.le_of_ble_eq_true rfl) (Nat.le_of_ble_eq_true rfl)) ?_
        refine s11 (a := 2) hs1 w1 (show (cP fs).length < 5 by omega) e4 e5 (by omega) (by omega) u1 ?_
        refine tKv ?_
        rw [show chA (cT fs) (x + 2) = c2 from chA_some g4]
        refine tCa (l := xk_14) rfl rfl (hInvS rfl rfl rfl rfl (Nat.le_of_ble_eq_true rfl) (Nat.le_of_ble_eq_true rfl)) ?_
        refine s85 (by omega) ?_
        refine tKv ?_
        rw [g5]
        refine tSt (l := xk_14) rfl rfl (fun _ _ _ _ _ => rfl) (Nat.le_of_ble_eq_true rfl) ?_
        refine tK (l := xk_14) rfl rfl (fun _ _ _ _ _ => rfl) ?_
        refine tK (l := xk_14) rfl rfl (fun _ _ _ _ _ => rfl) ?_
        refine tK (l := xk_14) rfl rfl (hGetI hs1 rfl rfl rfl (by decide) (by decide)) ?_
        rw [e5]
        refine tK (l := xk_14) rfl rfl (fun _ _ _ _ _ => rfl) ?_
        refine tK (l := xk_14) rfl rfl (fun _ _ _ _ _ => rfl) ?_
        refine tIc_ne (l := xk_14) (pc' := 103) rfl rfl rfl (fun hc => ?_) (fun hc => ?_)
        · exfalso
          have h9 : (nm : Int) = -1 := hc
          omega
        · refine tK (l := xk_14) rfl rfl (fun _ _ _ _ _ => rfl) ?_
          refine tK (l := xk_14) rfl rfl (hAdd ⟨by omega, by omega⟩) ?_
          refine tK (l := xk_14) rfl rfl (hPutV hs1 rfl rfl (by decide) (by decide) rfl) ?_
          have a5 : hA5 zs ph1 (hUp ph1 57 5 ((x : Int) + 4)) (x + 4) := hA5_up hs1
          have hb2 := hb1.at a5
          refine tK (l := xk_14) rfl rfl (fun _ _ _ _ _ => rfl) ?_
          refine tK (l := xk_14) (pc' := 160) rfl rfl (fun _ _ _ _ _ => rfl) ?_
          refine tK (l := xk_14) rfl rfl (fun _ _ _ _ _ => rfl) ?_
          refine tK (l := xk_14) rfl rfl (hGetR (o := some 43) (hShI1 _ hs1 rfl rfl) rfl rfl rfl (by decide) (by decide) rfl) ?_
          refine tK (l := xk_14) rfl rfl (fun _ _ _ _ _ => rfl) ?_
          refine tK (l := xk_14) rfl rfl (fun _ _ _ _ _ => rfl) ?_
          refine tCa (l := xk_14) rfl rfl (hInvV (c := 4) (hShI1 _ hs1 rfl rfl) rfl rfl rfl rfl rfl (Nat.le_of_ble_eq_true rfl) (Nat.le_of_ble_eq_true rfl)) ?_
          have hD2 : (lk sc nm = none ∧ D = FL fs (sc, stg, ou, st + 1, pl, es, vl) 1 x) ∨ ∃ v, lk sc nm = some v ∧ D = oP fs x (x + 1 + 3) (pvF ((3 : Int) == 3) (3 : Int) v (sc, stg, ou, st + 1, pl, es, vl)) := by rcases hD with ⟨q0, h⟩ | ⟨q0, h⟩ | ⟨q0, h⟩ | ⟨q0, h⟩ | ⟨q0, h⟩ | ⟨q0, h⟩ | ⟨q0, h⟩ <;> first | exact Or.inl h | exact Or.inr h | exact absurd q0 (by decide)
          rcases hD2 with ⟨hlk, hD3⟩ | ⟨v, hlk, hD3⟩
          · refine s35n hb2.1 hnm hlk ?_
            refine tKv ?_
            refine tRt (l := xk_14) rfl rfl (fun _ _ _ _ _ => rfl) ?_
            subst hD3
            exact hQ _ (TBf hb2.1 rfl (by show (1 : Nat) ≠ 0; decide) hb2.2.2.2.2.1) ((f1.1.bt (by decide)).trans (a5.2.1.bt (by decide)))
          · refine s35 hb2.1 hnm hlk (fun ph3 r3 f3 => ?_)
            refine tKv ?_
            refine tRt (l := xk_14) rfl rfl (fun _ _ _ _ _ => rfl) ?_
            obtain ⟨y1, y2⟩ := TB_oP hb2 r3 f3.1 (by decide) (by rw [(pvF_sc _ _ _ _).1]) hD3
            rw [← y2]
            exact hQ ph3 y1 (((f1.1.bt (by decide)).trans (a5.2.1.bt (by decide))).trans (f3.1.bt (by decide)))
      · exact absurd rfl hc
  · exact absurd rfl hc
theorem s14_4 {x nm : Nat} {D : Cf} (hb : hBT zs ph fs rs) (hx : cX fs = x) (hst : rs.2.2.2.1 < 200) {w : Nat} {cd : Int} (hsh : hSim (cT fs) x 4 cd nm w) (hD : PSim fs x 4 cd nm (ctS rs) D) (hQ : ∀ ph2, TB zs ph2 D → hFd bT ph ph2 → Q (.inl (some (.inl (D.2.2.1 : Int))), ph2, g)) : xTC (d + 6) 14 [.inr (.inl (some 57))] ph g Q := by
  obtain ⟨sc, stg, ou, st, pl, es, vl⟩ := rs
  obtain ⟨b1, b2, b3, b4, b5, b6, b7, b8, b9, b10⟩ := id hb
  have hs := b1.1.1
  rw [hx] at b8
  obtain ⟨t1, t2⟩ := hBs_cT b2 b3
  have hch := hTo_ch b1.1.1 rfl t1
  obtain ⟨g1, ⟨c1, g2, g3⟩, ⟨c2, g4, g5⟩⟩ : (cT fs)[x]? = some 123 ∧ (∃ c, (cT fs)[x + 1]? = some c ∧ kdF c = 4) ∧ (∃ c, (cT fs)[x + 2]? = some c ∧ nmF c = (nm : Int)) := by rcases hsh with q | q | q | q <;> first | exact ⟨q.2.2.1, q.2.2.2.1, q.2.2.2.2.1⟩ | exact absurd q.1 (by decide)
  have hnm : nm < 10 := by have := nmF_le c2; omega
  have hc1 : c1 = 94 := by have := kdF_inv g3; omega
  subst hc1
  have hcb := hch c2 (List.mem_of_getElem? g4)
  have hxl := (List.getElem?_eq_some_iff.mp g1).1
  refine tEn (ls := [some (.inr (.inl (some 57))), none, none, none, none]) (fun k => by match k with | 0 => rfl | 1 => rfl | 2 => rfl | 3 => rfl | 4 => rfl | k + 5 => rfl) ?_
  refine tK (l := xk_14) rfl rfl (fun _ _ _ _ _ => rfl) ?_
  refine tK (l := xk_14) rfl rfl (hGetR (o := some 43) hs rfl rfl rfl (by decide) (by decide) rfl) ?_
  refine tCa (l := xk_14) rfl rfl (hInvV (c := 4) hs rfl rfl rfl rfl rfl (Nat.le_of_ble_eq_true rfl) (Nat.le_of_ble_eq_true rfl)) ?_
  refine s34 b1 (by exact hst) (fun ph1 r1 f1 => ?_)
  refine tKv ?_
  have hs1 := r1.1.1
  have hb1 : hBT zs ph1 fs (sc, stg, ou, st + 1, pl, es, vl) := hb.fr r1 f1.1 (by decide) rfl
  have e5 : hRd ph1 57 5 = (x : Int) := by rw [f1.1.at (by decide)]; exact b8
  have e4 : hRd ph1 57 4 = ((cP fs).length : Int) := by rw [f1.1.at (by decide)]; exact b6
  have u1 : hTo ph1 65 (cP fs).length = some (cT fs) := (f1.to (by decide) (by decide)).trans t1
  have w1 : hTW ph1 65 := f1.1.tw (by decide) b5
  refine tSt (l := xk_14) rfl rfl (fun _ _ _ _ _ => rfl) (Nat.le_of_ble_eq_true rfl) ?_
  refine tK (l := xk_14) rfl rfl (fun _ _ _ _ _ => rfl) ?_
  refine tIf_eq (l := xk_14) (pc' := 14) rfl rfl rfl (fun hc => ?_) (fun hc => ?_)
  · refine tK (l := xk_14) rfl rfl (fun _ _ _ _ _ => rfl) ?_
    refine tK (l := xk_14) rfl rfl (fun _ _ _ _ _ => rfl) ?_
    refine tCa (l := xk_14) rfl rfl (hInvV (c := 1) hs1 rfl rfl rfl rfl rfl (Nat.le_of_ble_eq_true rfl) (Nat.le_of_ble_eq_true rfl)) ?_
    refine s11 (a := 0) hs1 w1 (show (cP fs).length < 5 by omega) e4 e5 (by omega) (by omega) u1 ?_
    refine tKv ?_
    rw [show chA (cT fs) (x + 0) = 123 from chA_some g1]
    refine tSt (l := xk_14) rfl rfl (fun _ _ _ _ _ => rfl) (Nat.le_of_ble_eq_true rfl) ?_
    refine tK (l := xk_14) rfl rfl (fun _ _ _ _ _ => rfl) ?_
    refine tK (l := xk_14) rfl rfl (fun _ _ _ _ _ => rfl) ?_
    refine tCa (l := xk_14) rfl rfl (hInvV (c := 1) hs1 rfl rfl rfl rfl rfl (Nat.le_of_ble_eq_true rfl) (Nat.le_of_ble_eq_true rfl)) ?_
    refine s11 (a := 1) hs1 w1 (show (cP fs).length < 5 by omega) e4 e5 (by omega) (by omega) u1 ?_
    refine tKv ?_
    rw [show chA (cT fs) (x + 1) = 94 from chA_some g2]
    refine tSt (l := xk_14) rfl rfl (fun _ _ _ _ _ => rfl) (Nat.le_of_ble_eq_true rfl) ?_
    refine tK (l := xk_14) rfl rfl (fun _ _ _ _ _ => rfl) ?_
    refine tK (l := xk_14) rfl rfl (fun _ _ _ _ _ => rfl) ?_
    refine tIc_ne (l := xk_14) (pc' := 52) rfl rfl rfl (fun hc => ?_) (fun hc => ?_)
    · exact absurd hc (by decide)
    · refine tK (l := xk_14) rfl rfl (fun _ _ _ _ _ => rfl) ?_
      refine tK (l := xk_14) rfl rfl (fun _ _ _ _ _ => rfl) ?_
      refine tIc_eq (l := xk_14) (pc' := 78) rfl rfl rfl (fun hc => ?_) (fun hc => ?_)
      · refine tK (l := xk_14) rfl rfl (fun _ _ _ _ _ => rfl) ?_
        refine tK (l := xk_14) rfl rfl (fun _ _ _ _ _ => rfl) ?_
        refine tCa (l := xk_14) rfl rfl (hInvV (c := 1) hs1 rfl rfl rfl rfl rfl (Nat.le_of_ble_eq_true rfl) (Nat.le_of_ble_eq_true rfl)) ?_
        refine s11 (a := 2) hs1 w1 (show (cP fs).length < 5 by omega) e4 e5 (by omega) (by omega) u1 ?_
        refine tKv ?_
        rw [show chA (cT fs) (x + 2) = c2 from chA_some g4]
        refine tCa (l := xk_14) rfl rfl (hInvS rfl rfl rfl rfl (Nat.le_of_ble_eq_true rfl) (Nat.le_of_ble_eq_true rfl)) ?_
        refine s85 (by omega) ?_
        refine tKv ?_
        rw [g5]
        refine tSt (l := xk_14) rfl rfl (fun _ _ _ _ _ => rfl) (Nat.le_of_ble_eq_true rfl) ?_
        refine tK (l := xk_14) rfl rfl (fun _ _ _ _ _ => rfl) ?_
        refine tK (l := xk_14) rfl rfl (fun _ _ _ _ _ => rfl) ?_
        refine tK (l := xk_14) rfl rfl (hGetI hs1 rfl rfl rfl (by decide) (by decide)) ?_
        rw [e5]
        refine tK (l := xk_14) rfl rfl (fun _ _ _ _ _ => rfl) ?_
        refine tK (l := xk_14) rfl rfl (fun _ _ _ _ _ => rfl) ?_
        refine tIc_ne (l := xk_14) (pc' := 103) rfl rfl rfl (fun hc => ?_) (fun hc => ?_)
        · exfalso
          have h9 : (nm : Int) = -1 := hc
          omega
        · refine tK (l := xk_14) rfl rfl (fun _ _ _ _ _ => rfl) ?_
          refine tK (l := xk_14) rfl rfl (hAdd ⟨by omega, by omega⟩) ?_
          refine tK (l := xk_14) rfl rfl (hPutV hs1 rfl rfl (by decide) (by decide) rfl) ?_
          have a5 : hA5 zs ph1 (hUp ph1 57 5 ((x : Int) + 4)) (x + 4) := hA5_up hs1
          have hb2 := hb1.at a5
          refine tK (l := xk_14) rfl rfl (fun _ _ _ _ _ => rfl) ?_
          refine tK (l := xk_14) (pc' := 171) rfl rfl (fun _ _ _ _ _ => rfl) ?_
          refine tK (l := xk_14) rfl rfl (fun _ _ _ _ _ => rfl) ?_
          refine tK (l := xk_14) rfl rfl (fun _ _ _ _ _ => rfl) ?_
          refine tCa (l := xk_14) rfl rfl (hInvV (c := 1) (hShI1 _ hs1 rfl rfl) rfl rfl rfl rfl rfl (Nat.le_of_ble_eq_true rfl) (Nat.le_of_ble_eq_true rfl)) ?_
          rcases hD with ⟨q0, h⟩ | ⟨q0, h⟩ | ⟨q0, h⟩ | ⟨q0, hv, hD9⟩ | ⟨q0, v, hv, hL, hD9⟩ | ⟨q0, v, hv, hL, hw, hv24, hD9⟩ | ⟨q0, v, hv, hL, hw, hv24, hfl, hsc, hD9⟩
          · exact absurd q0 (by decide)
          · exact absurd q0 (by decide)
          · exact absurd q0 (by decide)
          · refine s15n hb2 hnm hv hD9 (fun ph3 y1 f3 => ?_)
            refine tKv ?_
            refine tRt (l := xk_14) rfl rfl (fun _ _ _ _ _ => rfl) ?_
            exact hQ ph3 y1 (((f1.1.bt (by decide)).trans (a5.2.1.bt (by decide))).trans f3)
          · refine s15_4 hb2 hnm hv hL hD9 (fun ph3 y1 f3 => ?_)
            refine tKv ?_
            refine tRt (l := xk_14) rfl rfl (fun _ _ _ _ _ => rfl) ?_
            exact hQ ph3 y1 (((f1.1.bt (by decide)).trans (a5.2.1.bt (by decide))).trans f3)
          · refine s15_5 hb2 hnm hv hL hw hD9 (fun ph3 y1 f3 => ?_)
            refine tKv ?_
            refine tRt (l := xk_14) rfl rfl (fun _ _ _ _ _ => rfl) ?_
            exact hQ ph3 y1 (((f1.1.bt (by decide)).trans (a5.2.1.bt (by decide))).trans f3)
          · refine s15_6 hb2 hnm hv hL hw hfl hsc hD9 (fun ph3 y1 f3 => ?_)
            refine tKv ?_
            refine tRt (l := xk_14) rfl rfl (fun _ _ _ _ _ => rfl) ?_
            exact hQ ph3 y1 (((f1.1.bt (by decide)).trans (a5.2.1.bt (by decide))).trans f3)
      · exact absurd rfl hc
  · exact absurd rfl hc
theorem s14_5 {x nm : Nat} {D : Cf} (hb : hBT zs ph fs rs) (hx : cX fs = x) (hst : rs.2.2.2.1 < 200) (hsh : hBlk (cT fs) x 5 nm) (hD : PBlk fs x 5 nm (ctS rs) D) (hQ : ∀ ph2, TB zs ph2 D → hFd bT ph ph2 → Q (.inl (some (.inl (D.2.2.1 : Int))), ph2, g)) : xTC (d + 6) 14 [.inr (.inl (some 57))] ph g Q := by
  obtain ⟨sc, stg, ou, st, pl, es, vl⟩ := rs
  obtain ⟨b1, b2, b3, b4, b5, b6, b7, b8, b9, b10⟩ := id hb
  have hs := b1.1.1
  rw [hx] at b8
  obtain ⟨t1, t2⟩ := hBs_cT b2 b3
  have hch := hTo_ch b1.1.1 rfl t1
  obtain ⟨g1, ⟨c1, g2, g3⟩, ⟨c2, g4, g5⟩⟩ : (cT fs)[x]? = some 123 ∧ (∃ c, (cT fs)[x + 1]? = some c ∧ kdF c = 5) ∧ (∃ c, (cT fs)[x + 2]? = some c ∧ nmF c = (nm : Int)) := ⟨hsh.2.1, hsh.2.2.1, hsh.2.2.2.1⟩
  have hnm : nm < 10 := by have := nmF_le c2; omega
  have hc1 : c1 = 42 := by have := kdF_inv g3; omega
  subst hc1
  have hcb := hch c2 (List.mem_of_getElem? g4)
  have hxl := (List.getElem?_eq_some_iff.mp g1).1
  refine tEn (ls := [some (.inr (.inl (some 57))), none, none, none, none]) (fun k => by match k with | 0 => rfl | 1 => rfl | 2 => rfl | 3 => rfl | 4 => rfl | k + 5 => rfl) ?_
  refine tK (l := xk_14) rfl rfl (fun _ _ _ _ _ => rfl) ?_
  refine tK (l := xk_14) rfl rfl (hGetR (o := some 43) hs rfl rfl rfl (by decide) (by decide) rfl) ?_
  refine tCa (l := xk_14) rfl rfl (hInvV (c := 4) hs rfl rfl rfl rfl rfl (Nat.le_of_ble_eq_true rfl) (Nat.le_of_ble_eq_true rfl)) ?_
  refine s34 b1 (by exact hst) (fun ph1 r1 f1 => ?_)
  refine tKv ?_
  have hs1 := r1.1.1
  have hb1 : hBT zs ph1 fs (sc, stg, ou, st + 1, pl, es, vl) := hb.fr r1 f1.1 (by decide) rfl
  have e5 : hRd ph1 57 5 = (x : Int) := by rw [f1.1.at (by decide)]; exact b8
  have e4 : hRd ph1 57 4 = ((cP fs).length : Int) := by rw [f1.1.at (by decide)]; exact b6
  have u1 : hTo ph1 65 (cP fs).length = some (cT fs) := (f1.to (by decide) (by decide)).trans t1
  have w1 : hTW ph1 65 := f1.1.tw (by decide) b5
  refine tSt (l := xk_14) rfl rfl (fun _ _ _ _ _ => rfl) (Nat.le_of_ble_eq_true rfl) ?_
  refine tK (l := xk_14) rfl rfl (fun _ _ _ _ _ => rfl) ?_
  refine tIf_eq (l := xk_14) (pc' := 14) rfl rfl rfl (fun hc => ?_) (fun hc => ?_)
  · refine tK (l := xk_14) rfl rfl (fun _ _ _ _ _ => rfl) ?_
    refine tK (l := xk_14) rfl rfl (fun _ _ _ _ _ => rfl) ?_
    refine tCa (l := xk_14) rfl rfl (hInvV (c := 1) hs1 rfl rfl rfl rfl rfl (Nat.le_of_ble_eq_true rfl) (Nat.le_of_ble_eq_true rfl)) ?_
    refine s11 (a := 0) hs1 w1 (show (cP fs).length < 5 by omega) e4 e5 (by omega) (by omega) u1 ?_
    refine tKv ?_
    rw [show chA (cT fs) (x + 0) = 123 from chA_some g1]
    refine tSt (l := xk_14) rfl rfl (fun _ _ _ _ _ => rfl) (Nat.le_of_ble_eq_true rfl) ?_
    refine tK (l := xk_14) rfl rfl (fun _ _ _ _ _ => rfl) ?_
    refine tK (l := xk_14) rfl rfl (fun _ _ _ _ _ => rfl) ?_
    refine tCa (l := xk_14) rfl rfl (hInvV (c := 1) hs1 rfl rfl rfl rfl rfl (Nat.le_of_ble_eq_true rfl) (Nat.le_of_ble_eq_true rfl)) ?_
    refine s11 (a := 1) hs1 w1 (show (cP fs).length < 5 by omega) e4 e5 (by omega) (by omega) u1 ?_
    refine tKv ?_
    rw [show chA (cT fs) (x + 1) = 42 from chA_some g2]
    refine tSt (l := xk_14) rfl rfl (fun _ _ _ _ _ => rfl) (Nat.le_of_ble_eq_true rfl) ?_
    refine tK (l := xk_14) rfl rfl (fun _ _ _ _ _ => rfl) ?_
    refine tK (l := xk_14) rfl rfl (fun _ _ _ _ _ => rfl) ?_
    refine tIc_ne (l := xk_14) (pc' := 52) rfl rfl rfl (fun hc => ?_) (fun hc => ?_)
    · exact absurd hc (by decide)
    · refine tK (l := xk_14) rfl rfl (fun _ _ _ _ _ => rfl) ?_
      refine tK (l := xk_14) rfl rfl (fun _ _ _ _ _ => rfl) ?_
      refine tIc_eq (l := xk_14) (pc' := 78) rfl rfl rfl (fun hc => ?_) (fun hc => ?_)
      · refine tK (l := xk_14) rfl rfl (fun _ _ _ _ _ => rfl) ?_
        refine tK (l := xk_14) rfl rfl (fun _ _ _ _ _ => rfl) ?_
        refine tCa (l := xk_14) rfl rfl (hInvV (c := 1) hs1 rfl rfl rfl rfl rfl (Nat.le_of_ble_eq_true rfl) (Nat.le_of_ble_eq_true rfl)) ?_
        refine s11 (a := 2) hs1 w1 (show (cP fs).length < 5 by omega) e4 e5 (by omega) (by omega) u1 ?_
        refine tKv ?_
        rw [show chA (cT fs) (x + 2) = c2 from chA_some g4]
        refine tCa (l := xk_14) rfl rfl (hInvS rfl rfl rfl rfl (Nat.le_of_ble_eq_true rfl) (Nat.le_of_ble_eq_true rfl)) ?_
        refine s85 (by omega) ?_
        refine tKv ?_
        rw [g5]
        refine tSt (l := xk_14) rfl rfl (fun _ _ _ _ _ => rfl) (Nat.le_of_ble_eq_true rfl) ?_
        refine tK (l := xk_14) rfl rfl (fun _ _ _ _ _ => rfl) ?_
        refine tK (l := xk_14) rfl rfl (fun _ _ _ _ _ => rfl) ?_
        refine tK (l := xk_14) rfl rfl (hGetI hs1 rfl rfl rfl (by decide) (by decide)) ?_
        rw [e5]
        refine tK (l := xk_14) rfl rfl (fun _ _ _ _ _ => rfl) ?_
        refine tK (l := xk_14) rfl rfl (fun _ _ _ _ _ => rfl) ?_
        refine tIc_ne (l := xk_14) (pc' := 103) rfl rfl rfl (fun hc => ?_) (fun hc => ?_)
        · exfalso
          have h9 : (nm : Int) = -1 := hc
          omega
        · refine tK (l := xk_14) rfl rfl (fun _ _ _ _ _ => rfl) ?_
          refine tK (l := xk_14) rfl rfl (hAdd ⟨by omega, by omega⟩) ?_
          refine tK (l := xk_14) rfl rfl (hPutV hs1 rfl rfl (by decide) (by decide) rfl) ?_
          have a5 : hA5 zs ph1 (hUp ph1 57 5 ((x : Int) + 4)) (x + 4) := hA5_up hs1
          have hb2 := hb1.at a5
          refine tK (l := xk_14) rfl rfl (fun _ _ _ _ _ => rfl) ?_
          refine tK (l := xk_14) (pc' := 178) rfl rfl (fun _ _ _ _ _ => rfl) ?_
          refine tK (l := xk_14) rfl rfl (fun _ _ _ _ _ => rfl) ?_
          refine tK (l := xk_14) rfl rfl (fun _ _ _ _ _ => rfl) ?_
          refine tCa (l := xk_14) rfl rfl (hInvV (c := 1) (hShI1 _ hs1 rfl rfl) rfl rfl rfl rfl rfl (Nat.le_of_ble_eq_true rfl) (Nat.le_of_ble_eq_true rfl)) ?_
          rcases hD with ⟨q0, hv, hD9⟩ | ⟨hv, n9, ps9, p9, q9, e9, hsg, he, hD9⟩ | ⟨q0, hfl, hsc, c9, v9, hv, hv23, hD9⟩ | ⟨q0, h⟩ | ⟨q0, h⟩
          · refine s17n hb2 hnm hv hD9 (fun ph3 y1 f3 => ?_)
            refine tKv ?_
            refine tRt (l := xk_14) rfl rfl (fun _ _ _ _ _ => rfl) ?_
            exact hQ ph3 y1 (((f1.1.bt (by decide)).trans (a5.2.1.bt (by decide))).trans f3)
          · have hv5 : lk sc nm = some [] := by rcases hv with ⟨-, hv⟩ | ⟨q0, -⟩; exact hv; exact absurd q0 (by decide)
            refine s17e hb2 hnm hv5 hsg he hD9 (fun ph3 y1 f3 => ?_)
            refine tKv ?_
            refine tRt (l := xk_14) rfl rfl (fun _ _ _ _ _ => rfl) ?_
            exact hQ ph3 y1 (((f1.1.bt (by decide)).trans (a5.2.1.bt (by decide))).trans f3)
          · refine s17p hb2 hnm hv hfl hsc hD9 (fun ph3 y1 f3 => ?_)
            refine tKv ?_
            refine tRt (l := xk_14) rfl rfl (fun _ _ _ _ _ => rfl) ?_
            exact hQ ph3 y1 (((f1.1.bt (by decide)).trans (a5.2.1.bt (by decide))).trans f3)
          · exact absurd q0 (by decide)
          · exact absurd q0 (by decide)
      · exact absurd rfl hc
  · exact absurd rfl hc
theorem s14_6 {x nm : Nat} {D : Cf} (hb : hBT zs ph fs rs) (hx : cX fs = x) (hst : rs.2.2.2.1 < 200) (hsh : hBlk (cT fs) x 6 nm) (hD : PBlk fs x 6 nm (ctS rs) D) (hQ : ∀ ph2, TB zs ph2 D → hFd bT ph ph2 → Q (.inl (some (.inl (D.2.2.1 : Int))), ph2, g)) : xTC (d + 6) 14 [.inr (.inl (some 57))] ph g Q := by
  obtain ⟨sc, stg, ou, st, pl, es, vl⟩ := rs
  obtain ⟨b1, b2, b3, b4, b5, b6, b7, b8, b9, b10⟩ := id hb
  have hs := b1.1.1
  rw [hx] at b8
  obtain ⟨t1, t2⟩ := hBs_cT b2 b3
  have hch := hTo_ch b1.1.1 rfl t1
  obtain ⟨g1, ⟨c1, g2, g3⟩, ⟨c2, g4, g5⟩⟩ : (cT fs)[x]? = some 123 ∧ (∃ c, (cT fs)[x + 1]? = some c ∧ kdF c = 6) ∧ (∃ c, (cT fs)[x + 2]? = some c ∧ nmF c = (nm : Int)) := ⟨hsh.2.1, hsh.2.2.1, hsh.2.2.2.1⟩
  have hnm : nm < 10 := by have := nmF_le c2; omega
  have hc1 : c1 = 63 := by have := kdF_inv g3; omega
  subst hc1
  have hcb := hch c2 (List.mem_of_getElem? g4)
  have hxl := (List.getElem?_eq_some_iff.mp g1).1
  refine tEn (ls := [some (.inr (.inl (some 57))), none, none, none, none]) (fun k => by match k with | 0 => rfl | 1 => rfl | 2 => rfl | 3 => rfl | 4 => rfl | k + 5 => rfl) ?_
  refine tK (l := xk_14) rfl rfl (fun _ _ _ _ _ => rfl) ?_
  refine tK (l := xk_14) rfl rfl (hGetR (o := some 43) hs rfl rfl rfl (by decide) (by decide) rfl) ?_
  refine tCa (l := xk_14) rfl rfl (hInvV (c := 4) hs rfl rfl rfl rfl rfl (Nat.le_of_ble_eq_true rfl) (Nat.le_of_ble_eq_true rfl)) ?_
  refine s34 b1 (by exact hst) (fun ph1 r1 f1 => ?_)
  refine tKv ?_
  have hs1 := r1.1.1
  have hb1 : hBT zs ph1 fs (sc, stg, ou, st + 1, pl, es, vl) := hb.fr r1 f1.1 (by decide) rfl
  have e5 : hRd ph1 57 5 = (x : Int) := by rw [f1.1.at (by decide)]; exact b8
  have e4 : hRd ph1 57 4 = ((cP fs).length : Int) := by rw [f1.1.at (by decide)]; exact b6
  have u1 : hTo ph1 65 (cP fs).length = some (cT fs) := (f1.to (by decide) (by decide)).trans t1
  have w1 : hTW ph1 65 := f1.1.tw (by decide) b5
  refine tSt (l := xk_14) rfl rfl (fun _ _ _ _ _ => rfl) (Nat.le_of_ble_eq_true rfl) ?_
  refine tK (l := xk_14) rfl rfl (fun _ _ _ _ _ => rfl) ?_
  refine tIf_eq (l := xk_14) (pc' := 14) rfl rfl rfl (fun hc => ?_) (fun hc => ?_)
  · refine tK (l := xk_14) rfl rfl (fun _ _ _ _ _ => rfl) ?_
    refine tK (l := xk_14) rfl rfl (fun _ _ _ _ _ => rfl) ?_
    refine tCa (l := xk_14) rfl rfl (hInvV (c := 1) hs1 rfl rfl rfl rfl rfl (Nat.le_of_ble_eq_true rfl) (Nat.le_of_ble_eq_true rfl)) ?_
    refine s11 (a := 0) hs1 w1 (show (cP fs).length < 5 by omega) e4 e5 (by omega) (by omega) u1 ?_
    refine tKv ?_
    rw [show chA (cT fs) (x + 0) = 123 from chA_some g1]
    refine tSt (l := xk_14) rfl rfl (fun _ _ _ _ _ => rfl) (Nat.le_of_ble_eq_true rfl) ?_
    refine tK (l := xk_14) rfl rfl (fun _ _ _ _ _ => rfl) ?_
    refine tK (l := xk_14) rfl rfl (fun _ _ _ _ _ => rfl) ?_
    refine tCa (l := xk_14) rfl rfl (hInvV (c := 1) hs1 rfl rfl rfl rfl rfl (Nat.le_of_ble_eq_true rfl) (Nat.le_of_ble_eq_true rfl)) ?_
    refine s11 (a := 1) hs1 w1 (show (cP fs).length < 5 by omega) e4 e5 (by omega) (by omega) u1 ?_
    refine tKv ?_
    rw [show chA (cT fs) (x + 1) = 63 from chA_some g2]
    refine tSt (l := xk_14) rfl rfl (fun _ _ _ _ _ => rfl) (Nat.le_of_ble_eq_true rfl) ?_
    refine tK (l := xk_14) rfl rfl (fun _ _ _ _ _ => rfl) ?_
    refine tK (l := xk_14) rfl rfl (fun _ _ _ _ _ => rfl) ?_
    refine tIc_ne (l := xk_14) (pc' := 52) rfl rfl rfl (fun hc => ?_) (fun hc => ?_)
    · exact absurd hc (by decide)
    · refine tK (l := xk_14) rfl rfl (fun _ _ _ _ _ => rfl) ?_
      refine tK (l := xk_14) rfl rfl (fun _ _ _ _ _ => rfl) ?_
      refine tIc_eq (l := xk_14) (pc' := 78) rfl rfl rfl (fun hc => ?_) (fun hc => ?_)
      · refine tK (l := xk_14) rfl rfl (fun _ _ _ _ _ => rfl) ?_
        refine tK (l := xk_14) rfl rfl (fun _ _ _ _ _ => rfl) ?_
        refine tCa (l := xk_14) rfl rfl (hInvV (c := 1) hs1 rfl rfl rfl rfl rfl (Nat.le_of_ble_eq_true rfl) (Nat.le_of_ble_eq_true rfl)) ?_
        refine s11 (a := 2) hs1 w1 (show (cP fs).length < 5 by omega) e4 e5 (by omega) (by omega) u1 ?_
        refine tKv ?_
        rw [show chA (cT fs) (x + 2) = c2 from chA_some g4]
        refine tCa (l := xk_14) rfl rfl (hInvS rfl rfl rfl rfl (Nat.le_of_ble_eq_true rfl) (Nat.le_of_ble_eq_true rfl)) ?_
        refine s85 (by omega) ?_
        refine tKv ?_
        rw [g5]
        refine tSt (l := xk_14) rfl rfl (fun _ _ _ _ _ => rfl) (Nat.le_of_ble_eq_true rfl) ?_
        refine tK (l := xk_14) rfl rfl (fun _ _ _ _ _ => rfl) ?_
        refine tK (l := xk_14) rfl rfl (fun _ _ _ _ _ => rfl) ?_
        refine tK (l := xk_14) rfl rfl (hGetI hs1 rfl rfl rfl (by decide) (by decide)) ?_
        rw [e5]
        refine tK (l := xk_14) rfl rfl (fun _ _ _ _ _ => rfl) ?_
        refine tK (l := xk_14) rfl rfl (fun _ _ _ _ _ => rfl) ?_
        refine tIc_ne (l := xk_14) (pc' := 103) rfl rfl rfl (fun hc => ?_) (fun hc => ?_)
        · exfalso
          have h9 : (nm : Int) = -1 := hc
          omega
        · refine tK (l := xk_14) rfl rfl (fun _ _ _ _ _ => rfl) ?_
          refine tK (l := xk_14) rfl rfl (hAdd ⟨by omega, by omega⟩) ?_
          refine tK (l := xk_14) rfl rfl (hPutV hs1 rfl rfl (by decide) (by decide) rfl) ?_
          have a5 : hA5 zs ph1 (hUp ph1 57 5 ((x : Int) + 4)) (x + 4) := hA5_up hs1
          have hb2 := hb1.at a5
          refine tK (l := xk_14) rfl rfl (fun _ _ _ _ _ => rfl) ?_
          refine tK (l := xk_14) (pc' := 185) rfl rfl (fun _ _ _ _ _ => rfl) ?_
          refine tK (l := xk_14) rfl rfl (fun _ _ _ _ _ => rfl) ?_
          refine tK (l := xk_14) rfl rfl (fun _ _ _ _ _ => rfl) ?_
          refine tCa (l := xk_14) rfl rfl (hInvV (c := 1) (hShI1 _ hs1 rfl rfl) rfl rfl rfl rfl rfl (Nat.le_of_ble_eq_true rfl) (Nat.le_of_ble_eq_true rfl)) ?_
          rcases hD with ⟨q0, h⟩ | ⟨hv, n9, ps9, p9, q9, e9, hsg, he, hD9⟩ | ⟨q0, h⟩ | ⟨q0, hfl, ⟨c9, v9, hv⟩, hD9⟩ | ⟨q0, h⟩
          · exact absurd q0 (by decide)
          · have hv5 : lk sc nm = none ∨ lk sc nm = some [] := by rcases hv with ⟨q0, -⟩ | ⟨-, hv⟩; exact absurd q0 (by decide); exact hv
            refine s19e hb2 hnm hv5 hsg he hD9 (fun ph3 y1 f3 => ?_)
            refine tKv ?_
            refine tRt (l := xk_14) rfl rfl (fun _ _ _ _ _ => rfl) ?_
            exact hQ ph3 y1 (((f1.1.bt (by decide)).trans (a5.2.1.bt (by decide))).trans f3)
          · exact absurd q0 (by decide)
          · refine s19p hb2 hnm hv hfl hD9 (fun ph3 y1 f3 => ?_)
            refine tKv ?_
            refine tRt (l := xk_14) rfl rfl (fun _ _ _ _ _ => rfl) ?_
            exact hQ ph3 y1 (((f1.1.bt (by decide)).trans (a5.2.1.bt (by decide))).trans f3)
          · exact absurd q0 (by decide)
      · exact absurd rfl hc
  · exact absurd rfl hc
theorem s14_7 {x nm : Nat} {D : Cf} (hb : hBT zs ph fs rs) (hx : cX fs = x) (hst : rs.2.2.2.1 < 200) (hsh : hBlk (cT fs) x 7 nm) (hD : PBlk fs x 7 nm (ctS rs) D) (hQ : ∀ ph2, TB zs ph2 D → hFd bT ph ph2 → Q (.inl (some (.inl (D.2.2.1 : Int))), ph2, g)) : xTC (d + 6) 14 [.inr (.inl (some 57))] ph g Q := by
  obtain ⟨sc, stg, ou, st, pl, es, vl⟩ := rs
  obtain ⟨b1, b2, b3, b4, b5, b6, b7, b8, b9, b10⟩ := id hb
  have hs := b1.1.1
  rw [hx] at b8
  obtain ⟨t1, t2⟩ := hBs_cT b2 b3
  have hch := hTo_ch b1.1.1 rfl t1
  obtain ⟨g1, ⟨c1, g2, g3⟩, ⟨c2, g4, g5⟩⟩ : (cT fs)[x]? = some 123 ∧ (∃ c, (cT fs)[x + 1]? = some c ∧ kdF c = 7) ∧ (∃ c, (cT fs)[x + 2]? = some c ∧ nmF c = (nm : Int)) := ⟨hsh.2.1, hsh.2.2.1, hsh.2.2.2.1⟩
  have hnm : nm < 10 := by have := nmF_le c2; omega
  have hc1 : c1 = 61 := by have := kdF_inv g3; omega
  subst hc1
  have hcb := hch c2 (List.mem_of_getElem? g4)
  have hxl := (List.getElem?_eq_some_iff.mp g1).1
  refine tEn (ls := [some (.inr (.inl (some 57))), none, none, none, none]) (fun k => by match k with | 0 => rfl | 1 => rfl | 2 => rfl | 3 => rfl | 4 => rfl | k + 5 => rfl) ?_
  refine tK (l := xk_14) rfl rfl (fun _ _ _ _ _ => rfl) ?_
  refine tK (l := xk_14) rfl rfl (hGetR (o := some 43) hs rfl rfl rfl (by decide) (by decide) rfl) ?_
  refine tCa (l := xk_14) rfl rfl (hInvV (c := 4) hs rfl rfl rfl rfl rfl (Nat.le_of_ble_eq_true rfl) (Nat.le_of_ble_eq_true rfl)) ?_
  refine s34 b1 (by exact hst) (fun ph1 r1 f1 => ?_)
  refine tKv ?_
  have hs1 := r1.1.1
  have hb1 : hBT zs ph1 fs (sc, stg, ou, st + 1, pl, es, vl) := hb.fr r1 f1.1 (by decide) rfl
  have e5 : hRd ph1 57 5 = (x : Int) := by rw [f1.1.at (by decide)]; exact b8
  have e4 : hRd ph1 57 4 = ((cP fs).length : Int) := by rw [f1.1.at (by decide)]; exact b6
  have u1 : hTo ph1 65 (cP fs).length = some (cT fs) := (f1.to (by decide) (by decide)).trans t1
  have w1 : hTW ph1 65 := f1.1.tw (by decide) b5
  refine tSt (l := xk_14) rfl rfl (fun _ _ _ _ _ => rfl) (Nat.le_of_ble_eq_true rfl) ?_
  refine tK (l := xk_14) rfl rfl (fun _ _ _ _ _ => rfl) ?_
  refine tIf_eq (l := xk_14) (pc' := 14) rfl rfl rfl (fun hc => ?_) (fun hc => ?_)
  · refine tK (l := xk_14) rfl rfl (fun _ _ _ _ _ => rfl) ?_
    refine tK (l := xk_14) rfl rfl (fun _ _ _ _ _ => rfl) ?_
    refine tCa (l := xk_14) rfl rfl (hInvV (c := 1) hs1 rfl rfl rfl rfl rfl (Nat.le_of_ble_eq_true rfl) (Nat.le_of_ble_eq_true rfl)) ?_
    refine s11 (a := 0) hs1 w1 (show (cP fs).length < 5 by omega) e4 e5 (by omega) (by omega) u1 ?_
    refine tKv ?_
    rw [show chA (cT fs) (x + 0) = 123 from chA_some g1]
    refine tSt (l := xk_14) rfl rfl (fun _ _ _ _ _ => rfl) (Nat.le_of_ble_eq_true rfl) ?_
    refine tK (l := xk_14) rfl rfl (fun _ _ _ _ _ => rfl) ?_
    refine tK (l := xk_14) rfl rfl (fun _ _ _ _ _ => rfl) ?_
    refine tCa (l := xk_14) rfl rfl (hInvV (c := 1) hs1 rfl rfl rfl rfl rfl (Nat.le_of_ble_eq_true rfl) (Nat.le_of_ble_eq_true rfl)) ?_
    refine s11 (a := 1) hs1 w1 (show (cP fs).length < 5 by omega) e4 e5 (by omega) (by omega) u1 ?_
    refine tKv ?_
    rw [show chA (cT fs) (x + 1) = 61 from chA_some g2]
    refine tSt (l := xk_14) rfl rfl (fun _ _ _ _ _ => rfl) (Nat.le_of_ble_eq_true rfl) ?_
    refine tK (l := xk_14) rfl rfl (fun _ _ _ _ _ => rfl) ?_
    refine tK (l := xk_14) rfl rfl (fun _ _ _ _ _ => rfl) ?_
    refine tIc_ne (l := xk_14) (pc' := 52) rfl rfl rfl (fun hc => ?_) (fun hc => ?_)
    · exact absurd hc (by decide)
    · refine tK (l := xk_14) rfl rfl (fun _ _ _ _ _ => rfl) ?_
      refine tK (l := xk_14) rfl rfl (fun _ _ _ _ _ => rfl) ?_
      refine tIc_eq (l := xk_14) (pc' := 78) rfl rfl rfl (fun hc => ?_) (fun hc => ?_)
      · refine tK (l := xk_14) rfl rfl (fun _ _ _ _ _ => rfl) ?_
        refine tK (l := xk_14) rfl rfl (fun _ _ _ _ _ => rfl) ?_
        refine tCa (l := xk_14) rfl rfl (hInvV (c := 1) hs1 rfl rfl rfl rfl rfl (Nat.le_of_ble_eq_true rfl) (Nat.le_of_ble_eq_true rfl)) ?_
        refine s11 (a := 2) hs1 w1 (show (cP fs).length < 5 by omega) e4 e5 (by omega) (by omega) u1 ?_
        refine tKv ?_
        rw [show chA (cT fs) (x + 2) = c2 from chA_some g4]
        refine tCa (l := xk_14) rfl rfl (hInvS rfl rfl rfl rfl (Nat.le_of_ble_eq_true rfl) (Nat.le_of_ble_eq_true rfl)) ?_
        refine s85 (by omega) ?_
        refine tKv ?_
        rw [g5]
        refine tSt (l := xk_14) rfl rfl (fun _ _ _ _ _ => rfl) (Nat.le_of_ble_eq_true rfl) ?_
        refine tK (l := xk_14) rfl rfl (fun _ _ _ _ _ => rfl) ?_
        refine tK (l := xk_14) rfl rfl (fun _ _ _ _ _ => rfl) ?_
        refine tK (l := xk_14) rfl rfl (hGetI hs1 rfl rfl rfl (by decide) (by decide)) ?_
        rw [e5]
        refine tK (l := xk_14) rfl rfl (fun _ _ _ _ _ => rfl) ?_
        refine tK (l := xk_14) rfl rfl (fun _ _ _ _ _ => rfl) ?_
        refine tIc_ne (l := xk_14) (pc' := 103) rfl rfl rfl (fun hc => ?_) (fun hc => ?_)
        · exfalso
          have h9 : (nm : Int) = -1 := hc
          omega
        · refine tK (l := xk_14) rfl rfl (fun _ _ _ _ _ => rfl) ?_
          refine tK (l := xk_14) rfl rfl (hAdd ⟨by omega, by omega⟩) ?_
          refine tK (l := xk_14) rfl rfl (hPutV hs1 rfl rfl (by decide) (by decide) rfl) ?_
          have a5 : hA5 zs ph1 (hUp ph1 57 5 ((x : Int) + 4)) (x + 4) := hA5_up hs1
          have hb2 := hb1.at a5
          refine tK (l := xk_14) rfl rfl (fun _ _ _ _ _ => rfl) ?_
          refine tK (l := xk_14) (pc' := 192) rfl rfl (fun _ _ _ _ _ => rfl) ?_
          refine tK (l := xk_14) rfl rfl (fun _ _ _ _ _ => rfl) ?_
          refine tK (l := xk_14) rfl rfl (fun _ _ _ _ _ => rfl) ?_
          refine tCa (l := xk_14) rfl rfl (hInvV (c := 1) (hShI1 _ hs1 rfl rfl) rfl rfl rfl rfl rfl (Nat.le_of_ble_eq_true rfl) (Nat.le_of_ble_eq_true rfl)) ?_
          rcases hD with ⟨q0, h⟩ | ⟨hv, h⟩ | ⟨q0, h⟩ | ⟨q0, h⟩ | ⟨q0, hfl, hst9, hD9⟩
          · exact absurd q0 (by decide)
          · rcases hv with ⟨q0, -⟩ | ⟨q0, -⟩ <;> exact absurd q0 (by decide)
          · exact absurd q0 (by decide)
          · exact absurd q0 (by decide)
          · refine s20 hb2 hnm hfl hst9 hD9 (fun ph3 y1 f3 => ?_)
            refine tKv ?_
            refine tRt (l := xk_14) rfl rfl (fun _ _ _ _ _ => rfl) ?_
            exact hQ ph3 y1 (((f1.1.bt (by decide)).trans (a5.2.1.bt (by decide))).trans f3)
      · exact absurd rfl hc
  · exact absurd rfl hc
theorem RU_inj {a b : List Fm} {u v : RS} (h : RU a u = RU b v) : a = b ∧ u = v := by
  simp only [RU, Prod.mk.injEq] at h
  exact ⟨h.1, h.2.1⟩
theorem s14 {D : Cf} (hb : hBT zs ph fs rs) (h : StP (RU fs rs) D) (hQ : ∀ ph2, TB zs ph2 D → hFd bT ph ph2 → Q (.inl (some (.inl (D.2.2.1 : Int))), ph2, g)) : xTC (d + 6) 14 [.inr (.inl (some 57))] ph g Q := by
  obtain ⟨fs', rs', k, cd, nm, hc, hne, hsh, h⟩ := h
  obtain ⟨rfl, rfl⟩ := RU_inj hc
  rcases h with ⟨h1, h2⟩ | ⟨h1, ⟨w, h2⟩, h3⟩ | ⟨h1, h2, h3⟩
  · exact s14f hb h1 h2 hQ
  · have hk := (hSim_w h2).2
    match k, hk with
    | 0, _ => exact s14_0 hb rfl h1 h2 h3 hQ
    | 1, _ => exact s14_1 hb rfl h1 h2 h3 hQ
    | 2, _ => exact s14_2 hb rfl h1 h2 h3 hQ
    | 3, _ => exact s14_3 hb rfl h1 h2 h3 hQ
    | 4, _ => exact s14_4 hb rfl h1 h2 h3 hQ
    | k + 5, hk => exact absurd hk (by omega)
  · rcases h2.1 with rfl | rfl | rfl
    · exact s14_5 hb rfl h1 h2 h3 hQ
    · exact s14_6 hb rfl h1 h2 h3 hQ
    · exact s14_7 hb rfl h1 h2 h3 hQ
theorem StP_ch {D : Cf} (h : StP (RU fs rs) D) : ∃ c, (cT fs)[cX fs]? = some c ∧ c ≠ 125 := by
  obtain ⟨fs', rs', k, cd, nm, hc, hne, hsh, h⟩ := h
  obtain ⟨rfl, rfl⟩ := RU_inj hc
  rcases hsh with ⟨w, h | h | h | h⟩ | h
  · exact ⟨_, h.2.2.1, h.2.2.2.2.1⟩
  · exact ⟨_, h.2.2.1, by decide⟩
  · exact ⟨_, h.2.2.1, by decide⟩
  · exact ⟨_, h.2.2.1, by decide⟩
  · exact ⟨_, h.2.1, by decide⟩
theorem Cf_eta {c : Cf} (h : c.2.2.1 = 0) (h2 : c.2.2.2 = []) : c = RU c.1 c.2.1 := by
  obtain ⟨x1, x2, x3, x4⟩ := c
  simp only at h h2
  rw [h, h2]
  rfl
theorem Sto_RU {c e : Cf} (h : Sto c e) : c = RU c.1 c.2.1 := by
  rcases h with ⟨fs', rs', k, cd, nm, rfl, -⟩ | ⟨f, g, gs, rs', rfl, -⟩ <;> rfl
theorem Sto_st {c e : Cf} (h : Sto c e) (h2 : e.2.2.1 = 0) (h3 : c.2.1.2.2.2.1 ≤ 200) : e.2.1.2.2.2.1 ≤ 200 := by
  have op : ∀ {fs : List Fm} {x y : Nat} {q : RS × Nat}, (oP fs x y q).2.1 = q.1 := fun {fs x y q} => by unfold oP; split <;> rfl
  rcases h with ⟨fs, rs, k, cd, nm, rfl, hne, hsh, h⟩ | ⟨f, g, gs, rs, rfl, h⟩
  · have e0 : (ctS rs).2.2.2.1 = rs.2.2.2.1 + 1 := rfl
    rcases h with ⟨-, rfl⟩ | ⟨h1, -, h⟩ | ⟨h1, -, h⟩
    · exact h3
    · rcases h with ⟨-, rfl⟩ | ⟨-, -, rfl⟩ | ⟨-, v, -, rfl⟩ | ⟨-, -, rfl⟩ | ⟨-, v, -, -, rfl⟩ | ⟨-, v, -, h5, -, -, rfl⟩ | ⟨-, v, -, h5, -, -, -, -, rfl⟩
      · rw [op, (prF_sc _ _ _).2.1, e0]; omega
      · exact h1
      · rw [op, pvF_st, e0]; omega
      · exact h1
      · exact h1
      · exact h1
      · exact h1
    · rcases h with ⟨-, -, rfl⟩ | ⟨-, n, ps, p, q, e, -, -, rfl⟩ | ⟨-, -, -, c, v, -, -, rfl⟩ | ⟨-, -, -, rfl⟩ | ⟨-, -, -, rfl⟩ <;> exact h1
  · rcases h with ⟨-, -, f0, sc, hr, rfl⟩ | ⟨-, -, f0, sc, hr, ⟨c2, -, rfl⟩ | ⟨-, rfl⟩⟩ | ⟨-, -, rfl⟩ | ⟨-, -, -, f0, sc, s0, sg, hr, -, rfl⟩ <;> exact h3
theorem Run_mu : ∀ {n : Nat} {c D : Cf}, Run n c D → c.2.2.1 = 0 → c.2.1.2.2.2.1 ≤ 200 → n + 25 * c.2.1.2.2.2.1 ≤ rmC c.1 + 5001 := by
  intro n
  induction n with
  | zero => intro c D _ _ h; omega
  | succ n ih =>
    intro c D ⟨e, h1, h2⟩ hr h3
    cases n with
    | zero => omega
    | succ n =>
      obtain ⟨e2, h4, h5⟩ := id h2
      have ec := Sto_RU h1
      have ee := Sto_RU h4
      have e0 : e.2.2.1 = 0 := by rw [ee]; rfl
      have h6 := ih h2 e0 (Sto_st h1 e0 h3)
      rw [ec, ee] at h1
      have := Sto_mu h1
      omega
theorem s9 {t : List Int} {f : Nat → Option (List Int)} {w : Int} {D : Cf} (hr : hRN zs ph (rs0 f w)) (hw65 : hTW ph 65) (hw2 : hTW ph 2) (hto : hTo ph 2 0 = some t) (hl : t.length ≤ 60) (hD : Fin t f w D) (hQ : ∀ ph2, hRN zs ph2 D.2.1 → hTW ph2 65 → hFd bT ph ph2 → Q (.inl none, ph2, g)) : xTC (d + 7) 9 [.inr (.inl (some 57)), .inr (.inl (some 2))] ph g Q := by
  obtain ⟨⟨n0, hrun⟩, hfin⟩ := hD
  have hz65 := hRw65
  have hz2 : hRw 2 = 1 ∧ hWd 2 = 60 := by decide +kernel
  have fin : ∀ (i : Nat) (phi : xH), i ≤ 6000 → hRN zs phi D.2.1 → hTW phi 65 → hFd bT ph phi → xT (d + 7) 9 29 (xlo [some (.inr (.inl (some 57))), some (.inr (.inl (some 2))), some (.inl 0), some (.inl (i : Int))]) [] phi g Q := by
    intro i phi hi hrn hw9 hfd
    have hs := hrn.1.1
    refine tK (l := xk_9) rfl rfl (fun _ _ _ _ _ => rfl) ?_
    refine tK (l := xk_9) rfl rfl (fun _ _ _ _ _ => rfl) ?_
    refine tIc_ge (l := xk_9) (pc' := 117) rfl rfl rfl (fun hc => ?_) (fun hc => ?_)
    · refine tK (l := xk_9) rfl rfl (fun _ _ _ _ _ => rfl) ?_
      refine tIf_eq (l := xk_9) (pc' := 117) rfl rfl rfl (fun hc => ?_) (fun hc => ?_)
      · refine tRt (l := xk_9) rfl rfl (fun _ _ _ _ _ => rfl) ?_
        exact hQ phi hrn hw9 hfd
      · exact absurd rfl hc
    · refine tRt (l := xk_9) rfl rfl (fun _ _ _ _ _ => rfl) ?_
      exact hQ phi hrn hw9 hfd
  have loop : ∀ (n i : Nat) (fs : List Fm) (rs : RS) (phi : xH), i + n ≤ 5100 → hBT zs phi fs rs → hFd bT ph phi → Run n (RU fs rs) D → xT (d + 7) 9 29 (xlo [some (.inr (.inl (some 57))), some (.inr (.inl (some 2))), some (.inl 1), some (.inl (i : Int))]) [] phi g Q := by
    intro n
    induction n with
    | zero =>
      intro i fs rs phi hin hb hfd hrn
      cases hrn
      obtain ⟨e1, -⟩ := hfin rfl
      have e1 : fs = fs0 t.length t := e1
      subst e1
      obtain ⟨b1, b2, b3, b4, b5, b6, b7, b8, b9, b10⟩ := id hb
      have hs := b1.1.1
      have e4 : hRd phi 57 4 = 0 := b6
      have e5 : hRd phi 57 5 = (t.length : Int) := b8
      obtain ⟨t1, -⟩ := hBs_cT b2 b3
      have t1 : hTo phi 65 0 = some t := t1
      refine tK (l := xk_9) rfl rfl (fun _ _ _ _ _ => rfl) ?_
      refine tK (l := xk_9) rfl rfl (fun _ _ _ _ _ => rfl) ?_
      refine tIc_ge (l := xk_9) (pc' := 117) rfl rfl rfl (fun hc => ?_) (fun hc => ?_)
      · refine tK (l := xk_9) rfl rfl (fun _ _ _ _ _ => rfl) ?_
        refine tIf_eq (l := xk_9) (pc' := 117) rfl rfl rfl (fun hc => ?_) (fun hc => ?_)
        · exact absurd hc (by decide)
        · refine tK (l := xk_9) rfl rfl (fun _ _ _ _ _ => rfl) ?_
          refine tK (l := xk_9) rfl rfl (hGetI hs rfl rfl rfl (by decide) (by decide)) ?_
          rw [e5]
          refine tK (l := xk_9) rfl rfl (fun _ _ _ _ _ => rfl) ?_
          refine tK (l := xk_9) rfl rfl (hGetR (o := some 65) hs rfl rfl rfl (by decide) (by decide) rfl) ?_
          refine tK (l := xk_9) rfl rfl (fun _ _ _ _ _ => rfl) ?_
          refine tK (l := xk_9) rfl rfl (hGetI hs rfl rfl rfl (by decide) (by decide)) ?_
          rw [e4]
          refine tCa (l := xk_9) rfl rfl (hInvV (c := 8) hs rfl rfl rfl rfl rfl (Nat.le_of_ble_eq_true rfl) (Nat.le_of_ble_eq_true rfl)) ?_
          refine a75 (r := 0) hs rfl b5 (by omega) t1 ?_
          refine tKv ?_
          simp only [hLo]
          refine tIc_lt (l := xk_9) (pc' := 80) rfl rfl rfl (fun hc => ?_) (fun hc => ?_)
          · exfalso; omega
          · refine tK (l := xk_9) rfl rfl (fun _ _ _ _ _ => rfl) ?_
            refine tK (l := xk_9) rfl rfl (hGetI hs rfl rfl rfl (by decide) (by decide)) ?_
            rw [e4]
            refine tIf_le (l := xk_9) (pc' := 75) rfl rfl rfl (fun hc => ?_) (fun hc => ?_)
            · exact absurd hc (by decide)
            · refine tK (l := xk_9) rfl rfl (fun _ _ _ _ _ => rfl) ?_
              refine tSt (l := xk_9) rfl rfl (fun _ _ _ _ _ => rfl) (Nat.le_of_ble_eq_true rfl) ?_
              refine tK (l := xk_9) rfl rfl (fun _ _ _ _ _ => rfl) ?_
              refine tSt (l := xk_9) rfl rfl (hIinc rfl (Nat.le_of_ble_eq_true rfl) ⟨by omega, by omega⟩) (Nat.le_of_ble_eq_true rfl) ?_
              refine tK (l := xk_9) rfl rfl (fun _ _ _ _ _ => rfl) ?_
              exact fin (i + 1) phi (by omega) b1 b5 hfd
      · exfalso; omega
    | succ n ih =>
      intro i fs rs phi hin hb hfd ⟨e, hst, hrn⟩
      obtain ⟨b1, b2, b3, b4, b5, b6, b7, b8, b9, b10⟩ := id hb
      have hs := b1.1.1
      obtain ⟨t1, t2⟩ := hBs_cT b2 b3
      have nx : ∀ ph2, e.2.2.1 = 0 → hBT zs ph2 e.1 e.2.1 → hFd bT phi ph2 → xT (d + 7) 9 29 (xlo [some (.inr (.inl (some 57))), some (.inr (.inl (some 2))), some (.inl 1), some (.inl ((i + 1 : Nat) : Int))]) [] ph2 g Q := by
        intro ph2 h0 h1 h2
        have ee : e = RU e.1 e.2.1 := by
          cases n with
          | zero =>
            have hrn9 : e = D := hrn
            rw [hrn9] at h0 ⊢
            exact Cf_eta h0 (hfin h0).2
          | succ n =>
            obtain ⟨e2, q1, -⟩ := hrn
            exact Sto_RU q1
        rw [ee] at hrn
        exact ih (i + 1) e.1 e.2.1 ph2 (by omega) h1 (hfd.trans h2) hrn
      rcases hst with hst | hst
      · obtain ⟨c, hc1, hc2⟩ := StP_ch hst
        have hxl := (List.getElem?_eq_some_iff.mp hc1).1
        refine tK (l := xk_9) rfl rfl (fun _ _ _ _ _ => rfl) ?_
        refine tK (l := xk_9) rfl rfl (fun _ _ _ _ _ => rfl) ?_
        refine tIc_ge (l := xk_9) (pc' := 117) rfl rfl rfl (fun hc => ?_) (fun hc => ?_)
        · refine tK (l := xk_9) rfl rfl (fun _ _ _ _ _ => rfl) ?_
          refine tIf_eq (l := xk_9) (pc' := 117) rfl rfl rfl (fun hc => ?_) (fun hc => ?_)
          · exact absurd hc (by decide)
          · refine tK (l := xk_9) rfl rfl (fun _ _ _ _ _ => rfl) ?_
            refine tK (l := xk_9) rfl rfl (hGetI hs rfl rfl rfl (by decide) (by decide)) ?_
            rw [b8]
            refine tK (l := xk_9) rfl rfl (fun _ _ _ _ _ => rfl) ?_
            refine tK (l := xk_9) rfl rfl (hGetR (o := some 65) hs rfl rfl rfl (by decide) (by decide) rfl) ?_
            refine tK (l := xk_9) rfl rfl (fun _ _ _ _ _ => rfl) ?_
            refine tK (l := xk_9) rfl rfl (hGetI hs rfl rfl rfl (by decide) (by decide)) ?_
            rw [b6]
            refine tCa (l := xk_9) rfl rfl (hInvV (c := 8) hs rfl rfl rfl rfl rfl (Nat.le_of_ble_eq_true rfl) (Nat.le_of_ble_eq_true rfl)) ?_
            refine a75 (r := (cP fs).length) hs rfl b5 (by omega) t1 ?_
            refine tKv ?_
            simp only [hLo]
            refine tIc_lt (l := xk_9) (pc' := 80) rfl rfl rfl (fun hc => ?_) (fun hc => ?_)
            · refine tK (l := xk_9) rfl rfl (fun _ _ _ _ _ => rfl) ?_
              refine tK (l := xk_9) rfl rfl (fun _ _ _ _ _ => rfl) ?_
              refine tCa (l := xk_9) rfl rfl (hInvV (c := 1) hs rfl rfl rfl rfl rfl (Nat.le_of_ble_eq_true rfl) (Nat.le_of_ble_eq_true rfl)) ?_
              refine s11 (a := 0) hs b5 (show (cP fs).length < 5 by omega) b6 b8 (by omega) (by omega) t1 ?_
              refine tKv ?_
              rw [show chA (cT fs) (cX fs + 0) = c from chA_some hc1]
              refine tK (l := xk_9) rfl rfl (fun _ _ _ _ _ => rfl) ?_
              refine tIc_ne (l := xk_9) (pc' := 98) rfl rfl rfl (fun hc => ?_) (fun hc => ?_)
              · exact absurd hc hc2
              · refine tK (l := xk_9) rfl rfl (fun _ _ _ _ _ => rfl) ?_
                refine tCa (l := xk_9) rfl rfl (hInvV (c := 1) hs rfl rfl rfl rfl rfl (Nat.le_of_ble_eq_true rfl) (Nat.le_of_ble_eq_true rfl)) ?_
                refine s14 hb hst (fun ph2 h1 h2 => ?_)
                refine tKv ?_
                by_cases h0 : e.2.2.1 = 0
                · rw [h0]
                  refine tIf_ne (l := xk_9) (pc' := 109) rfl rfl rfl (fun hc => ?_) (fun hc => ?_)
                  · refine tK (l := xk_9) rfl rfl (fun _ _ _ _ _ => rfl) ?_
                    refine tK (l := xk_9) rfl rfl (fun _ _ _ _ _ => rfl) ?_
                    refine tSt (l := xk_9) rfl rfl (fun _ _ _ _ _ => rfl) (Nat.le_of_ble_eq_true rfl) ?_
                    refine tSt (l := xk_9) rfl rfl (hIinc rfl (Nat.le_of_ble_eq_true rfl) ⟨by omega, by omega⟩) (Nat.le_of_ble_eq_true rfl) ?_
                    refine tK (l := xk_9) rfl rfl (fun _ _ _ _ _ => rfl) ?_
                    exact nx ph2 h0 (h1.2.1 h0) h2
                  · exact absurd rfl hc
                · have ee : e = D := by
                    cases n with
                    | zero => exact hrn
                    | succ n =>
                      obtain ⟨e2, q1, -⟩ := hrn
                      exact absurd (by rw [Sto_RU q1]; rfl) h0
                  have w65 : hTW ph2 65 := h1.2.2
                  refine tIf_ne (l := xk_9) (pc' := 109) rfl rfl rfl (fun hc => ?_) (fun hc => ?_)
                  · exact absurd hc (by omega)
                  · refine tK (l := xk_9) rfl rfl (fun _ _ _ _ _ => rfl) ?_
                    refine tSt (l := xk_9) rfl rfl (fun _ _ _ _ _ => rfl) (Nat.le_of_ble_eq_true rfl) ?_
                    refine tSt (l := xk_9) rfl rfl (hIinc rfl (Nat.le_of_ble_eq_true rfl) ⟨by omega, by omega⟩) (Nat.le_of_ble_eq_true rfl) ?_
                    refine tK (l := xk_9) rfl rfl (fun _ _ _ _ _ => rfl) ?_
                    exact fin (i + 1) ph2 (by omega) (ee ▸ h1.1) w65 (hfd.trans h2)
            · exfalso; omega
        · exfalso; omega
      · obtain ⟨f, gq, gs, rs', hc, hst⟩ := hst
        obtain ⟨rfl, rfl⟩ := RU_inj hc
        rcases hst with ⟨hk, he, f0, sc, hr9, rfl⟩ | hst
        · obtain ⟨sc9, r2⟩ := rs
          simp only at hr9
          subst hr9
          have hcT : cT (f :: gq :: gs) = f.2.2.2.2.2 := by simp only [cT]; rw [if_pos hk]
          have hx : cX (f :: gq :: gs) = (cT (f :: gq :: gs)).length := by rw [hcT]; exact he
          have hlv : (cP (f :: gq :: gs)).length = (cP (gq :: gs)).length + 1 := by simp only [cP]; rw [if_pos (c := f.1 = 0 ∧ gq :: gs ≠ []) ⟨hk, List.cons_ne_nil _ _⟩]; rfl
          refine tK (l := xk_9) rfl rfl (fun _ _ _ _ _ => rfl) ?_
          refine tK (l := xk_9) rfl rfl (fun _ _ _ _ _ => rfl) ?_
          refine tIc_ge (l := xk_9) (pc' := 117) rfl rfl rfl (fun hc => ?_) (fun hc => ?_)
          · refine tK (l := xk_9) rfl rfl (fun _ _ _ _ _ => rfl) ?_
            refine tIf_eq (l := xk_9) (pc' := 117) rfl rfl rfl (fun hc => ?_) (fun hc => ?_)
            · exact absurd hc (by decide)
            · refine tK (l := xk_9) rfl rfl (fun _ _ _ _ _ => rfl) ?_
              refine tK (l := xk_9) rfl rfl (hGetI hs rfl rfl rfl (by decide) (by decide)) ?_
              rw [b8]
              refine tK (l := xk_9) rfl rfl (fun _ _ _ _ _ => rfl) ?_
              refine tK (l := xk_9) rfl rfl (hGetR (o := some 65) hs rfl rfl rfl (by decide) (by decide) rfl) ?_
              refine tK (l := xk_9) rfl rfl (fun _ _ _ _ _ => rfl) ?_
              refine tK (l := xk_9) rfl rfl (hGetI hs rfl rfl rfl (by decide) (by decide)) ?_
              rw [b6]
              refine tCa (l := xk_9) rfl rfl (hInvV (c := 8) hs rfl rfl rfl rfl rfl (Nat.le_of_ble_eq_true rfl) (Nat.le_of_ble_eq_true rfl)) ?_
              refine a75 (r := (cP (f :: gq :: gs)).length) hs rfl b5 (by omega) t1 ?_
              refine tKv ?_
              simp only [hLo]
              refine tIc_lt (l := xk_9) (pc' := 80) rfl rfl rfl (fun hc => ?_) (fun hc => ?_)
              · exfalso; omega
              · refine tK (l := xk_9) rfl rfl (fun _ _ _ _ _ => rfl) ?_
                refine tK (l := xk_9) rfl rfl (hGetI hs rfl rfl rfl (by decide) (by decide)) ?_
                rw [b6]
                refine tIf_le (l := xk_9) (pc' := 75) rfl rfl rfl (fun hc => ?_) (fun hc => ?_)
                · refine tK (l := xk_9) rfl rfl (fun _ _ _ _ _ => rfl) ?_
                  refine tCa (l := xk_9) rfl rfl (hInvV (c := 1) hs rfl rfl rfl rfl rfl (Nat.le_of_ble_eq_true rfl) (Nat.le_of_ble_eq_true rfl)) ?_
                  refine s10 hb hk (fun ph2 h1 h2 => ?_)
                  refine tKv ?_
                  refine tIf_eq (l := xk_9) (pc' := 75) rfl rfl rfl (fun hc => ?_) (fun hc => ?_)
                  · exact absurd hc (by decide)
                  · refine tK (l := xk_9) rfl rfl (fun _ _ _ _ _ => rfl) ?_
                    refine tK (l := xk_9) rfl rfl (fun _ _ _ _ _ => rfl) ?_
                    refine tSt (l := xk_9) rfl rfl (fun _ _ _ _ _ => rfl) (Nat.le_of_ble_eq_true rfl) ?_
                    refine tK (l := xk_9) rfl rfl (fun _ _ _ _ _ => rfl) ?_
                    refine tSt (l := xk_9) rfl rfl (hIinc rfl (Nat.le_of_ble_eq_true rfl) ⟨by omega, by omega⟩) (Nat.le_of_ble_eq_true rfl) ?_
                    refine tK (l := xk_9) rfl rfl (fun _ _ _ _ _ => rfl) ?_
                    exact nx ph2 rfl h1 h2
                · exfalso; omega
          · exfalso; omega
        · have hk0 : f.1 ≠ 0 := by rcases hst with ⟨h, -⟩ | ⟨h, -⟩ | ⟨h, -⟩ <;> omega
          have he : (cT (gq :: gs))[f.2.1]? = some 125 := by rcases hst with ⟨-, h, -⟩ | ⟨-, h, -⟩ | ⟨-, h, -⟩ <;> exact h
          have hc1 : (cT (f :: gq :: gs))[cX (f :: gq :: gs)]? = some 125 := by rw [cT_k hk0]; exact he
          have hxl := (List.getElem?_eq_some_iff.mp hc1).1
          have hx9 : f.2.1 ≤ 1000 := by have : cX (f :: gq :: gs) = f.2.1 := rfl; omega
          have key : ∀ (Q9 : xR → Prop), (∀ ph2, hBT zs ph2 e.1 e.2.1 → e.2.2.1 = 0 → hFd bT phi ph2 → Q9 (.inl (some (.inl 1)), ph2, g)) → xTC (d + 6) 12 [.inr (.inl (some 57))] phi g Q9 := by
            intro Q9 hq
            obtain ⟨sc9, r2⟩ := rs
            rcases hst with ⟨hk, -, f0, sc, hr9, ⟨c2, h1, rfl⟩ | ⟨h1, rfl⟩⟩ | ⟨hk, -, rfl⟩ | ⟨hk, -, hnm, f0, sc, s0, sg, hr9, hr8, rfl⟩
            · simp only at hr9
              subst hr9
              exact s12_5a hb hk h1 (fun ph2 k1 k2 => hq ph2 k1 rfl k2)
            · simp only at hr9
              subst hr9
              exact s12_5b hb hk h1 hx9 (fun ph2 k1 k2 => hq ph2 k1 rfl k2)
            · exact s12_6 hb hk hx9 (fun ph2 k1 k2 => hq ph2 k1 rfl k2)
            · obtain ⟨sg9, r3⟩ := r2
              simp only at hr9 hr8
              subst hr9 hr8
              exact s12_7 hb hk hnm hx9 (fun ph2 k1 k2 => hq ph2 k1 rfl k2)
          refine tK (l := xk_9) rfl rfl (fun _ _ _ _ _ => rfl) ?_
          refine tK (l := xk_9) rfl rfl (fun _ _ _ _ _ => rfl) ?_
          refine tIc_ge (l := xk_9) (pc' := 117) rfl rfl rfl (fun hc => ?_) (fun hc => ?_)
          · refine tK (l := xk_9) rfl rfl (fun _ _ _ _ _ => rfl) ?_
            refine tIf_eq (l := xk_9) (pc' := 117) rfl rfl rfl (fun hc => ?_) (fun hc => ?_)
            · exact absurd hc (by decide)
            · refine tK (l := xk_9) rfl rfl (fun _ _ _ _ _ => rfl) ?_
              refine tK (l := xk_9) rfl rfl (hGetI hs rfl rfl rfl (by decide) (by decide)) ?_
              rw [b8]
              refine tK (l := xk_9) rfl rfl (fun _ _ _ _ _ => rfl) ?_
              refine tK (l := xk_9) rfl rfl (hGetR (o := some 65) hs rfl rfl rfl (by decide) (by decide) rfl) ?_
              refine tK (l := xk_9) rfl rfl (fun _ _ _ _ _ => rfl) ?_
              refine tK (l := xk_9) rfl rfl (hGetI hs rfl rfl rfl (by decide) (by decide)) ?_
              rw [b6]
              refine tCa (l := xk_9) rfl rfl (hInvV (c := 8) hs rfl rfl rfl rfl rfl (Nat.le_of_ble_eq_true rfl) (Nat.le_of_ble_eq_true rfl)) ?_
              refine a75 (r := (cP (f :: gq :: gs)).length) hs rfl b5 (by omega) t1 ?_
              refine tKv ?_
              simp only [hLo]
              refine tIc_lt (l := xk_9) (pc' := 80) rfl rfl rfl (fun hc => ?_) (fun hc => ?_)
              · refine tK (l := xk_9) rfl rfl (fun _ _ _ _ _ => rfl) ?_
                refine tK (l := xk_9) rfl rfl (fun _ _ _ _ _ => rfl) ?_
                refine tCa (l := xk_9) rfl rfl (hInvV (c := 1) hs rfl rfl rfl rfl rfl (Nat.le_of_ble_eq_true rfl) (Nat.le_of_ble_eq_true rfl)) ?_
                refine s11 (a := 0) hs b5 (show (cP (f :: gq :: gs)).length < 5 by omega) b6 b8 (by omega) (by omega) t1 ?_
                refine tKv ?_
                rw [show chA (cT (f :: gq :: gs)) (cX (f :: gq :: gs) + 0) = 125 from chA_some hc1]
                refine tK (l := xk_9) rfl rfl (fun _ _ _ _ _ => rfl) ?_
                refine tIc_ne (l := xk_9) (pc' := 98) rfl rfl rfl (fun hc => ?_) (fun hc => ?_)
                · refine tK (l := xk_9) rfl rfl (fun _ _ _ _ _ => rfl) ?_
                  refine tCa (l := xk_9) rfl rfl (hInvV (c := 1) hs rfl rfl rfl rfl rfl (Nat.le_of_ble_eq_true rfl) (Nat.le_of_ble_eq_true rfl)) ?_
                  refine key _ (fun ph2 h1 h0 h2 => ?_)
                  refine tKv ?_
                  refine tSt (l := xk_9) rfl rfl (fun _ _ _ _ _ => rfl) (Nat.le_of_ble_eq_true rfl) ?_
                  refine tK (l := xk_9) rfl rfl (fun _ _ _ _ _ => rfl) ?_
                  refine tSt (l := xk_9) rfl rfl (hIinc rfl (Nat.le_of_ble_eq_true rfl) ⟨by omega, by omega⟩) (Nat.le_of_ble_eq_true rfl) ?_
                  refine tK (l := xk_9) rfl rfl (fun _ _ _ _ _ => rfl) ?_
                  exact nx ph2 h0 h1 h2
                · exact absurd rfl hc
              · exfalso; omega
          · exfalso; omega
  refine tEn (ls := [some (.inr (.inl (some 57))), some (.inr (.inl (some 2))), none, none]) (fun k => by match k with | 0 => rfl | 1 => rfl | 2 => rfl | 3 => rfl | k + 4 => rfl) ?_
  have hs := hr.1.1
  refine tK (l := xk_9) rfl rfl (fun _ _ _ _ _ => rfl) ?_
  refine tK (l := xk_9) rfl rfl (hGetR (o := some 65) hs rfl rfl rfl (by decide) (by decide) rfl) ?_
  refine tK (l := xk_9) rfl rfl (fun _ _ _ _ _ => rfl) ?_
  refine tK (l := xk_9) rfl rfl (fun _ _ _ _ _ => rfl) ?_
  refine tK (l := xk_9) rfl rfl (fun _ _ _ _ _ => rfl) ?_
  refine tCa (l := xk_9) rfl rfl (hInvV (c := 8) hs rfl rfl rfl rfl rfl (Nat.le_of_ble_eq_true rfl) (Nat.le_of_ble_eq_true rfl)) ?_
  refine a78 (t := 65) (f := 2) (r := 0) (q := 0) hs rfl rfl hw65 hw2 (by omega) (by omega) hto (fun s9 e9 => by cases e9; omega) (fun ph1 t5 => ?_)
  refine tKn ?_
  have u1 : hSh zs (hUp ph1 57 4 0) := hShI1 _ t5.sh rfl rfl
  have u2 : hSh zs (hUp (hUp ph1 57 4 0) 57 5 0) := hShI1 _ u1 rfl rfl
  have u3 : hSh zs (hUp (hUp (hUp ph1 57 4 0) 57 5 0) 57 11 0) := hShI1 _ u2 rfl rfl
  have f5 : hFr [57, 66, 67] ph (hUp (hUp (hUp ph1 57 4 0) 57 5 0) 57 11 0) := (t5.fr (by decide) (by decide)).trans ((((hUp_fr (S := [57]) (a := 57) (k := 4) (x := 0) t5.sh rfl (by decide) (by simp)).trans (hUp_fr (S := [57]) (a := 57) (k := 5) (x := 0) u1 rfl (by decide) (by simp))).trans (hUp_fr (S := [57]) (a := 57) (k := 11) (x := 0) u2 rfl (by decide) (by simp)) : hFr [57] ph1 (hUp (hUp (hUp ph1 57 4 0) 57 5 0) 57 11 0)).mono (by decide))
  have f6 : hFr [57] ph1 (hUp (hUp (hUp ph1 57 4 0) 57 5 0) 57 11 0) := ((hUp_fr (S := [57]) (a := 57) (k := 4) (x := 0) t5.sh rfl (by decide) (by simp)).trans (hUp_fr (S := [57]) (a := 57) (k := 5) (x := 0) u1 rfl (by decide) (by simp))).trans (hUp_fr (S := [57]) (a := 57) (k := 11) (x := 0) u2 rfl (by decide) (by simp))
  have rd : ∀ b j, hRd (hUp (hUp (hUp ph1 57 4 0) 57 5 0) 57 11 0) b j = if b = 57 ∧ j = 11 then 0 else if b = 57 ∧ j = 5 then 0 else if b = 57 ∧ j = 4 then 0 else hRd ph1 b j := fun b j => by rw [hRd_up u2 (a := 57) (k := 11) (x := 0) rfl (by decide), hRd_up u1 (a := 57) (k := 5) (x := 0) rfl (by decide), hRd_up t5.sh (a := 57) (k := 4) (x := 0) rfl (by decide)]
  have hn0 := Run_mu hrun rfl (Nat.zero_le _)
  have hn1 : n0 ≤ 5002 := by have : rmC (RU (fs0 0 t) (rs0 f w)).1 = 1 := rfl; omega
  have hb0 : hBT zs (hUp (hUp (hUp ph1 57 4 0) 57 5 0) 57 11 0) (fs0 0 t) (rs0 f w) := ⟨hr.fr u3 f5 (by decide), List.cons_ne_nil _ _, ⟨trivial, Or.inl rfl, fun _ => ⟨(f6.to (by decide) (by decide)).trans t5.row, hl⟩, fun q => absurd rfl q⟩, rfl, f6.tw (by decide) t5.tw, by rw [rd, if_neg (by decide), if_neg (by decide), if_pos ⟨rfl, rfl⟩]; rfl, Nat.zero_le _, by rw [rd, if_neg (by decide), if_pos ⟨rfl, rfl⟩]; rfl, by rw [rd, if_pos ⟨rfl, rfl⟩]; rfl, (show 1 ≤ 40 by decide)⟩
  refine tK (l := xk_9) rfl rfl (fun _ _ _ _ _ => rfl) ?_
  refine tK (l := xk_9) rfl rfl (fun _ _ _ _ _ => rfl) ?_
  refine tK (l := xk_9) rfl rfl (hPutV t5.sh rfl rfl (by decide) (by decide) rfl) ?_
  refine tK (l := xk_9) rfl rfl (fun _ _ _ _ _ => rfl) ?_
  refine tK (l := xk_9) rfl rfl (fun _ _ _ _ _ => rfl) ?_
  refine tK (l := xk_9) rfl rfl (hPutV (hShI1 _ t5.sh rfl rfl) rfl rfl (by decide) (by decide) rfl) ?_
  refine tK (l := xk_9) rfl rfl (fun _ _ _ _ _ => rfl) ?_
  refine tK (l := xk_9) rfl rfl (fun _ _ _ _ _ => rfl) ?_
  refine tK (l := xk_9) rfl rfl (hPutV (hShI1 _ (hShI1 _ t5.sh rfl rfl) rfl rfl) rfl rfl (by decide) (by decide) rfl) ?_
  refine tK (l := xk_9) rfl rfl (fun _ _ _ _ _ => rfl) ?_
  refine tSt (l := xk_9) rfl rfl (fun _ _ _ _ _ => rfl) (Nat.le_of_ble_eq_true rfl) ?_
  refine tK (l := xk_9) rfl rfl (fun _ _ _ _ _ => rfl) ?_
  refine tSt (l := xk_9) rfl rfl (fun _ _ _ _ _ => rfl) (Nat.le_of_ble_eq_true rfl) ?_
  exact loop n0 0 (fs0 0 t) (rs0 f w) _ (by omega) hb0 (f5.bt (by decide)) hrun
end BTP
