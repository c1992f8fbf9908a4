/-! ===== ByParts.runLoop ===== -/
section BYL
variable {d : Nat} {ph : xH} {zs : List xV} {g : Nat} {Q : xR → Prop} {L n j : Nat} {fs : List Fm} {rs : RS}
theorem hRN.pop {f0 : xSc} {sc : List xSc} {r2 : List (List Int) × List Int × Nat × Nat × Nat × Nat} {ph2 : xH} (h : hRN zs ph (f0 :: sc, r2)) (h2 : hSC zs ph2 sc) (hf : hFr [49] ph ph2) : hRN zs ph2 (sc, r2) := by
  obtain ⟨a1, a2, a3, a4, a5, a6, a7, a8, a9, a10, a11, a12, a13⟩ := h
  exact ⟨h2, hf.tw (by decide) a2, hf.tw (by decide) a3, by rw [hf.at (by decide)]; exact a4, a5, hStg_eq (fun r _ => hf.to (by decide) (by decide)) a6, by rw [hf.to (by decide) (by decide)]; exact a7, by rw [hf.at (by decide)]; exact a8, a9, by rw [hf.at (by decide)]; exact a10, by rw [hf.at (by decide)]; exact a11, by rw [hf.at (by decide)]; exact a12, a13⟩
theorem hRN.scs {sc sc2 : List xSc} {r2 : List (List Int) × List Int × Nat × Nat × Nat × Nat} {ph2 : xH} (h : hRN zs ph (sc, r2)) (h2 : hSC zs ph2 sc2) (hf : hFr [49, 51, 52] ph ph2) : hRN zs ph2 (sc2, r2) := by
  obtain ⟨a1, a2, a3, a4, a5, a6, a7, a8, a9, a10, a11, a12, a13⟩ := h
  exact ⟨h2, hf.tw (by decide) a2, hf.tw (by decide) a3, by rw [hf.at (by decide)]; exact a4, a5, hStg_eq (fun r _ => hf.to (by decide) (by decide)) a6, by rw [hf.to (by decide) (by decide)]; exact a7, by rw [hf.at (by decide)]; exact a8, a9, by rw [hf.at (by decide)]; exact a10, by rw [hf.at (by decide)]; exact a11, by rw [hf.at (by decide)]; exact a12, a13⟩
theorem fd49 {pha phb : xH} (h : hFr [49, 51, 52] pha phb) : hFd (bP L) pha phb := h.fd (by intro x hx; simp only [List.mem_cons, List.not_mem_nil, or_false] at hx; unfold bP; omega)
theorem fd49a {pha phb : xH} (h : hFr [49] pha phb) : hFd (bP L) pha phb := h.fd (by intro x hx; simp only [List.mem_cons, List.not_mem_nil, or_false] at hx; unfold bP; omega)
theorem s4 {x y deep bh nm e : Nat} {cd : Int} {c0 : Cf} (ih : BPn zs (d + 2) n L) (hb : hBR zs ph L fs rs deep) (hd : deep ≤ 32) (hp : (pPs (cT fs))[j]? = some (5, x, cd, nm, bh)) (hnm : nm < 10) (hsg : Sg n (cT fs) (pPs (cT fs)) (j + 1) bh (x + 4) e) (he : (cT fs)[e]? = some 125) (hq : bh ≤ (pPs (cT fs)).length) (hd5 : 5 * deep + (e + 1 - x) ≤ 60 + 25 * L) (h0 : ∀ d, PBlk fs x 5 nm rs d → Rn c0 d) (hUn : ∀ ph2 r, unB zs L c0 rs.1.length fs x ph ph2 r → Q (.inl (some (.inl (r : Int))), ph2, g)) (hOk : ∀ ph2 rs2, okB zs L c0 fs (e + 1) rs ph ph2 rs2 → Q (.inl (some (.inl 0)), ph2, g)) (hBad : ∀ ph2 r, badB zs L c0 rs.1.length ph ph2 r → Q (.inl (some (.inl (r : Int))), ph2, g)) : xTC (d + 4) 4 [.inr (.inl (some 56)), .inr (.inl (some (36 - 7 * L))), .inl (j : Int), .inl (deep : Int)] ph g Q := by
  obtain ⟨b1, b2, b3, hpp, b5, b6, b7, b8, b9, b10, b11, b12, b13, b14⟩ := id hb
  have hs := b1.1.1
  have ht := (hTgL b12).1
  have hj := (List.getElem?_eq_some_iff.mp hp).1
  have hl := hpp.2.1
  have hle := Sg_le hsg
  have hz := hRw50
  cases hlk : lk rs.1 nm with
  | none =>
    have hl0 : lkR rs.1 nm = none := by
      cases e : lkR rs.1 nm with
      | none => rfl
      | some r => have := (lkR_to (ph := ph) hnm b1.1.2.2.2.2 e).2; rw [hlk] at this; cases this
    refine tEn (ls := [some (.inr (.inl (some 56))), some (.inr (.inl (some (36 - 7 * L)))), some (.inl (j : Int)), some (.inl (deep : Int)), none, none, none, none]) (fun k => by match k with | 0 => rfl | 1 => rfl | 2 => rfl | 3 => rfl | 4 => rfl | 5 => rfl | 6 => rfl | 7 => rfl | k + 8 => rfl) ?_
    refine tK (l := xk_4) rfl rfl (fun _ _ _ _ _ => rfl) ?_
    refine tK (l := xk_4) rfl rfl (hGetR (o := some 49) hs rfl rfl rfl (by decide) (by decide) rfl) ?_
    refine tK (l := xk_4) rfl rfl (fun _ _ _ _ _ => rfl) ?_
    refine tK (l := xk_4) rfl rfl (fun _ _ _ _ _ => rfl) ?_
    refine tCa (l := xk_4) rfl rfl (hInvV (c := 7) hs rfl rfl rfl ht rfl (Nat.le_of_ble_eq_true rfl) (Nat.le_of_ble_eq_true rfl)) ?_
    refine s65 hs ht hpp hp (by simp) ?_
    refine tKv ?_
    refine tCa (l := xk_4) rfl rfl (hInvV (c := 5) hs rfl rfl rfl rfl rfl (Nat.le_of_ble_eq_true rfl) (Nat.le_of_ble_eq_true rfl)) ?_
    refine s45 b1.1 hnm ?_
    refine tKv ?_
    simp only [hl0, lkI]
    refine tSt (l := xk_4) rfl rfl (fun _ _ _ _ _ => rfl) (Nat.le_of_ble_eq_true rfl) ?_
    refine tK (l := xk_4) rfl rfl (fun _ _ _ _ _ => rfl) ?_
    refine tK (l := xk_4) rfl rfl (fun _ _ _ _ _ => rfl) ?_
    refine tIc_ne (l := xk_4) (pc' := 22) rfl rfl rfl (fun hc => ?_) (fun hc => ?_)
    · refine tK (l := xk_4) rfl rfl (fun _ _ _ _ _ => rfl) ?_
      refine tRt (l := xk_4) rfl rfl (fun _ _ _ _ _ => rfl) ?_
      exact hUn ph 1 ⟨by decide, rs, rs, h0 _ (Or.inl ⟨rfl, hlk, rfl⟩), b1, rfl, rfl, b6, hFd.refl, fun _ _ => rfl⟩
    · exact absurd rfl hc
  | some v =>
    obtain ⟨r0, hl0⟩ := lk_lkR hlk
    have hr0 := lkR_some hnm hl0
    obtain ⟨hto, -⟩ := lkR_to hnm b1.1.2.2.2.2 hl0
    rw [hlk] at hto
    have hr41 : r0 < hRw 50 := by have := b1.1.2.2.2.1; omega
    have hv24 : v.length ≤ 24 := by have := hTo_len b1.1.2.1 hr41 hto; have := hWd50; omega
    -- behind a failure
    have bad : ∀ (i rr : Nat) (phi : xH), i ≤ 24 → badB zs L c0 rs.1.length ph phi rr → hSh zs phi → xT (d + 4) 4 42 (xlo [some (.inr (.inl (some 56))), some (.inr (.inl (some (36 - 7 * L)))), some (.inl (j : Int)), some (.inl (deep : Int)), some (.inl (r0 : Int)), some (.inl (v.length : Int)), some (.inl (rr : Int)), some (.inl (i : Int))]) [] phi g Q := by
      intro i rr phi hi hbd hs
      have hne : (rr : Int) ≠ 0 := by have := hbd.1; omega
      refine tK (l := xk_4) rfl rfl (fun _ _ _ _ _ => rfl) ?_
      refine tK (l := xk_4) rfl rfl (fun _ _ _ _ _ => rfl) ?_
      refine tIc_ge (l := xk_4) (pc' := 92) rfl rfl rfl (fun hc => ?_) (fun hc => ?_)
      · refine tK (l := xk_4) rfl rfl (fun _ _ _ _ _ => rfl) ?_
        refine tIf_ne (l := xk_4) (pc' := 92) rfl rfl rfl (fun hc => ?_) (fun hc => ?_)
        · exact absurd (show ((rr : Nat) : Int) = 0 from hc) hne
        · refine tK (l := xk_4) rfl rfl (fun _ _ _ _ _ => rfl) ?_
          refine tRt (l := xk_4) rfl rfl (fun _ _ _ _ _ => rfl) ?_
          exact hBad phi rr hbd
      · refine tK (l := xk_4) rfl rfl (fun _ _ _ _ _ => rfl) ?_
        refine tRt (l := xk_4) rfl rfl (fun _ _ _ _ _ => rfl) ?_
        exact hBad phi rr hbd
    have loop : ∀ (m i : Nat) (phi : xH) (ri : RS), i + m = v.length → hRN zs phi ri → ri.1.length = rs.1.length → ri.2.1.length = rs.2.1.length → hFd (bP L) ph phi → h43 phi → (∀ k, k < L → hRd phi 48 k = hRd ph 48 k) → (∀ r, r < (rs.1.length - 1) * 10 → hTo phi 50 r = hTo ph 50 r) → hTo phi 50 r0 = some v →
        (∀ c, v[i]? = some c → Rn c0 (RU ((5, x + 4, x + 4, nm, i, v) :: fsN fs (x + 4)) (spS ri (psc i c)))) → (v.length = i → Rn c0 (RU (fsN fs (e + 1)) ri)) → xT (d + 4) 4 42 (xlo [some (.inr (.inl (some 56))), some (.inr (.inl (some (36 - 7 * L)))), some (.inl (j : Int)), some (.inl (deep : Int)), some (.inl (r0 : Int)), some (.inl (v.length : Int)), some (.inl 0), some (.inl (i : Int))]) [] phi g Q := by
      intro m
      induction m with
      | zero =>
        intro i phi ri him hri hl1 hl2 hfd h44 h48 hrw htv hst hend
        have hs := hri.1.1
        have hi : v.length = i := by omega
        refine tK (l := xk_4) rfl rfl (fun _ _ _ _ _ => rfl) ?_
        refine tK (l := xk_4) rfl rfl (fun _ _ _ _ _ => rfl) ?_
        refine tIc_ge (l := xk_4) (pc' := 92) rfl rfl rfl (fun hc => ?_) (fun hc => ?_)
        · exfalso; omega
        · refine tK (l := xk_4) rfl rfl (fun _ _ _ _ _ => rfl) ?_
          refine tRt (l := xk_4) rfl rfl (fun _ _ _ _ _ => rfl) ?_
          exact hOk phi ri ⟨hri, hend hi, hfd, h44, hl1, hl2, hrw, h48⟩
      | succ m ih2 =>
        intro i phi ri him hri hl1 hl2 hfd h44 h48 hrw htv hst hend
        have hs := hri.1.1
        obtain ⟨c, hc9⟩ : ∃ c, v[i]? = some c := ⟨_, List.getElem?_eq_getElem (by omega)⟩
        have hmc := hst c hc9
        obtain ⟨si, gi, ti⟩ := ri
        simp only at hl1 hl2
        refine tK (l := xk_4) rfl rfl (fun _ _ _ _ _ => rfl) ?_
        refine tK (l := xk_4) rfl rfl (fun _ _ _ _ _ => rfl) ?_
        refine tIc_ge (l := xk_4) (pc' := 92) rfl rfl rfl (fun hc => ?_) (fun hc => ?_)
        · have hc46 := hc
          refine tK (l := xk_4) rfl rfl (fun _ _ _ _ _ => rfl) ?_
          refine tIf_ne (l := xk_4) (pc' := 92) rfl rfl rfl (fun hc => ?_) (fun hc => ?_)
          · have hc51 := hc
            refine tK (l := xk_4) rfl rfl (fun _ _ _ _ _ => rfl) ?_
            refine tK (l := xk_4) rfl rfl (hGetR (o := some 49) hs rfl rfl rfl (by decide) (by decide) rfl) ?_
            refine tK (l := xk_4) rfl rfl (fun _ _ _ _ _ => rfl) ?_
            refine tK (l := xk_4) rfl rfl (fun _ _ _ _ _ => rfl) ?_
            refine tCa (l := xk_4) rfl rfl (hInvV (c := 5) hs rfl rfl rfl rfl rfl (Nat.le_of_ble_eq_true rfl) (Nat.le_of_ble_eq_true rfl)) ?_
            refine s47 (p := i) hri.1 (by simp only; omega) (by simp only; omega) htv hc9 (fun ph1 q1 f1 w1 => ?_)
            refine tKv ?_
            refine tIf_ne (l := xk_4) (pc' := 70) rfl rfl rfl (fun hc => ?_) (fun hc => ?_)
            · have hc65 := hc
              exact absurd hc (by decide)
            · have hc65 := hc
              refine tK (l := xk_4) rfl rfl (fun _ _ _ _ _ => rfl) ?_
              refine tK (l := xk_4) rfl rfl (fun _ _ _ _ _ => rfl) ?_
              refine tK (l := xk_4) rfl rfl (fun _ _ _ _ _ => rfl) ?_
              refine tK (l := xk_4) rfl rfl (fun _ _ _ _ _ => rfl) ?_
              refine tCa (l := xk_4) rfl rfl (hInvV (c := 0) q1.1 rfl rfl rfl rfl rfl (Nat.le_of_ble_eq_true rfl) (Nat.le_of_ble_eq_true rfl)) ?_
              have g1 : hFd (bP L) ph ph1 := hfd.trans (fd49 f1)
              have r1 : hRN zs ph1 (psc i c :: si, gi, ti) := hRN.scs hri q1 f1
              have hb1 : hBR zs ph1 L ((5, x + 4, x + 4, nm, i, v) :: fsN fs (x + 4)) (psc i c :: si, gi, ti) (deep + 1) := hb.blk (by decide) hd r1 g1 (fun k hk => by rw [f1.at (by decide)]; exact h48 k hk) (h44.fr f1 (by decide)) (by simp only [List.length_cons]; omega) (by simp) (by simp only; omega)
              have et : cT ((5, x + 4, x + 4, nm, i, v) :: fsN fs (x + 4)) = cT fs := by simp only [cT]; rw [if_neg (by decide), cT_fsN]
              refine s5 (bh := bh) (x := x + 4) (y := e) (cd := cd) (nm := nm) (x0 := x) (k := 5) ih hb1 (by rw [et]; exact hp) (by rw [et]; exact hsg) rfl (by rw [et]; exact hq) (by omega) (fun ph2 rs2 k2 => ?_) (fun ph2 r k2 => ?_)
              · refine tKv ?_
                obtain ⟨r2, k2, k3, k4, k5, k6, k7, k8⟩ := k2
                refine tSt (l := xk_4) rfl rfl (fun _ _ _ _ _ => rfl) (Nat.le_of_ble_eq_true rfl) ?_
                refine tK (l := xk_4) rfl rfl (fun _ _ _ _ _ => rfl) ?_
                refine tK (l := xk_4) rfl rfl (hGetR (o := some 49) r2.1.1 rfl rfl rfl (by decide) (by decide) rfl) ?_
                refine tCa (l := xk_4) rfl rfl (hInvV (c := 5) r2.1.1 rfl rfl rfl rfl rfl (Nat.le_of_ble_eq_true rfl) (Nat.le_of_ble_eq_true rfl)) ?_
                obtain ⟨sc2, z2⟩ := rs2
                simp only [List.length_cons] at k5 k6 k7
                cases sc2 with
                | nil => simp only [List.length_nil] at k5; omega
                | cons f0 sc2 =>
                simp only [List.length_cons] at k5
                refine s46 r2.1 (fun ph3 q3 f3 => ?_)
                refine tKn ?_
                have p2 := hRN.pop r2 q3 f3
                have hfs : ∃ f gs, fs = f :: gs := by
                  cases hfs : fs with
                  | nil => exact absurd hfs b2
                  | cons f gs => exact ⟨f, gs, rfl⟩
                obtain ⟨f, gs, hfs⟩ := hfs
                refine tSt (l := xk_4) rfl rfl (hIinc rfl (Nat.le_of_ble_eq_true rfl) ⟨by omega, by omega⟩) (Nat.le_of_ble_eq_true rfl) ?_
                refine tK (l := xk_4) rfl rfl (fun _ _ _ _ _ => rfl) ?_
                refine ih2 (i + 1) ph3 (sc2, z2) (by omega) p2 (by simp only; omega) (by simp only; omega) (((hfd.trans (fd49 f1)).trans k3).trans (fd49a f3)) (k4.fr f3 (by decide)) (fun k hk => by rw [f3.at (by decide), k8 k hk, f1.at (by decide)]; exact h48 k hk) (fun r hr => ?_) ?_ (fun c2 hc2 => ?_) (fun hi => ?_)
                · rw [f3.to (by decide) (by decide), k7 r (by omega), w1 r (by simp only; omega)]; exact hrw r hr
                · rw [f3.to (by decide) (by decide), k7 r0 (by omega), w1 r0 (by simp only; omega)]; exact htv
                · exact (hmc.trans k2).trans (Rn.one (Or.inr ⟨(5, e, x + 4, nm, i, v), (f.1, x + 4, f.2.2), gs, (f0 :: sc2, z2), by rw [hfs]; rfl, Or.inr (Or.inl ⟨rfl, by have e9 : cT ((f.1, x + 4, f.2.2) :: gs) = cT fs := (by rw [hfs]; rfl); rw [e9]; exact he, f0, sc2, rfl, Or.inl ⟨c2, hc2, by rw [hfs]; rfl⟩⟩)⟩))
                · exact (hmc.trans k2).trans (Rn.one (Or.inr ⟨(5, e, x + 4, nm, i, v), (f.1, x + 4, f.2.2), gs, (f0 :: sc2, z2), by rw [hfs]; rfl, Or.inr (Or.inl ⟨rfl, by have e9 : cT ((f.1, x + 4, f.2.2) :: gs) = cT fs := (by rw [hfs]; rfl); rw [e9]; exact he, f0, sc2, rfl, Or.inr ⟨hi, by rw [hfs]; rfl⟩⟩)⟩))
              · refine tKv ?_
                obtain ⟨hr9, rs1, rs2, fs2, pls, a1, a2, a0, a3, a4, a5, a6, a7⟩ := k2
                refine tSt (l := xk_4) rfl rfl (fun _ _ _ _ _ => rfl) (Nat.le_of_ble_eq_true rfl) ?_
                refine tK (l := xk_4) rfl rfl (fun _ _ _ _ _ => rfl) ?_
                refine tK (l := xk_4) rfl rfl (hGetR (o := some 49) a2.1.1 rfl rfl rfl (by decide) (by decide) rfl) ?_
                refine tCa (l := xk_4) rfl rfl (hInvV (c := 5) a2.1.1 rfl rfl rfl rfl rfl (Nat.le_of_ble_eq_true rfl) (Nat.le_of_ble_eq_true rfl)) ?_
                obtain ⟨sc2, z2⟩ := rs2
                simp only [List.length_cons] at a0
                cases sc2 with
                | nil => simp at a0
                | cons f0 sc2 =>
                refine s46 a2.1 (fun phx q6 f6 => ?_)
                refine tKn ?_
                have p2 := hRN.pop a2 q6 f6
                refine tSt (l := xk_4) rfl rfl (hIinc rfl (Nat.le_of_ble_eq_true rfl) ⟨by omega, by omega⟩) (Nat.le_of_ble_eq_true rfl) ?_
                refine tK (l := xk_4) rfl rfl (fun _ _ _ _ _ => rfl) ?_
                exact bad (i + 1) r phx (by omega) ⟨hr9, rs1, (sc2, z2), fs2, pls, hmc.trans a1, p2, by simp only [List.length_cons] at a0; simp only; omega, a3, by rw [f6.at (by decide)]; exact a4, by rw [f6.at (by decide)]; exact a5, fun k x hx => by rw [f6.at (by decide)]; exact a6 k x hx, ((hfd.trans (fd49 f1)).trans a7).trans (fd49a f6)⟩ p2.1.1
          · have hc51 := hc
            exact absurd rfl hc
        · have hc46 := hc
          exfalso; omega
    refine tEn (ls := [some (.inr (.inl (some 56))), some (.inr (.inl (some (36 - 7 * L)))), some (.inl (j : Int)), some (.inl (deep : Int)), none, none, none, none]) (fun k => by match k with | 0 => rfl | 1 => rfl | 2 => rfl | 3 => rfl | 4 => rfl | 5 => rfl | 6 => rfl | 7 => rfl | k + 8 => rfl) ?_
    refine tK (l := xk_4) rfl rfl (fun _ _ _ _ _ => rfl) ?_
    refine tK (l := xk_4) rfl rfl (hGetR (o := some 49) hs rfl rfl rfl (by decide) (by decide) rfl) ?_
    refine tK (l := xk_4) rfl rfl (fun _ _ _ _ _ => rfl) ?_
    refine tK (l := xk_4) rfl rfl (fun _ _ _ _ _ => rfl) ?_
    refine tCa (l := xk_4) rfl rfl (hInvV (c := 7) hs rfl rfl rfl ht rfl (Nat.le_of_ble_eq_true rfl) (Nat.le_of_ble_eq_true rfl)) ?_
    refine s65 hs ht hpp hp (by simp) ?_
    refine tKv ?_
    refine tCa (l := xk_4) rfl rfl (hInvV (c := 5) hs rfl rfl rfl rfl rfl (Nat.le_of_ble_eq_true rfl) (Nat.le_of_ble_eq_true rfl)) ?_
    refine s45 b1.1 hnm ?_
    refine tKv ?_
    simp only [hl0, lkI]
    refine tSt (l := xk_4) rfl rfl (fun _ _ _ _ _ => rfl) (Nat.le_of_ble_eq_true rfl) ?_
    refine tK (l := xk_4) rfl rfl (fun _ _ _ _ _ => rfl) ?_
    refine tK (l := xk_4) rfl rfl (fun _ _ _ _ _ => rfl) ?_
    refine tIc_ne (l := xk_4) (pc' := 22) rfl rfl rfl (fun hc => ?_) (fun hc => ?_)
    · have hc17 := hc
      exfalso
      have h9 : (r0 : Int) = -1 := hc
      omega
    · have hc17 := hc
      refine tK (l := xk_4) rfl rfl (fun _ _ _ _ _ => rfl) ?_
      refine tK (l := xk_4) rfl rfl (hGetR (o := some 49) hs rfl rfl rfl (by decide) (by decide) rfl) ?_
      refine tK (l := xk_4) rfl rfl (hGetR (o := some 50) hs rfl rfl rfl (by decide) (by decide) rfl) ?_
      refine tK (l := xk_4) rfl rfl (fun _ _ _ _ _ => rfl) ?_
      refine tCa (l := xk_4) rfl rfl (hInvV (c := 8) hs rfl rfl rfl rfl rfl (Nat.le_of_ble_eq_true rfl) (Nat.le_of_ble_eq_true rfl)) ?_
      refine a75 hs rfl b1.1.2.1 hr41 hto ?_
      refine tKv ?_
      simp only [hLo]
      refine tSt (l := xk_4) rfl rfl (fun _ _ _ _ _ => rfl) (Nat.le_of_ble_eq_true rfl) ?_
      refine tK (l := xk_4) rfl rfl (fun _ _ _ _ _ => rfl) ?_
      refine tSt (l := xk_4) rfl rfl (fun _ _ _ _ _ => rfl) (Nat.le_of_ble_eq_true rfl) ?_
      refine tK (l := xk_4) rfl rfl (fun _ _ _ _ _ => rfl) ?_
      refine tSt (l := xk_4) rfl rfl (fun _ _ _ _ _ => rfl) (Nat.le_of_ble_eq_true rfl) ?_
      refine loop v.length 0 ph rs (by omega) b1 rfl rfl hFd.refl b6 (fun _ _ => rfl) (fun _ _ => rfl) hto (fun c hc1 => ?_) (fun hv0 => ?_)
      · cases v with
        | nil => simp at hc1
        | cons c1 v1 =>
          simp only [List.length_cons, List.getElem?_cons_zero, Option.some.injEq] at hc1
          subst hc1
          exact h0 _ (Or.inr (Or.inr (Or.inl ⟨rfl, by omega, by omega, c1, v1, hlk, by simp only [List.length_cons] at hv24; omega, rfl⟩)))
      · have hv1 : v = [] := List.length_eq_zero_iff.mp hv0
        rw [hv1] at hlk
        exact h0 _ (Or.inr (Or.inl ⟨Or.inl ⟨rfl, hlk⟩, n, pPs (cT fs), j + 1, bh, e, hsg, he, rfl⟩))
end BYL
