/-! ===== ByParts.runList ===== -/
theorem fsN_self {fs : List Fm} : fsN fs (cX fs) = fs := by
  cases fs with
  | nil => rfl
  | cons f fs => rfl
section BYS
variable {d : Nat} {ph : xH} {zs : List xV} {g : Nat} {Q : xR → Prop} {L n j : Nat} {fs : List Fm}
theorem s2 {x y deep k nm bh : Nat} {cd : Int} {rs : RS} (ih : BPn zs (d + 2) n L) (ihL : L < 4 → BPn zs (d + 3) 61 (L + 1)) (hb : hBR zs ph L fs rs deep) (hd : deep ≤ 32) (hp : (pPs (cT fs))[j]? = some (k, x, cd, nm, bh)) (hq : bh ≤ (pPs (cT fs)).length) (hx : cX fs = x) (hd5 : 5 * deep + (y - x) ≤ 60 + 25 * L)
    (hsh : (∃ w, hSim (cT fs) x k cd nm w ∧ y = x + w) ∨ (hBlk (cT fs) x k nm ∧ ∃ e, Sg n (cT fs) (pPs (cT fs)) (j + 1) bh (x + 4) e ∧ (cT fs)[e]? = some 125 ∧ y = e + 1))
    (hUn : ∀ ph2 r, unB zs L (RU fs rs) rs.1.length fs x ph ph2 r → Q (.inl (some (.inl (r : Int))), ph2, g)) (hOk : ∀ ph2 rs2, okB zs L (RU fs rs) fs y rs ph ph2 rs2 → Q (.inl (some (.inl 0)), ph2, g)) (hBad : ∀ ph2 r, badB zs L (RU fs rs) rs.1.length ph ph2 r → Q (.inl (some (.inl (r : Int))), ph2, g)) : xTC (d + 5) 2 [.inr (.inl (some 56)), .inr (.inl (some (36 - 7 * L))), .inl (j : Int), .inl (deep : Int)] ph g Q := by
  rcases hsh with ⟨w, hsim, hy⟩ | ⟨hblk, e, hsg, he, hy⟩
  · have hk := (hSim_w hsim).2
    match k, hk, hsim, hp with
    | 0, _, hsim, hp => exact s2_0 (e := 0) hb hd hp hq hx hd5 hsim hy hUn hOk hBad
    | 1, _, hsim, hp => exact s2_1 (e := 0) hb hd hp hq hx hd5 hsim hy hUn hOk hBad
    | 2, _, hsim, hp => exact s2_2 (e := 0) hb hd hp hq hx hd5 hsim hy hUn hOk hBad
    | 3, _, hsim, hp => exact s2_3 (e := 0) hb hd hp hq hx hd5 hsim hy hUn hOk hBad
    | 4, _, hsim, hp => exact s2_4 (e := 0) hb hd hp hq hx hd5 hsim hy ihL hUn hOk hBad
    | k + 5, hk, _, _ => exact absurd hk (by omega)
  · rcases hblk.1 with rfl | rfl | rfl
    · exact s2_5 (w := 0) hb hd hp hq hx hd5 ih hblk hsg he hy hUn hOk hBad
    · exact s2_6 (w := 0) hb hd hp hq hx hd5 ih hblk hsg he hy hUn hOk hBad
    · exact s2_7 (w := 0) hb hd hp hq hx hd5 ih hblk hsg he hy hUn hOk hBad
theorem BP_step (ih : BPn zs (d + 2) n L) (ihL : L < 4 → BPn zs (d + 3) 61 (L + 1)) : BPn zs (d + 6) (n + 1) L := by
  intro ph g Q fs rs p q x y deep hb hsg hx hq hd5 hOk hBad
  obtain ⟨b1, b2, b3, hpp, b5, b6, b7, b8, b9, b10, b11, b12, b13, b14⟩ := id hb
  have hs := b1.1.1
  have ht := (hTgL b12).1
  have eL := (hTgL b12).2
  have hd : deep ≤ 32 := by omega
  have hl60 := hpp.2.1
  have loop : ∀ (m i pi xi : Nat) (phi : xH) (fsi : List Fm) (ri : RS) (o7 : Option xV), m ≤ n + 1 → i ≤ pi → Sg m (cT fs) (pPs (cT fs)) pi q xi y → hBR zs phi L fsi ri deep → cT fsi = cT fs → cP fsi = cP fs → cX fsi = xi → (∀ z, fsN fsi z = fsN fs z) → x ≤ xi → Rn (RU fs rs) (RU fsi ri) → hFd (bP L) ph phi → ri.1.length = rs.1.length → ri.2.1.length = rs.2.1.length → (∀ r, r < (rs.1.length - 1) * 10 → hTo phi 50 r = hTo ph 50 r) → (∀ k, k < L → hRd phi 48 k = hRd ph 48 k) → xT (d + 6) 1 15 (xlo [some (.inr (.inl (some 56))), some (.inr (.inl (some (36 - 7 * L)))), some (.inl (p : Int)), some (.inl (q : Int)), some (.inl (deep : Int)), some (.inl (pi : Int)), some (.inl (i : Int)), o7]) [] phi g Q := by
    intro m
    induction m with
    | zero => intro i pi xi phi fsi ri o7 _ _ h; exact absurd h (fun q => q)
    | succ m ih2 =>
      intro i pi xi phi fsi ri o7 hm hi hsg hbi hct hcp hxi hfz hxx hrn hfd hl1 hl2 hrw h48
      have c1 := hbi.1
      have hs := c1.1.1
      have hppi := hbi.2.2.2.1
      rw [hct] at hppi
      have h443 := hbi.2.2.2.2.2.1
      have hplc := hbi.2.2.2.2.2.2.1
      rcases hsg with ⟨rfl, rfl⟩ | ⟨k, cd, nm, bh, h1, h2, h3, h4⟩
      · refine tK (l := xk_1) rfl rfl (fun _ _ _ _ _ => rfl) ?_
        refine tK (l := xk_1) rfl rfl (fun _ _ _ _ _ => rfl) ?_
        refine tIc_ge (l := xk_1) (pc' := 80) rfl rfl rfl (fun hc => ?_) (fun hc => ?_)
        · refine tK (l := xk_1) rfl rfl (fun _ _ _ _ _ => rfl) ?_
          refine tK (l := xk_1) rfl rfl (fun _ _ _ _ _ => rfl) ?_
          refine tIc_ge (l := xk_1) (pc' := 80) rfl rfl rfl (fun hc => ?_) (fun hc => ?_)
          · exfalso; omega
          · refine tK (l := xk_1) rfl rfl (fun _ _ _ _ _ => rfl) ?_
            refine tRt (l := xk_1) rfl rfl (fun _ _ _ _ _ => rfl) ?_
            exact hOk phi ri ⟨c1, by rw [← hfz, ← hxi, fsN_self]; exact hrn, hfd, h443, hl1, hl2, hrw, h48⟩
        · refine tK (l := xk_1) rfl rfl (fun _ _ _ _ _ => rfl) ?_
          refine tRt (l := xk_1) rfl rfl (fun _ _ _ _ _ => rfl) ?_
          exact hOk phi ri ⟨c1, by rw [← hfz, ← hxi, fsN_self]; exact hrn, hfd, h443, hl1, hl2, hrw, h48⟩
      · have hj := (List.getElem?_eq_some_iff.mp h1).1
        obtain ⟨y1, hy1, hsh, hrest, hy2, hy3⟩ : ∃ y1, y1 ≤ y ∧ ((∃ w, hSim (cT fs) xi k cd nm w ∧ y1 = xi + w) ∨ (hBlk (cT fs) xi k nm ∧ ∃ e, Sg n (cT fs) (pPs (cT fs)) (pi + 1) bh (xi + 4) e ∧ (cT fs)[e]? = some 125 ∧ y1 = e + 1)) ∧ Sg m (cT fs) (pPs (cT fs)) bh q y1 y ∧ xi ≤ y1 ∧ x ≤ y1 := by
          rcases h4 with ⟨w, h5, h6, h7⟩ | ⟨h5, e, h6, h7, h8⟩
          · have q1 := Sg_le h7
            subst h6
            exact ⟨xi + w, by omega, Or.inl ⟨w, h5, rfl⟩, h7, by omega, by omega⟩
          · have q1 := Sg_le h6
            have q2 := Sg_le h8
            exact ⟨e + 1, by omega, Or.inr ⟨h5, e, Sg_mono h6 n (by omega), h7, rfl⟩, h8, by omega, by omega⟩
        refine tK (l := xk_1) rfl rfl (fun _ _ _ _ _ => rfl) ?_
        refine tK (l := xk_1) rfl rfl (fun _ _ _ _ _ => rfl) ?_
        refine tIc_ge (l := xk_1) (pc' := 80) rfl rfl rfl (fun hc => ?_) (fun hc => ?_)
        · refine tK (l := xk_1) rfl rfl (fun _ _ _ _ _ => rfl) ?_
          refine tK (l := xk_1) rfl rfl (fun _ _ _ _ _ => rfl) ?_
          refine tIc_ge (l := xk_1) (pc' := 80) rfl rfl rfl (fun hc => ?_) (fun hc => ?_)
          · refine tK (l := xk_1) rfl rfl (fun _ _ _ _ _ => rfl) ?_
            refine tK (l := xk_1) rfl rfl (fun _ _ _ _ _ => rfl) ?_
            refine tK (l := xk_1) rfl rfl (fun _ _ _ _ _ => rfl) ?_
            refine tK (l := xk_1) rfl rfl (fun _ _ _ _ _ => rfl) ?_
            refine tCa (l := xk_1) rfl rfl (hInvV (c := 0) hs rfl rfl rfl rfl rfl (Nat.le_of_ble_eq_true rfl) (Nat.le_of_ble_eq_true rfl)) ?_
            refine s2 (n := n) (k := k) (x := xi) (y := y1) (nm := nm) (bh := bh) (cd := cd) (rs := ri) (fs := fsi) ih ihL hbi hd (by rw [hct]; exact h1) (by rw [hct]; omega) hxi (by omega) (by rw [hct]; exact hsh) (fun ph2 r k9 => ?_) (fun ph2 rs2 k9 => ?_) (fun ph2 r k9 => ?_)
            · refine tKv ?_
              obtain ⟨hr9, rs1, rs2, kn, k1, km, ke, k4, k3, k8⟩ := k9
              refine tSt (l := xk_1) rfl rfl (fun _ _ _ _ _ => rfl) (Nat.le_of_ble_eq_true rfl) ?_
              refine tK (l := xk_1) rfl rfl (fun _ _ _ _ _ => rfl) ?_
              refine tIf_eq (l := xk_1) (pc' := 66) rfl rfl rfl (fun hc => ?_) (fun hc => ?_)
              · exact absurd (show ((r : Nat) : Int) = 0 from hc) (by omega)
              · refine tK (l := xk_1) rfl rfl (fun _ _ _ _ _ => rfl) ?_
                refine tK (l := xk_1) rfl rfl (hGetR (o := some 44) k1.1.1 rfl rfl rfl (by decide) (by decide) rfl) ?_
                refine tK (l := xk_1) rfl rfl (fun _ _ _ _ _ => rfl) ?_
                refine tK (l := xk_1) rfl rfl (fun _ _ _ _ _ => rfl) ?_
                refine tK (l := xk_1) rfl rfl (hGetC k1.1.1 rfl ht rfl (by decide) (by decide) (hCs_7 ht)) ?_
                rw [eL]
                refine tK (l := xk_1) rfl rfl (fun _ _ _ _ _ => rfl) ?_
                refine tK (l := xk_1) rfl rfl (fun _ _ _ _ _ => rfl) ?_
                refine tCa (l := xk_1) rfl rfl (hInvV (c := 7) k1.1.1 rfl rfl rfl ht rfl (Nat.le_of_ble_eq_true rfl) (Nat.le_of_ble_eq_true rfl)) ?_
                refine s66 k1.1.1 ht (hppi.fr2 b12 k3) h1 ?_
                refine tKv ?_
                refine tCa (l := xk_1) rfl rfl (hInvV (c := 3) k1.1.1 rfl rfl rfl rfl rfl (Nat.le_of_ble_eq_true rfl) (Nat.le_of_ble_eq_true rfl)) ?_
                refine s31 (l := L) k1.1.1 k4.1 (by omega) ?_
                refine tKn ?_
                have z48 : hSz 48 = 5 := by decide +kernel
                have u3 : hSh zs (hUp ph2 44 3 (r : Int)) := hShI1 _ k1.1.1 rfl rfl
                have u4 : hSh zs (hUp (hUp ph2 44 3 (r : Int)) 48 L (xi : Int)) := hShI1 _ u3 rfl rfl
                have u5 : hSh zs (hUp (hUp (hUp ph2 44 3 (r : Int)) 48 L (xi : Int)) 44 2 ((L : Int) + 1)) := hShI1 _ u4 rfl rfl
                have k55 : ∀ b j, hRd (hUp (hUp (hUp ph2 44 3 (r : Int)) 48 L (xi : Int)) 44 2 ((L : Int) + 1)) b j = if b = 44 ∧ j = 2 then ((L : Int) + 1) else if b = 48 ∧ j = L then (xi : Int) else if b = 44 ∧ j = 3 then (r : Int) else hRd ph2 b j := fun b j => by rw [hRd_up u4 rfl (by decide), hRd_up u3 rfl (by omega), hRd_up k1.1.1 rfl (by decide)]
                have r5 : hRN zs (hUp (hUp (hUp ph2 44 3 (r : Int)) 48 L (xi : Int)) 44 2 ((L : Int) + 1)) rs2 := hRN_44 ((hRN_44 k1 (Or.inr rfl)).fr u4 (hUp_fr (S := [48]) u3 rfl (by omega) (by simp)) (by decide)) (Or.inl rfl)
                have g5 : hFd (bP L) ph2 (hUp (hUp (hUp ph2 44 3 (r : Int)) 48 L (xi : Int)) 44 2 ((L : Int) + 1)) := ((hUp_fr (S := [44, 48]) k1.1.1 rfl (by decide) (by simp)).trans ((hUp_fr u3 rfl (by omega) (by simp)).trans (hUp_fr u4 rfl (by decide) (by simp)))).fd (by intro a ha; simp only [List.mem_cons, List.not_mem_nil, or_false] at ha; unfold bP; omega)
                refine tK (l := xk_1) rfl rfl (fun _ _ _ _ _ => rfl) ?_
                refine tRt (l := xk_1) rfl rfl (fun _ _ _ _ _ => rfl) ?_
                refine hBad _ r ⟨hr9, rs1, rs2, fsi, (cP fsi).reverse ++ [xi], hrn.trans kn, r5, by omega, ke, ?_, ?_, ?_, (hfd.trans k3).trans g5⟩
                · rw [k55, if_neg (by omega), if_neg (by omega), if_pos ⟨rfl, rfl⟩]
                · rw [k55, if_pos ⟨rfl, rfl⟩, hcp]; simp; omega
                · intro k y hy
                  by_cases e1 : k < L
                  · rw [List.getElem?_append_left (by rw [List.length_reverse, hcp]; omega)] at hy
                    rw [k55, if_neg (by omega), if_neg (by omega), if_neg (by omega), k8 k e1]
                    exact hplc k y hy
                  · rw [List.getElem?_append_right (by rw [List.length_reverse, hcp]; omega)] at hy
                    rw [List.length_reverse, hcp, b3] at hy
                    have hk9 := (List.getElem?_eq_some_iff.mp hy).1
                    simp only [List.length_cons, List.length_nil] at hk9
                    have e2 : k = L := by omega
                    subst e2
                    rw [Nat.sub_self] at hy
                    simp only [List.getElem?_cons_zero, Option.some.injEq] at hy
                    rw [k55, if_neg (by omega), if_pos ⟨rfl, rfl⟩, hy]
            · refine tKv ?_
              obtain ⟨k1, k2, k3, k4, k5, k6, k7, k8⟩ := k9
              refine tSt (l := xk_1) rfl rfl (fun _ _ _ _ _ => rfl) (Nat.le_of_ble_eq_true rfl) ?_
              refine tK (l := xk_1) rfl rfl (fun _ _ _ _ _ => rfl) ?_
              refine tIf_eq (l := xk_1) (pc' := 66) rfl rfl rfl (fun hc => ?_) (fun hc => ?_)
              · refine tK (l := xk_1) rfl rfl (fun _ _ _ _ _ => rfl) ?_
                refine tK (l := xk_1) rfl rfl (fun _ _ _ _ _ => rfl) ?_
                refine tCa (l := xk_1) rfl rfl (hInvV (c := 7) k1.1.1 rfl rfl rfl ht rfl (Nat.le_of_ble_eq_true rfl) (Nat.le_of_ble_eq_true rfl)) ?_
                refine s67 k1.1.1 ht (hppi.fr2 b12 k3) h1 ?_
                refine tKv ?_
                refine tSt (l := xk_1) rfl rfl (fun _ _ _ _ _ => rfl) (Nat.le_of_ble_eq_true rfl) ?_
                refine tSt (l := xk_1) rfl rfl (hIinc rfl (Nat.le_of_ble_eq_true rfl) ⟨by omega, by omega⟩) (Nat.le_of_ble_eq_true rfl) ?_
                refine tK (l := xk_1) rfl rfl (fun _ _ _ _ _ => rfl) ?_
                refine ih2 (i + 1) bh y1 ph2 (fsN fsi y1) rs2 _ (by omega) (by omega) hrest ?_ (by rw [cT_fsN]; exact hct) (by rw [cP_fsN]; exact hcp) (cX_fsN hbi.2.1) (fun z => by rw [fsN_fsN]; exact hfz z) hy3 (hrn.trans k2) (hfd.trans k3) (by omega) (by omega) (fun r hr => by rw [k7 r (by omega)]; exact hrw r hr) (fun k hk => by rw [k8 k hk]; exact h48 k hk)
                obtain ⟨e1, e2, e3, e4, e5, e6, e7, e8, e9, e10, e11, e12, e13, e14⟩ := hbi.re k1 k3 k8 k4 k5 k6
                exact ⟨e1, fsN_ne e2, by rw [cP_fsN]; exact e3, by rw [cT_fsN]; exact e4, by rw [cT_fsN]; exact e5, e6, by rw [cP_fsN]; exact e7, e8, e9, e10, by rw [fsN_len]; exact e11, e12, e13, by rw [cT_fsN]; exact e14⟩
              · exact absurd rfl hc
            · refine tKv ?_
              obtain ⟨hr9, rs1, rs2, fs2, pls, a1, a2, a0, a3, a4, a5, a6, a7⟩ := k9
              refine tSt (l := xk_1) rfl rfl (fun _ _ _ _ _ => rfl) (Nat.le_of_ble_eq_true rfl) ?_
              refine tK (l := xk_1) rfl rfl (fun _ _ _ _ _ => rfl) ?_
              refine tIf_eq (l := xk_1) (pc' := 66) rfl rfl rfl (fun hc => ?_) (fun hc => ?_)
              · exact absurd (show ((r : Nat) : Int) = 0 from hc) (by omega)
              · refine tK (l := xk_1) rfl rfl (fun _ _ _ _ _ => rfl) ?_
                refine tK (l := xk_1) rfl rfl (hGetR (o := some 44) a2.1.1 rfl rfl rfl (by decide) (by decide) rfl) ?_
                refine tK (l := xk_1) rfl rfl (fun _ _ _ _ _ => rfl) ?_
                refine tK (l := xk_1) rfl rfl (fun _ _ _ _ _ => rfl) ?_
                refine tK (l := xk_1) rfl rfl (hGetC a2.1.1 rfl ht rfl (by decide) (by decide) (hCs_7 ht)) ?_
                rw [eL]
                refine tK (l := xk_1) rfl rfl (fun _ _ _ _ _ => rfl) ?_
                refine tK (l := xk_1) rfl rfl (fun _ _ _ _ _ => rfl) ?_
                refine tCa (l := xk_1) rfl rfl (hInvV (c := 7) a2.1.1 rfl rfl rfl ht rfl (Nat.le_of_ble_eq_true rfl) (Nat.le_of_ble_eq_true rfl)) ?_
                refine s66 a2.1.1 ht (hppi.fr2 b12 a7) h1 ?_
                refine tKv ?_
                refine tCa (l := xk_1) rfl rfl (hInvV (c := 3) a2.1.1 rfl rfl rfl rfl rfl (Nat.le_of_ble_eq_true rfl) (Nat.le_of_ble_eq_true rfl)) ?_
                refine s31z a2.1.1 (by omega) ?_
                refine tKn ?_
                refine tK (l := xk_1) rfl rfl (fun _ _ _ _ _ => rfl) ?_
                refine tRt (l := xk_1) rfl rfl (fun _ _ _ _ _ => rfl) ?_
                exact hBad ph2 r ⟨hr9, rs1, rs2, fs2, pls, hrn.trans a1, a2, by omega, a3, a4, a5, a6, hfd.trans a7⟩
          · exfalso; omega
        · exfalso; omega
  refine tEn (ls := [some (.inr (.inl (some 56))), some (.inr (.inl (some (36 - 7 * L)))), some (.inl (p : Int)), some (.inl (q : Int)), some (.inl (deep : Int)), none, none, none]) (fun k => by match k with | 0 => rfl | 1 => rfl | 2 => rfl | 3 => rfl | 4 => rfl | 5 => rfl | 6 => rfl | 7 => rfl | k + 8 => rfl) ?_
  refine tK (l := xk_1) rfl rfl (fun _ _ _ _ _ => rfl) ?_
  refine tK (l := xk_1) rfl rfl (fun _ _ _ _ _ => rfl) ?_
  refine tIc_lt (l := xk_1) (pc' := 9) rfl rfl rfl (fun hc => ?_) (fun hc => ?_)
  · refine tK (l := xk_1) rfl rfl (fun _ _ _ _ _ => rfl) ?_
    refine tSt (l := xk_1) rfl rfl (fun _ _ _ _ _ => rfl) (Nat.le_of_ble_eq_true rfl) ?_
    refine tK (l := xk_1) rfl rfl (fun _ _ _ _ _ => rfl) ?_
    refine tSt (l := xk_1) rfl rfl (fun _ _ _ _ _ => rfl) (Nat.le_of_ble_eq_true rfl) ?_
    exact loop (n + 1) 0 p x ph fs rs none (Nat.le_refl _) (Nat.zero_le _) hsg hb rfl rfl hx (fun _ => rfl) (Nat.le_refl _) Rn.refl hFd.refl rfl rfl (fun _ _ => rfl) (fun _ _ => rfl)
  · exfalso; omega
end BYS
