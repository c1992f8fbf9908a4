/-! ===== the model's rendering from its beginning ===== -/
section MRS
variable {d : Nat} {ph : xH} {zs : List xV} {g : Nat} {Q : xR → Prop}
theorem hMv0 {ph : xH} {a o : Nat} (h : hRd ph a o = -1) : hMv ph a o none := ⟨h, fun s hs => by cases hs⟩
theorem s186 {w : Int} {t : List Int} {f : Nat → Option (List Int)} {D : Cf} (hs : hSh zs ph) (hsv : ∀ v, v < 8 → hMv ph 148 (25 * v) (f v)) (hsg : ∀ (i : Nat) (c : Int), t[i]? = some c → hRd ph 152 i = c) (h9 : hRd ph 147 9 = (t.length : Int)) (hl : t.length ≤ 60) (hokt : oks t) (hokv : ∀ v, v < 8 → ∀ s, f v = some s → oks s) (hD : Fin t f w D) (hQ : ∀ ph2, TE zs ph2 D → hFM mF mA ph ph2 → Q (.inl none, ph2, g)) : xTC (d + 8) 186 [.inr (.inl (some 147)), .inl w] ph g Q := by
  obtain ⟨z1, z2, z3, z4, z5, z6, z7, z8⟩ := hSzM
  obtain ⟨y1, y2, y3, y4, y5, y6, y7, y8, y9⟩ := hSzO
  have z48 : hSz 148 = 416 := by decide +kernel
  refine tEn (ls := [some (.inr (.inl (some 147))), some (.inl w), none, none]) (fun k => by match k with | 0 => rfl | 1 => rfl | 2 => rfl | 3 => rfl | k + 4 => rfl) ?_
  refine tK (l := xk_186) rfl rfl (fun _ _ _ _ _ => rfl) ?_
  refine tK (l := xk_186) rfl rfl (fun _ _ _ _ _ => rfl) ?_
  refine tK (l := xk_186) rfl rfl (hPutV hs rfl rfl (by decide) (by decide) rfl) ?_
  refine tK (l := xk_186) rfl rfl (fun _ _ _ _ _ => rfl) ?_
  refine tK (l := xk_186) rfl rfl (fun _ _ _ _ _ => rfl) ?_
  refine tK (l := xk_186) rfl rfl (hPutV (hShI1 _ hs rfl rfl) rfl rfl (by decide) (by decide) rfl) ?_
  refine tK (l := xk_186) rfl rfl (fun _ _ _ _ _ => rfl) ?_
  refine tK (l := xk_186) rfl rfl (fun _ _ _ _ _ => rfl) ?_
  refine tK (l := xk_186) rfl rfl (hPutV (hShI1 _ (hShI1 _ hs rfl rfl) rfl rfl) rfl rfl (by decide) (by decide) rfl) ?_
  refine tK (l := xk_186) rfl rfl (fun _ _ _ _ _ => rfl) ?_
  refine tK (l := xk_186) rfl rfl (fun _ _ _ _ _ => rfl) ?_
  refine tK (l := xk_186) rfl rfl (hPutV (hShI1 _ (hShI1 _ (hShI1 _ hs rfl rfl) rfl rfl) rfl rfl) rfl rfl (by decide) (by decide) rfl) ?_
  refine tK (l := xk_186) rfl rfl (fun _ _ _ _ _ => rfl) ?_
  refine tK (l := xk_186) rfl rfl (fun _ _ _ _ _ => rfl) ?_
  refine tK (l := xk_186) rfl rfl (hPutV (hShI1 _ (hShI1 _ (hShI1 _ (hShI1 _ hs rfl rfl) rfl rfl) rfl rfl) rfl rfl) rfl rfl (by decide) (by decide) rfl) ?_
  refine tK (l := xk_186) rfl rfl (fun _ _ _ _ _ => rfl) ?_
  refine tK (l := xk_186) rfl rfl (fun _ _ _ _ _ => rfl) ?_
  refine tK (l := xk_186) rfl rfl (hPutV (hShI1 _ (hShI1 _ (hShI1 _ (hShI1 _ (hShI1 _ hs rfl rfl) rfl rfl) rfl rfl) rfl rfl) rfl rfl) rfl rfl (by decide) (by decide) rfl) ?_
  refine tK (l := xk_186) rfl rfl (fun _ _ _ _ _ => rfl) ?_
  refine tK (l := xk_186) rfl rfl (fun _ _ _ _ _ => rfl) ?_
  refine tK (l := xk_186) rfl rfl (hPutV (hShI1 _ (hShI1 _ (hShI1 _ (hShI1 _ (hShI1 _ (hShI1 _ hs rfl rfl) rfl rfl) rfl rfl) rfl rfl) rfl rfl) rfl rfl) rfl rfl (by decide) (by decide) rfl) ?_
  refine tK (l := xk_186) rfl rfl (fun _ _ _ _ _ => rfl) ?_
  refine tK (l := xk_186) rfl rfl (fun _ _ _ _ _ => rfl) ?_
  refine tK (l := xk_186) rfl rfl (hPutV (hShI1 _ (hShI1 _ (hShI1 _ (hShI1 _ (hShI1 _ (hShI1 _ (hShI1 _ hs rfl rfl) rfl rfl) rfl rfl) rfl rfl) rfl rfl) rfl rfl) rfl rfl) rfl rfl (by decide) (by decide) rfl) ?_
  refine tK (l := xk_186) rfl rfl (fun _ _ _ _ _ => rfl) ?_
  refine tK (l := xk_186) rfl rfl (fun _ _ _ _ _ => rfl) ?_
  refine tK (l := xk_186) rfl rfl (hPutV (hShI1 _ (hShI1 _ (hShI1 _ (hShI1 _ (hShI1 _ (hShI1 _ (hShI1 _ (hShI1 _ hs rfl rfl) rfl rfl) rfl rfl) rfl rfl) rfl rfl) rfl rfl) rfl rfl) rfl rfl) rfl rfl (by decide) (by decide) rfl) ?_
  refine tK (l := xk_186) rfl rfl (fun _ _ _ _ _ => rfl) ?_
  refine tK (l := xk_186) rfl rfl (fun _ _ _ _ _ => rfl) ?_
  refine tK (l := xk_186) rfl rfl (hPutV (hShI1 _ (hShI1 _ (hShI1 _ (hShI1 _ (hShI1 _ (hShI1 _ (hShI1 _ (hShI1 _ (hShI1 _ hs rfl rfl) rfl rfl) rfl rfl) rfl rfl) rfl rfl) rfl rfl) rfl rfl) rfl rfl) rfl rfl) rfl rfl (by decide) (by decide) rfl) ?_
  refine tK (l := xk_186) rfl rfl (fun _ _ _ _ _ => rfl) ?_
  refine tCa (l := xk_186) rfl rfl (hInvV (c := 10) (hShI1 _ (hShI1 _ (hShI1 _ (hShI1 _ (hShI1 _ (hShI1 _ (hShI1 _ (hShI1 _ (hShI1 _ (hShI1 _ hs rfl rfl) rfl rfl) rfl rfl) rfl rfl) rfl rfl) rfl rfl) rfl rfl) rfl rfl) rfl rfl) rfl rfl) rfl rfl rfl rfl rfl (Nat.le_of_ble_eq_true rfl) (Nat.le_of_ble_eq_true rfl)) ?_
  have u1 : hSh zs (hUp ph 147 19 0) := hShI1 _ hs rfl rfl
  have u2 : hSh zs (hUp (hUp ph 147 19 0) 147 20 0) := hShI1 _ u1 rfl rfl
  have u3 : hSh zs (hUp (hUp (hUp ph 147 19 0) 147 20 0) 147 22 0) := hShI1 _ u2 rfl rfl
  have u4 : hSh zs (hUp (hUp (hUp (hUp ph 147 19 0) 147 20 0) 147 22 0) 147 23 0) := hShI1 _ u3 rfl rfl
  have u5 : hSh zs (hUp (hUp (hUp (hUp (hUp ph 147 19 0) 147 20 0) 147 22 0) 147 23 0) 147 24 0) := hShI1 _ u4 rfl rfl
  have u6 : hSh zs (hUp (hUp (hUp (hUp (hUp (hUp ph 147 19 0) 147 20 0) 147 22 0) 147 23 0) 147 24 0) 147 25 0) := hShI1 _ u5 rfl rfl
  have u7 : hSh zs (hUp (hUp (hUp (hUp (hUp (hUp (hUp ph 147 19 0) 147 20 0) 147 22 0) 147 23 0) 147 24 0) 147 25 0) 147 26 0) := hShI1 _ u6 rfl rfl
  have u8 : hSh zs (hUp (hUp (hUp (hUp (hUp (hUp (hUp (hUp ph 147 19 0) 147 20 0) 147 22 0) 147 23 0) 147 24 0) 147 25 0) 147 26 0) 147 31 0) := hShI1 _ u7 rfl rfl
  have u9 : hSh zs (hUp (hUp (hUp (hUp (hUp (hUp (hUp (hUp (hUp ph 147 19 0) 147 20 0) 147 22 0) 147 23 0) 147 24 0) 147 25 0) 147 26 0) 147 31 0) 147 34 0) := hShI1 _ u8 rfl rfl
  have u10 : hSh zs (hUp (hUp (hUp (hUp (hUp (hUp (hUp (hUp (hUp (hUp ph 147 19 0) 147 20 0) 147 22 0) 147 23 0) 147 24 0) 147 25 0) 147 26 0) 147 31 0) 147 34 0) 147 28 0) := hShI1 _ u9 rfl rfl
  have rd0 : ∀ b j, hRd (hUp (hUp (hUp (hUp (hUp (hUp (hUp (hUp (hUp (hUp ph 147 19 0) 147 20 0) 147 22 0) 147 23 0) 147 24 0) 147 25 0) 147 26 0) 147 31 0) 147 34 0) 147 28 0) b j = if b = 147 ∧ j = 28 then 0 else if b = 147 ∧ j = 34 then 0 else if b = 147 ∧ j = 31 then 0 else if b = 147 ∧ j = 26 then 0 else if b = 147 ∧ j = 25 then 0 else if b = 147 ∧ j = 24 then 0 else if b = 147 ∧ j = 23 then 0 else if b = 147 ∧ j = 22 then 0 else if b = 147 ∧ j = 20 then 0 else if b = 147 ∧ j = 19 then 0 else hRd ph b j := fun b j => by rw [hRd_up u9 (a := 147) (k := 28) (x := 0) rfl (by decide), hRd_up u8 (a := 147) (k := 34) (x := 0) rfl (by decide), hRd_up u7 (a := 147) (k := 31) (x := 0) rfl (by decide), hRd_up u6 (a := 147) (k := 26) (x := 0) rfl (by decide), hRd_up u5 (a := 147) (k := 25) (x := 0) rfl (by decide), hRd_up u4 (a := 147) (k := 24) (x := 0) rfl (by decide), hRd_up u3 (a := 147) (k := 23) (x := 0) rfl (by decide), hRd_up u2 (a := 147) (k := 22) (x := 0) rfl (by decide), hRd_up u1 (a := 147) (k := 20) (x := 0) rfl (by decide), hRd_up hs (a := 147) (k := 19) (x := 0) rfl (by decide)]
  have f0 : hFM [19, 20, 22, 23, 24, 25, 26, 28, 31, 34] [] ph (hUp (hUp (hUp (hUp (hUp (hUp (hUp (hUp (hUp (hUp ph 147 19 0) 147 20 0) 147 22 0) 147 23 0) 147 24 0) 147 25 0) 147 26 0) 147 31 0) 147 34 0) 147 28 0) := (((((((((hFM_f hs rfl (by decide) (by decide)).trans (hFM_f u1 rfl (by decide) (by decide))).trans (hFM_f u2 rfl (by decide) (by decide))).trans (hFM_f u3 rfl (by decide) (by decide))).trans (hFM_f u4 rfl (by decide) (by decide))).trans (hFM_f u5 rfl (by decide) (by decide))).trans (hFM_f u6 rfl (by decide) (by decide))).trans (hFM_f u7 rfl (by decide) (by decide))).trans (hFM_f u8 rfl (by decide) (by decide))).trans (hFM_f u9 rfl (by decide) (by decide))
  have n0 : hMN zs (hUp (hUp (hUp (hUp (hUp (hUp (hUp (hUp (hUp (hUp ph 147 19 0) 147 20 0) 147 22 0) 147 23 0) 147 24 0) 147 25 0) 147 26 0) 147 31 0) 147 34 0) 147 28 0) ([], ([], [], 0, 0, 0, 0)) := ⟨u10, ⟨by rw [rd0]; rfl, by decide, trivial⟩, ⟨by rw [rd0]; rfl, by decide, trivial⟩, ⟨by rw [rd0]; rfl, by decide, fun i c hi => by simp at hi⟩, by rw [rd0]; rfl, by decide, by rw [rd0]; rfl, by rw [rd0]; rfl, by rw [rd0]; rfl, rfl⟩
  refine s187 n0 (by decide) (fun ph1 n1 f1 l1 => ?_)
  refine tKn ?_
  have fA : hFM [19, 20, 22, 23, 24, 25, 26, 28, 31, 34] [155] ph ph1 := (f0.mono (by decide) (by decide)).trans (f1.mono (by decide) (by decide))
  refine tK (l := xk_186) rfl rfl (fun _ _ _ _ _ => rfl) ?_
  refine tSt (l := xk_186) rfl rfl (fun _ _ _ _ _ => rfl) (Nat.le_of_ble_eq_true rfl) ?_
  have outer : ∀ (m v : Nat) (phi : xH) (o3 : Option xV), v + m = 8 → hSh zs phi → hFM [] [155] ph1 phi → (∀ n, n < v → (n : Int) ≠ w → ∀ k, k < 25 → hRd phi 155 (25 * n + k) = hRd ph 148 (25 * n + k)) → (∀ n k, k < 25 → (v ≤ n ∨ (n : Int) = w) → hRd phi 155 (25 * n + k) = hRd ph1 155 (25 * n + k)) → xT (d + 8) 186 56 (xlo [some (.inr (.inl (some 147))), some (.inl w), some (.inl (v : Int)), o3]) [] phi g Q := by
    intro m
    induction m with
    | zero =>
      intro v phi o3 hvm hs hf hcp hold
      refine tK (l := xk_186) rfl rfl (fun _ _ _ _ _ => rfl) ?_
      refine tK (l := xk_186) rfl rfl (fun _ _ _ _ _ => rfl) ?_
      refine tIc_ge (l := xk_186) (pc' := 112) rfl rfl rfl (fun hc => ?_) (fun hc => ?_)
      · exfalso; omega
      · refine tK (l := xk_186) rfl rfl (fun _ _ _ _ _ => rfl) ?_
        refine tK (l := xk_186) rfl rfl (fun _ _ _ _ _ => rfl) ?_
        refine tK (l := xk_186) rfl rfl (hPutV hs rfl rfl (by decide) (by decide) rfl) ?_
        refine tK (l := xk_186) rfl rfl (fun _ _ _ _ _ => rfl) ?_
        refine tK (l := xk_186) rfl rfl (fun _ _ _ _ _ => rfl) ?_
        refine tK (l := xk_186) rfl rfl (fun _ _ _ _ _ => rfl) ?_
        refine tK (l := xk_186) rfl rfl (fun _ _ _ _ _ => rfl) ?_
        refine tK (l := xk_186) rfl rfl (fun _ _ _ _ _ => rfl) ?_
        refine tCa (l := xk_186) rfl rfl (hInvV (c := 10) (hShI1 _ hs rfl rfl) rfl rfl rfl rfl rfl (Nat.le_of_ble_eq_true rfl) (Nat.le_of_ble_eq_true rfl)) ?_
        have s2 : hSh zs (hUp phi 147 43 0) := hShI1 _ hs rfl rfl
        have f2 : hFM [43] [] phi (hUp phi 147 43 0) := hFM_f hs rfl (by decide) (by decide)
        refine s189 (m := 0) (fo := 0) (nx := 0) s2 (by rw [hRd_up hs rfl (by decide), if_pos ⟨rfl, rfl⟩]; rfl) (by decide) (fun ph3 hs3 f3 rd3 => ?_)
        refine tKn ?_
        have fB : hFM [43] [155] ph1 (hUp phi 147 43 0) := (hf.mono (by decide) (by decide)).trans (f2.mono (by decide) (by decide))
        have fC : hFM [43] [155, 160, 161, 162, 163, 164, 165, 166] ph1 ph3 := (fB.mono (by decide) (by decide)).trans (f3.mono (by decide) (by decide))
        have fD : hFM mF mA ph ph3 := fA.big.trans fC.big
        have e55 : ∀ j, hRd ph3 155 j = hRd phi 155 j := fun j => by rw [f3.at (by decide), f2.at (by decide)]
        have hmn : hMN zs ph3 (rs0 f w) := by
          refine (n1.scs (sc2 := [sc0 f w]) hs3 fC (by rw [fC.fl (by decide)]; exact n1.2.1.1) (show 1 ≤ 41 by decide) ⟨fun n hn => ?_, trivial⟩)
          show hMv ph3 155 (250 * 0 + 25 * n) (sc0 f w n)
          rw [show 250 * 0 + 25 * n = 25 * n by omega]
          unfold sc0
          by_cases hc : n < 8 ∧ (n : Int) ≠ w
          · rw [if_pos hc]
            have hv := hsv n hc.1
            refine ⟨?_, fun s hs => ?_⟩
            · have := hcp n (by omega) hc.2 0 (by decide)
              rw [e55]
              exact this.trans hv.1
            · obtain ⟨w1, w2⟩ := hv.2 s hs
              refine ⟨w1, fun i c hi => ?_⟩
              have hil := (List.getElem?_eq_some_iff.mp hi).1
              rw [e55, show 25 * n + 1 + i = 25 * n + (1 + i) by omega, hcp n (by omega) hc.2 (1 + i) (by omega), show 25 * n + (1 + i) = 25 * n + 1 + i by omega]
              exact w2 i c hi
          · rw [if_neg hc]
            refine hMv0 ?_
            have hz := (n1.2.1.2.2.1 n hn).1
            have hz2 : hRd ph1 155 (25 * n) = -1 := by rw [show (250 * ([] : List xSc).length + 25 * n) = 25 * n by simp] at hz; exact hz
            rw [e55]
            have := hold n 0 (by decide) (by omega)
            exact this.trans hz2
        have hmc : hMC zs ph3 (fs0 0 t) (rs0 f w) := ⟨hmn, List.cons_ne_nil _ _, ⟨trivial, Or.inl rfl, fun _ => ⟨fun i c hi => ?_, fun _ => ⟨?_, hl⟩, fun q => absurd q (show ¬ 0 < 0 by decide)⟩, by rw [rd3]; rfl, by rw [rd3]; rfl, by rw [rd3]; rfl, fun q => absurd q (show ¬ 0 = 7 by decide), fun q => absurd q (show ¬ 0 = 5 by decide)⟩, by rw [rd3]; rfl, (show 1 ≤ 40 by decide), ⟨?_, Nat.zero_le _, fun k x hx => by simp [fs0, cP] at hx⟩, ⟨?_, ?_⟩, rfl⟩
        rotate_left
        · show hRd ph3 152 (frO 0 + i) = c
          rw [show frO 0 + i = i by unfold frO; rw [if_pos rfl]; omega, fC.at (by decide), fA.at (by decide)]
          exact hsg i c hi
        · rw [fC.fl (by decide), fA.fl (by decide)]; exact h9
        · rw [fC.fl (by decide), f1.fl (by decide), rd0]; rfl
        · rw [fC.fl (by decide), f1.fl (by decide), rd0]; rfl
        · rw [fC.fl (by decide), f1.fl (by decide), rd0]; rfl
        obtain ⟨⟨n9, hrun⟩, hfin⟩ := hD
        have hokc : okC (RU (fs0 0 t) (rs0 f w)) := by
          refine ⟨fun q hq => ?_, fun q hq n v hv => ?_, fun q hq => by simp [RU, rs0] at hq, fun q hq => by simp [RU, rs0] at hq⟩
          · have e : q = (0, 0, 0, 0, 0, t) := List.mem_singleton.mp hq
            rw [e]; exact ⟨hokt, hl⟩
          · have e : q = sc0 f w := List.mem_singleton.mp hq
            rw [e] at hv
            unfold sc0 at hv
            split at hv
            · rename_i h8; exact hokv n h8.1 v hv
            · cases hv
        exact s186_loop hfin hmc hokc hrun (fun ph4 t4 f4 => hQ ph4 t4 (fD.trans f4))
    | succ m ih =>
      intro v phi o3 hvm hs hf hcp hold
      by_cases hvw : (v : Int) = w
      · refine tK (l := xk_186) rfl rfl (fun _ _ _ _ _ => rfl) ?_
        refine tK (l := xk_186) rfl rfl (fun _ _ _ _ _ => rfl) ?_
        refine tIc_ge (l := xk_186) (pc' := 112) rfl rfl rfl (fun hc => ?_) (fun hc => ?_)
        · refine tK (l := xk_186) rfl rfl (fun _ _ _ _ _ => rfl) ?_
          refine tSt (l := xk_186) rfl rfl (fun _ _ _ _ _ => rfl) (Nat.le_of_ble_eq_true rfl) ?_
          refine tK (l := xk_186) rfl rfl (fun _ _ _ _ _ => rfl) ?_
          refine tK (l := xk_186) rfl rfl (fun _ _ _ _ _ => rfl) ?_
          refine tIc_ge (l := xk_186) (pc' := 106) rfl rfl rfl (fun hc => ?_) (fun hc => ?_)
          · refine tK (l := xk_186) rfl rfl (fun _ _ _ _ _ => rfl) ?_
            refine tK (l := xk_186) rfl rfl (fun _ _ _ _ _ => rfl) ?_
            refine tIc_eq (l := xk_186) (pc' := 106) rfl rfl rfl (fun hc => ?_) (fun hc => ?_)
            · refine tSt (l := xk_186) rfl rfl (hIinc rfl (Nat.le_of_ble_eq_true rfl) ⟨by omega, by omega⟩) (Nat.le_of_ble_eq_true rfl) ?_
              refine tK (l := xk_186) rfl rfl (fun _ _ _ _ _ => rfl) ?_
              refine ih (v + 1) phi _ (by omega) hs hf (fun n hn hne k hk => hcp n (by omega) hne k hk) (fun n k hk hn => hold n k hk (by omega))
            · exact absurd hvw hc
          · exact absurd hc (by decide)
        · exfalso; omega
      · have inner : ∀ (k i : Nat) (phx : xH), i + k = 25 → hSh zs phx → hFM [] [155] ph1 phx → (∀ n, n < v → (n : Int) ≠ w → ∀ k, k < 25 → hRd phx 155 (25 * n + k) = hRd ph 148 (25 * n + k)) → (∀ k, k < i → hRd phx 155 (25 * v + k) = hRd ph 148 (25 * v + k)) → (∀ n k, k < 25 → (v < n ∨ (n : Int) = w) → hRd phx 155 (25 * n + k) = hRd ph1 155 (25 * n + k)) → xT (d + 8) 186 64 (xlo [some (.inr (.inl (some 147))), some (.inl w), some (.inl (v : Int)), some (.inl (i : Int))]) [] phx g Q := by
          intro k
          induction k with
          | zero =>
            intro i phx hik hs hf hcp hnew hold
            refine tK (l := xk_186) rfl rfl (fun _ _ _ _ _ => rfl) ?_
            refine tK (l := xk_186) rfl rfl (fun _ _ _ _ _ => rfl) ?_
            refine tIc_ge (l := xk_186) (pc' := 106) rfl rfl rfl (fun hc => ?_) (fun hc => ?_)
            · exfalso; omega
            · refine tSt (l := xk_186) rfl rfl (hIinc rfl (Nat.le_of_ble_eq_true rfl) ⟨by omega, by omega⟩) (Nat.le_of_ble_eq_true rfl) ?_
              refine tK (l := xk_186) rfl rfl (fun _ _ _ _ _ => rfl) ?_
              refine ih (v + 1) phx _ (by omega) hs hf (fun n hn hne k hk => ?_) (fun n k hk hn => hold n k hk (by omega))
              by_cases e : n = v
              · subst e; exact hnew k (by omega)
              · exact hcp n (by omega) hne k hk
          | succ k ih2 =>
            intro i phx hik hs hf hcp hnew hold
            have e48 : hRd phx 148 (25 * v + i) = hRd ph 148 (25 * v + i) := by rw [hf.at (by decide), fA.at (by decide)]
            refine tK (l := xk_186) rfl rfl (fun _ _ _ _ _ => rfl) ?_
            refine tK (l := xk_186) rfl rfl (fun _ _ _ _ _ => rfl) ?_
            refine tIc_ge (l := xk_186) (pc' := 106) rfl rfl rfl (fun hc => ?_) (fun hc => ?_)
            · refine tK (l := xk_186) rfl rfl (fun _ _ _ _ _ => rfl) ?_
              refine tK (l := xk_186) rfl rfl (fun _ _ _ _ _ => rfl) ?_
              refine tIc_eq (l := xk_186) (pc' := 106) rfl rfl rfl (fun hc => ?_) (fun hc => ?_)
              · exact absurd hc hvw
              · refine tK (l := xk_186) rfl rfl (fun _ _ _ _ _ => rfl) ?_
                refine tK (l := xk_186) rfl rfl (hGetR (o := some 155) hs rfl rfl rfl (by decide) (by decide) rfl) ?_
                refine tK (l := xk_186) rfl rfl (fun _ _ _ _ _ => rfl) ?_
                refine tK (l := xk_186) rfl rfl (fun _ _ _ _ _ => rfl) ?_
                refine tCa (l := xk_186) rfl rfl (hInvS rfl rfl rfl rfl (Nat.le_of_ble_eq_true rfl) (Nat.le_of_ble_eq_true rfl)) ?_
                refine s188 (k := 0) (n := v) (by omega) (by omega) ?_
                refine tKv ?_
                refine tK (l := xk_186) rfl rfl (fun _ _ _ _ _ => rfl) ?_
                refine tK (l := xk_186) rfl rfl (hAdd ⟨by omega, by omega⟩) ?_
                rw [show ((250 * 0 + 25 * v : Nat) : Int) + (i : Int) = ((25 * v + i : Nat) : Int) by omega]
                refine tK (l := xk_186) rfl rfl (fun _ _ _ _ _ => rfl) ?_
                refine tK (l := xk_186) rfl rfl (hGetR (o := some 148) hs rfl rfl rfl (by decide) (by decide) rfl) ?_
                refine tK (l := xk_186) rfl rfl (fun _ _ _ _ _ => rfl) ?_
                refine tK (l := xk_186) rfl rfl (fun _ _ _ _ _ => rfl) ?_
                refine tK (l := xk_186) rfl rfl (fun _ _ _ _ _ => rfl) ?_
                refine tK (l := xk_186) rfl rfl (hMul ⟨by omega, by omega⟩) ?_
                refine tK (l := xk_186) rfl rfl (hAdd ⟨by omega, by omega⟩) ?_
                refine tK (l := xk_186) rfl rfl (fun _ _ _ _ _ => rfl) ?_
                refine tK (l := xk_186) rfl rfl (hAdd ⟨by omega, by omega⟩) ?_
                rw [show (0 : Int) + 25 * (v : Int) + (i : Int) = ((25 * v + i : Nat) : Int) by omega]
                first | refine tK (l := xk_186) rfl rfl (hIaldN hs rfl rfl (by omega)) ?_ | refine tK (l := xk_186) rfl rfl (hIald hs rfl (by omega) (by omega)) ?_
                rw [e48]
                first | refine tK (l := xk_186) rfl rfl (hIastN hs rfl rfl (by omega)) ?_ | refine tK (l := xk_186) rfl rfl (hIast hs rfl (by omega) (by omega)) ?_
                refine tSt (l := xk_186) rfl rfl (hIinc rfl (Nat.le_of_ble_eq_true rfl) ⟨by omega, by omega⟩) (Nat.le_of_ble_eq_true rfl) ?_
                refine tK (l := xk_186) rfl rfl (fun _ _ _ _ _ => rfl) ?_
                have rd := hRd_up (x := hRd ph 148 (25 * v + i)) hs (show hKi (hTg 155) (25 * v + i) = true from rfl) (by omega)
                refine ih2 (i + 1) (hUp phx 155 (25 * v + i) (hRd ph 148 (25 * v + i))) (by omega) (hShI1 _ hs rfl rfl) (hf.trans (hFM_a hs rfl (by omega) (by decide) (by decide))) (fun n hn hne k hk => by rw [rd, if_neg (by omega)]; exact hcp n hn hne k hk) (fun k hk => ?_) (fun n k hk hn => by rw [rd, if_neg (by omega)]; exact hold n k hk hn)
                rw [rd]
                by_cases e : k = i
                · rw [if_pos ⟨rfl, by rw [e]⟩, e]
                · rw [if_neg (by omega)]; exact hnew k (by omega)
            · exfalso; omega
        refine tK (l := xk_186) rfl rfl (fun _ _ _ _ _ => rfl) ?_
        refine tK (l := xk_186) rfl rfl (fun _ _ _ _ _ => rfl) ?_
        refine tIc_ge (l := xk_186) (pc' := 112) rfl rfl rfl (fun hc => ?_) (fun hc => ?_)
        · refine tK (l := xk_186) rfl rfl (fun _ _ _ _ _ => rfl) ?_
          refine tSt (l := xk_186) rfl rfl (fun _ _ _ _ _ => rfl) (Nat.le_of_ble_eq_true rfl) ?_
          exact inner 25 0 phi (by omega) hs hf hcp (fun k hk => absurd hk (by omega)) (fun n k hk hn => hold n k hk (by omega))
        · exfalso; omega
  exact outer 8 0 ph1 none (by omega) n1.1 hFM.refl (fun n hn => absurd hn (by omega)) (fun _ _ _ _ => rfl)
end MRS
