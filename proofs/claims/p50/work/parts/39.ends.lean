/-! ===== ByText: what is open comes to its end ===== -/
section BTE
variable {d : Nat} {ph : xH} {zs : List xV} {g : Nat} {Q : xR → Prop} {f gq : Fm} {gs : List Fm} {f0 : xSc} {sc : List xSc} {r2 : List (List Int) × List Int × Nat × Nat × Nat × Nat}
theorem s10 (hb : hBT zs ph (f :: gq :: gs) (f0 :: sc, r2)) (h0 : f.1 = 0) (hQ : ∀ ph2, hBT zs ph2 (gq :: gs) (sc, r2) → hFd bT ph ph2 → Q (.inl (some (.inl 1)), ph2, g)) : xTC (d + 1) 10 [.inr (.inl (some 57))] ph g Q := by
  obtain ⟨b1, b2, b3, b4, b5, b6, b7, b8, b9, b10⟩ := id hb
  have hs := b1.1.1
  obtain ⟨z1, z2, z3, z4, z5⟩ := hSz68
  have c4 := (b3.2.2.2 (List.cons_ne_nil _ _)).2
  have c0 := (b3.2.2.2 (List.cons_ne_nil _ _)).1
  simp only [List.length_cons, Nat.add_sub_cancel] at c4 c0 b9 b10
  have e11 : hRd ph 57 11 - 1 = (gs.length : Int) := by omega
  have ecp : (cP (f :: gq :: gs)).length = (cP (gq :: gs)).length + 1 := by simp only [cP]; rw [if_pos (c := f.1 = 0 ∧ gq :: gs ≠ []) ⟨h0, List.cons_ne_nil _ _⟩]; rfl
  refine tEn (ls := [some (.inr (.inl (some 57))), none]) (fun k => by match k with | 0 => rfl | 1 => rfl | k + 2 => rfl) ?_
  refine tK (l := xk_10) rfl rfl (fun _ _ _ _ _ => rfl) ?_
  refine tK (l := xk_10) rfl rfl (hGetI hs rfl rfl rfl (by decide) (by decide)) ?_
  refine tK (l := xk_10) rfl rfl (fun _ _ _ _ _ => rfl) ?_
  refine tK (l := xk_10) rfl rfl (hSub ⟨by omega, by omega⟩) ?_
  rw [e11]
  refine tSt (l := xk_10) rfl rfl (fun _ _ _ _ _ => rfl) (Nat.le_of_ble_eq_true rfl) ?_
  refine tK (l := xk_10) rfl rfl (fun _ _ _ _ _ => rfl) ?_
  refine tIf_lt (l := xk_10) (pc' := 20) rfl rfl rfl (fun hc => ?_) (fun hc => ?_)
  · exfalso; omega
  · refine tK (l := xk_10) rfl rfl (fun _ _ _ _ _ => rfl) ?_
    refine tK (l := xk_10) rfl rfl (fun _ _ _ _ _ => rfl) ?_
    refine tK (l := xk_10) rfl rfl (hGetR (o := some 70) hs rfl rfl rfl (by decide) (by decide) rfl) ?_
    refine tK (l := xk_10) rfl rfl (hAlen hs (by decide) (by decide)) ?_
    refine tIc_lt (l := xk_10) (pc' := 22) rfl rfl rfl (fun hc => ?_) (fun hc => ?_)
    · refine tK (l := xk_10) rfl rfl (fun _ _ _ _ _ => rfl) ?_
      refine tK (l := xk_10) rfl rfl (hGetR (o := some 49) hs rfl rfl rfl (by decide) (by decide) rfl) ?_
      refine tCa (l := xk_10) rfl rfl (hInvV (c := 5) hs rfl rfl rfl rfl rfl (Nat.le_of_ble_eq_true rfl) (Nat.le_of_ble_eq_true rfl)) ?_
      refine s46 b1.1 (fun ph1 q1 f1 => ?_)
      refine tKn ?_
      have hs1 := q1.1
      have e4 : hRd ph1 57 4 = ((cP (gq :: gs)).length : Int) + 1 := by rw [f1.at (by decide), b6, ecp]; push_cast; rfl
      have e4b : ((cP (gq :: gs)).length : Int) + 1 - 1 = ((cP (gq :: gs)).length : Int) := by omega
      have u1 : hSh zs (hUp ph1 57 4 ((cP (gq :: gs)).length : Int)) := hShI1 _ hs1 rfl rfl
      have u2 : hSh zs (hUp (hUp ph1 57 4 ((cP (gq :: gs)).length : Int)) 57 5 (cX (gq :: gs) : Int)) := hShI1 _ u1 rfl rfl
      have u3 : hSh zs (hUp (hUp (hUp ph1 57 4 ((cP (gq :: gs)).length : Int)) 57 5 (cX (gq :: gs) : Int)) 57 11 (gs.length : Int)) := hShI1 _ u2 rfl rfl
      have v70 : hRd (hUp ph1 57 4 ((cP (gq :: gs)).length : Int)) 70 gs.length = (cX (gq :: gs) : Int) := by rw [hRd_up hs1 rfl (by decide), if_neg (by omega), f1.at (by decide)]; exact (c4).1 h0
      refine tK (l := xk_10) rfl rfl (fun _ _ _ _ _ => rfl) ?_
      refine tK (l := xk_10) rfl rfl (fun _ _ _ _ _ => rfl) ?_
      refine tK (l := xk_10) rfl rfl (hGetI hs1 rfl rfl rfl (by decide) (by decide)) ?_
      rw [e4]
      refine tK (l := xk_10) rfl rfl (fun _ _ _ _ _ => rfl) ?_
      refine tK (l := xk_10) rfl rfl (hSub ⟨by omega, by omega⟩) ?_
      rw [e4b]
      refine tK (l := xk_10) rfl rfl (hPutV hs1 rfl rfl (by decide) (by decide) rfl) ?_
      refine tK (l := xk_10) rfl rfl (fun _ _ _ _ _ => rfl) ?_
      refine tK (l := xk_10) rfl rfl (fun _ _ _ _ _ => rfl) ?_
      refine tK (l := xk_10) rfl rfl (hGetR (o := some 70) (hShI1 _ hs1 rfl rfl) rfl rfl rfl (by decide) (by decide) rfl) ?_
      refine tK (l := xk_10) rfl rfl (fun _ _ _ _ _ => rfl) ?_
      first | refine tK (l := xk_10) rfl rfl (hIaldN (hShI1 _ hs1 rfl rfl) rfl rfl (by omega)) ?_ | refine tK (l := xk_10) rfl rfl (hIald (hShI1 _ hs1 rfl rfl) rfl (by omega) (by omega)) ?_
      rw [v70]
      refine tK (l := xk_10) rfl rfl (hPutV (hShI1 _ hs1 rfl rfl) rfl rfl (by decide) (by decide) rfl) ?_
      refine tK (l := xk_10) rfl rfl (fun _ _ _ _ _ => rfl) ?_
      refine tK (l := xk_10) rfl rfl (fun _ _ _ _ _ => rfl) ?_
      refine tK (l := xk_10) rfl rfl (hPutV (hShI1 _ (hShI1 _ hs1 rfl rfl) rfl rfl) rfl rfl (by decide) (by decide) rfl) ?_
      refine tK (l := xk_10) rfl rfl (fun _ _ _ _ _ => rfl) ?_
      refine tRt (l := xk_10) rfl rfl (fun _ _ _ _ _ => rfl) ?_
      have rd : ∀ b j, hRd (hUp (hUp (hUp ph1 57 4 ((cP (gq :: gs)).length : Int)) 57 5 (cX (gq :: gs) : Int)) 57 11 (gs.length : Int)) b j = if b = 57 ∧ j = 11 then (gs.length : Int) else if b = 57 ∧ j = 5 then (cX (gq :: gs) : Int) else if b = 57 ∧ j = 4 then ((cP (gq :: gs)).length : Int) else hRd ph1 b j := fun b j => by rw [hRd_up u2 (a := 57) (k := 11) (x := (gs.length : Int)) rfl (by decide), hRd_up u1 (a := 57) (k := 5) (x := (cX (gq :: gs) : Int)) rfl (by decide), hRd_up hs1 (a := 57) (k := 4) (x := ((cP (gq :: gs)).length : Int)) rfl (by decide)]
      have f2 : hFr [57] ph1 (hUp (hUp (hUp ph1 57 4 ((cP (gq :: gs)).length : Int)) 57 5 (cX (gq :: gs) : Int)) 57 11 (gs.length : Int)) := ((hUp_fr (S := [57]) (a := 57) (k := 4) (x := ((cP (gq :: gs)).length : Int)) hs1 rfl (by decide) (by simp)).trans (hUp_fr (S := [57]) (a := 57) (k := 5) (x := (cX (gq :: gs) : Int)) u1 rfl (by decide) (by simp))).trans (hUp_fr (S := [57]) (a := 57) (k := 11) (x := (gs.length : Int)) u2 rfl (by decide) (by simp))
      have fA : hFr [49, 57] ph (hUp (hUp (hUp ph1 57 4 ((cP (gq :: gs)).length : Int)) 57 5 (cX (gq :: gs) : Int)) 57 11 (gs.length : Int)) := (f1.mono (by decide)).trans (f2.mono (by decide))
      refine hQ _ ⟨(hRN.pop b1 q1 f1).fr (hShI1 _ (hShI1 _ (hShI1 _ hs1 rfl rfl) rfl rfl) rfl rfl) f2 (by decide), List.cons_ne_nil _ _, b3.1.eq (fun a k q1 q2 _ => fA.at (by simp only [List.mem_cons, List.not_mem_nil, or_false]; omega) k) (fun l _ => fA.to (by decide) (by decide)) (fun r _ => fA.to (by decide) (by decide)), by simp only [List.length_cons] at b4; rw [nsc_s (Or.inl h0)] at b4; simp only; omega, fA.tw (by decide) b5, ?_, by omega, ?_, ?_, by simp only [List.length_cons] at b10 ⊢; omega⟩ (fA.bt (by decide))
      · rw [rd, if_neg (by decide), if_neg (by decide), if_pos ⟨rfl, rfl⟩]
      · rw [rd, if_neg (by decide), if_pos ⟨rfl, rfl⟩]
      · rw [rd, if_pos ⟨rfl, rfl⟩]; simp
    · exfalso; omega
theorem hRN.fr2 {S : List Nat} {ph2 : xH} {s : RS} (h : hRN zs ph s) (hs : hSh zs ph2) (hf : hFr S ph ph2) (hS : ∀ a ∈ S, a ∉ [43, 44, 46, 47, 49, 51, 52, 54, 55] := by decide) : hRN zs ph2 s := h.fr hs hf hS
theorem s13a {m p r0 b : Nat} {c2 : Int} {mt : List Int} (hr : hRN zs ph (sc, r2)) (hm : m < 40) (h72 : hRd ph 72 m = (p : Int)) (h71 : hRd ph 71 m = (r0 : Int)) (h70 : hRd ph 70 m = (b : Int)) (hr0 : r0 < sc.length * 10) (hto : hTo ph 50 r0 = some mt) (hc9 : mt[p + 1]? = some c2) (hl : sc.length ≤ 40) (hQ : ∀ ph2, hRN zs ph2 (psc (p + 1) c2 :: sc, r2) → hFr [49, 51, 52, 57, 72] ph ph2 → (∀ r, r < sc.length * 10 → hTo ph2 50 r = hTo ph 50 r) → (∀ k, k ≠ m → hRd ph2 72 k = hRd ph 72 k) → hRd ph2 72 m = ((p + 1 : Nat) : Int) → hRd ph2 57 5 = (b : Int) → (∀ k, k ≠ 5 → hRd ph2 57 k = hRd ph 57 k) → Q (.inl (some (.inl 1)), ph2, g)) : xTC (d + 3) 13 [.inr (.inl (some 57)), .inl (m : Int)] ph g Q := by
  have hs := hr.1.1
  obtain ⟨z1, z2, z3, z4, z5⟩ := hSz68
  have hz := hRw50
  have hr9 := hr.1.2.2.2.1
  simp only at hr9
  have s1 : hSh zs (hUp ph 72 m ((p : Int) + 1)) := hShI1 _ hs rfl rfl
  have f1 : hFr [72] ph (hUp ph 72 m ((p : Int) + 1)) := hUp_fr hs rfl (by omega) (by simp)
  have rd1 := hRd_up (x := (p : Int) + 1) hs (show hKi (hTg 72) m = true from rfl) (by omega)
  have v72 : hRd (hUp ph 72 m ((p : Int) + 1)) 72 m = (p : Int) + 1 := by rw [rd1, if_pos ⟨rfl, rfl⟩]
  have v71 : hRd (hUp ph 72 m ((p : Int) + 1)) 71 m = (r0 : Int) := by rw [rd1, if_neg (by omega)]; exact h71
  have v70 : hRd (hUp ph 72 m ((p : Int) + 1)) 70 m = (b : Int) := by rw [rd1, if_neg (by omega)]; exact h70
  have hml := hTo_len hr.1.2.1 (show r0 < hRw 50 by omega) hto
  have hw24 := hWd50
  have s2 : hSh zs (hUp (hUp ph 72 m ((p : Int) + 1)) 57 5 (b : Int)) := hShI1 _ s1 rfl rfl
  have f12 : hFr [57, 72] ph (hUp (hUp ph 72 m ((p : Int) + 1)) 57 5 (b : Int)) := (f1.mono (by decide)).trans (hUp_fr s1 rfl (by decide) (by simp))
  have rd2 := hRd_up (x := (b : Int)) s1 (show hKi (hTg 57) 5 = true from rfl) (by decide)
  have w72 : hRd (hUp (hUp ph 72 m ((p : Int) + 1)) 57 5 (b : Int)) 72 m = ((p + 1 : Nat) : Int) := by rw [rd2, if_neg (by omega)]; exact v72
  have w71 : hRd (hUp (hUp ph 72 m ((p : Int) + 1)) 57 5 (b : Int)) 71 m = (r0 : Int) := by rw [rd2, if_neg (by omega)]; exact v71
  have hcl := (List.getElem?_eq_some_iff.mp hc9).1
  refine tEn (ls := [some (.inr (.inl (some 57))), some (.inl (m : Int))]) (fun k => by match k with | 0 => rfl | 1 => rfl | k + 2 => rfl) ?_
  refine tK (l := xk_13) rfl rfl (fun _ _ _ _ _ => rfl) ?_
  refine tIf_lt (l := xk_13) (pc' := 31) rfl rfl rfl (fun hc => ?_) (fun hc => ?_)
  · exfalso; omega
  · refine tK (l := xk_13) rfl rfl (fun _ _ _ _ _ => rfl) ?_
    refine tK (l := xk_13) rfl rfl (fun _ _ _ _ _ => rfl) ?_
    refine tK (l := xk_13) rfl rfl (hGetR (o := some 72) hs rfl rfl rfl (by decide) (by decide) rfl) ?_
    refine tK (l := xk_13) rfl rfl (hAlen hs (by decide) (by decide)) ?_
    refine tIc_ge (l := xk_13) (pc' := 31) rfl rfl rfl (fun hc => ?_) (fun hc => ?_)
    · refine tK (l := xk_13) rfl rfl (fun _ _ _ _ _ => rfl) ?_
      refine tK (l := xk_13) rfl rfl (fun _ _ _ _ _ => rfl) ?_
      refine tK (l := xk_13) rfl rfl (hGetR (o := some 71) hs rfl rfl rfl (by decide) (by decide) rfl) ?_
      refine tK (l := xk_13) rfl rfl (hAlen hs (by decide) (by decide)) ?_
      refine tIc_ge (l := xk_13) (pc' := 31) rfl rfl rfl (fun hc => ?_) (fun hc => ?_)
      · refine tK (l := xk_13) rfl rfl (fun _ _ _ _ _ => rfl) ?_
        refine tK (l := xk_13) rfl rfl (fun _ _ _ _ _ => rfl) ?_
        refine tK (l := xk_13) rfl rfl (hGetR (o := some 70) hs rfl rfl rfl (by decide) (by decide) rfl) ?_
        refine tK (l := xk_13) rfl rfl (hAlen hs (by decide) (by decide)) ?_
        refine tIc_lt (l := xk_13) (pc' := 33) rfl rfl rfl (fun hc => ?_) (fun hc => ?_)
        · refine tK (l := xk_13) rfl rfl (fun _ _ _ _ _ => rfl) ?_
          refine tK (l := xk_13) rfl rfl (hGetR (o := some 72) hs rfl rfl rfl (by decide) (by decide) rfl) ?_
          refine tK (l := xk_13) rfl rfl (fun _ _ _ _ _ => rfl) ?_
          refine tK (l := xk_13) rfl rfl (fun _ _ _ _ _ => rfl) ?_
          first | refine tK (l := xk_13) rfl rfl (hIaldN hs rfl rfl (by omega)) ?_ | refine tK (l := xk_13) rfl rfl (hIald hs rfl (by omega) (by omega)) ?_
          rw [h72]
          refine tK (l := xk_13) rfl rfl (fun _ _ _ _ _ => rfl) ?_
          refine tK (l := xk_13) rfl rfl (hAdd ⟨by omega, by omega⟩) ?_
          first | refine tK (l := xk_13) rfl rfl (hIastN hs rfl rfl (by omega)) ?_ | refine tK (l := xk_13) rfl rfl (hIast hs rfl (by omega) (by omega)) ?_
          refine tK (l := xk_13) rfl rfl (fun _ _ _ _ _ => rfl) ?_
          refine tK (l := xk_13) rfl rfl (hGetR (o := some 72) (hShI1 _ hs rfl rfl) rfl rfl rfl (by decide) (by decide) rfl) ?_
          refine tK (l := xk_13) rfl rfl (fun _ _ _ _ _ => rfl) ?_
          first | refine tK (l := xk_13) rfl rfl (hIaldN (hShI1 _ hs rfl rfl) rfl rfl (by omega)) ?_ | refine tK (l := xk_13) rfl rfl (hIald (hShI1 _ hs rfl rfl) rfl (by omega) (by omega)) ?_
          rw [v72]
          refine tK (l := xk_13) rfl rfl (fun _ _ _ _ _ => rfl) ?_
          refine tK (l := xk_13) rfl rfl (hGetR (o := some 49) (hShI1 _ hs rfl rfl) rfl rfl rfl (by decide) (by decide) rfl) ?_
          refine tK (l := xk_13) rfl rfl (hGetR (o := some 50) (hShI1 _ hs rfl rfl) rfl rfl rfl (by decide) (by decide) rfl) ?_
          refine tK (l := xk_13) rfl rfl (fun _ _ _ _ _ => rfl) ?_
          refine tK (l := xk_13) rfl rfl (hGetR (o := some 71) (hShI1 _ hs rfl rfl) rfl rfl rfl (by decide) (by decide) rfl) ?_
          refine tK (l := xk_13) rfl rfl (fun _ _ _ _ _ => rfl) ?_
          first | refine tK (l := xk_13) rfl rfl (hIaldN (hShI1 _ hs rfl rfl) rfl rfl (by omega)) ?_ | refine tK (l := xk_13) rfl rfl (hIald (hShI1 _ hs rfl rfl) rfl (by omega) (by omega)) ?_
          rw [v71]
          refine tCa (l := xk_13) rfl rfl (hInvV (c := 8) (hShI1 _ hs rfl rfl) rfl rfl rfl rfl rfl (Nat.le_of_ble_eq_true rfl) (Nat.le_of_ble_eq_true rfl)) ?_
          refine a75 s1 rfl (f1.tw (by decide) hr.1.2.1) (by omega) ((f1.to (by decide) (by decide)).trans hto) ?_
          refine tKv ?_
          simp only [hLo]
          refine tIc_lt (l := xk_13) (pc' := 70) rfl rfl rfl (fun hc => ?_) (fun hc => ?_)
          · refine tK (l := xk_13) rfl rfl (fun _ _ _ _ _ => rfl) ?_
            refine tK (l := xk_13) rfl rfl (fun _ _ _ _ _ => rfl) ?_
            refine tK (l := xk_13) rfl rfl (hGetR (o := some 70) s1 rfl rfl rfl (by decide) (by decide) rfl) ?_
            refine tK (l := xk_13) rfl rfl (fun _ _ _ _ _ => rfl) ?_
            first | refine tK (l := xk_13) rfl rfl (hIaldN s1 rfl rfl (by omega)) ?_ | refine tK (l := xk_13) rfl rfl (hIald s1 rfl (by omega) (by omega)) ?_
            rw [v70]
            refine tK (l := xk_13) rfl rfl (hPutV s1 rfl rfl (by decide) (by decide) rfl) ?_
            refine tK (l := xk_13) rfl rfl (fun _ _ _ _ _ => rfl) ?_
            refine tK (l := xk_13) rfl rfl (hGetR (o := some 49) (hShI1 _ s1 rfl rfl) rfl rfl rfl (by decide) (by decide) rfl) ?_
            refine tK (l := xk_13) rfl rfl (fun _ _ _ _ _ => rfl) ?_
            refine tK (l := xk_13) rfl rfl (hGetR (o := some 71) (hShI1 _ s1 rfl rfl) rfl rfl rfl (by decide) (by decide) rfl) ?_
            refine tK (l := xk_13) rfl rfl (fun _ _ _ _ _ => rfl) ?_
            first | refine tK (l := xk_13) rfl rfl (hIaldN (hShI1 _ s1 rfl rfl) rfl rfl (by omega)) ?_ | refine tK (l := xk_13) rfl rfl (hIald (hShI1 _ s1 rfl rfl) rfl (by omega) (by omega)) ?_
            rw [w71]
            refine tK (l := xk_13) rfl rfl (fun _ _ _ _ _ => rfl) ?_
            refine tK (l := xk_13) rfl rfl (hGetR (o := some 72) (hShI1 _ s1 rfl rfl) rfl rfl rfl (by decide) (by decide) rfl) ?_
            refine tK (l := xk_13) rfl rfl (fun _ _ _ _ _ => rfl) ?_
            first | refine tK (l := xk_13) rfl rfl (hIaldN (hShI1 _ s1 rfl rfl) rfl rfl (by omega)) ?_ | refine tK (l := xk_13) rfl rfl (hIald (hShI1 _ s1 rfl rfl) rfl (by omega) (by omega)) ?_
            rw [w72]
            refine tCa (l := xk_13) rfl rfl (hInvV (c := 5) (hShI1 _ s1 rfl rfl) rfl rfl rfl rfl rfl (Nat.le_of_ble_eq_true rfl) (Nat.le_of_ble_eq_true rfl)) ?_
            refine s47 (r := r0) (p := p + 1) (hr.1.fr s2 f12 (by decide) (by decide) (by decide)) hl hr0 ((f12.to (by decide) (by decide)).trans hto) hc9 (fun ph3 q3 f3 w3 => ?_)
            refine tKv ?_
            refine tRt (l := xk_13) rfl rfl (fun _ _ _ _ _ => rfl) ?_
            have fA : hFr [49, 51, 52, 57, 72] ph ph3 := (f12.mono (by decide)).trans (f3.mono (by decide))
            refine hQ ph3 (hRN.scs (hr.fr2 s2 f12) q3 f3) fA (fun r hr => (w3 r hr).trans (f12.to (by decide) (by decide))) (fun k hk => ?_) ?_ ?_ (fun k hk => ?_)
            · rw [f3.at (by decide), rd2, if_neg (by omega), rd1, if_neg (fun q => hk q.2)]
            · rw [f3.at (by decide)]; exact w72
            · rw [f3.at (by decide), rd2, if_pos ⟨rfl, rfl⟩]
            · rw [f3.at (by decide), rd2, if_neg (fun q => hk q.2), rd1, if_neg (by omega)]
          · exfalso; omega
        · exfalso; omega
      · exfalso; omega
    · exfalso; omega
theorem s13b {m p r0 b : Nat} {mt : List Int} (hr : hRN zs ph (sc, r2)) (hm : m < 40) (h72 : hRd ph 72 m = (p : Int)) (h71 : hRd ph 71 m = (r0 : Int)) (h70 : hRd ph 70 m = (b : Int)) (hr0 : r0 < sc.length * 10) (hto : hTo ph 50 r0 = some mt) (hc9 : mt.length = p + 1) (hQ : ∀ ph2, hRN zs ph2 (sc, r2) → hFr [72] ph ph2 → (∀ k, k ≠ m → hRd ph2 72 k = hRd ph 72 k) → Q (.inl (some (.inl 0)), ph2, g)) : xTC (d + 3) 13 [.inr (.inl (some 57)), .inl (m : Int)] ph g Q := by
  have hs := hr.1.1
  obtain ⟨z1, z2, z3, z4, z5⟩ := hSz68
  have hz := hRw50
  have hr9 := hr.1.2.2.2.1
  simp only at hr9
  have s1 : hSh zs (hUp ph 72 m ((p : Int) + 1)) := hShI1 _ hs rfl rfl
  have f1 : hFr [72] ph (hUp ph 72 m ((p : Int) + 1)) := hUp_fr hs rfl (by omega) (by simp)
  have rd1 := hRd_up (x := (p : Int) + 1) hs (show hKi (hTg 72) m = true from rfl) (by omega)
  have v72 : hRd (hUp ph 72 m ((p : Int) + 1)) 72 m = (p : Int) + 1 := by rw [rd1, if_pos ⟨rfl, rfl⟩]
  have v71 : hRd (hUp ph 72 m ((p : Int) + 1)) 71 m = (r0 : Int) := by rw [rd1, if_neg (by omega)]; exact h71
  have v70 : hRd (hUp ph 72 m ((p : Int) + 1)) 70 m = (b : Int) := by rw [rd1, if_neg (by omega)]; exact h70
  have hml := hTo_len hr.1.2.1 (show r0 < hRw 50 by omega) hto
  have hw24 := hWd50
  refine tEn (ls := [some (.inr (.inl (some 57))), some (.inl (m : Int))]) (fun k => by match k with | 0 => rfl | 1 => rfl | k + 2 => rfl) ?_
  refine tK (l := xk_13) rfl rfl (fun _ _ _ _ _ => rfl) ?_
  refine tIf_lt (l := xk_13) (pc' := 31) rfl rfl rfl (fun hc => ?_) (fun hc => ?_)
  · exfalso; omega
  · refine tK (l := xk_13) rfl rfl (fun _ _ _ _ _ => rfl) ?_
    refine tK (l := xk_13) rfl rfl (fun _ _ _ _ _ => rfl) ?_
    refine tK (l := xk_13) rfl rfl (hGetR (o := some 72) hs rfl rfl rfl (by decide) (by decide) rfl) ?_
    refine tK (l := xk_13) rfl rfl (hAlen hs (by decide) (by decide)) ?_
    refine tIc_ge (l := xk_13) (pc' := 31) rfl rfl rfl (fun hc => ?_) (fun hc => ?_)
    · refine tK (l := xk_13) rfl rfl (fun _ _ _ _ _ => rfl) ?_
      refine tK (l := xk_13) rfl rfl (fun _ _ _ _ _ => rfl) ?_
      refine tK (l := xk_13) rfl rfl (hGetR (o := some 71) hs rfl rfl rfl (by decide) (by decide) rfl) ?_
      refine tK (l := xk_13) rfl rfl (hAlen hs (by decide) (by decide)) ?_
      refine tIc_ge (l := xk_13) (pc' := 31) rfl rfl rfl (fun hc => ?_) (fun hc => ?_)
      · refine tK (l := xk_13) rfl rfl (fun _ _ _ _ _ => rfl) ?_
        refine tK (l := xk_13) rfl rfl (fun _ _ _ _ _ => rfl) ?_
        refine tK (l := xk_13) rfl rfl (hGetR (o := some 70) hs rfl rfl rfl (by decide) (by decide) rfl) ?_
        refine tK (l := xk_13) rfl rfl (hAlen hs (by decide) (by decide)) ?_
        refine tIc_lt (l := xk_13) (pc' := 33) rfl rfl rfl (fun hc => ?_) (fun hc => ?_)
        · refine tK (l := xk_13) rfl rfl (fun _ _ _ _ _ => rfl) ?_
          refine tK (l := xk_13) rfl rfl (hGetR (o := some 72) hs rfl rfl rfl (by decide) (by decide) rfl) ?_
          refine tK (l := xk_13) rfl rfl (fun _ _ _ _ _ => rfl) ?_
          refine tK (l := xk_13) rfl rfl (fun _ _ _ _ _ => rfl) ?_
          first | refine tK (l := xk_13) rfl rfl (hIaldN hs rfl rfl (by omega)) ?_ | refine tK (l := xk_13) rfl rfl (hIald hs rfl (by omega) (by omega)) ?_
          rw [h72]
          refine tK (l := xk_13) rfl rfl (fun _ _ _ _ _ => rfl) ?_
          refine tK (l := xk_13) rfl rfl (hAdd ⟨by omega, by omega⟩) ?_
          first | refine tK (l := xk_13) rfl rfl (hIastN hs rfl rfl (by omega)) ?_ | refine tK (l := xk_13) rfl rfl (hIast hs rfl (by omega) (by omega)) ?_
          refine tK (l := xk_13) rfl rfl (fun _ _ _ _ _ => rfl) ?_
          refine tK (l := xk_13) rfl rfl (hGetR (o := some 72) (hShI1 _ hs rfl rfl) rfl rfl rfl (by decide) (by decide) rfl) ?_
          refine tK (l := xk_13) rfl rfl (fun _ _ _ _ _ => rfl) ?_
          first | refine tK (l := xk_13) rfl rfl (hIaldN (hShI1 _ hs rfl rfl) rfl rfl (by omega)) ?_ | refine tK (l := xk_13) rfl rfl (hIald (hShI1 _ hs rfl rfl) rfl (by omega) (by omega)) ?_
          rw [v72]
          refine tK (l := xk_13) rfl rfl (fun _ _ _ _ _ => rfl) ?_
          refine tK (l := xk_13) rfl rfl (hGetR (o := some 49) (hShI1 _ hs rfl rfl) rfl rfl rfl (by decide) (by decide) rfl) ?_
          refine tK (l := xk_13) rfl rfl (hGetR (o := some 50) (hShI1 _ hs rfl rfl) rfl rfl rfl (by decide) (by decide) rfl) ?_
          refine tK (l := xk_13) rfl rfl (fun _ _ _ _ _ => rfl) ?_
          refine tK (l := xk_13) rfl rfl (hGetR (o := some 71) (hShI1 _ hs rfl rfl) rfl rfl rfl (by decide) (by decide) rfl) ?_
          refine tK (l := xk_13) rfl rfl (fun _ _ _ _ _ => rfl) ?_
          first | refine tK (l := xk_13) rfl rfl (hIaldN (hShI1 _ hs rfl rfl) rfl rfl (by omega)) ?_ | refine tK (l := xk_13) rfl rfl (hIald (hShI1 _ hs rfl rfl) rfl (by omega) (by omega)) ?_
          rw [v71]
          refine tCa (l := xk_13) rfl rfl (hInvV (c := 8) (hShI1 _ hs rfl rfl) rfl rfl rfl rfl rfl (Nat.le_of_ble_eq_true rfl) (Nat.le_of_ble_eq_true rfl)) ?_
          refine a75 s1 rfl (f1.tw (by decide) hr.1.2.1) (by omega) ((f1.to (by decide) (by decide)).trans hto) ?_
          refine tKv ?_
          simp only [hLo]
          refine tIc_lt (l := xk_13) (pc' := 70) rfl rfl rfl (fun hc => ?_) (fun hc => ?_)
          · exfalso; omega
          · refine tK (l := xk_13) rfl rfl (fun _ _ _ _ _ => rfl) ?_
            refine tRt (l := xk_13) rfl rfl (fun _ _ _ _ _ => rfl) ?_
            first | (exfalso; omega) | exact hQ _ (hr.fr2 s1 f1) f1 (fun k hk => by rw [rd1, if_neg (fun q => hk q.2)])
        · exfalso; omega
      · exfalso; omega
    · exfalso; omega
theorem hBT.close {phx : xH} {rsx rs : RS} (hb : hBT zs ph (f :: gq :: gs) rs) (hk : f.1 ≠ 0) (hr : hRN zs phx rsx) (hf : hFr [43, 49, 51, 52, 54, 55, 72] ph phx) (hrows : ∀ r, r < (nsc (gq :: gs) - 1) * 10 → hTo phx 50 r = hTo ph 50 r) (h72 : ∀ k, k < gs.length → hRd phx 72 k = hRd ph 72 k) (hl : rsx.1.length = nsc (gq :: gs)) : hBT zs (hUp (hUp phx 57 11 (gs.length : Int)) 57 5 ((f.2.1 + 1 : Nat) : Int)) (fsN (gq :: gs) (f.2.1 + 1)) rsx ∧ hFd bT ph (hUp (hUp phx 57 11 (gs.length : Int)) 57 5 ((f.2.1 + 1 : Nat) : Int)) := by
  obtain ⟨b1, b2, b3, b4, b5, b6, b7, b8, b9, b10⟩ := id hb
  have hs := hr.1.1
  have s1 : hSh zs (hUp phx 57 11 (gs.length : Int)) := hShI1 _ hs rfl rfl
  have f1 : hFr [57] phx (hUp phx 57 11 (gs.length : Int)) := hUp_fr hs rfl (by decide) (by decide)
  have rd := hRd_up (x := (gs.length : Int)) hs (show hKi (hTg 57) 11 = true from rfl) (by decide)
  have fA : hFr [43, 49, 51, 52, 54, 55, 57, 72] ph (hUp phx 57 11 (gs.length : Int)) := (hf.mono (by decide)).trans (f1.mono (by decide))
  have key : hBT zs (hUp phx 57 11 (gs.length : Int)) (fsN (gq :: gs) (f.2.1)) rsx := by
    simp only [List.length_cons] at b10
    refine ⟨hr.fr2 s1 f1, fsN_ne (List.cons_ne_nil _ _), hBs_fsN.mpr (b3.1.eq (fun a k q1 q2 q3 => ?_) (fun l _ => fA.to (by decide) (by decide)) (fun r hr9 => (f1.to (by decide) (by decide)).trans (hrows r hr9))), by rw [nsc_fsN]; exact hl, fA.tw (by decide) b5, ?_, by rw [cP_fsN]; exact Nat.le_trans cP_le b7, ?_, ?_, by rw [fsN_len]; simp only [List.length_cons]; omega⟩
    · simp only [List.length_cons] at q3
      by_cases e : a = 72
      · subst e
        rw [f1.at (by decide)]
        exact h72 k (by omega)
      · exact fA.at (by simp only [List.mem_cons, List.not_mem_nil, or_false]; omega) k
    · rw [rd, if_neg (by decide), hf.at (by decide), b6, cP_fsN, cP_k hk]
    · rw [rd, if_neg (by decide), hf.at (by decide), b8, cX_fsN (List.cons_ne_nil _ _)]
      rfl
    · rw [rd, if_pos ⟨rfl, rfl⟩, fsN_len]; simp
  have a5 := hA5_up (zs := zs) (y := f.2.1 + 1) s1
  have := key.at a5
  rw [fsN_fsN] at this
  exact ⟨this, (fA.bt (by decide)).trans (a5.2.1.bt (by decide))⟩
theorem s12_5a {c2 : Int} (hb : hBT zs ph (f :: gq :: gs) (f0 :: sc, r2)) (hk : f.1 = 5) (hc2 : f.2.2.2.2.2[f.2.2.2.2.1 + 1]? = some c2) (hQ : ∀ ph2, hBT zs ph2 ((5, f.2.2.1, f.2.2.1, f.2.2.2.1, f.2.2.2.2.1 + 1, f.2.2.2.2.2) :: gq :: gs) (psc (f.2.2.2.2.1 + 1) c2 :: sc, r2) → hFd bT ph ph2 → Q (.inl (some (.inl 1)), ph2, g)) : xTC (d + 4) 12 [.inr (.inl (some 57))] ph g Q := by
  obtain ⟨b1, b2, b3, b4, b5, b6, b7, b8, b9, b10⟩ := id hb
  have hs := b1.1.1
  obtain ⟨z1, z2, z3, z4, z5⟩ := hSz68
  have c4 := (b3.2.2.2 (List.cons_ne_nil _ _)).2
  have c0 := (b3.2.2.2 (List.cons_ne_nil _ _)).1
  simp only [List.length_cons, Nat.add_sub_cancel] at c4 c0 b9 b10
  have e11 : hRd ph 57 11 - 1 = (gs.length : Int) := by omega
  have hk0 : f.1 ≠ 0 := by omega
  have v68 : hRd ph 68 gs.length = 42 := by rw [c0, hk]; rfl
  obtain ⟨d1, d2, r0, d3, d4, d5⟩ := c4.2.2 hk
  simp only [List.length_cons] at b4
  rw [nsc_s (Or.inr hk)] at b4
  have hsc : sc.length = nsc (gq :: gs) := by omega
  have hsl := b1.1.2.2.2.1
  simp only [List.length_cons] at hsl
  refine tEn (ls := [some (.inr (.inl (some 57))), none]) (fun k => by match k with | 0 => rfl | 1 => rfl | k + 2 => rfl) ?_
  refine tK (l := xk_12) rfl rfl (fun _ _ _ _ _ => rfl) ?_
  refine tK (l := xk_12) rfl rfl (hGetI hs rfl rfl rfl (by decide) (by decide)) ?_
  refine tK (l := xk_12) rfl rfl (fun _ _ _ _ _ => rfl) ?_
  refine tK (l := xk_12) rfl rfl (hSub ⟨by omega, by omega⟩) ?_
  rw [e11]
  refine tSt (l := xk_12) rfl rfl (fun _ _ _ _ _ => rfl) (Nat.le_of_ble_eq_true rfl) ?_
  refine tK (l := xk_12) rfl rfl (fun _ _ _ _ _ => rfl) ?_
  refine tIf_lt (l := xk_12) (pc' := 29) rfl rfl rfl (fun hc => ?_) (fun hc => ?_)
  · exfalso; omega
  · refine tK (l := xk_12) rfl rfl (fun _ _ _ _ _ => rfl) ?_
    refine tK (l := xk_12) rfl rfl (fun _ _ _ _ _ => rfl) ?_
    refine tK (l := xk_12) rfl rfl (hGetR (o := some 68) hs rfl rfl rfl (by decide) (by decide) rfl) ?_
    refine tK (l := xk_12) rfl rfl (hAlen hs (by decide) (by decide)) ?_
    refine tIc_ge (l := xk_12) (pc' := 29) rfl rfl rfl (fun hc => ?_) (fun hc => ?_)
    · refine tK (l := xk_12) rfl rfl (fun _ _ _ _ _ => rfl) ?_
      refine tK (l := xk_12) rfl rfl (fun _ _ _ _ _ => rfl) ?_
      refine tK (l := xk_12) rfl rfl (hGetR (o := some 69) hs rfl rfl rfl (by decide) (by decide) rfl) ?_
      refine tK (l := xk_12) rfl rfl (hAlen hs (by decide) (by decide)) ?_
      refine tIc_lt (l := xk_12) (pc' := 31) rfl rfl rfl (fun hc => ?_) (fun hc => ?_)
      · refine tK (l := xk_12) rfl rfl (fun _ _ _ _ _ => rfl) ?_
        refine tK (l := xk_12) rfl rfl (hGetR (o := some 68) hs rfl rfl rfl (by decide) (by decide) rfl) ?_
        refine tK (l := xk_12) rfl rfl (fun _ _ _ _ _ => rfl) ?_
        first | refine tK (l := xk_12) rfl rfl (hIaldN hs rfl rfl (by omega)) ?_ | refine tK (l := xk_12) rfl rfl (hIald hs rfl (by omega) (by omega)) ?_
        rw [v68]
        refine tK (l := xk_12) rfl rfl (fun _ _ _ _ _ => rfl) ?_
        refine tIc_ne (l := xk_12) (pc' := 59) rfl rfl rfl (fun hc => ?_) (fun hc => ?_)
        · refine tK (l := xk_12) rfl rfl (fun _ _ _ _ _ => rfl) ?_
          refine tK (l := xk_12) rfl rfl (hGetR (o := some 49) hs rfl rfl rfl (by decide) (by decide) rfl) ?_
          refine tCa (l := xk_12) rfl rfl (hInvV (c := 5) hs rfl rfl rfl rfl rfl (Nat.le_of_ble_eq_true rfl) (Nat.le_of_ble_eq_true rfl)) ?_
          refine s46 b1.1 (fun ph1 q1 f1 => ?_)
          refine tKn ?_
          have p1 := hRN.pop b1 q1 f1
          refine tK (l := xk_12) rfl rfl (fun _ _ _ _ _ => rfl) ?_
          refine tK (l := xk_12) rfl rfl (fun _ _ _ _ _ => rfl) ?_
          refine tCa (l := xk_12) rfl rfl (hInvV (c := 1) q1.1 rfl rfl rfl rfl rfl (Nat.le_of_ble_eq_true rfl) (Nat.le_of_ble_eq_true rfl)) ?_
          refine s13a (m := gs.length) p1 (by omega) (by rw [f1.at (by decide)]; exact d2) (by rw [f1.at (by decide)]; exact d3) (by rw [f1.at (by decide)]; exact d1) (by omega) ((f1.to (by decide) (by decide)).trans d5) hc2 (by omega) (fun ph2 r2 f2 w2 k72 e72 e5 k57 => ?_)
          refine tKv ?_
          refine tIf_eq (l := xk_12) (pc' := 59) rfl rfl rfl (fun hc => ?_) (fun hc => ?_)
          · exact absurd hc (by decide)
          · refine tK (l := xk_12) rfl rfl (fun _ _ _ _ _ => rfl) ?_
            refine tRt (l := xk_12) rfl rfl (fun _ _ _ _ _ => rfl) ?_
            have fA : hFr [49, 51, 52, 57, 72] ph ph2 := (f1.mono (by decide)).trans f2
            have ec : cP ((5, f.2.2.1, f.2.2.1, f.2.2.2.1, f.2.2.2.2.1 + 1, f.2.2.2.2.2) :: gq :: gs) = cP (f :: gq :: gs) := by rw [cP_k (by simp), cP_k hk0]
            have eA : ∀ r, r < nsc (gq :: gs) * 10 → hTo ph2 50 r = hTo ph 50 r := fun r hr => (w2 r (by omega)).trans (f1.to (by decide) (by decide))
            refine hQ ph2 ⟨r2, List.cons_ne_nil _ _, ⟨b3.1.eq (fun a k q1 q2 q3 => ?_) (fun l _ => fA.to (by decide) (by decide)) (fun r hr => eA r (by omega)), Or.inr (List.cons_ne_nil _ _), fun q => absurd q (by simp), fun _ => ?_⟩, ?_, fA.tw (by decide) b5, ?_, by rw [ec]; exact b7, e5, ?_, by simp only [List.length_cons]; omega⟩ (fA.bt (by decide))
            · simp only [List.length_cons] at q3
              by_cases e : a = 72
              · subst e; rw [k72 k (by omega), f1.at (by decide)]
              · exact fA.at (by simp only [List.mem_cons, List.not_mem_nil, or_false]; omega) k
            · simp only [List.length_cons, Nat.add_sub_cancel]
              refine ⟨by rw [fA.at (by decide)]; exact v68, fun q => absurd q (by simp), fun q => absurd q (by simp), fun _ => ⟨by rw [fA.at (by decide)]; exact d1, e72, r0, by rw [fA.at (by decide)]; exact d3, d4, by rw [eA r0 d4]; exact d5⟩⟩
            · rw [nsc_s (Or.inr rfl)]; simp only [List.length_cons]; omega
            · rw [k57 4 (by decide), f1.at (by decide), ec]; exact b6
            · rw [k57 11 (by decide), f1.at (by decide)]; simp only [List.length_cons]; push_cast; push_cast at b9; omega
        · exact absurd rfl hc
      · exfalso; omega
    · exfalso; omega
theorem s12_5b (hb : hBT zs ph (f :: gq :: gs) (f0 :: sc, r2)) (hk : f.1 = 5) (hc2 : f.2.2.2.2.2.length = f.2.2.2.2.1 + 1) (hx9 : f.2.1 ≤ 1000) (hQ : ∀ ph2, hBT zs ph2 (fsN (gq :: gs) (f.2.1 + 1)) (sc, r2) → hFd bT ph ph2 → Q (.inl (some (.inl 1)), ph2, g)) : xTC (d + 4) 12 [.inr (.inl (some 57))] ph g Q := by
  obtain ⟨b1, b2, b3, b4, b5, b6, b7, b8, b9, b10⟩ := id hb
  have hs := b1.1.1
  obtain ⟨z1, z2, z3, z4, z5⟩ := hSz68
  have c4 := (b3.2.2.2 (List.cons_ne_nil _ _)).2
  have c0 := (b3.2.2.2 (List.cons_ne_nil _ _)).1
  simp only [List.length_cons, Nat.add_sub_cancel] at c4 c0 b9 b10
  have e11 : hRd ph 57 11 - 1 = (gs.length : Int) := by omega
  have hk0 : f.1 ≠ 0 := by omega
  have v68 : hRd ph 68 gs.length = 42 := by rw [c0, hk]; rfl
  obtain ⟨d1, d2, r0, d3, d4, d5⟩ := c4.2.2 hk
  simp only [List.length_cons] at b4
  rw [nsc_s (Or.inr hk)] at b4
  have hsc : sc.length = nsc (gq :: gs) := by omega
  have hsl := b1.1.2.2.2.1
  simp only [List.length_cons] at hsl
  refine tEn (ls := [some (.inr (.inl (some 57))), none]) (fun k => by match k with | 0 => rfl | 1 => rfl | k + 2 => rfl) ?_
  refine tK (l := xk_12) rfl rfl (fun _ _ _ _ _ => rfl) ?_
  refine tK (l := xk_12) rfl rfl (hGetI hs rfl rfl rfl (by decide) (by decide)) ?_
  refine tK (l := xk_12) rfl rfl (fun _ _ _ _ _ => rfl) ?_
  refine tK (l := xk_12) rfl rfl (hSub ⟨by omega, by omega⟩) ?_
  rw [e11]
  refine tSt (l := xk_12) rfl rfl (fun _ _ _ _ _ => rfl) (Nat.le_of_ble_eq_true rfl) ?_
  refine tK (l := xk_12) rfl rfl (fun _ _ _ _ _ => rfl) ?_
  refine tIf_lt (l := xk_12) (pc' := 29) rfl rfl rfl (fun hc => ?_) (fun hc => ?_)
  · exfalso; omega
  · refine tK (l := xk_12) rfl rfl (fun _ _ _ _ _ => rfl) ?_
    refine tK (l := xk_12) rfl rfl (fun _ _ _ _ _ => rfl) ?_
    refine tK (l := xk_12) rfl rfl (hGetR (o := some 68) hs rfl rfl rfl (by decide) (by decide) rfl) ?_
    refine tK (l := xk_12) rfl rfl (hAlen hs (by decide) (by decide)) ?_
    refine tIc_ge (l := xk_12) (pc' := 29) rfl rfl rfl (fun hc => ?_) (fun hc => ?_)
    · refine tK (l := xk_12) rfl rfl (fun _ _ _ _ _ => rfl) ?_
      refine tK (l := xk_12) rfl rfl (fun _ _ _ _ _ => rfl) ?_
      refine tK (l := xk_12) rfl rfl (hGetR (o := some 69) hs rfl rfl rfl (by decide) (by decide) rfl) ?_
      refine tK (l := xk_12) rfl rfl (hAlen hs (by decide) (by decide)) ?_
      refine tIc_lt (l := xk_12) (pc' := 31) rfl rfl rfl (fun hc => ?_) (fun hc => ?_)
      · refine tK (l := xk_12) rfl rfl (fun _ _ _ _ _ => rfl) ?_
        refine tK (l := xk_12) rfl rfl (hGetR (o := some 68) hs rfl rfl rfl (by decide) (by decide) rfl) ?_
        refine tK (l := xk_12) rfl rfl (fun _ _ _ _ _ => rfl) ?_
        first | refine tK (l := xk_12) rfl rfl (hIaldN hs rfl rfl (by omega)) ?_ | refine tK (l := xk_12) rfl rfl (hIald hs rfl (by omega) (by omega)) ?_
        rw [v68]
        refine tK (l := xk_12) rfl rfl (fun _ _ _ _ _ => rfl) ?_
        refine tIc_ne (l := xk_12) (pc' := 59) rfl rfl rfl (fun hc => ?_) (fun hc => ?_)
        · refine tK (l := xk_12) rfl rfl (fun _ _ _ _ _ => rfl) ?_
          refine tK (l := xk_12) rfl rfl (hGetR (o := some 49) hs rfl rfl rfl (by decide) (by decide) rfl) ?_
          refine tCa (l := xk_12) rfl rfl (hInvV (c := 5) hs rfl rfl rfl rfl rfl (Nat.le_of_ble_eq_true rfl) (Nat.le_of_ble_eq_true rfl)) ?_
          refine s46 b1.1 (fun ph1 q1 f1 => ?_)
          refine tKn ?_
          have p1 := hRN.pop b1 q1 f1
          refine tK (l := xk_12) rfl rfl (fun _ _ _ _ _ => rfl) ?_
          refine tK (l := xk_12) rfl rfl (fun _ _ _ _ _ => rfl) ?_
          refine tCa (l := xk_12) rfl rfl (hInvV (c := 1) q1.1 rfl rfl rfl rfl rfl (Nat.le_of_ble_eq_true rfl) (Nat.le_of_ble_eq_true rfl)) ?_
          refine s13b (m := gs.length) p1 (by omega) (by rw [f1.at (by decide)]; exact d2) (by rw [f1.at (by decide)]; exact d3) (by rw [f1.at (by decide)]; exact d1) (by omega) ((f1.to (by decide) (by decide)).trans d5) hc2 (fun ph2 r2 f2 k72 => ?_)
          refine tKv ?_
          have fA : hFr [49, 72] ph ph2 := (f1.mono (by decide)).trans (f2.mono (by decide))
          have w68 : hRd ph2 68 gs.length = 42 := by rw [fA.at (by decide)]; exact v68
          have hsx := r2.1.1
          have w5 : hRd (hUp ph2 57 11 (gs.length : Int)) 57 5 = (f.2.1 : Int) := by rw [hRd_up hsx rfl (by decide), if_neg (by decide), fA.at (by decide)]; exact b8
          refine tIf_eq (l := xk_12) (pc' := 59) rfl rfl rfl (fun hc => ?_) (fun hc => ?_)
          · refine tK (l := xk_12) rfl rfl (fun _ _ _ _ _ => rfl) ?_
            refine tK (l := xk_12) rfl rfl (hGetR (o := some 68) r2.1.1 rfl rfl rfl (by decide) (by decide) rfl) ?_
            refine tK (l := xk_12) rfl rfl (fun _ _ _ _ _ => rfl) ?_
            first | refine tK (l := xk_12) rfl rfl (hIaldN r2.1.1 rfl rfl (by omega)) ?_ | refine tK (l := xk_12) rfl rfl (hIald r2.1.1 rfl (by omega) (by omega)) ?_
            rw [w68]
            refine tK (l := xk_12) rfl rfl (fun _ _ _ _ _ => rfl) ?_
            refine tIc_ne (l := xk_12) (pc' := 83) rfl rfl rfl (fun hc => ?_) (fun hc => ?_)
            · exact absurd hc (by decide)
            · refine tK (l := xk_12) rfl rfl (fun _ _ _ _ _ => rfl) ?_
              refine tK (l := xk_12) rfl rfl (fun _ _ _ _ _ => rfl) ?_
              refine tK (l := xk_12) rfl rfl (hPutV r2.1.1 rfl rfl (by decide) (by decide) rfl) ?_
              refine tK (l := xk_12) rfl rfl (fun _ _ _ _ _ => rfl) ?_
              refine tK (l := xk_12) rfl rfl (fun _ _ _ _ _ => rfl) ?_
              refine tK (l := xk_12) rfl rfl (hGetI (hShI1 _ r2.1.1 rfl rfl) rfl rfl rfl (by decide) (by decide)) ?_
              rw [w5]
              refine tK (l := xk_12) rfl rfl (fun _ _ _ _ _ => rfl) ?_
              refine tK (l := xk_12) rfl rfl (hAdd ⟨by omega, by omega⟩) ?_
              refine tK (l := xk_12) rfl rfl (hPutV (hShI1 _ r2.1.1 rfl rfl) rfl rfl (by decide) (by decide) rfl) ?_
              refine tK (l := xk_12) rfl rfl (fun _ _ _ _ _ => rfl) ?_
              refine tRt (l := xk_12) rfl rfl (fun _ _ _ _ _ => rfl) ?_
              obtain ⟨y1, y2⟩ := hb.close hk0 r2 (fA.mono (by decide)) (fun r _ => fA.to (by decide) (by decide)) (fun k hk9 => by rw [k72 k (by omega), f1.at (by decide)]) hsc
              exact hQ _ y1 y2
          · exact absurd rfl hc
        · exact absurd rfl hc
      · exfalso; omega
    · exfalso; omega
theorem s12_6 {rs : RS} (hb : hBT zs ph (f :: gq :: gs) rs) (hk : f.1 = 6) (hx9 : f.2.1 ≤ 1000) (hQ : ∀ ph2, hBT zs ph2 (fsN (gq :: gs) (f.2.1 + 1)) rs → hFd bT ph ph2 → Q (.inl (some (.inl 1)), ph2, g)) : xTC (d + 4) 12 [.inr (.inl (some 57))] ph g Q := by
  obtain ⟨b1, b2, b3, b4, b5, b6, b7, b8, b9, b10⟩ := id hb
  have hs := b1.1.1
  obtain ⟨z1, z2, z3, z4, z5⟩ := hSz68
  have c4 := (b3.2.2.2 (List.cons_ne_nil _ _)).2
  have c0 := (b3.2.2.2 (List.cons_ne_nil _ _)).1
  simp only [List.length_cons, Nat.add_sub_cancel] at c4 c0 b9 b10
  have e11 : hRd ph 57 11 - 1 = (gs.length : Int) := by omega
  have hk0 : f.1 ≠ 0 := by omega
  have v68 : hRd ph 68 gs.length = 63 := by rw [c0, hk]; rfl
  have w68 := v68
  rw [nsc_n (by omega)] at b4
  have fA : hFr [] ph ph := hFr.refl
  have w5 : hRd (hUp ph 57 11 (gs.length : Int)) 57 5 = (f.2.1 : Int) := by rw [hRd_up hs rfl (by decide), if_neg (by decide), fA.at (by decide)]; exact b8
  refine tEn (ls := [some (.inr (.inl (some 57))), none]) (fun k => by match k with | 0 => rfl | 1 => rfl | k + 2 => rfl) ?_
  refine tK (l := xk_12) rfl rfl (fun _ _ _ _ _ => rfl) ?_
  refine tK (l := xk_12) rfl rfl (hGetI hs rfl rfl rfl (by decide) (by decide)) ?_
  refine tK (l := xk_12) rfl rfl (fun _ _ _ _ _ => rfl) ?_
  refine tK (l := xk_12) rfl rfl (hSub ⟨by omega, by omega⟩) ?_
  rw [e11]
  refine tSt (l := xk_12) rfl rfl (fun _ _ _ _ _ => rfl) (Nat.le_of_ble_eq_true rfl) ?_
  refine tK (l := xk_12) rfl rfl (fun _ _ _ _ _ => rfl) ?_
  refine tIf_lt (l := xk_12) (pc' := 29) rfl rfl rfl (fun hc => ?_) (fun hc => ?_)
  · exfalso; omega
  · refine tK (l := xk_12) rfl rfl (fun _ _ _ _ _ => rfl) ?_
    refine tK (l := xk_12) rfl rfl (fun _ _ _ _ _ => rfl) ?_
    refine tK (l := xk_12) rfl rfl (hGetR (o := some 68) hs rfl rfl rfl (by decide) (by decide) rfl) ?_
    refine tK (l := xk_12) rfl rfl (hAlen hs (by decide) (by decide)) ?_
    refine tIc_ge (l := xk_12) (pc' := 29) rfl rfl rfl (fun hc => ?_) (fun hc => ?_)
    · refine tK (l := xk_12) rfl rfl (fun _ _ _ _ _ => rfl) ?_
      refine tK (l := xk_12) rfl rfl (fun _ _ _ _ _ => rfl) ?_
      refine tK (l := xk_12) rfl rfl (hGetR (o := some 69) hs rfl rfl rfl (by decide) (by decide) rfl) ?_
      refine tK (l := xk_12) rfl rfl (hAlen hs (by decide) (by decide)) ?_
      refine tIc_lt (l := xk_12) (pc' := 31) rfl rfl rfl (fun hc => ?_) (fun hc => ?_)
      · refine tK (l := xk_12) rfl rfl (fun _ _ _ _ _ => rfl) ?_
        refine tK (l := xk_12) rfl rfl (hGetR (o := some 68) hs rfl rfl rfl (by decide) (by decide) rfl) ?_
        refine tK (l := xk_12) rfl rfl (fun _ _ _ _ _ => rfl) ?_
        first | refine tK (l := xk_12) rfl rfl (hIaldN hs rfl rfl (by omega)) ?_ | refine tK (l := xk_12) rfl rfl (hIald hs rfl (by omega) (by omega)) ?_
        rw [v68]
        refine tK (l := xk_12) rfl rfl (fun _ _ _ _ _ => rfl) ?_
        refine tIc_ne (l := xk_12) (pc' := 59) rfl rfl rfl (fun hc => ?_) (fun hc => ?_)
        · exact absurd hc (by decide)
        · refine tK (l := xk_12) rfl rfl (fun _ _ _ _ _ => rfl) ?_
          refine tK (l := xk_12) rfl rfl (hGetR (o := some 68) hs rfl rfl rfl (by decide) (by decide) rfl) ?_
          refine tK (l := xk_12) rfl rfl (fun _ _ _ _ _ => rfl) ?_
          first | refine tK (l := xk_12) rfl rfl (hIaldN hs rfl rfl (by omega)) ?_ | refine tK (l := xk_12) rfl rfl (hIald hs rfl (by omega) (by omega)) ?_
          rw [w68]
          refine tK (l := xk_12) rfl rfl (fun _ _ _ _ _ => rfl) ?_
          refine tIc_ne (l := xk_12) (pc' := 83) rfl rfl rfl (fun hc => ?_) (fun hc => ?_)
          · exact absurd hc (by decide)
          · refine tK (l := xk_12) rfl rfl (fun _ _ _ _ _ => rfl) ?_
            refine tK (l := xk_12) rfl rfl (fun _ _ _ _ _ => rfl) ?_
            refine tK (l := xk_12) rfl rfl (hPutV hs rfl rfl (by decide) (by decide) rfl) ?_
            refine tK (l := xk_12) rfl rfl (fun _ _ _ _ _ => rfl) ?_
            refine tK (l := xk_12) rfl rfl (fun _ _ _ _ _ => rfl) ?_
            refine tK (l := xk_12) rfl rfl (hGetI (hShI1 _ hs rfl rfl) rfl rfl rfl (by decide) (by decide)) ?_
            rw [w5]
            refine tK (l := xk_12) rfl rfl (fun _ _ _ _ _ => rfl) ?_
            refine tK (l := xk_12) rfl rfl (hAdd ⟨by omega, by omega⟩) ?_
            refine tK (l := xk_12) rfl rfl (hPutV (hShI1 _ hs rfl rfl) rfl rfl (by decide) (by decide) rfl) ?_
            refine tK (l := xk_12) rfl rfl (fun _ _ _ _ _ => rfl) ?_
            refine tRt (l := xk_12) rfl rfl (fun _ _ _ _ _ => rfl) ?_
            obtain ⟨y1, y2⟩ := hb.close hk0 b1 hFr.refl (fun r _ => rfl) (fun k hk9 => rfl) b4
            exact hQ _ y1 y2
      · exfalso; omega
    · exfalso; omega
theorem s12_7 {s0 : List Int} {sg : List (List Int)} {r3 : List Int × Nat × Nat × Nat × Nat} (hb : hBT zs ph (f :: gq :: gs) (f0 :: sc, s0 :: sg, r3)) (hk : f.1 = 7) (hnm : f.2.2.2.1 < 10) (hx9 : f.2.1 ≤ 1000) (hQ : ∀ ph2, hBT zs ph2 (fsN (gq :: gs) (f.2.1 + 1)) (scU f0 f.2.2.2.1 (some s0) :: sc, sg, r3) → hFd bT ph ph2 → Q (.inl (some (.inl 1)), ph2, g)) : xTC (d + 4) 12 [.inr (.inl (some 57))] ph g Q := by
  obtain ⟨ou, st, pl, es, vl⟩ := r3
  obtain ⟨b1, b2, b3, b4, b5, b6, b7, b8, b9, b10⟩ := id hb
  have hs := b1.1.1
  obtain ⟨z1, z2, z3, z4, z5⟩ := hSz68
  have c4 := (b3.2.2.2 (List.cons_ne_nil _ _)).2
  have c0 := (b3.2.2.2 (List.cons_ne_nil _ _)).1
  simp only [List.length_cons, Nat.add_sub_cancel] at c4 c0 b9 b10
  have e11 : hRd ph 57 11 - 1 = (gs.length : Int) := by omega
  have hk0 : f.1 ≠ 0 := by omega
  have v68 : hRd ph 68 gs.length = 61 := by rw [c0, hk]; rfl
  have w68 := v68
  have w69 : hRd ph 69 gs.length = (f.2.2.2.1 : Int) := c4.2.1 hk
  rw [nsc_n (by omega)] at b4
  simp only [List.length_cons] at b4
  refine tEn (ls := [some (.inr (.inl (some 57))), none]) (fun k => by match k with | 0 => rfl | 1 => rfl | k + 2 => rfl) ?_
  refine tK (l := xk_12) rfl rfl (fun _ _ _ _ _ => rfl) ?_
  refine tK (l := xk_12) rfl rfl (hGetI hs rfl rfl rfl (by decide) (by decide)) ?_
  refine tK (l := xk_12) rfl rfl (fun _ _ _ _ _ => rfl) ?_
  refine tK (l := xk_12) rfl rfl (hSub ⟨by omega, by omega⟩) ?_
  rw [e11]
  refine tSt (l := xk_12) rfl rfl (fun _ _ _ _ _ => rfl) (Nat.le_of_ble_eq_true rfl) ?_
  refine tK (l := xk_12) rfl rfl (fun _ _ _ _ _ => rfl) ?_
  refine tIf_lt (l := xk_12) (pc' := 29) rfl rfl rfl (fun hc => ?_) (fun hc => ?_)
  · exfalso; omega
  · refine tK (l := xk_12) rfl rfl (fun _ _ _ _ _ => rfl) ?_
    refine tK (l := xk_12) rfl rfl (fun _ _ _ _ _ => rfl) ?_
    refine tK (l := xk_12) rfl rfl (hGetR (o := some 68) hs rfl rfl rfl (by decide) (by decide) rfl) ?_
    refine tK (l := xk_12) rfl rfl (hAlen hs (by decide) (by decide)) ?_
    refine tIc_ge (l := xk_12) (pc' := 29) rfl rfl rfl (fun hc => ?_) (fun hc => ?_)
    · refine tK (l := xk_12) rfl rfl (fun _ _ _ _ _ => rfl) ?_
      refine tK (l := xk_12) rfl rfl (fun _ _ _ _ _ => rfl) ?_
      refine tK (l := xk_12) rfl rfl (hGetR (o := some 69) hs rfl rfl rfl (by decide) (by decide) rfl) ?_
      refine tK (l := xk_12) rfl rfl (hAlen hs (by decide) (by decide)) ?_
      refine tIc_lt (l := xk_12) (pc' := 31) rfl rfl rfl (fun hc => ?_) (fun hc => ?_)
      · refine tK (l := xk_12) rfl rfl (fun _ _ _ _ _ => rfl) ?_
        refine tK (l := xk_12) rfl rfl (hGetR (o := some 68) hs rfl rfl rfl (by decide) (by decide) rfl) ?_
        refine tK (l := xk_12) rfl rfl (fun _ _ _ _ _ => rfl) ?_
        first | refine tK (l := xk_12) rfl rfl (hIaldN hs rfl rfl (by omega)) ?_ | refine tK (l := xk_12) rfl rfl (hIald hs rfl (by omega) (by omega)) ?_
        rw [v68]
        refine tK (l := xk_12) rfl rfl (fun _ _ _ _ _ => rfl) ?_
        refine tIc_ne (l := xk_12) (pc' := 59) rfl rfl rfl (fun hc => ?_) (fun hc => ?_)
        · exact absurd hc (by decide)
        · refine tK (l := xk_12) rfl rfl (fun _ _ _ _ _ => rfl) ?_
          refine tK (l := xk_12) rfl rfl (hGetR (o := some 68) hs rfl rfl rfl (by decide) (by decide) rfl) ?_
          refine tK (l := xk_12) rfl rfl (fun _ _ _ _ _ => rfl) ?_
          first | refine tK (l := xk_12) rfl rfl (hIaldN hs rfl rfl (by omega)) ?_ | refine tK (l := xk_12) rfl rfl (hIald hs rfl (by omega) (by omega)) ?_
          rw [w68]
          refine tK (l := xk_12) rfl rfl (fun _ _ _ _ _ => rfl) ?_
          refine tIc_ne (l := xk_12) (pc' := 83) rfl rfl rfl (fun hc => ?_) (fun hc => ?_)
          · refine tK (l := xk_12) rfl rfl (fun _ _ _ _ _ => rfl) ?_
            refine tK (l := xk_12) rfl rfl (hGetR (o := some 43) hs rfl rfl rfl (by decide) (by decide) rfl) ?_
            refine tK (l := xk_12) rfl rfl (fun _ _ _ _ _ => rfl) ?_
            refine tK (l := xk_12) rfl rfl (hGetR (o := some 69) hs rfl rfl rfl (by decide) (by decide) rfl) ?_
            refine tK (l := xk_12) rfl rfl (fun _ _ _ _ _ => rfl) ?_
            first | refine tK (l := xk_12) rfl rfl (hIaldN hs rfl rfl (by omega)) ?_ | refine tK (l := xk_12) rfl rfl (hIald hs rfl (by omega) (by omega)) ?_
            rw [w69]
            refine tCa (l := xk_12) rfl rfl (hInvV (c := 4) hs rfl rfl rfl rfl rfl (Nat.le_of_ble_eq_true rfl) (Nat.le_of_ble_eq_true rfl)) ?_
            refine s39 b1 hnm (fun ph2 r2 f2 w2 => ?_)
            refine tKn ?_
            have hsx := r2.1.1
            have w5 : hRd (hUp ph2 57 11 (gs.length : Int)) 57 5 = (f.2.1 : Int) := by rw [hRd_up hsx rfl (by decide), if_neg (by decide), f2.at (by decide)]; exact b8
            refine tK (l := xk_12) rfl rfl (fun _ _ _ _ _ => rfl) ?_
            refine tK (l := xk_12) rfl rfl (fun _ _ _ _ _ => rfl) ?_
            refine tK (l := xk_12) rfl rfl (hPutV r2.1.1 rfl rfl (by decide) (by decide) rfl) ?_
            refine tK (l := xk_12) rfl rfl (fun _ _ _ _ _ => rfl) ?_
            refine tK (l := xk_12) rfl rfl (fun _ _ _ _ _ => rfl) ?_
            refine tK (l := xk_12) rfl rfl (hGetI (hShI1 _ r2.1.1 rfl rfl) rfl rfl rfl (by decide) (by decide)) ?_
            rw [w5]
            refine tK (l := xk_12) rfl rfl (fun _ _ _ _ _ => rfl) ?_
            refine tK (l := xk_12) rfl rfl (hAdd ⟨by omega, by omega⟩) ?_
            refine tK (l := xk_12) rfl rfl (hPutV (hShI1 _ r2.1.1 rfl rfl) rfl rfl (by decide) (by decide) rfl) ?_
            refine tK (l := xk_12) rfl rfl (fun _ _ _ _ _ => rfl) ?_
            refine tRt (l := xk_12) rfl rfl (fun _ _ _ _ _ => rfl) ?_
            obtain ⟨y1, y2⟩ := hb.close hk0 r2 (f2.mono (by decide)) (fun r hr => w2 r (by omega)) (fun k hk9 => f2.at (by decide) k) (by simp only [List.length_cons]; exact b4)
            exact hQ _ y1 y2
          · exact absurd rfl hc
      · exfalso; omega
    · exfalso; omega
end BTE
