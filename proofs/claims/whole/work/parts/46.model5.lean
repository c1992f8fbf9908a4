/-! ===== the model: what is open last comes to its end ===== -/
section MCE
variable {d : Nat} {ph : xH} {zs : List xV} {g : Nat} {Q : xR → Prop} {f gq : Fm} {gs fs : List Fm} {f0 : xSc} {sc : List xSc} {r2 : List (List Int) × List Int × Nat × Nat × Nat × Nat} {rs : RS}
theorem hFM.big {F S : List Nat} {pha phb : xH} (h : hFM F S pha phb) (hF : ∀ x ∈ F, x ∈ mF := by decide) (hS : ∀ x ∈ S, x ∈ mA := by decide) : hFM mF mA pha phb := h.mono hF hS
theorem hMC.close {phx : xH} {rsx : RS} (h : hMC zs ph (f :: gq :: gs) rs) (hk : f.1 ≠ 0) (hr : hMN zs phx rsx) (hf : hFM [28, 31, 43] [155, 165] ph phx) (h43 : hRd phx 147 43 = ((gs.length + 1 : Nat) : Int)) (h165 : ∀ j, j < gs.length + 1 → hRd phx 165 j = hRd ph 165 j) (hl : rsx.1.length = nsc (gq :: gs)) : hMC zs (hUp phx 162 gs.length ((f.2.1 : Int) + 1)) (fsN (gq :: gs) (f.2.1 + 1)) rsx ∧ hFM mF mA ph (hUp phx 162 gs.length ((f.2.1 : Int) + 1)) := by
  obtain ⟨a1, a2, a3, a4, a5, a6, a7, a8⟩ := id h
  obtain ⟨y1, y2, y3, y4, y5, y6, y7, y8, y9⟩ := hSzO
  simp only [List.length_cons] at a5
  have hs := hr.1
  have rd := hRd_up (x := (f.2.1 : Int) + 1) hs (show hKi (hTg 162) gs.length = true from rfl) (by omega)
  have f1 : hFM [] [162] phx (hUp phx 162 gs.length ((f.2.1 : Int) + 1)) := hFM_a hs rfl (by omega) (by decide) (by decide)
  have hmid : hMf phx (gq :: gs) := a3.1.eq (fun a j q1 q2 q3 => by
    simp only [List.length_cons] at q3
    by_cases e : a = 165
    · rw [e]; exact h165 j q3
    · exact hf.at (by simp only [List.mem_cons, List.not_mem_nil, or_false]; omega) j) (fun j _ => hf.at (by decide) j) (fun j _ => hf.at (by decide) j) (hf.fl (by decide)) (fun j _ => hf.at (by decide) j)
  refine ⟨⟨hr.fr (hShI1 _ hs rfl rfl) f1, fsN_ne (List.cons_ne_nil _ _), hmid.next (fun b j => by rw [rd]; push_cast; rfl), by rw [f1.fl (by decide), h43, fsN_len]; simp, by rw [fsN_len]; simp only [List.length_cons]; omega, ?_, (a7.fr hf).fr f1, by rw [nsc_fsN]; exact hl⟩, hf.big.trans f1.big⟩
  rw [cP_fsN, ← cP_k hk (fs := gq :: gs)]
  exact (a6.fr hf).fr f1
section

theorem s191_5a {c2 : Int} (h : hMC zs ph (f :: gq :: gs) (f0 :: sc, r2)) (hk : f.1 = 5) (hc2 : f.2.2.2.2.2[f.2.2.2.2.1 + 1]? = some c2) (hQ : ∀ ph2, hMC zs ph2 ((5, f.2.2.1, f.2.2.1, f.2.2.2.1, f.2.2.2.2.1 + 1, f.2.2.2.2.2) :: gq :: gs) (psc (f.2.2.2.2.1 + 1) c2 :: sc, r2) → hFM mF mA ph ph2 → Q (.inl none, ph2, g)) : xTC (d + 3) 191 [.inr (.inl (some 147))] ph g Q := by
  obtain ⟨a1, a2, a3, a4, a5, a6, a7, a8⟩ := id h
  have hs := a1.1
  obtain ⟨z1, z2, z3, z4, z5, z6, z7, z8⟩ := hSzM
  obtain ⟨y1, y2, y3, y4, y5, y6, y7, y8, y9⟩ := hSzO
  obtain ⟨b1, b2, b3, b4, b5, b6, b7, b8⟩ := id a3
  simp only [List.length_cons] at a4 a5 b4 b5 b6 b7 b8
  have ek : hRd ph 147 43 - 1 = ((gs.length + 1 : Nat) : Int) := by rw [a4]; push_cast; omega
  have ek1 : (((gs.length + 1 : Nat) : Int) + 1) - 1 = ((gs.length + 1 : Nat) : Int) := by omega
  have ek2 : ((gs.length + 1 : Nat) : Int) - 1 = (gs.length : Int) := by omega
  have h28 := a1.2.1.1
  have h28l := a1.2.1.2.1
  simp only [List.length_cons] at h28 h28l
  have e28 : hRd ph 147 28 = (sc.length : Int) + 1 := by push_cast at h28; exact h28
  have e28b : (sc.length : Int) + 1 - 1 = (sc.length : Int) := by omega
  have hk0 : f.1 ≠ 0 := by omega
  have v160 : hRd ph 160 (gs.length + 1) = 42 := by rw [b4, hk]; rfl
  obtain ⟨d1, d2, d3, d4, d5, d6⟩ := b8 hk
  simp only [List.length_cons] at a8
  rw [nsc_s (Or.inr hk)] at a8
  obtain ⟨p1, f1⟩ := a1.pop
  have s1 := p1.1
  have rd1 := hRd_up (x := (sc.length : Int)) hs (show hKi (hTg 147) 28 = true from rfl) (by decide)
  have x65 : hRd (hUp ph 147 28 (sc.length : Int)) 165 (gs.length + 1) = (f.2.2.2.2.1 : Int) := by rw [f1.at (by decide)]; exact d2
  have s2 : hSh zs (hUp (hUp ph 147 28 (sc.length : Int)) 165 (gs.length + 1) ((f.2.2.2.2.1 : Int) + 1)) := hShI1 _ s1 rfl rfl
  have f2 : hFM [] [165] (hUp ph 147 28 (sc.length : Int)) (hUp (hUp ph 147 28 (sc.length : Int)) 165 (gs.length + 1) ((f.2.2.2.2.1 : Int) + 1)) := hFM_a s1 rfl (by omega) (by decide) (by decide)
  have rd2 := hRd_up (x := (f.2.2.2.2.1 : Int) + 1) s1 (show hKi (hTg 165) (gs.length + 1) = true from rfl) (by omega)
  have fA : hFM [28] [165] ph (hUp (hUp ph 147 28 (sc.length : Int)) 165 (gs.length + 1) ((f.2.2.2.2.1 : Int) + 1)) := (f1.mono (by decide) (by decide)).trans (f2.mono (by decide) (by decide))
  have w65 : hRd (hUp (hUp ph 147 28 (sc.length : Int)) 165 (gs.length + 1) ((f.2.2.2.2.1 : Int) + 1)) 165 (gs.length + 1) = ((f.2.2.2.2.1 + 1 : Nat) : Int) := by rw [rd2, if_pos ⟨rfl, rfl⟩]; push_cast; rfl
  have w66 : hRd (hUp (hUp ph 147 28 (sc.length : Int)) 165 (gs.length + 1) ((f.2.2.2.2.1 : Int) + 1)) 166 (gs.length + 1) = (f.2.2.2.2.2.length : Int) := by rw [fA.at (by decide)]; exact d3
  have w43 : hRd (hUp (hUp ph 147 28 (sc.length : Int)) 165 (gs.length + 1) ((f.2.2.2.2.1 : Int) + 1)) 147 43 = ((gs.length + 1 : Nat) : Int) + 1 := by rw [fA.fl (by decide), a4]; push_cast; rfl
  have p2 : hMN zs (hUp (hUp ph 147 28 (sc.length : Int)) 165 (gs.length + 1) ((f.2.2.2.2.1 : Int) + 1)) (sc, r2) := p1.fr s2 f2
  have hcl := (List.getElem?_eq_some_iff.mp hc2).1
  refine tEn (ls := [some (.inr (.inl (some 147))), none, none, none, none]) (fun k => by match k with | 0 => rfl | 1 => rfl | 2 => rfl | 3 => rfl | 4 => rfl | k + 5 => rfl) ?_
  refine tK (l := xk_191) rfl rfl (fun _ _ _ _ _ => rfl) ?_
  refine tK (l := xk_191) rfl rfl (hGetI hs rfl rfl rfl (by decide) (by decide)) ?_
  refine tK (l := xk_191) rfl rfl (fun _ _ _ _ _ => rfl) ?_
  refine tK (l := xk_191) rfl rfl (hSub ⟨by omega, by omega⟩) ?_
  rw [ek]
  refine tSt (l := xk_191) rfl rfl (fun _ _ _ _ _ => rfl) (Nat.le_of_ble_eq_true rfl) ?_
  refine tK (l := xk_191) rfl rfl (fun _ _ _ _ _ => rfl) ?_
  refine tK (l := xk_191) rfl rfl (hGetR (o := some 160) hs rfl rfl rfl (by decide) (by decide) rfl) ?_
  refine tK (l := xk_191) rfl rfl (fun _ _ _ _ _ => rfl) ?_
  first | refine tK (l := xk_191) rfl rfl (hIaldN hs rfl rfl (by omega)) ?_ | refine tK (l := xk_191) rfl rfl (hIald hs rfl (by omega) (by omega)) ?_
  rw [v160]
  refine tSt (l := xk_191) rfl rfl (fun _ _ _ _ _ => rfl) (Nat.le_of_ble_eq_true rfl) ?_
  refine tK (l := xk_191) rfl rfl (fun _ _ _ _ _ => rfl) ?_
  refine tK (l := xk_191) rfl rfl (fun _ _ _ _ _ => rfl) ?_
  refine tIc_ne (l := xk_191) (pc' := 61) rfl rfl rfl (fun hc => ?_) (fun hc => ?_)
  · refine tK (l := xk_191) rfl rfl (fun _ _ _ _ _ => rfl) ?_
    refine tK (l := xk_191) rfl rfl (fun _ _ _ _ _ => rfl) ?_
    refine tK (l := xk_191) rfl rfl (hGetI hs rfl rfl rfl (by decide) (by decide)) ?_
    rw [e28]
    refine tK (l := xk_191) rfl rfl (fun _ _ _ _ _ => rfl) ?_
    refine tK (l := xk_191) rfl rfl (hSub ⟨by omega, by omega⟩) ?_
    rw [e28b]
    refine tK (l := xk_191) rfl rfl (hPutV hs rfl rfl (by decide) (by decide) rfl) ?_
    refine tK (l := xk_191) rfl rfl (fun _ _ _ _ _ => rfl) ?_
    refine tK (l := xk_191) rfl rfl (hGetR (o := some 165) (hShI1 _ hs rfl rfl) rfl rfl rfl (by decide) (by decide) rfl) ?_
    refine tK (l := xk_191) rfl rfl (fun _ _ _ _ _ => rfl) ?_
    refine tK (l := xk_191) rfl rfl (fun _ _ _ _ _ => rfl) ?_
    first | refine tK (l := xk_191) rfl rfl (hIaldN (hShI1 _ hs rfl rfl) rfl rfl (by omega)) ?_ | refine tK (l := xk_191) rfl rfl (hIald (hShI1 _ hs rfl rfl) rfl (by omega) (by omega)) ?_
    rw [x65]
    refine tK (l := xk_191) rfl rfl (fun _ _ _ _ _ => rfl) ?_
    refine tK (l := xk_191) rfl rfl (hAdd ⟨by omega, by omega⟩) ?_
    first | refine tK (l := xk_191) rfl rfl (hIastN (hShI1 _ hs rfl rfl) rfl rfl (by omega)) ?_ | refine tK (l := xk_191) rfl rfl (hIast (hShI1 _ hs rfl rfl) rfl (by omega) (by omega)) ?_
    refine tK (l := xk_191) rfl rfl (fun _ _ _ _ _ => rfl) ?_
    refine tK (l := xk_191) rfl rfl (hGetR (o := some 165) (hShI1 _ (hShI1 _ hs rfl rfl) rfl rfl) rfl rfl rfl (by decide) (by decide) rfl) ?_
    refine tK (l := xk_191) rfl rfl (fun _ _ _ _ _ => rfl) ?_
    first | refine tK (l := xk_191) rfl rfl (hIaldN (hShI1 _ (hShI1 _ hs rfl rfl) rfl rfl) rfl rfl (by omega)) ?_ | refine tK (l := xk_191) rfl rfl (hIald (hShI1 _ (hShI1 _ hs rfl rfl) rfl rfl) rfl (by omega) (by omega)) ?_
    rw [w65]
    refine tK (l := xk_191) rfl rfl (fun _ _ _ _ _ => rfl) ?_
    refine tK (l := xk_191) rfl rfl (hGetR (o := some 166) (hShI1 _ (hShI1 _ hs rfl rfl) rfl rfl) rfl rfl rfl (by decide) (by decide) rfl) ?_
    refine tK (l := xk_191) rfl rfl (fun _ _ _ _ _ => rfl) ?_
    first | refine tK (l := xk_191) rfl rfl (hIaldN (hShI1 _ (hShI1 _ hs rfl rfl) rfl rfl) rfl rfl (by omega)) ?_ | refine tK (l := xk_191) rfl rfl (hIald (hShI1 _ (hShI1 _ hs rfl rfl) rfl rfl) rfl (by omega) (by omega)) ?_
    rw [w66]
    refine tIc_ge (l := xk_191) (pc' := 61) rfl rfl rfl (fun hc => ?_) (fun hc => ?_)
    · refine tK (l := xk_191) rfl rfl (fun _ _ _ _ _ => rfl) ?_
      refine tK (l := xk_191) rfl rfl (fun _ _ _ _ _ => rfl) ?_
      refine tCa (l := xk_191) rfl rfl (hInvV (c := 10) (hShI1 _ (hShI1 _ hs rfl rfl) rfl rfl) rfl rfl rfl rfl rfl (Nat.le_of_ble_eq_true rfl) (Nat.le_of_ble_eq_true rfl)) ?_
      refine s192 (p := f.2.2.2.2.1 + 1) (c := c2) p2 (by omega) (by omega) w65 (by omega) (by rw [fA.at (by decide)]; exact d6 _ c2 hc2) (by rw [fA.at (by decide)]; exact d1) (fun ph3 r3 f3 l3 e3 => ?_)
      refine tKn ?_
      refine tRt (l := xk_191) rfl rfl (fun _ _ _ _ _ => rfl) ?_
      have fB : hFM [28] [155, 162, 165] ph ph3 := (fA.mono (by decide) (by decide)).trans (f3.mono (by decide) (by decide))
      have ec : cP ((5, f.2.2.1, f.2.2.1, f.2.2.2.1, f.2.2.2.2.1 + 1, f.2.2.2.2.2) :: gq :: gs) = cP (f :: gq :: gs) := by rw [cP_k (by simp), cP_k hk0]
      have e65 : ∀ j, j < gs.length + 1 → hRd ph3 165 j = hRd ph 165 j := fun j hj => by rw [f3.at (by decide), rd2, if_neg (by omega), rd1, if_neg (by omega)]
      have e62 : ∀ j, j < gs.length + 1 → hRd ph3 162 j = hRd ph 162 j := fun j hj => by rw [l3 j (by omega), fA.at (by decide)]
      have hlow : hMf ph3 (gq :: gs) := b1.eq (fun a j q1 q2 q3 => by
      simp only [List.length_cons] at q3
      by_cases e : a = 165
      · rw [e]; exact e65 j q3
      · by_cases e2 : a = 162
        · rw [e2]; exact e62 j q3
        · exact fB.at (by simp only [List.mem_cons, List.not_mem_nil, or_false]; omega) j) (fun j _ => fB.at (by decide) j) (fun j _ => fB.at (by decide) j) (fB.fl (by decide)) (fun j _ => fB.at (by decide) j)
      refine hQ ph3 ⟨r3, List.cons_ne_nil _ _, ⟨hlow, Or.inr (List.cons_ne_nil _ _), fun q => absurd q (by simp), ?_, ?_, ?_, fun q => absurd q (by simp), fun _ => ⟨?_, ?_, ?_, d4, by simp only; omega, fun i c hi => ?_⟩⟩, by rw [fB.fl (by decide), a4]; simp, by simp only [List.length_cons]; omega, by rw [ec]; exact a6.fr fB, a7.fr fB, by rw [nsc_s (Or.inr rfl)]; simp only [List.length_cons]; omega⟩ fB.big
      · rw [fB.at (by decide)]; exact v160
      · rw [fB.at (by decide), ec]; exact b5
      · exact e3
      · rw [fB.at (by decide)]; exact d1
      · rw [f3.at (by decide)]; exact w65
      · rw [fB.at (by decide)]; exact d3
      · rw [fB.at (by decide)]; exact d6 i c hi
    · exfalso; omega
  · exact absurd rfl hc
theorem s191_5b (h : hMC zs ph (f :: gq :: gs) (f0 :: sc, r2)) (hk : f.1 = 5) (hx9 : f.2.1 ≤ 1000) (hc2 : f.2.2.2.2.2.length = f.2.2.2.2.1 + 1) (hQ : ∀ ph2, hMC zs ph2 (fsN (gq :: gs) (f.2.1 + 1)) (sc, r2) → hFM mF mA ph ph2 → Q (.inl none, ph2, g)) : xTC (d + 3) 191 [.inr (.inl (some 147))] ph g Q := by
  obtain ⟨a1, a2, a3, a4, a5, a6, a7, a8⟩ := id h
  have hs := a1.1
  obtain ⟨z1, z2, z3, z4, z5, z6, z7, z8⟩ := hSzM
  obtain ⟨y1, y2, y3, y4, y5, y6, y7, y8, y9⟩ := hSzO
  obtain ⟨b1, b2, b3, b4, b5, b6, b7, b8⟩ := id a3
  simp only [List.length_cons] at a4 a5 b4 b5 b6 b7 b8
  have ek : hRd ph 147 43 - 1 = ((gs.length + 1 : Nat) : Int) := by rw [a4]; push_cast; omega
  have ek1 : (((gs.length + 1 : Nat) : Int) + 1) - 1 = ((gs.length + 1 : Nat) : Int) := by omega
  have ek2 : ((gs.length + 1 : Nat) : Int) - 1 = (gs.length : Int) := by omega
  have h28 := a1.2.1.1
  have h28l := a1.2.1.2.1
  simp only [List.length_cons] at h28 h28l
  have e28 : hRd ph 147 28 = (sc.length : Int) + 1 := by push_cast at h28; exact h28
  have e28b : (sc.length : Int) + 1 - 1 = (sc.length : Int) := by omega
  have hk0 : f.1 ≠ 0 := by omega
  have v160 : hRd ph 160 (gs.length + 1) = 42 := by rw [b4, hk]; rfl
  obtain ⟨d1, d2, d3, d4, d5, d6⟩ := b8 hk
  simp only [List.length_cons] at a8
  rw [nsc_s (Or.inr hk)] at a8
  obtain ⟨p1, f1⟩ := a1.pop
  have s1 := p1.1
  have rd1 := hRd_up (x := (sc.length : Int)) hs (show hKi (hTg 147) 28 = true from rfl) (by decide)
  have x65 : hRd (hUp ph 147 28 (sc.length : Int)) 165 (gs.length + 1) = (f.2.2.2.2.1 : Int) := by rw [f1.at (by decide)]; exact d2
  have s2 : hSh zs (hUp (hUp ph 147 28 (sc.length : Int)) 165 (gs.length + 1) ((f.2.2.2.2.1 : Int) + 1)) := hShI1 _ s1 rfl rfl
  have f2 : hFM [] [165] (hUp ph 147 28 (sc.length : Int)) (hUp (hUp ph 147 28 (sc.length : Int)) 165 (gs.length + 1) ((f.2.2.2.2.1 : Int) + 1)) := hFM_a s1 rfl (by omega) (by decide) (by decide)
  have rd2 := hRd_up (x := (f.2.2.2.2.1 : Int) + 1) s1 (show hKi (hTg 165) (gs.length + 1) = true from rfl) (by omega)
  have fA : hFM [28] [165] ph (hUp (hUp ph 147 28 (sc.length : Int)) 165 (gs.length + 1) ((f.2.2.2.2.1 : Int) + 1)) := (f1.mono (by decide) (by decide)).trans (f2.mono (by decide) (by decide))
  have w65 : hRd (hUp (hUp ph 147 28 (sc.length : Int)) 165 (gs.length + 1) ((f.2.2.2.2.1 : Int) + 1)) 165 (gs.length + 1) = ((f.2.2.2.2.1 + 1 : Nat) : Int) := by rw [rd2, if_pos ⟨rfl, rfl⟩]; push_cast; rfl
  have w66 : hRd (hUp (hUp ph 147 28 (sc.length : Int)) 165 (gs.length + 1) ((f.2.2.2.2.1 : Int) + 1)) 166 (gs.length + 1) = (f.2.2.2.2.2.length : Int) := by rw [fA.at (by decide)]; exact d3
  have w43 : hRd (hUp (hUp ph 147 28 (sc.length : Int)) 165 (gs.length + 1) ((f.2.2.2.2.1 : Int) + 1)) 147 43 = ((gs.length + 1 : Nat) : Int) + 1 := by rw [fA.fl (by decide), a4]; push_cast; rfl
  have p2 : hMN zs (hUp (hUp ph 147 28 (sc.length : Int)) 165 (gs.length + 1) ((f.2.2.2.2.1 : Int) + 1)) (sc, r2) := p1.fr s2 f2
  refine tEn (ls := [some (.inr (.inl (some 147))), none, none, none, none]) (fun k => by match k with | 0 => rfl | 1 => rfl | 2 => rfl | 3 => rfl | 4 => rfl | k + 5 => rfl) ?_
  refine tK (l := xk_191) rfl rfl (fun _ _ _ _ _ => rfl) ?_
  refine tK (l := xk_191) rfl rfl (hGetI hs rfl rfl rfl (by decide) (by decide)) ?_
  refine tK (l := xk_191) rfl rfl (fun _ _ _ _ _ => rfl) ?_
  refine tK (l := xk_191) rfl rfl (hSub ⟨by omega, by omega⟩) ?_
  rw [ek]
  refine tSt (l := xk_191) rfl rfl (fun _ _ _ _ _ => rfl) (Nat.le_of_ble_eq_true rfl) ?_
  refine tK (l := xk_191) rfl rfl (fun _ _ _ _ _ => rfl) ?_
  refine tK (l := xk_191) rfl rfl (hGetR (o := some 160) hs rfl rfl rfl (by decide) (by decide) rfl) ?_
  refine tK (l := xk_191) rfl rfl (fun _ _ _ _ _ => rfl) ?_
  first | refine tK (l := xk_191) rfl rfl (hIaldN hs rfl rfl (by omega)) ?_ | refine tK (l := xk_191) rfl rfl (hIald hs rfl (by omega) (by omega)) ?_
  rw [v160]
  refine tSt (l := xk_191) rfl rfl (fun _ _ _ _ _ => rfl) (Nat.le_of_ble_eq_true rfl) ?_
  refine tK (l := xk_191) rfl rfl (fun _ _ _ _ _ => rfl) ?_
  refine tK (l := xk_191) rfl rfl (fun _ _ _ _ _ => rfl) ?_
  refine tIc_ne (l := xk_191) (pc' := 61) rfl rfl rfl (fun hc => ?_) (fun hc => ?_)
  · refine tK (l := xk_191) rfl rfl (fun _ _ _ _ _ => rfl) ?_
    refine tK (l := xk_191) rfl rfl (fun _ _ _ _ _ => rfl) ?_
    refine tK (l := xk_191) rfl rfl (hGetI hs rfl rfl rfl (by decide) (by decide)) ?_
    rw [e28]
    refine tK (l := xk_191) rfl rfl (fun _ _ _ _ _ => rfl) ?_
    refine tK (l := xk_191) rfl rfl (hSub ⟨by omega, by omega⟩) ?_
    rw [e28b]
    refine tK (l := xk_191) rfl rfl (hPutV hs rfl rfl (by decide) (by decide) rfl) ?_
    refine tK (l := xk_191) rfl rfl (fun _ _ _ _ _ => rfl) ?_
    refine tK (l := xk_191) rfl rfl (hGetR (o := some 165) (hShI1 _ hs rfl rfl) rfl rfl rfl (by decide) (by decide) rfl) ?_
    refine tK (l := xk_191) rfl rfl (fun _ _ _ _ _ => rfl) ?_
    refine tK (l := xk_191) rfl rfl (fun _ _ _ _ _ => rfl) ?_
    first | refine tK (l := xk_191) rfl rfl (hIaldN (hShI1 _ hs rfl rfl) rfl rfl (by omega)) ?_ | refine tK (l := xk_191) rfl rfl (hIald (hShI1 _ hs rfl rfl) rfl (by omega) (by omega)) ?_
    rw [x65]
    refine tK (l := xk_191) rfl rfl (fun _ _ _ _ _ => rfl) ?_
    refine tK (l := xk_191) rfl rfl (hAdd ⟨by omega, by omega⟩) ?_
    first | refine tK (l := xk_191) rfl rfl (hIastN (hShI1 _ hs rfl rfl) rfl rfl (by omega)) ?_ | refine tK (l := xk_191) rfl rfl (hIast (hShI1 _ hs rfl rfl) rfl (by omega) (by omega)) ?_
    refine tK (l := xk_191) rfl rfl (fun _ _ _ _ _ => rfl) ?_
    refine tK (l := xk_191) rfl rfl (hGetR (o := some 165) (hShI1 _ (hShI1 _ hs rfl rfl) rfl rfl) rfl rfl rfl (by decide) (by decide) rfl) ?_
    refine tK (l := xk_191) rfl rfl (fun _ _ _ _ _ => rfl) ?_
    first | refine tK (l := xk_191) rfl rfl (hIaldN (hShI1 _ (hShI1 _ hs rfl rfl) rfl rfl) rfl rfl (by omega)) ?_ | refine tK (l := xk_191) rfl rfl (hIald (hShI1 _ (hShI1 _ hs rfl rfl) rfl rfl) rfl (by omega) (by omega)) ?_
    rw [w65]
    refine tK (l := xk_191) rfl rfl (fun _ _ _ _ _ => rfl) ?_
    refine tK (l := xk_191) rfl rfl (hGetR (o := some 166) (hShI1 _ (hShI1 _ hs rfl rfl) rfl rfl) rfl rfl rfl (by decide) (by decide) rfl) ?_
    refine tK (l := xk_191) rfl rfl (fun _ _ _ _ _ => rfl) ?_
    first | refine tK (l := xk_191) rfl rfl (hIaldN (hShI1 _ (hShI1 _ hs rfl rfl) rfl rfl) rfl rfl (by omega)) ?_ | refine tK (l := xk_191) rfl rfl (hIald (hShI1 _ (hShI1 _ hs rfl rfl) rfl rfl) rfl (by omega) (by omega)) ?_
    rw [w66]
    refine tIc_ge (l := xk_191) (pc' := 61) rfl rfl rfl (fun hc => ?_) (fun hc => ?_)
    · exfalso; omega
    · refine tK (l := xk_191) rfl rfl (fun _ _ _ _ _ => rfl) ?_
      refine tK (l := xk_191) rfl rfl (fun _ _ _ _ _ => rfl) ?_
      refine tK (l := xk_191) rfl rfl (hGetI (hShI1 _ (hShI1 _ hs rfl rfl) rfl rfl) rfl rfl rfl (by decide) (by decide)) ?_
      rw [w43]
      refine tK (l := xk_191) rfl rfl (fun _ _ _ _ _ => rfl) ?_
      refine tK (l := xk_191) rfl rfl (hSub ⟨by omega, by omega⟩) ?_
      rw [ek1]
      refine tK (l := xk_191) rfl rfl (hPutV (hShI1 _ (hShI1 _ hs rfl rfl) rfl rfl) rfl rfl (by decide) (by decide) rfl) ?_
      have s3 : hSh zs (hUp (hUp (hUp ph 147 28 (sc.length : Int)) 165 (gs.length + 1) ((f.2.2.2.2.1 : Int) + 1)) 147 43 ((gs.length + 1 : Nat) : Int)) := hShI1 _ s2 rfl rfl
      have f3 : hFM [43] [] (hUp (hUp ph 147 28 (sc.length : Int)) 165 (gs.length + 1) ((f.2.2.2.2.1 : Int) + 1)) (hUp (hUp (hUp ph 147 28 (sc.length : Int)) 165 (gs.length + 1) ((f.2.2.2.2.1 : Int) + 1)) 147 43 ((gs.length + 1 : Nat) : Int)) := hFM_f s2 rfl (by decide) (by decide)
      have x43 : hRd (hUp (hUp (hUp ph 147 28 (sc.length : Int)) 165 (gs.length + 1) ((f.2.2.2.2.1 : Int) + 1)) 147 43 ((gs.length + 1 : Nat) : Int)) 147 43 = ((gs.length + 1 : Nat) : Int) := by rw [hRd_up s2 rfl (by decide), if_pos ⟨rfl, rfl⟩]
      refine tK (l := xk_191) rfl rfl (fun _ _ _ _ _ => rfl) ?_
      refine tK (l := xk_191) rfl rfl (fun _ _ _ _ _ => rfl) ?_
      refine tIc_ne (l := xk_191) (pc' := 167) rfl rfl rfl (fun hc => ?_) (fun hc => ?_)
      · exact absurd hc (by decide)
      · refine tK (l := xk_191) rfl rfl (fun _ _ _ _ _ => rfl) ?_
        refine tIf_ne (l := xk_191) (pc' := 198) rfl rfl rfl (fun hc => ?_) (fun hc => ?_)
        · exact absurd hc (by decide)
        · refine tK (l := xk_191) rfl rfl (fun _ _ _ _ _ => rfl) ?_
          refine tIf_eq (l := xk_191) (pc' := 221) rfl rfl rfl (fun hc => ?_) (fun hc => ?_)
          · exact absurd hc (by decide)
          · have t43 : hRd (hUp (hUp (hUp ph 147 28 (sc.length : Int)) 165 (gs.length + 1) ((f.2.2.2.2.1 : Int) + 1)) 147 43 ((gs.length + 1 : Nat) : Int)) 147 43 = ((gs.length + 1 : Nat) : Int) := x43
            have t62 : hRd (hUp (hUp (hUp ph 147 28 (sc.length : Int)) 165 (gs.length + 1) ((f.2.2.2.2.1 : Int) + 1)) 147 43 ((gs.length + 1 : Nat) : Int)) 162 (gs.length + 1) = (f.2.1 : Int) := by rw [f3.at (by decide), fA.at (by decide)]; exact b6
            refine tK (l := xk_191) rfl rfl (fun _ _ _ _ _ => rfl) ?_
            refine tK (l := xk_191) rfl rfl (hGetR (o := some 162) (hShI1 _ (hShI1 _ (hShI1 _ hs rfl rfl) rfl rfl) rfl rfl) rfl rfl rfl (by decide) (by decide) rfl) ?_
            refine tK (l := xk_191) rfl rfl (fun _ _ _ _ _ => rfl) ?_
            refine tK (l := xk_191) rfl rfl (hGetI (hShI1 _ (hShI1 _ (hShI1 _ hs rfl rfl) rfl rfl) rfl rfl) rfl rfl rfl (by decide) (by decide)) ?_
            rw [t43]
            refine tK (l := xk_191) rfl rfl (fun _ _ _ _ _ => rfl) ?_
            refine tK (l := xk_191) rfl rfl (hSub ⟨by omega, by omega⟩) ?_
            rw [ek2]
            refine tK (l := xk_191) rfl rfl (fun _ _ _ _ _ => rfl) ?_
            refine tK (l := xk_191) rfl rfl (hGetR (o := some 162) (hShI1 _ (hShI1 _ (hShI1 _ hs rfl rfl) rfl rfl) rfl rfl) rfl rfl rfl (by decide) (by decide) rfl) ?_
            refine tK (l := xk_191) rfl rfl (fun _ _ _ _ _ => rfl) ?_
            first | refine tK (l := xk_191) rfl rfl (hIaldN (hShI1 _ (hShI1 _ (hShI1 _ hs rfl rfl) rfl rfl) rfl rfl) rfl rfl (by omega)) ?_ | refine tK (l := xk_191) rfl rfl (hIald (hShI1 _ (hShI1 _ (hShI1 _ hs rfl rfl) rfl rfl) rfl rfl) rfl (by omega) (by omega)) ?_
            rw [t62]
            refine tK (l := xk_191) rfl rfl (fun _ _ _ _ _ => rfl) ?_
            refine tK (l := xk_191) rfl rfl (hAdd ⟨by omega, by omega⟩) ?_
            first | refine tK (l := xk_191) rfl rfl (hIastN (hShI1 _ (hShI1 _ (hShI1 _ hs rfl rfl) rfl rfl) rfl rfl) rfl rfl (by omega)) ?_ | refine tK (l := xk_191) rfl rfl (hIast (hShI1 _ (hShI1 _ (hShI1 _ hs rfl rfl) rfl rfl) rfl rfl) rfl (by omega) (by omega)) ?_
            refine tRt (l := xk_191) rfl rfl (fun _ _ _ _ _ => rfl) ?_
            obtain ⟨k1, k2⟩ := h.close (phx := (hUp (hUp (hUp ph 147 28 (sc.length : Int)) 165 (gs.length + 1) ((f.2.2.2.2.1 : Int) + 1)) 147 43 ((gs.length + 1 : Nat) : Int))) hk0 (p2.fr s3 f3) ((fA.mono (by decide) (by decide)).trans (f3.mono (by decide) (by decide))) x43 (fun j hj => by rw [f3.at (by decide), rd2, if_neg (by omega), rd1, if_neg (by omega)]) (by simp only; omega)
            exact hQ _ k1 k2
  · exact absurd rfl hc
theorem s191_6 (h : hMC zs ph (f :: gq :: gs) rs) (hk : f.1 = 6) (hx9 : f.2.1 ≤ 1000) (hQ : ∀ ph2, hMC zs ph2 (fsN (gq :: gs) (f.2.1 + 1)) rs → hFM mF mA ph ph2 → Q (.inl none, ph2, g)) : xTC (d + 3) 191 [.inr (.inl (some 147))] ph g Q := by
  obtain ⟨a1, a2, a3, a4, a5, a6, a7, a8⟩ := id h
  have hs := a1.1
  obtain ⟨z1, z2, z3, z4, z5, z6, z7, z8⟩ := hSzM
  obtain ⟨y1, y2, y3, y4, y5, y6, y7, y8, y9⟩ := hSzO
  obtain ⟨b1, b2, b3, b4, b5, b6, b7, b8⟩ := id a3
  simp only [List.length_cons] at a4 a5 b4 b5 b6 b7 b8
  have ek : hRd ph 147 43 - 1 = ((gs.length + 1 : Nat) : Int) := by rw [a4]; push_cast; omega
  have ek1 : (((gs.length + 1 : Nat) : Int) + 1) - 1 = ((gs.length + 1 : Nat) : Int) := by omega
  have ek2 : ((gs.length + 1 : Nat) : Int) - 1 = (gs.length : Int) := by omega
  have w43 : hRd ph 147 43 = ((gs.length + 1 : Nat) : Int) + 1 := by rw [a4]; push_cast; rfl
  have hk0 : f.1 ≠ 0 := by omega
  have v160 : hRd ph 160 (gs.length + 1) = 63 := by rw [b4, hk]; rfl
  rw [nsc_n (by omega)] at a8
  refine tEn (ls := [some (.inr (.inl (some 147))), none, none, none, none]) (fun k => by match k with | 0 => rfl | 1 => rfl | 2 => rfl | 3 => rfl | 4 => rfl | k + 5 => rfl) ?_
  refine tK (l := xk_191) rfl rfl (fun _ _ _ _ _ => rfl) ?_
  refine tK (l := xk_191) rfl rfl (hGetI hs rfl rfl rfl (by decide) (by decide)) ?_
  refine tK (l := xk_191) rfl rfl (fun _ _ _ _ _ => rfl) ?_
  refine tK (l := xk_191) rfl rfl (hSub ⟨by omega, by omega⟩) ?_
  rw [ek]
  refine tSt (l := xk_191) rfl rfl (fun _ _ _ _ _ => rfl) (Nat.le_of_ble_eq_true rfl) ?_
  refine tK (l := xk_191) rfl rfl (fun _ _ _ _ _ => rfl) ?_
  refine tK (l := xk_191) rfl rfl (hGetR (o := some 160) hs rfl rfl rfl (by decide) (by decide) rfl) ?_
  refine tK (l := xk_191) rfl rfl (fun _ _ _ _ _ => rfl) ?_
  first | refine tK (l := xk_191) rfl rfl (hIaldN hs rfl rfl (by omega)) ?_ | refine tK (l := xk_191) rfl rfl (hIald hs rfl (by omega) (by omega)) ?_
  rw [v160]
  refine tSt (l := xk_191) rfl rfl (fun _ _ _ _ _ => rfl) (Nat.le_of_ble_eq_true rfl) ?_
  refine tK (l := xk_191) rfl rfl (fun _ _ _ _ _ => rfl) ?_
  refine tK (l := xk_191) rfl rfl (fun _ _ _ _ _ => rfl) ?_
  refine tIc_ne (l := xk_191) (pc' := 61) rfl rfl rfl (fun hc => ?_) (fun hc => ?_)
  · exact absurd hc (by decide)
  · refine tK (l := xk_191) rfl rfl (fun _ _ _ _ _ => rfl) ?_
    refine tK (l := xk_191) rfl rfl (fun _ _ _ _ _ => rfl) ?_
    refine tK (l := xk_191) rfl rfl (hGetI hs rfl rfl rfl (by decide) (by decide)) ?_
    rw [w43]
    refine tK (l := xk_191) rfl rfl (fun _ _ _ _ _ => rfl) ?_
    refine tK (l := xk_191) rfl rfl (hSub ⟨by omega, by omega⟩) ?_
    rw [ek1]
    refine tK (l := xk_191) rfl rfl (hPutV hs rfl rfl (by decide) (by decide) rfl) ?_
    have s3 : hSh zs (hUp ph 147 43 ((gs.length + 1 : Nat) : Int)) := hShI1 _ hs rfl rfl
    have f3 : hFM [43] [] ph (hUp ph 147 43 ((gs.length + 1 : Nat) : Int)) := hFM_f hs rfl (by decide) (by decide)
    have x43 : hRd (hUp ph 147 43 ((gs.length + 1 : Nat) : Int)) 147 43 = ((gs.length + 1 : Nat) : Int) := by rw [hRd_up hs rfl (by decide), if_pos ⟨rfl, rfl⟩]
    refine tK (l := xk_191) rfl rfl (fun _ _ _ _ _ => rfl) ?_
    refine tK (l := xk_191) rfl rfl (fun _ _ _ _ _ => rfl) ?_
    refine tIc_ne (l := xk_191) (pc' := 167) rfl rfl rfl (fun hc => ?_) (fun hc => ?_)
    · exact absurd hc (by decide)
    · refine tK (l := xk_191) rfl rfl (fun _ _ _ _ _ => rfl) ?_
      refine tIf_ne (l := xk_191) (pc' := 198) rfl rfl rfl (fun hc => ?_) (fun hc => ?_)
      · exact absurd hc (by decide)
      · refine tK (l := xk_191) rfl rfl (fun _ _ _ _ _ => rfl) ?_
        refine tIf_eq (l := xk_191) (pc' := 221) rfl rfl rfl (fun hc => ?_) (fun hc => ?_)
        · exact absurd hc (by decide)
        · have t43 : hRd (hUp ph 147 43 ((gs.length + 1 : Nat) : Int)) 147 43 = ((gs.length + 1 : Nat) : Int) := x43
          have t62 : hRd (hUp ph 147 43 ((gs.length + 1 : Nat) : Int)) 162 (gs.length + 1) = (f.2.1 : Int) := by rw [f3.at (by decide)]; exact b6
          refine tK (l := xk_191) rfl rfl (fun _ _ _ _ _ => rfl) ?_
          refine tK (l := xk_191) rfl rfl (hGetR (o := some 162) (hShI1 _ hs rfl rfl) rfl rfl rfl (by decide) (by decide) rfl) ?_
          refine tK (l := xk_191) rfl rfl (fun _ _ _ _ _ => rfl) ?_
          refine tK (l := xk_191) rfl rfl (hGetI (hShI1 _ hs rfl rfl) rfl rfl rfl (by decide) (by decide)) ?_
          rw [t43]
          refine tK (l := xk_191) rfl rfl (fun _ _ _ _ _ => rfl) ?_
          refine tK (l := xk_191) rfl rfl (hSub ⟨by omega, by omega⟩) ?_
          rw [ek2]
          refine tK (l := xk_191) rfl rfl (fun _ _ _ _ _ => rfl) ?_
          refine tK (l := xk_191) rfl rfl (hGetR (o := some 162) (hShI1 _ hs rfl rfl) rfl rfl rfl (by decide) (by decide) rfl) ?_
          refine tK (l := xk_191) rfl rfl (fun _ _ _ _ _ => rfl) ?_
          first | refine tK (l := xk_191) rfl rfl (hIaldN (hShI1 _ hs rfl rfl) rfl rfl (by omega)) ?_ | refine tK (l := xk_191) rfl rfl (hIald (hShI1 _ hs rfl rfl) rfl (by omega) (by omega)) ?_
          rw [t62]
          refine tK (l := xk_191) rfl rfl (fun _ _ _ _ _ => rfl) ?_
          refine tK (l := xk_191) rfl rfl (hAdd ⟨by omega, by omega⟩) ?_
          first | refine tK (l := xk_191) rfl rfl (hIastN (hShI1 _ hs rfl rfl) rfl rfl (by omega)) ?_ | refine tK (l := xk_191) rfl rfl (hIast (hShI1 _ hs rfl rfl) rfl (by omega) (by omega)) ?_
          refine tRt (l := xk_191) rfl rfl (fun _ _ _ _ _ => rfl) ?_
          obtain ⟨k1, k2⟩ := h.close (phx := (hUp ph 147 43 ((gs.length + 1 : Nat) : Int))) hk0 (a1.fr s3 f3) (f3.mono (by decide) (by decide)) x43 (fun j hj => f3.at (by decide) j) a8
          exact hQ _ k1 k2
theorem s191_0 (h : hMC zs ph (f :: gq :: gs) (f0 :: sc, r2)) (hk : f.1 = 0) (hQ : ∀ ph2, hMC zs ph2 (gq :: gs) (sc, r2) → hFM mF mA ph ph2 → Q (.inl none, ph2, g)) : xTC (d + 3) 191 [.inr (.inl (some 147))] ph g Q := by
  obtain ⟨a1, a2, a3, a4, a5, a6, a7, a8⟩ := id h
  have hs := a1.1
  obtain ⟨z1, z2, z3, z4, z5, z6, z7, z8⟩ := hSzM
  obtain ⟨y1, y2, y3, y4, y5, y6, y7, y8, y9⟩ := hSzO
  obtain ⟨b1, b2, b3, b4, b5, b6, b7, b8⟩ := id a3
  simp only [List.length_cons] at a4 a5 b4 b5 b6 b7 b8
  have ek : hRd ph 147 43 - 1 = ((gs.length + 1 : Nat) : Int) := by rw [a4]; push_cast; omega
  have ek1 : (((gs.length + 1 : Nat) : Int) + 1) - 1 = ((gs.length + 1 : Nat) : Int) := by omega
  have ek2 : ((gs.length + 1 : Nat) : Int) - 1 = (gs.length : Int) := by omega
  have h28 := a1.2.1.1
  have h28l := a1.2.1.2.1
  simp only [List.length_cons] at h28 h28l
  have e28 : hRd ph 147 28 = (sc.length : Int) + 1 := by push_cast at h28; exact h28
  have e28b : (sc.length : Int) + 1 - 1 = (sc.length : Int) := by omega
  have w43 : hRd ph 147 43 = ((gs.length + 1 : Nat) : Int) + 1 := by rw [a4]; push_cast; rfl
  have v160 : hRd ph 160 (gs.length + 1) = 0 := by rw [b4, hk]; rfl
  have ecp : cP (f :: gq :: gs) = f.2.2.1 :: cP (gq :: gs) := by simp only [cP]; rw [if_pos (c := f.1 = 0 ∧ gq :: gs ≠ []) ⟨hk, List.cons_ne_nil _ _⟩]
  have e34 : hRd ph 147 34 = ((cP (gq :: gs)).length : Int) + 1 := by rw [a6.1, ecp]; simp
  have hil := a6.2.1
  rw [ecp, List.length_reverse, List.length_cons] at hil
  simp only [List.length_cons] at a8
  rw [nsc_s (Or.inl hk)] at a8
  refine tEn (ls := [some (.inr (.inl (some 147))), none, none, none, none]) (fun k => by match k with | 0 => rfl | 1 => rfl | 2 => rfl | 3 => rfl | 4 => rfl | k + 5 => rfl) ?_
  refine tK (l := xk_191) rfl rfl (fun _ _ _ _ _ => rfl) ?_
  refine tK (l := xk_191) rfl rfl (hGetI hs rfl rfl rfl (by decide) (by decide)) ?_
  refine tK (l := xk_191) rfl rfl (fun _ _ _ _ _ => rfl) ?_
  refine tK (l := xk_191) rfl rfl (hSub ⟨by omega, by omega⟩) ?_
  rw [ek]
  refine tSt (l := xk_191) rfl rfl (fun _ _ _ _ _ => rfl) (Nat.le_of_ble_eq_true rfl) ?_
  refine tK (l := xk_191) rfl rfl (fun _ _ _ _ _ => rfl) ?_
  refine tK (l := xk_191) rfl rfl (hGetR (o := some 160) hs rfl rfl rfl (by decide) (by decide) rfl) ?_
  refine tK (l := xk_191) rfl rfl (fun _ _ _ _ _ => rfl) ?_
  first | refine tK (l := xk_191) rfl rfl (hIaldN hs rfl rfl (by omega)) ?_ | refine tK (l := xk_191) rfl rfl (hIald hs rfl (by omega) (by omega)) ?_
  rw [v160]
  refine tSt (l := xk_191) rfl rfl (fun _ _ _ _ _ => rfl) (Nat.le_of_ble_eq_true rfl) ?_
  refine tK (l := xk_191) rfl rfl (fun _ _ _ _ _ => rfl) ?_
  refine tK (l := xk_191) rfl rfl (fun _ _ _ _ _ => rfl) ?_
  refine tIc_ne (l := xk_191) (pc' := 61) rfl rfl rfl (fun hc => ?_) (fun hc => ?_)
  · exact absurd hc (by decide)
  · refine tK (l := xk_191) rfl rfl (fun _ _ _ _ _ => rfl) ?_
    refine tK (l := xk_191) rfl rfl (fun _ _ _ _ _ => rfl) ?_
    refine tK (l := xk_191) rfl rfl (hGetI hs rfl rfl rfl (by decide) (by decide)) ?_
    rw [w43]
    refine tK (l := xk_191) rfl rfl (fun _ _ _ _ _ => rfl) ?_
    refine tK (l := xk_191) rfl rfl (hSub ⟨by omega, by omega⟩) ?_
    rw [ek1]
    refine tK (l := xk_191) rfl rfl (hPutV hs rfl rfl (by decide) (by decide) rfl) ?_
    have s3 : hSh zs (hUp ph 147 43 ((gs.length + 1 : Nat) : Int)) := hShI1 _ hs rfl rfl
    have f3 : hFM [43] [] ph (hUp ph 147 43 ((gs.length + 1 : Nat) : Int)) := hFM_f hs rfl (by decide) (by decide)
    have x43 : hRd (hUp ph 147 43 ((gs.length + 1 : Nat) : Int)) 147 43 = ((gs.length + 1 : Nat) : Int) := by rw [hRd_up hs rfl (by decide), if_pos ⟨rfl, rfl⟩]
    refine tK (l := xk_191) rfl rfl (fun _ _ _ _ _ => rfl) ?_
    refine tK (l := xk_191) rfl rfl (fun _ _ _ _ _ => rfl) ?_
    refine tIc_ne (l := xk_191) (pc' := 167) rfl rfl rfl (fun hc => ?_) (fun hc => ?_)
    · exact absurd hc (by decide)
    · refine tK (l := xk_191) rfl rfl (fun _ _ _ _ _ => rfl) ?_
      refine tIf_ne (l := xk_191) (pc' := 198) rfl rfl rfl (fun hc => ?_) (fun hc => ?_)
      · refine tK (l := xk_191) rfl rfl (fun _ _ _ _ _ => rfl) ?_
        refine tK (l := xk_191) rfl rfl (hGetI (hShI1 _ hs rfl rfl) rfl rfl rfl (by decide) (by decide)) ?_
        rw [x43]
        refine tIf_le (l := xk_191) (pc' := 198) rfl rfl rfl (fun hc => ?_) (fun hc => ?_)
        · have y28 : hRd (hUp ph 147 43 ((gs.length + 1 : Nat) : Int)) 147 28 = (sc.length : Int) + 1 := by rw [f3.fl (by decide)]; exact e28
          obtain ⟨p4, f4⟩ := (a1.fr s3 f3).pop
          have s4 := p4.1
          have y34 : hRd (hUp (hUp ph 147 43 ((gs.length + 1 : Nat) : Int)) 147 28 (sc.length : Int)) 147 34 = ((cP (gq :: gs)).length : Int) + 1 := by rw [f4.fl (by decide), f3.fl (by decide)]; exact e34
          have e34b : ((cP (gq :: gs)).length : Int) + 1 - 1 = ((cP (gq :: gs)).length : Int) := by omega
          refine tK (l := xk_191) rfl rfl (fun _ _ _ _ _ => rfl) ?_
          refine tK (l := xk_191) rfl rfl (fun _ _ _ _ _ => rfl) ?_
          refine tK (l := xk_191) rfl rfl (hGetI (hShI1 _ hs rfl rfl) rfl rfl rfl (by decide) (by decide)) ?_
          rw [y28]
          refine tK (l := xk_191) rfl rfl (fun _ _ _ _ _ => rfl) ?_
          refine tK (l := xk_191) rfl rfl (hSub ⟨by omega, by omega⟩) ?_
          rw [e28b]
          refine tK (l := xk_191) rfl rfl (hPutV (hShI1 _ hs rfl rfl) rfl rfl (by decide) (by decide) rfl) ?_
          refine tK (l := xk_191) rfl rfl (fun _ _ _ _ _ => rfl) ?_
          refine tK (l := xk_191) rfl rfl (fun _ _ _ _ _ => rfl) ?_
          refine tK (l := xk_191) rfl rfl (hGetI (hShI1 _ (hShI1 _ hs rfl rfl) rfl rfl) rfl rfl rfl (by decide) (by decide)) ?_
          rw [y34]
          refine tK (l := xk_191) rfl rfl (fun _ _ _ _ _ => rfl) ?_
          refine tK (l := xk_191) rfl rfl (hSub ⟨by omega, by omega⟩) ?_
          rw [e34b]
          refine tK (l := xk_191) rfl rfl (hPutV (hShI1 _ (hShI1 _ hs rfl rfl) rfl rfl) rfl rfl (by decide) (by decide) rfl) ?_
          refine tK (l := xk_191) rfl rfl (fun _ _ _ _ _ => rfl) ?_
          refine tIf_eq (l := xk_191) (pc' := 221) rfl rfl rfl (fun hc => ?_) (fun hc => ?_)
          · refine tRt (l := xk_191) rfl rfl (fun _ _ _ _ _ => rfl) ?_
            have f5 : hFM [34] [] (hUp (hUp ph 147 43 ((gs.length + 1 : Nat) : Int)) 147 28 (sc.length : Int)) (hUp (hUp (hUp ph 147 43 ((gs.length + 1 : Nat) : Int)) 147 28 (sc.length : Int)) 147 34 ((cP (gq :: gs)).length : Int)) := hFM_f s4 rfl (by decide) (by decide)
            have fB : hFM [28, 34, 43] [] ph (hUp (hUp (hUp ph 147 43 ((gs.length + 1 : Nat) : Int)) 147 28 (sc.length : Int)) 147 34 ((cP (gq :: gs)).length : Int)) := ((f3.mono (by decide) (by decide)).trans (f4.mono (by decide) (by decide))).trans (f5.mono (by decide) (by decide))
            refine hQ _ ⟨p4.fr (hShI1 _ (hShI1 _ (hShI1 _ hs rfl rfl) rfl rfl) rfl rfl) f5, List.cons_ne_nil _ _, b1.eq (fun a j q1 q2 q3 => fB.at (by simp only [List.mem_cons, List.not_mem_nil, or_false]; omega) j) (fun j _ => fB.at (by decide) j) (fun j _ => fB.at (by decide) j) (fB.fl (by decide)) (fun j _ => fB.at (by decide) j), ?_, by simp only [List.length_cons]; omega, ⟨?_, by rw [List.length_reverse]; omega, fun k x hx => ?_⟩, a7.fr fB, by simp only; omega⟩ fB.big
            · rw [f5.fl (by decide), f4.fl (by decide), x43]; simp
            · rw [hRd_up s4 rfl (by decide), if_pos ⟨rfl, rfl⟩, List.length_reverse]
            · rw [fB.at (by decide)]
              have hkl := (List.getElem?_eq_some_iff.mp hx).1
              exact a6.2.2 k x (by rw [ecp, List.reverse_cons, List.getElem?_append_left hkl]; exact hx)
          · exact absurd rfl hc
        · exfalso; omega
      · exact absurd rfl hc
theorem s191_e (h : hMC zs ph [f] rs) (hk : f.1 = 0) (hQ : ∀ ph2, hMN zs ph2 rs → hRd ph2 147 43 = 0 → h20 ph2 → hFM mF mA ph ph2 → Q (.inl none, ph2, g)) : xTC (d + 3) 191 [.inr (.inl (some 147))] ph g Q := by
  obtain ⟨a1, a2, a3, a4, a5, a6, a7, a8⟩ := id h
  have hs := a1.1
  obtain ⟨y1, y2, y3, y4, y5, y6, y7, y8, y9⟩ := hSzO
  obtain ⟨b1, b2, b3, b4, b5, b6, b7, b8⟩ := id a3
  have w43 : hRd ph 147 43 = 1 := a4
  have ek : hRd ph 147 43 - 1 = ((0 : Nat) : Int) := by rw [w43]; rfl
  have v160 : hRd ph 160 0 = 0 := by have : hRd ph 160 0 = sgM f.1 := b4; rw [this, hk]; rfl
  refine tEn (ls := [some (.inr (.inl (some 147))), none, none, none, none]) (fun k => by match k with | 0 => rfl | 1 => rfl | 2 => rfl | 3 => rfl | 4 => rfl | k + 5 => rfl) ?_
  refine tK (l := xk_191) rfl rfl (fun _ _ _ _ _ => rfl) ?_
  refine tK (l := xk_191) rfl rfl (hGetI hs rfl rfl rfl (by decide) (by decide)) ?_
  refine tK (l := xk_191) rfl rfl (fun _ _ _ _ _ => rfl) ?_
  refine tK (l := xk_191) rfl rfl (hSub ⟨by omega, by omega⟩) ?_
  rw [ek]
  refine tSt (l := xk_191) rfl rfl (fun _ _ _ _ _ => rfl) (Nat.le_of_ble_eq_true rfl) ?_
  refine tK (l := xk_191) rfl rfl (fun _ _ _ _ _ => rfl) ?_
  refine tK (l := xk_191) rfl rfl (hGetR (o := some 160) hs rfl rfl rfl (by decide) (by decide) rfl) ?_
  refine tK (l := xk_191) rfl rfl (fun _ _ _ _ _ => rfl) ?_
  first | refine tK (l := xk_191) rfl rfl (hIaldN hs rfl rfl (by omega)) ?_ | refine tK (l := xk_191) rfl rfl (hIald hs rfl (by omega) (by omega)) ?_
  rw [v160]
  refine tSt (l := xk_191) rfl rfl (fun _ _ _ _ _ => rfl) (Nat.le_of_ble_eq_true rfl) ?_
  refine tK (l := xk_191) rfl rfl (fun _ _ _ _ _ => rfl) ?_
  refine tK (l := xk_191) rfl rfl (fun _ _ _ _ _ => rfl) ?_
  refine tIc_ne (l := xk_191) (pc' := 61) rfl rfl rfl (fun hc => ?_) (fun hc => ?_)
  · exact absurd hc (by decide)
  · refine tK (l := xk_191) rfl rfl (fun _ _ _ _ _ => rfl) ?_
    refine tK (l := xk_191) rfl rfl (fun _ _ _ _ _ => rfl) ?_
    refine tK (l := xk_191) rfl rfl (hGetI hs rfl rfl rfl (by decide) (by decide)) ?_
    rw [w43]
    refine tK (l := xk_191) rfl rfl (fun _ _ _ _ _ => rfl) ?_
    refine tK (l := xk_191) rfl rfl (hSub ⟨by omega, by omega⟩) ?_
    rw [show ((1 : Int) - 1) = 0 from rfl]
    refine tK (l := xk_191) rfl rfl (hPutV hs rfl rfl (by decide) (by decide) rfl) ?_
    have s3 : hSh zs (hUp ph 147 43 0) := hShI1 _ hs rfl rfl
    have f3 : hFM [43] [] ph (hUp ph 147 43 0) := hFM_f hs rfl (by decide) (by decide)
    have x43 : hRd (hUp ph 147 43 0) 147 43 = 0 := by rw [hRd_up hs rfl (by decide), if_pos ⟨rfl, rfl⟩]
    refine tK (l := xk_191) rfl rfl (fun _ _ _ _ _ => rfl) ?_
    refine tK (l := xk_191) rfl rfl (fun _ _ _ _ _ => rfl) ?_
    refine tIc_ne (l := xk_191) (pc' := 167) rfl rfl rfl (fun hc => ?_) (fun hc => ?_)
    · exact absurd hc (by decide)
    · refine tK (l := xk_191) rfl rfl (fun _ _ _ _ _ => rfl) ?_
      refine tIf_ne (l := xk_191) (pc' := 198) rfl rfl rfl (fun hc => ?_) (fun hc => ?_)
      · refine tK (l := xk_191) rfl rfl (fun _ _ _ _ _ => rfl) ?_
        refine tK (l := xk_191) rfl rfl (hGetI (hShI1 _ hs rfl rfl) rfl rfl rfl (by decide) (by decide)) ?_
        rw [x43]
        refine tIf_le (l := xk_191) (pc' := 198) rfl rfl rfl (fun hc => ?_) (fun hc => ?_)
        · exact absurd hc (by decide)
        · refine tK (l := xk_191) rfl rfl (fun _ _ _ _ _ => rfl) ?_
          refine tIf_eq (l := xk_191) (pc' := 221) rfl rfl rfl (fun hc => ?_) (fun hc => ?_)
          · refine tRt (l := xk_191) rfl rfl (fun _ _ _ _ _ => rfl) ?_
            exact hQ _ (a1.fr s3 f3) x43 (a7.fr f3) f3.big
          · exact absurd rfl hc
      · exact absurd rfl hc
theorem s191_7 {s0 : List Int} {sg : List (List Int)} {r3 : List Int × Nat × Nat × Nat × Nat} (h : hMC zs ph (f :: gq :: gs) (f0 :: sc, s0 :: sg, r3)) (hk : f.1 = 7) (hnm : f.2.2.2.1 < 10) (hx9 : f.2.1 ≤ 1000) (hQ : ∀ ph2, hMC zs ph2 (fsN (gq :: gs) (f.2.1 + 1)) (scU f0 f.2.2.2.1 (some s0) :: sc, sg, r3) → hFM mF mA ph ph2 → Q (.inl none, ph2, g)) : xTC (d + 3) 191 [.inr (.inl (some 147))] ph g Q := by
  obtain ⟨a1, a2, a3, a4, a5, a6, a7, a8⟩ := id h
  have hs := a1.1
  obtain ⟨z1, z2, z3, z4, z5, z6, z7, z8⟩ := hSzM
  obtain ⟨y1, y2, y3, y4, y5, y6, y7, y8, y9⟩ := hSzO
  obtain ⟨b1, b2, b3, b4, b5, b6, b7, b8⟩ := id a3
  simp only [List.length_cons] at a4 a5 b4 b5 b6 b7 b8
  have ek : hRd ph 147 43 - 1 = ((gs.length + 1 : Nat) : Int) := by rw [a4]; push_cast; omega
  have ek1 : (((gs.length + 1 : Nat) : Int) + 1) - 1 = ((gs.length + 1 : Nat) : Int) := by omega
  have ek2 : ((gs.length + 1 : Nat) : Int) - 1 = (gs.length : Int) := by omega
  have h28 := a1.2.1.1
  have h28l := a1.2.1.2.1
  simp only [List.length_cons] at h28 h28l
  have e28 : hRd ph 147 28 = (sc.length : Int) + 1 := by push_cast at h28; exact h28
  have e28b : (sc.length : Int) + 1 - 1 = (sc.length : Int) := by omega
  have w43 : hRd ph 147 43 = ((gs.length + 1 : Nat) : Int) + 1 := by rw [a4]; push_cast; rfl
  have hk0 : f.1 ≠ 0 := by omega
  have v160 : hRd ph 160 (gs.length + 1) = 61 := by rw [b4, hk]; rfl
  rw [nsc_n (by omega)] at a8
  simp only [List.length_cons] at a8
  have h31 := a1.2.2.1.1
  have h31l := a1.2.2.1.2.1
  have g1 := a1.2.2.1.2.2
  simp only [List.length_cons] at h31 h31l
  have e31 : hRd ph 147 31 = (sg.length : Int) + 1 := by push_cast at h31; exact h31
  have hs24 := g1.1.2.1
  have hm1 := a1.2.1.2.2
  refine tEn (ls := [some (.inr (.inl (some 147))), none, none, none, none]) (fun k => by match k with | 0 => rfl | 1 => rfl | 2 => rfl | 3 => rfl | 4 => rfl | k + 5 => rfl) ?_
  refine tK (l := xk_191) rfl rfl (fun _ _ _ _ _ => rfl) ?_
  refine tK (l := xk_191) rfl rfl (hGetI hs rfl rfl rfl (by decide) (by decide)) ?_
  refine tK (l := xk_191) rfl rfl (fun _ _ _ _ _ => rfl) ?_
  refine tK (l := xk_191) rfl rfl (hSub ⟨by omega, by omega⟩) ?_
  rw [ek]
  refine tSt (l := xk_191) rfl rfl (fun _ _ _ _ _ => rfl) (Nat.le_of_ble_eq_true rfl) ?_
  refine tK (l := xk_191) rfl rfl (fun _ _ _ _ _ => rfl) ?_
  refine tK (l := xk_191) rfl rfl (hGetR (o := some 160) hs rfl rfl rfl (by decide) (by decide) rfl) ?_
  refine tK (l := xk_191) rfl rfl (fun _ _ _ _ _ => rfl) ?_
  first | refine tK (l := xk_191) rfl rfl (hIaldN hs rfl rfl (by omega)) ?_ | refine tK (l := xk_191) rfl rfl (hIald hs rfl (by omega) (by omega)) ?_
  rw [v160]
  refine tSt (l := xk_191) rfl rfl (fun _ _ _ _ _ => rfl) (Nat.le_of_ble_eq_true rfl) ?_
  refine tK (l := xk_191) rfl rfl (fun _ _ _ _ _ => rfl) ?_
  refine tK (l := xk_191) rfl rfl (fun _ _ _ _ _ => rfl) ?_
  refine tIc_ne (l := xk_191) (pc' := 61) rfl rfl rfl (fun hc => ?_) (fun hc => ?_)
  · exact absurd hc (by decide)
  · refine tK (l := xk_191) rfl rfl (fun _ _ _ _ _ => rfl) ?_
    refine tK (l := xk_191) rfl rfl (fun _ _ _ _ _ => rfl) ?_
    refine tK (l := xk_191) rfl rfl (hGetI hs rfl rfl rfl (by decide) (by decide)) ?_
    rw [w43]
    refine tK (l := xk_191) rfl rfl (fun _ _ _ _ _ => rfl) ?_
    refine tK (l := xk_191) rfl rfl (hSub ⟨by omega, by omega⟩) ?_
    rw [ek1]
    refine tK (l := xk_191) rfl rfl (hPutV hs rfl rfl (by decide) (by decide) rfl) ?_
    have s3 : hSh zs (hUp ph 147 43 ((gs.length + 1 : Nat) : Int)) := hShI1 _ hs rfl rfl
    have f3 : hFM [43] [] ph (hUp ph 147 43 ((gs.length + 1 : Nat) : Int)) := hFM_f hs rfl (by decide) (by decide)
    have x43 : hRd (hUp ph 147 43 ((gs.length + 1 : Nat) : Int)) 147 43 = ((gs.length + 1 : Nat) : Int) := by rw [hRd_up hs rfl (by decide), if_pos ⟨rfl, rfl⟩]
    refine tK (l := xk_191) rfl rfl (fun _ _ _ _ _ => rfl) ?_
    refine tK (l := xk_191) rfl rfl (fun _ _ _ _ _ => rfl) ?_
    refine tIc_ne (l := xk_191) (pc' := 167) rfl rfl rfl (fun hc => ?_) (fun hc => ?_)
    · have y31 : hRd (hUp ph 147 43 ((gs.length + 1 : Nat) : Int)) 147 31 = (sg.length : Int) + 1 := by rw [f3.fl (by decide)]; exact e31
      have e31b : (sg.length : Int) + 1 - 1 = (sg.length : Int) := by omega
      have s4 : hSh zs (hUp (hUp ph 147 43 ((gs.length + 1 : Nat) : Int)) 147 31 (sg.length : Int)) := hShI1 _ s3 rfl rfl
      have f4 : hFM [31] [] (hUp ph 147 43 ((gs.length + 1 : Nat) : Int)) (hUp (hUp ph 147 43 ((gs.length + 1 : Nat) : Int)) 147 31 (sg.length : Int)) := hFM_f s3 rfl (by decide) (by decide)
      have f34 : hFM [31, 43] [] ph (hUp (hUp ph 147 43 ((gs.length + 1 : Nat) : Int)) 147 31 (sg.length : Int)) := (f3.mono (by decide) (by decide)).trans (f4.mono (by decide) (by decide))
      have w28 : hRd (hUp (hUp ph 147 43 ((gs.length + 1 : Nat) : Int)) 147 31 (sg.length : Int)) 147 28 = (sc.length : Int) + 1 := by rw [f34.fl (by decide)]; exact e28
      have w64 : hRd (hUp (hUp ph 147 43 ((gs.length + 1 : Nat) : Int)) 147 31 (sg.length : Int)) 164 (gs.length + 1) = (f.2.2.2.1 : Int) := by rw [f34.at (by decide)]; exact b7 hk
      have w31 : hRd (hUp (hUp ph 147 43 ((gs.length + 1 : Nat) : Int)) 147 31 (sg.length : Int)) 147 31 = (sg.length : Int) := by rw [hRd_up s3 rfl (by decide), if_pos ⟨rfl, rfl⟩]
      have w56 : hRd (hUp (hUp ph 147 43 ((gs.length + 1 : Nat) : Int)) 147 31 (sg.length : Int)) 156 sg.length = (s0.length : Int) := by rw [f34.at (by decide)]; exact g1.1.1
      refine tK (l := xk_191) rfl rfl (fun _ _ _ _ _ => rfl) ?_
      refine tK (l := xk_191) rfl rfl (fun _ _ _ _ _ => rfl) ?_
      refine tK (l := xk_191) rfl rfl (hGetI (hShI1 _ hs rfl rfl) rfl rfl rfl (by decide) (by decide)) ?_
      rw [y31]
      refine tK (l := xk_191) rfl rfl (fun _ _ _ _ _ => rfl) ?_
      refine tK (l := xk_191) rfl rfl (hSub ⟨by omega, by omega⟩) ?_
      rw [e31b]
      refine tK (l := xk_191) rfl rfl (hPutV (hShI1 _ hs rfl rfl) rfl rfl (by decide) (by decide) rfl) ?_
      refine tK (l := xk_191) rfl rfl (fun _ _ _ _ _ => rfl) ?_
      refine tK (l := xk_191) rfl rfl (hGetI (hShI1 _ (hShI1 _ hs rfl rfl) rfl rfl) rfl rfl rfl (by decide) (by decide)) ?_
      rw [w28]
      refine tK (l := xk_191) rfl rfl (fun _ _ _ _ _ => rfl) ?_
      refine tK (l := xk_191) rfl rfl (hSub ⟨by omega, by omega⟩) ?_
      rw [e28b]
      refine tK (l := xk_191) rfl rfl (fun _ _ _ _ _ => rfl) ?_
      refine tK (l := xk_191) rfl rfl (hGetR (o := some 164) (hShI1 _ (hShI1 _ hs rfl rfl) rfl rfl) rfl rfl rfl (by decide) (by decide) rfl) ?_
      refine tK (l := xk_191) rfl rfl (fun _ _ _ _ _ => rfl) ?_
      first | refine tK (l := xk_191) rfl rfl (hIaldN (hShI1 _ (hShI1 _ hs rfl rfl) rfl rfl) rfl rfl (by omega)) ?_ | refine tK (l := xk_191) rfl rfl (hIald (hShI1 _ (hShI1 _ hs rfl rfl) rfl rfl) rfl (by omega) (by omega)) ?_
      rw [w64]
      refine tCa (l := xk_191) rfl rfl (hInvS rfl rfl rfl rfl (Nat.le_of_ble_eq_true rfl) (Nat.le_of_ble_eq_true rfl)) ?_
      refine s188 (k := sc.length) (n := f.2.2.2.1) (by omega) (by omega) ?_
      refine tKv ?_
      refine tSt (l := xk_191) rfl rfl (fun _ _ _ _ _ => rfl) (Nat.le_of_ble_eq_true rfl) ?_
      refine tK (l := xk_191) rfl rfl (fun _ _ _ _ _ => rfl) ?_
      refine tK (l := xk_191) rfl rfl (hGetR (o := some 155) (hShI1 _ (hShI1 _ hs rfl rfl) rfl rfl) rfl rfl rfl (by decide) (by decide) rfl) ?_
      refine tK (l := xk_191) rfl rfl (fun _ _ _ _ _ => rfl) ?_
      refine tK (l := xk_191) rfl rfl (fun _ _ _ _ _ => rfl) ?_
      refine tK (l := xk_191) rfl rfl (hGetR (o := some 156) (hShI1 _ (hShI1 _ hs rfl rfl) rfl rfl) rfl rfl rfl (by decide) (by decide) rfl) ?_
      refine tK (l := xk_191) rfl rfl (fun _ _ _ _ _ => rfl) ?_
      refine tK (l := xk_191) rfl rfl (hGetI (hShI1 _ (hShI1 _ hs rfl rfl) rfl rfl) rfl rfl rfl (by decide) (by decide)) ?_
      rw [w31]
      first | refine tK (l := xk_191) rfl rfl (hIaldN (hShI1 _ (hShI1 _ hs rfl rfl) rfl rfl) rfl rfl (by omega)) ?_ | refine tK (l := xk_191) rfl rfl (hIald (hShI1 _ (hShI1 _ hs rfl rfl) rfl rfl) rfl (by omega) (by omega)) ?_
      rw [w56]
      first | refine tK (l := xk_191) rfl rfl (hIastN (hShI1 _ (hShI1 _ hs rfl rfl) rfl rfl) rfl rfl (by omega)) ?_ | refine tK (l := xk_191) rfl rfl (hIast (hShI1 _ (hShI1 _ hs rfl rfl) rfl rfl) rfl (by omega) (by omega)) ?_
      refine tK (l := xk_191) rfl rfl (fun _ _ _ _ _ => rfl) ?_
      refine tSt (l := xk_191) rfl rfl (fun _ _ _ _ _ => rfl) (Nat.le_of_ble_eq_true rfl) ?_
      have s5 : hSh zs (hUp (hUp (hUp ph 147 43 ((gs.length + 1 : Nat) : Int)) 147 31 (sg.length : Int)) 155 (250 * sc.length + 25 * f.2.2.2.1) (s0.length : Int)) := hShI1 _ s4 rfl rfl
      have rd5 := hRd_up (x := (s0.length : Int)) s4 (show hKi (hTg 155) (250 * sc.length + 25 * f.2.2.2.1) = true from rfl) (by omega)
      have f5 : hFM [] [155] (hUp (hUp ph 147 43 ((gs.length + 1 : Nat) : Int)) 147 31 (sg.length : Int)) (hUp (hUp (hUp ph 147 43 ((gs.length + 1 : Nat) : Int)) 147 31 (sg.length : Int)) 155 (250 * sc.length + 25 * f.2.2.2.1) (s0.length : Int)) := hFM_a s4 rfl (by omega) (by decide) (by decide)
      have fB : hFM [31, 43] [155] ph (hUp (hUp (hUp ph 147 43 ((gs.length + 1 : Nat) : Int)) 147 31 (sg.length : Int)) 155 (250 * sc.length + 25 * f.2.2.2.1) (s0.length : Int)) := (f34.mono (by decide) (by decide)).trans (f5.mono (by decide) (by decide))
      have loop : ∀ (n i : Nat) (phi : xH), i + n = s0.length → hSh zs phi → hFM [] [155] (hUp (hUp (hUp ph 147 43 ((gs.length + 1 : Nat) : Int)) 147 31 (sg.length : Int)) 155 (250 * sc.length + 25 * f.2.2.2.1) (s0.length : Int)) phi → (∀ j, j ≤ (250 * sc.length + 25 * f.2.2.2.1) ∨ (250 * sc.length + 25 * f.2.2.2.1) + 24 < j → hRd phi 155 j = hRd (hUp (hUp (hUp ph 147 43 ((gs.length + 1 : Nat) : Int)) 147 31 (sg.length : Int)) 155 (250 * sc.length + 25 * f.2.2.2.1) (s0.length : Int)) 155 j) → (∀ (k : Nat) (c : Int), k < i → s0[k]? = some c → hRd phi 155 ((250 * sc.length + 25 * f.2.2.2.1) + 1 + k) = c) → xT (d + 3) 191 121 (xlo [some (.inr (.inl (some 147))), some (.inl ((gs.length + 1 : Nat) : Int)), some (.inl 61), some (.inl (((250 * sc.length + 25 * f.2.2.2.1) : Nat) : Int)), some (.inl (i : Int))]) [] phi g Q := by
        intro n
        induction n with
        | zero =>
          intro i phi him hs hf hlow hch
          have fC : hFM [31, 43] [155] ph phi := fB.trans (hf.mono (by decide) (by decide))
          have l31 : hRd phi 147 31 = (sg.length : Int) := by rw [hf.fl (by decide), f5.fl (by decide)]; exact w31
          have l56 : hRd phi 156 sg.length = (s0.length : Int) := by rw [hf.at (by decide), f5.at (by decide)]; exact w56
          refine tK (l := xk_191) rfl rfl (fun _ _ _ _ _ => rfl) ?_
          refine tK (l := xk_191) rfl rfl (fun _ _ _ _ _ => rfl) ?_
          refine tK (l := xk_191) rfl rfl (hGetR (o := some 156) hs rfl rfl rfl (by decide) (by decide) rfl) ?_
          refine tK (l := xk_191) rfl rfl (fun _ _ _ _ _ => rfl) ?_
          refine tK (l := xk_191) rfl rfl (hGetI hs rfl rfl rfl (by decide) (by decide)) ?_
          rw [l31]
          first | refine tK (l := xk_191) rfl rfl (hIaldN hs rfl rfl (by omega)) ?_ | refine tK (l := xk_191) rfl rfl (hIald hs rfl (by omega) (by omega)) ?_
          rw [l56]
          refine tIc_ge (l := xk_191) (pc' := 167) rfl rfl rfl (fun hc => ?_) (fun hc => ?_)
          · exfalso; omega
          · refine tK (l := xk_191) rfl rfl (fun _ _ _ _ _ => rfl) ?_
            refine tIf_ne (l := xk_191) (pc' := 198) rfl rfl rfl (fun hc => ?_) (fun hc => ?_)
            · exact absurd hc (by decide)
            · refine tK (l := xk_191) rfl rfl (fun _ _ _ _ _ => rfl) ?_
              refine tIf_eq (l := xk_191) (pc' := 221) rfl rfl rfl (fun hc => ?_) (fun hc => ?_)
              · exact absurd hc (by decide)
              · have t43 : hRd phi 147 43 = ((gs.length + 1 : Nat) : Int) := by rw [hf.fl (by decide), f5.fl (by decide), f4.fl (by decide)]; exact x43
                have t62 : hRd phi 162 (gs.length + 1) = (f.2.1 : Int) := by rw [fC.at (by decide)]; exact b6
                refine tK (l := xk_191) rfl rfl (fun _ _ _ _ _ => rfl) ?_
                refine tK (l := xk_191) rfl rfl (hGetR (o := some 162) hs rfl rfl rfl (by decide) (by decide) rfl) ?_
                refine tK (l := xk_191) rfl rfl (fun _ _ _ _ _ => rfl) ?_
                refine tK (l := xk_191) rfl rfl (hGetI hs rfl rfl rfl (by decide) (by decide)) ?_
                rw [t43]
                refine tK (l := xk_191) rfl rfl (fun _ _ _ _ _ => rfl) ?_
                refine tK (l := xk_191) rfl rfl (hSub ⟨by omega, by omega⟩) ?_
                rw [ek2]
                refine tK (l := xk_191) rfl rfl (fun _ _ _ _ _ => rfl) ?_
                refine tK (l := xk_191) rfl rfl (hGetR (o := some 162) hs rfl rfl rfl (by decide) (by decide) rfl) ?_
                refine tK (l := xk_191) rfl rfl (fun _ _ _ _ _ => rfl) ?_
                first | refine tK (l := xk_191) rfl rfl (hIaldN hs rfl rfl (by omega)) ?_ | refine tK (l := xk_191) rfl rfl (hIald hs rfl (by omega) (by omega)) ?_
                rw [t62]
                refine tK (l := xk_191) rfl rfl (fun _ _ _ _ _ => rfl) ?_
                refine tK (l := xk_191) rfl rfl (hAdd ⟨by omega, by omega⟩) ?_
                first | refine tK (l := xk_191) rfl rfl (hIastN hs rfl rfl (by omega)) ?_ | refine tK (l := xk_191) rfl rfl (hIast hs rfl (by omega) (by omega)) ?_
                refine tRt (l := xk_191) rfl rfl (fun _ _ _ _ _ => rfl) ?_
                have hmn : hMN zs phi (scU f0 f.2.2.2.1 (some s0) :: sc, sg, r3) := by
                  obtain ⟨-, -, ⟨h4, h5, h6⟩, ⟨h7, h8, h9⟩, h10, h11, h12, h13, h14, h15⟩ := a1
                  refine ⟨hs, ⟨by rw [fC.fl (by decide), h28]; simp, by simp only [List.length_cons]; omega, ⟨fun n hn => ?_, hm1.2.eq (fun j hj => by rw [hlow j (by omega), rd5, if_neg (by omega), f34.at (by decide)])⟩⟩, ⟨l31, by simp only; omega, g1.2.eq (fun j _ => fC.at (by decide) j) (fun j _ => fC.at (by decide) j)⟩, ⟨by rw [fC.fl (by decide)]; exact h7, h8, fun i c hi => by rw [fC.at (by decide)]; exact h9 i c hi⟩, by rw [fC.fl (by decide)]; exact h10, h11, by rw [fC.fl (by decide)]; exact h12, by rw [fC.fl (by decide)]; exact h13, by rw [fC.fl (by decide)]; exact h14, h15⟩
                  unfold scU
                  by_cases en : n = f.2.2.2.1
                  · rw [if_pos en, en]
                    refine ⟨by rw [hlow _ (by omega), rd5, if_pos ⟨rfl, rfl⟩]; rfl, fun s hs => ?_⟩
                    cases hs
                    exact ⟨hs24, fun k c hi => hch k c (by have := (List.getElem?_eq_some_iff.mp hi).1; omega) hi⟩
                  · rw [if_neg en]
                    refine (hm1.1 n hn).eq (fun j q1 q2 => ?_)
                    rw [hlow j (by omega), rd5, if_neg (by omega), f34.at (by decide)]
                obtain ⟨k1, k2⟩ := h.close hk0 hmn (fC.mono (by decide) (by decide)) (by rw [hf.fl (by decide), f5.fl (by decide), f4.fl (by decide)]; exact x43) (fun j hj => fC.at (by decide) j) (by simp only [List.length_cons]; exact a8)
                exact hQ _ k1 k2
        | succ n ih =>
          intro i phi him hs hf hlow hch
          have l31 : hRd phi 147 31 = (sg.length : Int) := by rw [hf.fl (by decide), f5.fl (by decide)]; exact w31
          have l56 : hRd phi 156 sg.length = (s0.length : Int) := by rw [hf.at (by decide), f5.at (by decide)]; exact w56
          obtain ⟨c, hc9⟩ : ∃ c, s0[i]? = some c := ⟨_, List.getElem?_eq_getElem (by omega)⟩
          have l57 : hRd phi 157 (24 * sg.length + i) = c := by rw [hf.at (by decide), f5.at (by decide), f34.at (by decide)]; exact g1.1.2.2 i c hc9
          refine tK (l := xk_191) rfl rfl (fun _ _ _ _ _ => rfl) ?_
          refine tK (l := xk_191) rfl rfl (fun _ _ _ _ _ => rfl) ?_
          refine tK (l := xk_191) rfl rfl (hGetR (o := some 156) hs rfl rfl rfl (by decide) (by decide) rfl) ?_
          refine tK (l := xk_191) rfl rfl (fun _ _ _ _ _ => rfl) ?_
          refine tK (l := xk_191) rfl rfl (hGetI hs rfl rfl rfl (by decide) (by decide)) ?_
          rw [l31]
          first | refine tK (l := xk_191) rfl rfl (hIaldN hs rfl rfl (by omega)) ?_ | refine tK (l := xk_191) rfl rfl (hIald hs rfl (by omega) (by omega)) ?_
          rw [l56]
          refine tIc_ge (l := xk_191) (pc' := 167) rfl rfl rfl (fun hc => ?_) (fun hc => ?_)
          · refine tK (l := xk_191) rfl rfl (fun _ _ _ _ _ => rfl) ?_
            refine tK (l := xk_191) rfl rfl (hGetR (o := some 155) hs rfl rfl rfl (by decide) (by decide) rfl) ?_
            refine tK (l := xk_191) rfl rfl (fun _ _ _ _ _ => rfl) ?_
            refine tK (l := xk_191) rfl rfl (fun _ _ _ _ _ => rfl) ?_
            refine tK (l := xk_191) rfl rfl (hAdd ⟨by omega, by omega⟩) ?_
            rw [show (((250 * sc.length + 25 * f.2.2.2.1) : Nat) : Int) + 1 = (((250 * sc.length + 25 * f.2.2.2.1) + 1 : Nat) : Int) by omega]
            refine tK (l := xk_191) rfl rfl (fun _ _ _ _ _ => rfl) ?_
            refine tK (l := xk_191) rfl rfl (hAdd ⟨by omega, by omega⟩) ?_
            rw [show (((250 * sc.length + 25 * f.2.2.2.1) + 1 : Nat) : Int) + (i : Int) = (((250 * sc.length + 25 * f.2.2.2.1) + 1 + i : Nat) : Int) by omega]
            refine tK (l := xk_191) rfl rfl (fun _ _ _ _ _ => rfl) ?_
            refine tK (l := xk_191) rfl rfl (hGetR (o := some 157) hs rfl rfl rfl (by decide) (by decide) rfl) ?_
            refine tK (l := xk_191) rfl rfl (fun _ _ _ _ _ => rfl) ?_
            refine tK (l := xk_191) rfl rfl (fun _ _ _ _ _ => rfl) ?_
            refine tK (l := xk_191) rfl rfl (hGetI hs rfl rfl rfl (by decide) (by decide)) ?_
            rw [l31]
            refine tK (l := xk_191) rfl rfl (hMul ⟨by omega, by omega⟩) ?_
            refine tK (l := xk_191) rfl rfl (fun _ _ _ _ _ => rfl) ?_
            refine tK (l := xk_191) rfl rfl (hAdd ⟨by omega, by omega⟩) ?_
            rw [show (24 : Int) * (sg.length : Int) + (i : Int) = ((24 * sg.length + i : Nat) : Int) by omega]
            first | refine tK (l := xk_191) rfl rfl (hIaldN hs rfl rfl (by omega)) ?_ | refine tK (l := xk_191) rfl rfl (hIald hs rfl (by omega) (by omega)) ?_
            rw [l57]
            first | refine tK (l := xk_191) rfl rfl (hIastN hs rfl rfl (by omega)) ?_ | refine tK (l := xk_191) rfl rfl (hIast hs rfl (by omega) (by omega)) ?_
            refine tSt (l := xk_191) rfl rfl (hIinc rfl (Nat.le_of_ble_eq_true rfl) ⟨by omega, by omega⟩) (Nat.le_of_ble_eq_true rfl) ?_
            refine tK (l := xk_191) rfl rfl (fun _ _ _ _ _ => rfl) ?_
            have rd := hRd_up (x := c) hs (show hKi (hTg 155) ((250 * sc.length + 25 * f.2.2.2.1) + 1 + i) = true from rfl) (by omega)
            refine ih (i + 1) _ (by omega) (hShI1 _ hs rfl rfl) (hf.trans (hFM_a hs rfl (by omega) (by decide) (by decide))) (fun j hj => by rw [rd, if_neg (by omega)]; exact hlow j hj) (fun k c2 hk hc2 => ?_)
            rw [rd]
            by_cases e : k = i
            · rw [if_pos ⟨rfl, by rw [e]⟩]; subst e; rw [hc9] at hc2; exact Option.some.inj hc2
            · rw [if_neg (by omega)]; exact hch k c2 (by omega) hc2
          · exfalso; omega
      exact loop s0.length 0 _ (by omega) s5 hFM.refl (fun _ _ => rfl) (fun k c hk => absurd hk (by omega))
    · exact absurd rfl hc
end
end MCE
