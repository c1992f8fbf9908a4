/-! ===== State.copyFrom, State.takeOutcome, History ===== -/
section HIS
variable {d : Nat} {ph : xH} {zs : List xV} {g : Nat} {Q : xR → Prop} {s q : Nat}
theorem hOc.fr {S : List Nat} {ph ph2 : xH} {o : Nat} {c : OC} (h : hOc ph o c) (hf : hFr S ph ph2) (h1 : o ∉ S) (h2 : o + 2 ∉ S) (h3 : o + 3 ∉ S) (h4 : o + 4 ∉ S) : hOc ph2 o c :=
  h.eq (fun a k ha => by rcases ha with rfl | rfl | rfl | rfl <;> exact hf.1 _ _ (by assumption))
theorem hSt.fr {S : List Nat} {ph ph2 : xH} {s : Nat} {c : SS} (h : hSt ph s c) (hf : hFr S ph ph2) (h1 : ∀ a, s ≤ a → a ≤ s + 8 → a ∉ S) : hSt ph2 s c :=
  h.eq (fun a k ha hb => hf.1 a k (h1 a ha hb))
theorem s49 {c : SS} (hs : hSh zs ph) (hts : hTg s = 6) (htq : hTg q = 6) (hne : s ≠ q) (hw : hTW ph (s + 1)) (hw2 : hTW ph (s + 5)) (h : hSt ph q c) (hQ : ∀ ph2, hSh zs ph2 → hSt ph2 s c → hFr (sS s) ph ph2 → Q (.inl none, ph2, g)) : xTC (d + 4) 49 [.inr (.inl (some s)), .inr (.inl (some q))] ph g Q := by
  have z1 := hSt_sz hts
  have z2 := hSt_sz htq
  have szo : hSz s = 5 := by rw [hSz_c hts (by decide)]; rfl
  have t1 := htg_6_0 hts
  have t2 := htg_6_0 htq
  have t3 := htg_6_1 hts
  have t4 := htg_6_1 htq
  have hap : s + 9 ≤ q ∨ q + 9 ≤ s := by
    have k1 := hSt_all hts
    have k2 := hSt_all htq
    omega
  obtain ⟨c1, c2, c3, c4, c5, c6⟩ := h
  refine tEn (ls := [some (.inr (.inl (some s))), some (.inr (.inl (some q)))]) (fun k => by match k with | 0 => rfl | 1 => rfl | k + 2 => rfl) ?_
  refine tK (l := xk_49) rfl rfl (fun _ _ _ _ _ => rfl) ?_
  refine tK (l := xk_49) rfl rfl (hGetR (o := some (s + 1)) hs rfl hts rfl (by decide) (by decide) (hrf_6_0 hts)) ?_
  refine tK (l := xk_49) rfl rfl (fun _ _ _ _ _ => rfl) ?_
  refine tK (l := xk_49) rfl rfl (hGetR (o := some (q + 1)) hs rfl htq rfl (by decide) (by decide) (hrf_6_0 htq)) ?_
  refine tCa (l := xk_49) rfl rfl (hInvV (c := 8) hs rfl rfl rfl (htg_6_0 hts) rfl (Nat.le_of_ble_eq_true rfl) (Nat.le_of_ble_eq_true rfl)) ?_
  refine s77 hs t1 t2 (by omega) hw c1 (by omega) (by omega) (fun ph1 hs1 fr1 hw1 ho1 => ?_)
  refine tKn ?_
  refine tK (l := xk_49) rfl rfl (fun _ _ _ _ _ => rfl) ?_
  refine tK (l := xk_49) rfl rfl (hGetR (o := some (s + 4)) hs1 rfl hts rfl (by decide) (by decide) (hrf_6_1 hts)) ?_
  refine tK (l := xk_49) rfl rfl (fun _ _ _ _ _ => rfl) ?_
  refine tK (l := xk_49) rfl rfl (hGetR (o := some (q + 4)) hs1 rfl htq rfl (by decide) (by decide) (hrf_6_1 htq)) ?_
  refine tCa (l := xk_49) rfl rfl (hInvV (c := 3) hs1 rfl rfl rfl (htg_6_1 hts) rfl (Nat.le_of_ble_eq_true rfl) (Nat.le_of_ble_eq_true rfl)) ?_
  refine s27 hs1 t3 t4 (by omega) (fr1.tw (by simp only [oS, sS, List.mem_cons, List.not_mem_nil, or_false]; omega) hw2) (c3.fr fr1 (by simp only [oS, sS, List.mem_cons, List.not_mem_nil, or_false]; omega) (by simp only [oS, sS, List.mem_cons, List.not_mem_nil, or_false]; omega) (by simp only [oS, sS, List.mem_cons, List.not_mem_nil, or_false]; omega) (by simp only [oS, sS, List.mem_cons, List.not_mem_nil, or_false]; omega)) (fun ph3 hs3 oc3 fr3 => ?_)
  refine tKn ?_
  have frA : hFr (sS s) ph ph3 := (fr1.mono (by intro x hx; simp only [oS, sS, List.mem_cons, List.not_mem_nil, or_false] at hx ⊢; omega)).trans (fr3.mono (by intro x hx; simp only [oS, sS, List.mem_cons, List.not_mem_nil, or_false] at hx ⊢; omega))
  have u1 : hSh zs (hUp ph3 s 2 (hRd ph q 2)) := hShI1 _ hs3 hts rfl
  have u2 : hSh zs (hUp (hUp ph3 s 2 (hRd ph q 2)) s 3 (hRd ph q 3)) := hShI1 _ u1 hts rfl
  have u3 : hSh zs (hUp (hUp (hUp ph3 s 2 (hRd ph q 2)) s 3 (hRd ph q 3)) s 4 (hRd ph q 4)) := hShI1 _ u2 hts rfl
  have v2 : hRd ph3 q 2 = hRd ph q 2 := by rw [frA.at (by simp only [oS, sS, List.mem_cons, List.not_mem_nil, or_false]; omega) 2]
  have v3 : hRd (hUp ph3 s 2 (hRd ph q 2)) q 3 = hRd ph q 3 := by rw [hRd_up hs3 (a := s) (k := 2) (x := (hRd ph q 2)) (by rw [hts]; rfl) (by omega), if_neg (by omega), frA.at (by simp only [oS, sS, List.mem_cons, List.not_mem_nil, or_false]; omega) 3]
  have v4 : hRd (hUp (hUp ph3 s 2 (hRd ph q 2)) s 3 (hRd ph q 3)) q 4 = hRd ph q 4 := by rw [hRd_up u1 (a := s) (k := 3) (x := (hRd ph q 3)) (by rw [hts]; rfl) (by omega), if_neg (by omega), hRd_up hs3 (a := s) (k := 2) (x := (hRd ph q 2)) (by rw [hts]; rfl) (by omega), if_neg (by omega), frA.at (by simp only [oS, sS, List.mem_cons, List.not_mem_nil, or_false]; omega) 4]
  have rd : ∀ b j, hRd (hUp (hUp (hUp ph3 s 2 (hRd ph q 2)) s 3 (hRd ph q 3)) s 4 (hRd ph q 4)) b j = if b = s ∧ j = 4 then hRd ph q 4 else if b = s ∧ j = 3 then hRd ph q 3 else if b = s ∧ j = 2 then hRd ph q 2 else hRd ph3 b j := fun b j => by rw [hRd_up u2 (a := s) (k := 4) (x := (hRd ph q 4)) (by rw [hts]; rfl) (by omega), hRd_up u1 (a := s) (k := 3) (x := (hRd ph q 3)) (by rw [hts]; rfl) (by omega), hRd_up hs3 (a := s) (k := 2) (x := (hRd ph q 2)) (by rw [hts]; rfl) (by omega)]
  have frt : hFr [s] ph3 (hUp (hUp (hUp ph3 s 2 (hRd ph q 2)) s 3 (hRd ph q 3)) s 4 (hRd ph q 4)) := ((hUp_fr (S := [s]) (a := s) (k := 2) (x := (hRd ph q 2)) hs3 (by rw [hts]; rfl) (by omega) (by simp)).trans (hUp_fr (S := [s]) (a := s) (k := 3) (x := (hRd ph q 3)) u1 (by rw [hts]; rfl) (by omega) (by simp))).trans (hUp_fr (S := [s]) (a := s) (k := 4) (x := (hRd ph q 4)) u2 (by rw [hts]; rfl) (by omega) (by simp))
  refine tK (l := xk_49) rfl rfl (fun _ _ _ _ _ => rfl) ?_
  refine tK (l := xk_49) rfl rfl (fun _ _ _ _ _ => rfl) ?_
  refine tK (l := xk_49) rfl rfl (hGetI hs3 rfl htq rfl (by decide) (by decide)) ?_
  rw [v2]
  refine tK (l := xk_49) rfl rfl (hPutV hs3 rfl hts (by decide) (by decide) rfl) ?_
  refine tK (l := xk_49) rfl rfl (fun _ _ _ _ _ => rfl) ?_
  refine tK (l := xk_49) rfl rfl (fun _ _ _ _ _ => rfl) ?_
  refine tK (l := xk_49) rfl rfl (hGetI (hShI1 _ hs3 hts rfl) rfl htq rfl (by decide) (by decide)) ?_
  rw [v3]
  refine tK (l := xk_49) rfl rfl (hPutV (hShI1 _ hs3 hts rfl) rfl hts (by decide) (by decide) rfl) ?_
  refine tK (l := xk_49) rfl rfl (fun _ _ _ _ _ => rfl) ?_
  refine tK (l := xk_49) rfl rfl (fun _ _ _ _ _ => rfl) ?_
  refine tK (l := xk_49) rfl rfl (hGetI (hShI1 _ (hShI1 _ hs3 hts rfl) hts rfl) rfl htq rfl (by decide) (by decide)) ?_
  rw [v4]
  refine tK (l := xk_49) rfl rfl (hPutV (hShI1 _ (hShI1 _ hs3 hts rfl) hts rfl) rfl hts (by decide) (by decide) rfl) ?_
  refine tRt (l := xk_49) rfl rfl (fun _ _ _ _ _ => rfl) ?_
  have frB : hFr (oS (s + 4) ++ [s]) ph1 (hUp (hUp (hUp ph3 s 2 (hRd ph q 2)) s 3 (hRd ph q 3)) s 4 (hRd ph q 4)) := (fr3.mono (by intro x hx; exact List.mem_append_left _ hx)).trans (frt.mono (by intro x hx; exact List.mem_append_right _ hx))
  have b2 : s + 1 + 1 ∉ oS (s + 4) ++ [s] := by simp only [oS, List.mem_append, List.mem_cons, List.not_mem_nil, or_false]; omega
  have b3 : s + 1 + 2 ∉ oS (s + 4) ++ [s] := by simp only [oS, List.mem_append, List.mem_cons, List.not_mem_nil, or_false]; omega
  refine hQ _ u3 ⟨frB.tw b3 hw1, fun n hn => by rw [frB.to b2 b3, ho1 n (by omega)]; exact c2 n hn, oc3.fr frt (by simp only [List.mem_cons, List.not_mem_nil, or_false]; omega) (by simp only [List.mem_cons, List.not_mem_nil, or_false]; omega) (by simp only [List.mem_cons, List.not_mem_nil, or_false]; omega) (by simp only [List.mem_cons, List.not_mem_nil, or_false]; omega), by rw [rd, if_neg (by omega), if_neg (by omega), if_pos ⟨rfl, rfl⟩]; exact c4, by rw [rd, if_neg (by omega), if_pos ⟨rfl, rfl⟩]; exact c5, by rw [rd, if_pos ⟨rfl, rfl⟩]; exact c6⟩ (frA.trans (frt.mono (by intro x hx; simp only [oS, sS, List.mem_cons, List.not_mem_nil, or_false] at hx ⊢; omega)))
theorem s50 {c : SS} {oc : OC} (hs : hSh zs ph) (hts : hTg s = 6) (hsn : s + 4 ≠ 44) (h : hSt ph s c) (ho : hOc ph 44 oc) (b1 : 0 ≤ c.2.2.1 ∧ c.2.2.1 ≤ 1000000) (b2 : 0 ≤ c.2.2.2.1 ∧ c.2.2.2.1 ≤ 1000000) (b3 : 0 ≤ c.2.2.2.2 ∧ c.2.2.2.2 ≤ 1000000) (hQ : ∀ ph2, hSh zs ph2 → hSt ph2 s (c.1, oc, c.2.2.1 + 1, if oc.2.1 = 0 then c.2.2.2.1 else c.2.2.2.1 + 1, c.2.2.2.2 + (oc.1.length : Int)) → hFr (sS s) ph ph2 → Q (.inl none, ph2, g)) : xTC (d + 4) 50 [.inr (.inl (some s)), .inr (.inl (some 44))] ph g Q := by
  have z1 := hSt_sz hts
  have szo : hSz s = 5 := by rw [hSz_c hts (by decide)]; rfl
  have t3 := htg_6_1 hts
  have hz := hRw53
  obtain ⟨c1, c2, c3, c4, c5, c6⟩ := h
  have hol : oc.1.length ≤ 200 := by have h9 : oc.1.length ≤ hWd 45 := hTo_len ho.1 (show 0 < hRw 45 by omega) ho.2.1; omega
  have hap : s + 9 ≤ 44 ∨ 44 + 5 ≤ s := by
    have k1 := hSt_all hts
    omega
  refine tEn (ls := [some (.inr (.inl (some s))), some (.inr (.inl (some 44)))]) (fun k => by match k with | 0 => rfl | 1 => rfl | k + 2 => rfl) ?_
  refine tK (l := xk_50) rfl rfl (fun _ _ _ _ _ => rfl) ?_
  refine tK (l := xk_50) rfl rfl (hGetR (o := some (s + 4)) hs rfl hts rfl (by decide) (by decide) (hrf_6_1 hts)) ?_
  refine tK (l := xk_50) rfl rfl (fun _ _ _ _ _ => rfl) ?_
  refine tCa (l := xk_50) rfl rfl (hInvV (c := 3) hs rfl rfl rfl (htg_6_1 hts) rfl (Nat.le_of_ble_eq_true rfl) (Nat.le_of_ble_eq_true rfl)) ?_
  refine s27 hs t3 rfl hsn c3.1 ho (fun ph3 hs3 oc3 fr3 => ?_)
  refine tKn ?_
  have o3 : hOc ph3 44 oc := ho.fr fr3 (by simp only [oS, sS, List.mem_cons, List.not_mem_nil, or_false]; omega) (by simp only [oS, sS, List.mem_cons, List.not_mem_nil, or_false]; omega) (by simp only [oS, sS, List.mem_cons, List.not_mem_nil, or_false]; omega) (by simp only [oS, sS, List.mem_cons, List.not_mem_nil, or_false]; omega)
  have e2 : hRd ph3 s 2 = c.2.2.1 := by rw [fr3.at (by simp only [oS, sS, List.mem_cons, List.not_mem_nil, or_false]; omega) 2]; exact c4
  have e3 : hRd ph3 s 3 = c.2.2.2.1 := by rw [fr3.at (by simp only [oS, sS, List.mem_cons, List.not_mem_nil, or_false]; omega) 3]; exact c5
  have e4 : hRd ph3 s 4 = c.2.2.2.2 := by rw [fr3.at (by simp only [oS, sS, List.mem_cons, List.not_mem_nil, or_false]; omega) 4]; exact c6
  have u1 : hSh zs (hUp ph3 s 2 (c.2.2.1 + 1)) := hShI1 _ hs3 hts rfl
  have k1 : ∀ b j, hRd (hUp ph3 s 2 (c.2.2.1 + 1)) b j = if b = s ∧ j = 2 then c.2.2.1 + 1 else hRd ph3 b j := fun b j => hRd_up hs3 (by rw [hts]; rfl) (by omega) b j
  have f1 : hFr [s] ph3 (hUp ph3 s 2 (c.2.2.1 + 1)) := hUp_fr hs3 (by rw [hts]; rfl) (by omega) (by simp)
  have v3 : hRd (hUp ph3 s 2 (c.2.2.1 + 1)) 44 3 = oc.2.1 := by rw [k1, if_neg (by omega)]; exact o3.2.2.2.2.2.1
  have v33 : hRd (hUp ph3 s 2 (c.2.2.1 + 1)) s 3 = c.2.2.2.1 := by rw [k1, if_neg (by omega), e3]
  have fin : ∀ (phi : xH) (y : Int), hSh zs phi → (∀ b j, hRd phi b j = if b = s ∧ j = 4 then c.2.2.2.2 + (oc.1.length : Int) else if b = s ∧ j = 3 then y else if b = s ∧ j = 2 then c.2.2.1 + 1 else hRd ph3 b j) → hFr [s] ph3 phi → y = (if oc.2.1 = 0 then c.2.2.2.1 else c.2.2.2.1 + 1) → Q (.inl none, phi, g) := by
    intro phi y hs5 rd f5 hy
    have fA : hFr (sS s) ph phi := (fr3.mono (by intro x hx; simp only [oS, sS, List.mem_cons, List.not_mem_nil, or_false] at hx ⊢; omega)).trans (f5.mono (by intro x hx; simp only [oS, sS, List.mem_cons, List.not_mem_nil, or_false] at hx ⊢; omega))
    have fB : hFr (oS (s + 4) ++ [s]) ph phi := (fr3.mono (by intro x hx; exact List.mem_append_left _ hx)).trans (f5.mono (by intro x hx; exact List.mem_append_right _ hx))
    have b2 : s + 1 + 1 ∉ oS (s + 4) ++ [s] := by simp only [oS, List.mem_append, List.mem_cons, List.not_mem_nil, or_false]; omega
    have b3 : s + 1 + 2 ∉ oS (s + 4) ++ [s] := by simp only [oS, List.mem_append, List.mem_cons, List.not_mem_nil, or_false]; omega
    exact hQ phi hs5 ⟨fB.tw b3 c1, fun n hn => by rw [fB.to b2 b3]; exact c2 n hn, oc3.fr f5 (by simp only [List.mem_cons, List.not_mem_nil, or_false]; omega) (by simp only [List.mem_cons, List.not_mem_nil, or_false]; omega) (by simp only [List.mem_cons, List.not_mem_nil, or_false]; omega) (by simp only [List.mem_cons, List.not_mem_nil, or_false]; omega), by rw [rd, if_neg (by omega), if_neg (by omega), if_pos ⟨rfl, rfl⟩], by rw [rd, if_neg (by omega), if_pos ⟨rfl, rfl⟩]; exact hy, by rw [rd, if_pos ⟨rfl, rfl⟩]⟩ fA
  refine tK (l := xk_50) rfl rfl (fun _ _ _ _ _ => rfl) ?_
  refine tK (l := xk_50) rfl rfl (fun _ _ _ _ _ => rfl) ?_
  refine tK (l := xk_50) rfl rfl (hGetI hs3 rfl hts rfl (by decide) (by decide)) ?_
  rw [e2]
  refine tK (l := xk_50) rfl rfl (fun _ _ _ _ _ => rfl) ?_
  refine tK (l := xk_50) rfl rfl (hAdd ⟨by omega, by omega⟩) ?_
  refine tK (l := xk_50) rfl rfl (hPutV hs3 rfl hts (by decide) (by decide) rfl) ?_
  refine tK (l := xk_50) rfl rfl (fun _ _ _ _ _ => rfl) ?_
  refine tK (l := xk_50) rfl rfl (hGetI (hShI1 _ hs3 hts rfl) rfl rfl rfl (by decide) (by decide)) ?_
  rw [v3]
  refine tIf_eq (l := xk_50) (pc' := 35) rfl rfl rfl (fun hc => ?_) (fun hc => ?_)
  · have hc22 := hc
    have e44 : hRd (hUp ph3 s 2 (c.2.2.1 + 1)) s 4 = c.2.2.2.2 := by rw [k1, if_neg (by omega)]; exact e4
    refine tK (l := xk_50) rfl rfl (fun _ _ _ _ _ => rfl) ?_
    refine tK (l := xk_50) rfl rfl (fun _ _ _ _ _ => rfl) ?_
    refine tK (l := xk_50) rfl rfl (hGetI u1 rfl hts rfl (by decide) (by decide)) ?_
    rw [e44]
    refine tK (l := xk_50) rfl rfl (fun _ _ _ _ _ => rfl) ?_
    refine tK (l := xk_50) rfl rfl (hGetR (o := some 45) u1 rfl rfl rfl (by decide) (by decide) rfl) ?_
    refine tK (l := xk_50) rfl rfl (fun _ _ _ _ _ => rfl) ?_
    refine tCa (l := xk_50) rfl rfl (hInvV (c := 8) u1 rfl rfl rfl rfl rfl (Nat.le_of_ble_eq_true rfl) (Nat.le_of_ble_eq_true rfl)) ?_
    refine a75 u1 rfl (f1.tw (by simp; omega) o3.1) (show 0 < hRw 45 by omega) ((f1.to (by simp; omega) (by simp; omega)).trans o3.2.1) ?_
    refine tKv ?_
    simp only [hLo]
    refine tK (l := xk_50) rfl rfl (hAdd ⟨by omega, by omega⟩) ?_
    refine tK (l := xk_50) rfl rfl (hPutV u1 rfl hts (by decide) (by decide) rfl) ?_
    refine tRt (l := xk_50) rfl rfl (fun _ _ _ _ _ => rfl) ?_
    refine fin _ c.2.2.2.1 (hShI1 _ u1 hts rfl) (fun b j => ?_) (f1.trans (hUp_fr u1 (by rw [hts]; rfl) (by omega) (by simp))) (by rw [if_pos hc22])
    rw [hRd_up u1 (by rw [hts]; rfl) (by omega), k1]
    by_cases e1 : b = s ∧ j = 4
    · rw [if_pos e1, if_pos e1]
    · rw [if_neg e1, if_neg e1]
      by_cases e5 : b = s ∧ j = 3
      · rw [if_pos e5, if_neg (by omega), e5.1, e5.2, e3]
      · rw [if_neg e5]
  · have hc22 := hc
    refine tK (l := xk_50) rfl rfl (fun _ _ _ _ _ => rfl) ?_
    refine tK (l := xk_50) rfl rfl (fun _ _ _ _ _ => rfl) ?_
    refine tK (l := xk_50) rfl rfl (hGetI (hShI1 _ hs3 hts rfl) rfl hts rfl (by decide) (by decide)) ?_
    rw [v33]
    refine tK (l := xk_50) rfl rfl (fun _ _ _ _ _ => rfl) ?_
    refine tK (l := xk_50) rfl rfl (hAdd ⟨by omega, by omega⟩) ?_
    refine tK (l := xk_50) rfl rfl (hPutV (hShI1 _ hs3 hts rfl) rfl hts (by decide) (by decide) rfl) ?_
    have u2 : hSh zs (hUp (hUp ph3 s 2 (c.2.2.1 + 1)) s 3 (c.2.2.2.1 + 1)) := hShI1 _ u1 hts rfl
    have k2 : ∀ b j, hRd (hUp (hUp ph3 s 2 (c.2.2.1 + 1)) s 3 (c.2.2.2.1 + 1)) b j = if b = s ∧ j = 3 then c.2.2.2.1 + 1 else hRd (hUp ph3 s 2 (c.2.2.1 + 1)) b j := fun b j => hRd_up u1 (by rw [hts]; rfl) (by omega) b j
    have f2 : hFr [s] ph3 (hUp (hUp ph3 s 2 (c.2.2.1 + 1)) s 3 (c.2.2.2.1 + 1)) := f1.trans (hUp_fr u1 (by rw [hts]; rfl) (by omega) (by simp))
    have e44 : hRd (hUp (hUp ph3 s 2 (c.2.2.1 + 1)) s 3 (c.2.2.2.1 + 1)) s 4 = c.2.2.2.2 := by rw [k2, if_neg (by omega), k1, if_neg (by omega)]; exact e4
    refine tK (l := xk_50) rfl rfl (fun _ _ _ _ _ => rfl) ?_
    refine tK (l := xk_50) rfl rfl (fun _ _ _ _ _ => rfl) ?_
    refine tK (l := xk_50) rfl rfl (hGetI u2 rfl hts rfl (by decide) (by decide)) ?_
    rw [e44]
    refine tK (l := xk_50) rfl rfl (fun _ _ _ _ _ => rfl) ?_
    refine tK (l := xk_50) rfl rfl (hGetR (o := some 45) u2 rfl rfl rfl (by decide) (by decide) rfl) ?_
    refine tK (l := xk_50) rfl rfl (fun _ _ _ _ _ => rfl) ?_
    refine tCa (l := xk_50) rfl rfl (hInvV (c := 8) u2 rfl rfl rfl rfl rfl (Nat.le_of_ble_eq_true rfl) (Nat.le_of_ble_eq_true rfl)) ?_
    refine a75 u2 rfl (f2.tw (by simp; omega) o3.1) (show 0 < hRw 45 by omega) ((f2.to (by simp; omega) (by simp; omega)).trans o3.2.1) ?_
    refine tKv ?_
    simp only [hLo]
    refine tK (l := xk_50) rfl rfl (hAdd ⟨by omega, by omega⟩) ?_
    refine tK (l := xk_50) rfl rfl (hPutV u2 rfl hts (by decide) (by decide) rfl) ?_
    refine tRt (l := xk_50) rfl rfl (fun _ _ _ _ _ => rfl) ?_
    refine fin _ (c.2.2.2.1 + 1) (hShI1 _ u2 hts rfl) (fun b j => ?_) (f2.trans (hUp_fr u2 (by rw [hts]; rfl) (by omega) (by simp))) (by rw [if_neg hc22])
    rw [hRd_up u2 (by rw [hts]; rfl) (by omega), k2, k1]
end HIS
