/-! ===== the class's calls that render, undo, keep, restore ===== -/
section CL3
variable {d : Nat} {ph : xH} {zs : List xV} {g : Nat} {Q : xR → Prop} {c : KS}
theorem sS_in {s a : Nat} (h : a ∈ sS s) : s ≤ a ∧ a ≤ s + 8 := by
  simp only [sS, List.mem_cons, List.not_mem_nil, or_false] at h
  omega
theorem hKl.now {ph2 : xH} {st : SS} (h : hKl zs ph c) (hs : hSh zs ph2) (hst : hSt ph2 73 st) (hf : hFr (sS 73) ph ph2) : hKl zs ph2 (c.1, st, c.2.2) ∧ hFd clP ph ph2 := by
  obtain ⟨-, ⟨b1, b2⟩, ⟨w1, w2, w3, w4, w5⟩, h3, ⟨h4, h5⟩, h6, h7, h8⟩ := h
  have fd : hFd (fun a => 73 ≤ a ∧ a ≤ 81) ph ph2 := hf.fd (fun a ha => sS_in ha)
  exact ⟨⟨hs, ⟨fd.tw (by omega) b1, (fd.to (by omega) (by omega)).trans b2⟩, ⟨fd.tw (by omega) w1, fd.tw (by omega) w2, fd.tw (by omega) w3, fd.tw (by omega) w4, fd.tw (by omega) w5⟩, hst, ⟨fd.tw (by omega) h4, fd.tw (by omega) h5⟩, by rw [fd.1 _ _ (by omega)]; exact h6, fun st hst => (h7 st hst).fd fd (fun a _ _ => by omega), h8.fd fd (fun a _ _ => by omega)⟩, fd.mono (fun a ha => by unfold clP; omega)⟩
theorem c141n (h : hKl zs ph c) (he : c.2.2.2 = []) (hQ : Q (.inr 1, ph, g + 1)) : xTC (d + 6) 141 [.inr (.inl (some 1))] ph g Q := by
  have hs := h.1
  have hh := h.2.2.2.2.2.2.2
  rw [he] at hh
  refine tEn (ls := [some (.inr (.inl (some 1)))]) (fun k => by match k with | 0 => rfl | k + 1 => rfl) ?_
  refine tK (l := xk_141) rfl rfl (fun _ _ _ _ _ => rfl) ?_
  refine tK (l := xk_141) rfl rfl (hGetR (o := some 91) hs rfl rfl rfl (by decide) (by decide) rfl) ?_
  refine tK (l := xk_141) rfl rfl (fun _ _ _ _ _ => rfl) ?_
  refine tK (l := xk_141) rfl rfl (hGetR (o := some 73) hs rfl rfl rfl (by decide) (by decide) rfl) ?_
  refine tCa (l := xk_141) rfl rfl (hInvV (c := 2) hs rfl rfl rfl rfl rfl (Nat.le_of_ble_eq_true rfl) (Nat.le_of_ble_eq_true rfl)) ?_
  refine s25n hs hh ?_
  refine tKv ?_
  refine tIf_ne (l := xk_141) (pc' := 24) rfl rfl rfl (fun hc => ?_) (fun hc => ?_)
  · refine tTh (l := xk_141) rfl rfl (fun _ _ _ _ _ => rfl) ?_
    exact hQ
  · exact absurd rfl hc
theorem c141 (h : hKl zs ph c) {l : List SS} {st : SS} (he : c.2.2.2 = l ++ [st]) (hQ : ∀ ph2, hKl zs ph2 (c.1, st, c.2.2.1, l) → hFd clP ph ph2 → Q (.inl (some (.inl (l.length : Int))), ph2, g)) : xTC (d + 6) 141 [.inr (.inl (some 1))] ph g Q := by
  have hs := h.1
  have hh := h.2.2.2.2.2.2.2
  rw [he] at hh
  refine tEn (ls := [some (.inr (.inl (some 1)))]) (fun k => by match k with | 0 => rfl | k + 1 => rfl) ?_
  refine tK (l := xk_141) rfl rfl (fun _ _ _ _ _ => rfl) ?_
  refine tK (l := xk_141) rfl rfl (hGetR (o := some 91) hs rfl rfl rfl (by decide) (by decide) rfl) ?_
  refine tK (l := xk_141) rfl rfl (fun _ _ _ _ _ => rfl) ?_
  refine tK (l := xk_141) rfl rfl (hGetR (o := some 73) hs rfl rfl rfl (by decide) (by decide) rfl) ?_
  refine tCa (l := xk_141) rfl rfl (hInvV (c := 2) hs rfl rfl rfl rfl rfl (Nat.le_of_ble_eq_true rfl) (Nat.le_of_ble_eq_true rfl)) ?_
  refine s25 hs hh h.2.2.2.1.1 h.2.2.2.1.2.2.1.1 (fun ph2 hs2 hh2 st2 f2 => ?_)
  refine tKv ?_
  refine tIf_ne (l := xk_141) (pc' := 24) rfl rfl rfl (fun hc => ?_) (fun hc => ?_)
  · exact absurd hc (by decide)
  · refine tK (l := xk_141) rfl rfl (fun _ _ _ _ _ => rfl) ?_
    refine tK (l := xk_141) rfl rfl (hGetR (o := some 91) hs2 rfl rfl rfl (by decide) (by decide) rfl) ?_
    refine tCa (l := xk_141) rfl rfl (hInvV (c := 2) hs2 rfl rfl rfl rfl rfl (Nat.le_of_ble_eq_true rfl) (Nat.le_of_ble_eq_true rfl)) ?_
    refine s22 hs2 hh2 ?_
    refine tKv ?_
    refine tRt (l := xk_141) rfl rfl (fun _ _ _ _ _ => rfl) ?_
    obtain ⟨-, ⟨b1, b2⟩, ⟨w1, w2, w3, w4, w5⟩, h3, ⟨h4, h5⟩, h6, h7, h8⟩ := h
    exact hQ ph2 ⟨hs2, ⟨f2.tw (by omega) b1, (f2.to (by omega) (by omega)).trans b2⟩, ⟨f2.tw (by omega) w1, f2.tw (by omega) w2, f2.tw (by omega) w3, f2.tw (by omega) w4, f2.tw (by omega) w5⟩, st2, ⟨f2.tw (by omega) h4, f2.tw (by omega) h5⟩, by rw [f2.1 _ _ (by omega)]; exact h6, fun st hst => (h7 st hst).fd f2 (fun a _ _ => by omega), hh2⟩ (f2.mono (fun a ha => by unfold clP; omega))
theorem c138 (h : hKl zs ph c) (hl : c.1.length ≤ 60) (hok : oks c.1) (hw : pWh c.1 = true) (b1 : 0 ≤ c.2.1.2.2.1 ∧ c.2.1.2.2.1 ≤ 1000000) (b2 : 0 ≤ c.2.1.2.2.2.1 ∧ c.2.1.2.2.2.1 ≤ 1000000) (b3 : 0 ≤ c.2.1.2.2.2.2 ∧ c.2.1.2.2.2.2 ≤ 1000000) (hQ : ∀ ph2 D, Fin c.1 c.2.1.1 (-1) D → hKl zs ph2 (ndo c (rnd c.2.1 (ocD D))) → hFd clP ph ph2 → Q (.inl (some (.inl ((ocD D).1.length : Int))), ph2, g)) : xTC (d + 1220) 138 [.inr (.inl (some 1))] ph g Q := by
  have hs := h.1
  refine tEn (ls := [some (.inr (.inl (some 1)))]) (fun k => by match k with | 0 => rfl | k + 1 => rfl) ?_
  refine tK (l := xk_138) rfl rfl (fun _ _ _ _ _ => rfl) ?_
  refine tCa (l := xk_138) rfl rfl (hInvV (c := 9) hs rfl rfl rfl rfl rfl (Nat.le_of_ble_eq_true rfl) (Nat.le_of_ble_eq_true rfl)) ?_
  refine s117 h hl hw (fun ph0 k0 rs0 pp0 g0 => ?_)
  refine tKn ?_
  refine tK (l := xk_138) rfl rfl (fun _ _ _ _ _ => rfl) ?_
  refine tK (l := xk_138) rfl rfl (hGetR (o := some 91) k0.1 rfl rfl rfl (by decide) (by decide) rfl) ?_
  refine tK (l := xk_138) rfl rfl (fun _ _ _ _ _ => rfl) ?_
  refine tK (l := xk_138) rfl rfl (hGetR (o := some 73) k0.1 rfl rfl rfl (by decide) (by decide) rfl) ?_
  refine tCa (l := xk_138) rfl rfl (hInvV (c := 2) k0.1 rfl rfl rfl rfl rfl (Nat.le_of_ble_eq_true rfl) (Nat.le_of_ble_eq_true rfl)) ?_
  refine s23k k0 (fun ph1 k1 f1 => ?_)
  refine tKn ?_
  have g1 : hFd clP ph0 ph1 := f1.mono (fun a ha => by unfold clP; omega)
  have rs1 : hRes zs ph1 36 c.1 := rs0.fd k1.1 f1 (by decide)
  refine tK (l := xk_138) rfl rfl (fun _ _ _ _ _ => rfl) ?_
  refine tK (l := xk_138) rfl rfl (fun _ _ _ _ _ => rfl) ?_
  refine tCa (l := xk_138) rfl rfl (hInvV (c := 9) k1.1 rfl rfl rfl rfl rfl (Nat.le_of_ble_eq_true rfl) (Nat.le_of_ble_eq_true rfl)) ?_
  refine s115k k1 rs1 hw hl hok (fun ph2 D hD k2 oc2 f2 => ?_)
  refine tKn ?_
  refine tK (l := xk_138) rfl rfl (fun _ _ _ _ _ => rfl) ?_
  refine tK (l := xk_138) rfl rfl (hGetR (o := some 73) k2.1 rfl rfl rfl (by decide) (by decide) rfl) ?_
  refine tK (l := xk_138) rfl rfl (fun _ _ _ _ _ => rfl) ?_
  refine tK (l := xk_138) rfl rfl (hGetR (o := some 43) k2.1 rfl rfl rfl (by decide) (by decide) rfl) ?_
  refine tK (l := xk_138) rfl rfl (hGetR (o := some 44) k2.1 rfl rfl rfl (by decide) (by decide) rfl) ?_
  refine tCa (l := xk_138) rfl rfl (hInvV (c := 6) k2.1 rfl rfl rfl rfl rfl (Nat.le_of_ble_eq_true rfl) (Nat.le_of_ble_eq_true rfl)) ?_
  refine s50 (s := 73) k2.1 rfl (by decide) k2.2.2.2.1 oc2 b1 b2 b3 (fun ph3 hs3 st3 f3 => ?_)
  refine tKn ?_
  obtain ⟨k3, g3⟩ := k2.now hs3 st3 f3
  refine tK (l := xk_138) rfl rfl (fun _ _ _ _ _ => rfl) ?_
  refine tCa (l := xk_138) rfl rfl (hInvV (c := 9) hs3 rfl rfl rfl rfl rfl (Nat.le_of_ble_eq_true rfl) (Nat.le_of_ble_eq_true rfl)) ?_
  refine c87 k3 ?_
  refine tKv ?_
  refine tRt (l := xk_138) rfl rfl (fun _ _ _ _ _ => rfl) ?_
  exact hQ ph3 D hD k3 (((g0.cl.trans g1).trans (bP_cl f2)).trans g3)
theorem c122 (h : hKl zs ph c) (hl : c.1.length ≤ 60) (hok : oks c.1) (hw : pWh c.1 = true) (hQ : ∀ ph2 D, Fin c.1 c.2.1.1 (-1) D → hKl zs ph2 c → hFd clP ph ph2 → Q (.inl (some (.inl ((ocD D).1.length : Int))), ph2, g)) : xTC (d + 1220) 122 [.inr (.inl (some 1))] ph g Q := by
  have hs := h.1
  refine tEn (ls := [some (.inr (.inl (some 1)))]) (fun k => by match k with | 0 => rfl | k + 1 => rfl) ?_
  refine tK (l := xk_122) rfl rfl (fun _ _ _ _ _ => rfl) ?_
  refine tCa (l := xk_122) rfl rfl (hInvV (c := 9) hs rfl rfl rfl rfl rfl (Nat.le_of_ble_eq_true rfl) (Nat.le_of_ble_eq_true rfl)) ?_
  refine s117 h hl hw (fun ph0 k0 rs0 pp0 g0 => ?_)
  refine tKn ?_
  refine tK (l := xk_122) rfl rfl (fun _ _ _ _ _ => rfl) ?_
  refine tK (l := xk_122) rfl rfl (fun _ _ _ _ _ => rfl) ?_
  refine tCa (l := xk_122) rfl rfl (hInvV (c := 9) k0.1 rfl rfl rfl rfl rfl (Nat.le_of_ble_eq_true rfl) (Nat.le_of_ble_eq_true rfl)) ?_
  refine s115k k0 rs0 hw hl hok (fun ph2 D hD k2 oc2 f2 => ?_)
  refine tKn ?_
  refine tK (l := xk_122) rfl rfl (fun _ _ _ _ _ => rfl) ?_
  refine tK (l := xk_122) rfl rfl (hGetR (o := some 43) k2.1 rfl rfl rfl (by decide) (by decide) rfl) ?_
  refine tK (l := xk_122) rfl rfl (hGetR (o := some 44) k2.1 rfl rfl rfl (by decide) (by decide) rfl) ?_
  refine tK (l := xk_122) rfl rfl (hGetR (o := some 45) k2.1 rfl rfl rfl (by decide) (by decide) rfl) ?_
  refine tK (l := xk_122) rfl rfl (fun _ _ _ _ _ => rfl) ?_
  refine tCa (l := xk_122) rfl rfl (hInvV (c := 8) k2.1 rfl rfl rfl rfl rfl (Nat.le_of_ble_eq_true rfl) (Nat.le_of_ble_eq_true rfl)) ?_
  refine a75 (r := 0) k2.1 rfl oc2.1 (by decide) oc2.2.1 ?_
  refine tKv ?_
  simp only [hLo]
  refine tRt (l := xk_122) rfl rfl (fun _ _ _ _ _ => rfl) ?_
  exact hQ ph2 D hD k2 (g0.cl.trans (bP_cl f2))
theorem c124 (h : hKl zs ph c) (hl : c.1.length ≤ 60) (hok : oks c.1) (hw : pWh c.1 = true) (hQ : ∀ ph2 D, Fin c.1 c.2.1.1 (-1) D → hKl zs ph2 c → hFd clP ph ph2 → Q (.inl (some (.inl (ocD D).2.1)), ph2, g)) : xTC (d + 1220) 124 [.inr (.inl (some 1))] ph g Q := by
  have hs := h.1
  refine tEn (ls := [some (.inr (.inl (some 1)))]) (fun k => by match k with | 0 => rfl | k + 1 => rfl) ?_
  refine tK (l := xk_124) rfl rfl (fun _ _ _ _ _ => rfl) ?_
  refine tCa (l := xk_124) rfl rfl (hInvV (c := 9) hs rfl rfl rfl rfl rfl (Nat.le_of_ble_eq_true rfl) (Nat.le_of_ble_eq_true rfl)) ?_
  refine s117 h hl hw (fun ph0 k0 rs0 pp0 g0 => ?_)
  refine tKn ?_
  refine tK (l := xk_124) rfl rfl (fun _ _ _ _ _ => rfl) ?_
  refine tK (l := xk_124) rfl rfl (fun _ _ _ _ _ => rfl) ?_
  refine tCa (l := xk_124) rfl rfl (hInvV (c := 9) k0.1 rfl rfl rfl rfl rfl (Nat.le_of_ble_eq_true rfl) (Nat.le_of_ble_eq_true rfl)) ?_
  refine s115k k0 rs0 hw hl hok (fun ph2 D hD k2 oc2 f2 => ?_)
  refine tKn ?_
  refine tK (l := xk_124) rfl rfl (fun _ _ _ _ _ => rfl) ?_
  refine tK (l := xk_124) rfl rfl (hGetR (o := some 43) k2.1 rfl rfl rfl (by decide) (by decide) rfl) ?_
  refine tK (l := xk_124) rfl rfl (hGetR (o := some 44) k2.1 rfl rfl rfl (by decide) (by decide) rfl) ?_
  refine tK (l := xk_124) rfl rfl (hGetI k2.1 rfl rfl rfl (by decide) (by decide)) ?_
  refine tRt (l := xk_124) rfl rfl (fun _ _ _ _ _ => rfl) ?_
  rw [oc2.2.2.2.2.2.1]
  exact hQ ph2 D hD k2 (g0.cl.trans (bP_cl f2))
theorem c140 (h : hKl zs ph c) (hl : c.1.length ≤ 60) (hok : oks c.1) (hw : pWh c.1 = true) {n : Nat} (hn : n < 8) (hQ : ∀ ph2 D, Fin c.1 c.2.1.1 (n : Int) D → hKl zs ph2 c → hFd clP ph ph2 → Q (.inl (some (.inl ((ocD D).1.length : Int))), ph2, g)) : xTC (d + 1220) 140 [.inr (.inl (some 1)), .inl (n : Int)] ph g Q := by
  have hs := h.1
  refine tEn (ls := [some (.inr (.inl (some 1))), some (.inl (n : Int))]) (fun k => by match k with | 0 => rfl | 1 => rfl | k + 2 => rfl) ?_
  refine tK (l := xk_140) rfl rfl (fun _ _ _ _ _ => rfl) ?_
  refine tCa (l := xk_140) rfl rfl (hInvS rfl rfl rfl rfl (Nat.le_of_ble_eq_true rfl) (Nat.le_of_ble_eq_true rfl)) ?_
  refine s108 hn ?_
  refine tKn ?_
  refine tK (l := xk_140) rfl rfl (fun _ _ _ _ _ => rfl) ?_
  refine tCa (l := xk_140) rfl rfl (hInvV (c := 9) hs rfl rfl rfl rfl rfl (Nat.le_of_ble_eq_true rfl) (Nat.le_of_ble_eq_true rfl)) ?_
  refine s117 h hl hw (fun ph0 k0 rs0 pp0 g0 => ?_)
  refine tKn ?_
  refine tK (l := xk_140) rfl rfl (fun _ _ _ _ _ => rfl) ?_
  refine tK (l := xk_140) rfl rfl (fun _ _ _ _ _ => rfl) ?_
  refine tCa (l := xk_140) rfl rfl (hInvV (c := 9) k0.1 rfl rfl rfl rfl rfl (Nat.le_of_ble_eq_true rfl) (Nat.le_of_ble_eq_true rfl)) ?_
  refine s115k k0 rs0 hw hl hok (fun ph2 D hD k2 oc2 f2 => ?_)
  refine tKn ?_
  refine tK (l := xk_140) rfl rfl (fun _ _ _ _ _ => rfl) ?_
  refine tK (l := xk_140) rfl rfl (hGetR (o := some 43) k2.1 rfl rfl rfl (by decide) (by decide) rfl) ?_
  refine tK (l := xk_140) rfl rfl (hGetR (o := some 44) k2.1 rfl rfl rfl (by decide) (by decide) rfl) ?_
  refine tK (l := xk_140) rfl rfl (hGetR (o := some 45) k2.1 rfl rfl rfl (by decide) (by decide) rfl) ?_
  refine tK (l := xk_140) rfl rfl (fun _ _ _ _ _ => rfl) ?_
  refine tCa (l := xk_140) rfl rfl (hInvV (c := 8) k2.1 rfl rfl rfl rfl rfl (Nat.le_of_ble_eq_true rfl) (Nat.le_of_ble_eq_true rfl)) ?_
  refine a75 (r := 0) k2.1 rfl oc2.1 (by decide) oc2.2.1 ?_
  refine tKv ?_
  simp only [hLo]
  refine tRt (l := xk_140) rfl rfl (fun _ _ _ _ _ => rfl) ?_
  exact hQ ph2 D hD k2 (g0.cl.trans (bP_cl f2))
theorem c140x (h : hKl zs ph c) {x : Int} (hx : ¬ (0 ≤ x ∧ x < 8)) (hQ : Q (.inr 2, ph, g + 1)) : xTC (d + 1) 140 [.inr (.inl (some 1)), .inl x] ph g Q := by
  have hs := h.1
  refine tEn (ls := [some (.inr (.inl (some 1))), some (.inl x)]) (fun k => by match k with | 0 => rfl | 1 => rfl | k + 2 => rfl) ?_
  refine tK (l := xk_140) rfl rfl (fun _ _ _ _ _ => rfl) ?_
  refine tCa (l := xk_140) rfl rfl (hInvS rfl rfl rfl rfl (Nat.le_of_ble_eq_true rfl) (Nat.le_of_ble_eq_true rfl)) ?_
  refine s108x hx ?_
  refine tKx rfl ?_
  exact hQ
theorem c140n (h : hKl zs ph c) (hl : c.1.length ≤ 60) {n : Nat} (hn : n < 8) (hw : pWh c.1 = false) (hQ : ∀ ph2, hKl zs ph2 c → hFd clP ph ph2 → Q (.inr 1, ph2, g + 1)) : xTC (d + 4) 140 [.inr (.inl (some 1)), .inl (n : Int)] ph g Q := by
  have hs := h.1
  refine tEn (ls := [some (.inr (.inl (some 1))), some (.inl (n : Int))]) (fun k => by match k with | 0 => rfl | 1 => rfl | k + 2 => rfl) ?_
  refine tK (l := xk_140) rfl rfl (fun _ _ _ _ _ => rfl) ?_
  refine tCa (l := xk_140) rfl rfl (hInvS rfl rfl rfl rfl (Nat.le_of_ble_eq_true rfl) (Nat.le_of_ble_eq_true rfl)) ?_
  refine s108 hn ?_
  refine tKn ?_
  refine tK (l := xk_140) rfl rfl (fun _ _ _ _ _ => rfl) ?_
  refine tCa (l := xk_140) rfl rfl (hInvV (c := 9) hs rfl rfl rfl rfl rfl (Nat.le_of_ble_eq_true rfl) (Nat.le_of_ble_eq_true rfl)) ?_
  refine s117n h hl hw (fun ph1 k1 g1 => ?_)
  refine tKx rfl ?_
  exact hQ ph1 k1 g1.cl
theorem c123 (h : hKl zs ph c) (hl : c.1.length ≤ 60) (hok : oks c.1) (hw : pWh c.1 = true) (hQ : ∀ ph2 D, Fin c.1 c.2.1.1 (-1) D → hKl zs ph2 c → hFd clP ph ph2 → Q (.inl (some (.inl ((ocD D).1.length : Int))), ph2, g)) : xTC (d + 1220) 123 [.inr (.inl (some 1))] ph g Q := by
  have hs := h.1
  refine tEn (ls := [some (.inr (.inl (some 1)))]) (fun k => by match k with | 0 => rfl | k + 1 => rfl) ?_
  refine tK (l := xk_123) rfl rfl (fun _ _ _ _ _ => rfl) ?_
  refine tCa (l := xk_123) rfl rfl (hInvV (c := 9) hs rfl rfl rfl rfl rfl (Nat.le_of_ble_eq_true rfl) (Nat.le_of_ble_eq_true rfl)) ?_
  refine s117 h hl hw (fun ph0 k0 rs0 pp0 g0 => ?_)
  refine tKn ?_
  obtain ⟨D, hD⟩ : ∃ D, Fin c.1 c.2.1.1 (-1) D := Fin_ex k0 rs0 hw hl hok
  refine tK (l := xk_123) rfl rfl (fun _ _ _ _ _ => rfl) ?_
  refine tK (l := xk_123) rfl rfl (hGetR (o := some 43) k0.1 rfl rfl rfl (by decide) (by decide) rfl) ?_
  refine tK (l := xk_123) rfl rfl (fun _ _ _ _ _ => rfl) ?_
  refine tK (l := xk_123) rfl rfl (hGetR (o := some 73) k0.1 rfl rfl rfl (by decide) (by decide) rfl) ?_
  refine tK (l := xk_123) rfl rfl (hGetR (o := some 74) k0.1 rfl rfl rfl (by decide) (by decide) rfl) ?_
  refine tK (l := xk_123) rfl rfl (fun _ _ _ _ _ => rfl) ?_
  refine tCa (l := xk_123) rfl rfl (hInvV (c := 4) k0.1 rfl rfl rfl rfl rfl (Nat.le_of_ble_eq_true rfl) (Nat.le_of_ble_eq_true rfl)) ?_
  refine s33 k0.1 k0.2.2.1.2.2.1 k0.2.2.1.2.2.2.1 k0.2.2.1.2.1 rfl (by decide) (by decide) k0.2.2.2.1.1 (by decide) (by decide) (fun ph1 r1 e3 e2 f1 => ?_)
  refine tKn ?_
  have ef : sc0 (fun n => hTo ph0 74 n) (-1) = sc0 c.2.1.1 (-1) := funext (fun n => by unfold sc0; by_cases h9 : n < 8 ∧ (n : Int) ≠ -1; rw [if_pos h9, if_pos h9]; exact k0.2.2.2.1.2.1 n h9.1; rw [if_neg h9, if_neg h9])
  rw [ef] at r1
  have f1d : hFd (bP 0) ph0 ph1 := f1.fd (by intro x hx; simp only [List.mem_cons, List.not_mem_nil, or_false] at hx; unfold bP; omega)
  have k1 : hKl zs ph1 c := k0.rn r1.1.1 r1.1.2.1 r1.2.1 r1.2.2.1 f1d
  refine tK (l := xk_123) rfl rfl (fun _ _ _ _ _ => rfl) ?_
  refine tK (l := xk_123) rfl rfl (hGetR (o := some 57) k1.1 rfl rfl rfl (by decide) (by decide) rfl) ?_
  refine tK (l := xk_123) rfl rfl (fun _ _ _ _ _ => rfl) ?_
  refine tK (l := xk_123) rfl rfl (hGetR (o := some 2) k1.1 rfl rfl rfl (by decide) (by decide) rfl) ?_
  refine tCa (l := xk_123) rfl rfl (hInvV (c := 1) k1.1 rfl rfl rfl rfl rfl (Nat.le_of_ble_eq_true rfl) (Nat.le_of_ble_eq_true rfl)) ?_
  refine s9 r1 k1.2.2.1.2.2.2.2 k1.2.1.1 k1.2.1.2 hl hD (fun ph2 r2 w65 f2 => ?_)
  refine tKn ?_
  have f2d : hFd scP ph1 ph2 := f2.mono (fun a ha => by unfold bT at ha; unfold scP; omega)
  have k2 : hKl zs ph2 c := k1.sc r2.1.1 f2d ⟨f2.tw (by unfold bT; omega) k1.2.2.1.1, r2.2.2.1, r2.1.2.1, r2.2.1, w65⟩
  refine tK (l := xk_123) rfl rfl (fun _ _ _ _ _ => rfl) ?_
  refine tK (l := xk_123) rfl rfl (hGetR (o := some 43) k2.1 rfl rfl rfl (by decide) (by decide) rfl) ?_
  refine tK (l := xk_123) rfl rfl (hGetR (o := some 44) k2.1 rfl rfl rfl (by decide) (by decide) rfl) ?_
  refine tK (l := xk_123) rfl rfl (hGetR (o := some 45) k2.1 rfl rfl rfl (by decide) (by decide) rfl) ?_
  refine tK (l := xk_123) rfl rfl (fun _ _ _ _ _ => rfl) ?_
  refine tCa (l := xk_123) rfl rfl (hInvV (c := 8) k2.1 rfl rfl rfl rfl rfl (Nat.le_of_ble_eq_true rfl) (Nat.le_of_ble_eq_true rfl)) ?_
  refine a75 (r := 0) k2.1 rfl r2.2.2.1 (by decide) r2.2.2.2.2.2.2.1 ?_
  refine tKv ?_
  simp only [hLo]
  refine tRt (l := xk_123) rfl rfl (fun _ _ _ _ _ => rfl) ?_
  exact hQ ph2 D hD k2 ((g0.cl.trans (bP_cl f1d)).trans f2d.cl)
theorem c123d (h : hKl zs ph c) (hl : c.1.length ≤ 60) (hok : oks c.1) (hw : pWh c.1 = true) {D : Cf} (hD : Fin c.1 c.2.1.1 (-1) D) (hQ : ∀ ph2, hKl zs ph2 c → hFd clP ph ph2 → Q (.inl (some (.inl ((ocD D).1.length : Int))), ph2, g)) : xTC (d + 1220) 123 [.inr (.inl (some 1))] ph g Q := by
  have hs := h.1
  refine tEn (ls := [some (.inr (.inl (some 1)))]) (fun k => by match k with | 0 => rfl | k + 1 => rfl) ?_
  refine tK (l := xk_123) rfl rfl (fun _ _ _ _ _ => rfl) ?_
  refine tCa (l := xk_123) rfl rfl (hInvV (c := 9) hs rfl rfl rfl rfl rfl (Nat.le_of_ble_eq_true rfl) (Nat.le_of_ble_eq_true rfl)) ?_
  refine s117 h hl hw (fun ph0 k0 rs0 pp0 g0 => ?_)
  refine tKn ?_
  have hexD : ∃ D, Fin c.1 c.2.1.1 (-1) D := Fin_ex k0 rs0 hw hl hok
  refine tK (l := xk_123) rfl rfl (fun _ _ _ _ _ => rfl) ?_
  refine tK (l := xk_123) rfl rfl (hGetR (o := some 43) k0.1 rfl rfl rfl (by decide) (by decide) rfl) ?_
  refine tK (l := xk_123) rfl rfl (fun _ _ _ _ _ => rfl) ?_
  refine tK (l := xk_123) rfl rfl (hGetR (o := some 73) k0.1 rfl rfl rfl (by decide) (by decide) rfl) ?_
  refine tK (l := xk_123) rfl rfl (hGetR (o := some 74) k0.1 rfl rfl rfl (by decide) (by decide) rfl) ?_
  refine tK (l := xk_123) rfl rfl (fun _ _ _ _ _ => rfl) ?_
  refine tCa (l := xk_123) rfl rfl (hInvV (c := 4) k0.1 rfl rfl rfl rfl rfl (Nat.le_of_ble_eq_true rfl) (Nat.le_of_ble_eq_true rfl)) ?_
  refine s33 k0.1 k0.2.2.1.2.2.1 k0.2.2.1.2.2.2.1 k0.2.2.1.2.1 rfl (by decide) (by decide) k0.2.2.2.1.1 (by decide) (by decide) (fun ph1 r1 e3 e2 f1 => ?_)
  refine tKn ?_
  have ef : sc0 (fun n => hTo ph0 74 n) (-1) = sc0 c.2.1.1 (-1) := funext (fun n => by unfold sc0; by_cases h9 : n < 8 ∧ (n : Int) ≠ -1; rw [if_pos h9, if_pos h9]; exact k0.2.2.2.1.2.1 n h9.1; rw [if_neg h9, if_neg h9])
  rw [ef] at r1
  have f1d : hFd (bP 0) ph0 ph1 := f1.fd (by intro x hx; simp only [List.mem_cons, List.not_mem_nil, or_false] at hx; unfold bP; omega)
  have k1 : hKl zs ph1 c := k0.rn r1.1.1 r1.1.2.1 r1.2.1 r1.2.2.1 f1d
  refine tK (l := xk_123) rfl rfl (fun _ _ _ _ _ => rfl) ?_
  refine tK (l := xk_123) rfl rfl (hGetR (o := some 57) k1.1 rfl rfl rfl (by decide) (by decide) rfl) ?_
  refine tK (l := xk_123) rfl rfl (fun _ _ _ _ _ => rfl) ?_
  refine tK (l := xk_123) rfl rfl (hGetR (o := some 2) k1.1 rfl rfl rfl (by decide) (by decide) rfl) ?_
  refine tCa (l := xk_123) rfl rfl (hInvV (c := 1) k1.1 rfl rfl rfl rfl rfl (Nat.le_of_ble_eq_true rfl) (Nat.le_of_ble_eq_true rfl)) ?_
  refine s9 r1 k1.2.2.1.2.2.2.2 k1.2.1.1 k1.2.1.2 hl hD (fun ph2 r2 w65 f2 => ?_)
  refine tKn ?_
  have f2d : hFd scP ph1 ph2 := f2.mono (fun a ha => by unfold bT at ha; unfold scP; omega)
  have k2 : hKl zs ph2 c := k1.sc r2.1.1 f2d ⟨f2.tw (by unfold bT; omega) k1.2.2.1.1, r2.2.2.1, r2.1.2.1, r2.2.1, w65⟩
  refine tK (l := xk_123) rfl rfl (fun _ _ _ _ _ => rfl) ?_
  refine tK (l := xk_123) rfl rfl (hGetR (o := some 43) k2.1 rfl rfl rfl (by decide) (by decide) rfl) ?_
  refine tK (l := xk_123) rfl rfl (hGetR (o := some 44) k2.1 rfl rfl rfl (by decide) (by decide) rfl) ?_
  refine tK (l := xk_123) rfl rfl (hGetR (o := some 45) k2.1 rfl rfl rfl (by decide) (by decide) rfl) ?_
  refine tK (l := xk_123) rfl rfl (fun _ _ _ _ _ => rfl) ?_
  refine tCa (l := xk_123) rfl rfl (hInvV (c := 8) k2.1 rfl rfl rfl rfl rfl (Nat.le_of_ble_eq_true rfl) (Nat.le_of_ble_eq_true rfl)) ?_
  refine a75 (r := 0) k2.1 rfl r2.2.2.1 (by decide) r2.2.2.2.2.2.2.1 ?_
  refine tKv ?_
  simp only [hLo]
  refine tRt (l := xk_123) rfl rfl (fun _ _ _ _ _ => rfl) ?_
  exact hQ ph2 k2 ((g0.cl.trans (bP_cl f1d)).trans f2d.cl)
theorem c114 (h : hKl zs ph c) {n : Nat} {v : List Int} (hn : n < 8) (hv : c.2.1.1 n = some v) (hv24 : v.length ≤ 24) (hokv : oks v) (hQ : ∀ ph2, hKl zs ph2 c → hFd clP ph ph2 → Q (.inl (some (.inl (v.length : Int))), ph2, g)) : xTC (d + 1220) 114 [.inr (.inl (some 1)), .inl (n : Int)] ph g Q := by
  have hs := h.1
  have hz := hRw74
  refine tEn (ls := [some (.inr (.inl (some 1))), some (.inl (n : Int)), none, none, none, none]) (fun k => by match k with | 0 => rfl | 1 => rfl | 2 => rfl | 3 => rfl | 4 => rfl | 5 => rfl | k + 6 => rfl) ?_
  refine tK (l := xk_114) rfl rfl (fun _ _ _ _ _ => rfl) ?_
  refine tK (l := xk_114) rfl rfl (fun _ _ _ _ _ => rfl) ?_
  refine tCa (l := xk_114) rfl rfl (hInvV (c := 9) hs rfl rfl rfl rfl rfl (Nat.le_of_ble_eq_true rfl) (Nat.le_of_ble_eq_true rfl)) ?_
  refine s110 h hn hv ?_
  refine tKv ?_
  refine tSt (l := xk_114) rfl rfl (fun _ _ _ _ _ => rfl) (Nat.le_of_ble_eq_true rfl) ?_
  refine tK (l := xk_114) rfl rfl (fun _ _ _ _ _ => rfl) ?_
  refine tK (l := xk_114) rfl rfl (fun _ _ _ _ _ => rfl) ?_
  refine tCa (l := xk_114) rfl rfl (hInvV (c := 9) hs rfl rfl rfl rfl rfl (Nat.le_of_ble_eq_true rfl) (Nat.le_of_ble_eq_true rfl)) ?_
  refine s112 h hn hv hv24 hokv (fun ph0 k0 t0 g0 => ?_)
  refine tKv ?_
  refine tK (l := xk_114) rfl rfl (fun _ _ _ _ _ => rfl) ?_
  refine tK (l := xk_114) rfl rfl (fun _ _ _ _ _ => rfl) ?_
  refine tK (l := xk_114) rfl rfl (hGetR (o := some 36) k0.1 rfl rfl rfl (by decide) (by decide) rfl) ?_
  refine tK (l := xk_114) rfl rfl (fun _ _ _ _ _ => rfl) ?_
  refine tK (l := xk_114) rfl rfl (hGetR (o := some 5) k0.1 rfl rfl rfl (by decide) (by decide) rfl) ?_
  refine tK (l := xk_114) rfl rfl (fun _ _ _ _ _ => rfl) ?_
  refine tCa (l := xk_114) rfl rfl (hInvV (c := 7) k0.1 rfl rfl rfl rfl rfl (Nat.le_of_ble_eq_true rfl) (Nat.le_of_ble_eq_true rfl)) ?_
  have hel := esc_len v
  refine s52 (T := 36) k0.1 rfl rfl k0.2.2.1.1 (by decide) t0 (by omega) (fun ph1 rs1 f1 => ?_)
  refine tKn ?_
  have f1 : hFr [36, 37, 38, 39, 40, 41, 42] ph0 ph1 := f1
  have k1 := k0.scr rs1.1 f1 (by decide)
  have g1 : hFd scP ph0 ph1 := f1.cl (by unfold scP; decide)
  have hoke : oks (esc v) := hTo_ch k0.1 rfl t0
  refine tK (l := xk_114) rfl rfl (fun _ _ _ _ _ => rfl) ?_
  refine tK (l := xk_114) rfl rfl (fun _ _ _ _ _ => rfl) ?_
  refine tCa (l := xk_114) rfl rfl (hInvV (c := 9) k1.1 rfl rfl rfl rfl rfl (Nat.le_of_ble_eq_true rfl) (Nat.le_of_ble_eq_true rfl)) ?_
  refine s115k k1 rs1 (esc_pWh v) (by omega) hoke (fun ph2 D hD k2 oc2 f2 => ?_)
  refine tKn ?_
  have hout := esc_fin hv24 hD
  have t45 : hTo ph2 45 0 = some v := by have := oc2.2.1; rw [hout] at this; exact this
  obtain ⟨w74, t74⟩ := k2.val hn
  rw [hv] at t74
  refine tK (l := xk_114) rfl rfl (fun _ _ _ _ _ => rfl) ?_
  refine tK (l := xk_114) rfl rfl (hGetR (o := some 43) k2.1 rfl rfl rfl (by decide) (by decide) rfl) ?_
  refine tK (l := xk_114) rfl rfl (hGetR (o := some 44) k2.1 rfl rfl rfl (by decide) (by decide) rfl) ?_
  refine tK (l := xk_114) rfl rfl (hGetR (o := some 45) k2.1 rfl rfl rfl (by decide) (by decide) rfl) ?_
  refine tSt (l := xk_114) rfl rfl (fun _ _ _ _ _ => rfl) (Nat.le_of_ble_eq_true rfl) ?_
  refine tK (l := xk_114) rfl rfl (fun _ _ _ _ _ => rfl) ?_
  refine tSt (l := xk_114) rfl rfl (fun _ _ _ _ _ => rfl) (Nat.le_of_ble_eq_true rfl) ?_
  refine tK (l := xk_114) rfl rfl (fun _ _ _ _ _ => rfl) ?_
  refine tSt (l := xk_114) rfl rfl (fun _ _ _ _ _ => rfl) (Nat.le_of_ble_eq_true rfl) ?_
  have loop : ∀ (m i : Nat), i + m = v.length → xT (d + 1220) 114 46 (xlo [some (.inr (.inl (some 1))), some (.inl (n : Int)), some (.inl (v.length : Int)), some (.inr (.inl (some 45))), some (.inl (i : Int)), some (.inl (i : Int))]) [] ph2 g Q := by
    intro m
    have hs2 := k2.1
    induction m with
    | zero =>
      intro i him
      refine tK (l := xk_114) rfl rfl (fun _ _ _ _ _ => rfl) ?_
      refine tK (l := xk_114) rfl rfl (fun _ _ _ _ _ => rfl) ?_
      refine tIc_ge (l := xk_114) (pc' := 94) rfl rfl rfl (fun hc => ?_) (fun hc => ?_)
      · exfalso; omega
      · refine tK (l := xk_114) rfl rfl (fun _ _ _ _ _ => rfl) ?_
        refine tRt (l := xk_114) rfl rfl (fun _ _ _ _ _ => rfl) ?_
        rw [show i = v.length by omega]
        exact hQ ph2 k2 ((g0.cl.trans g1.cl).trans (bP_cl f2))
    | succ m ih =>
      intro i him
      obtain ⟨x, hx⟩ : ∃ x, v[i]? = some x := ⟨_, List.getElem?_eq_getElem (by omega)⟩
      refine tK (l := xk_114) rfl rfl (fun _ _ _ _ _ => rfl) ?_
      refine tK (l := xk_114) rfl rfl (fun _ _ _ _ _ => rfl) ?_
      refine tIc_ge (l := xk_114) (pc' := 94) rfl rfl rfl (fun hc => ?_) (fun hc => ?_)
      · refine tK (l := xk_114) rfl rfl (fun _ _ _ _ _ => rfl) ?_
        refine tK (l := xk_114) rfl rfl (fun _ _ _ _ _ => rfl) ?_
        refine tK (l := xk_114) rfl rfl (fun _ _ _ _ _ => rfl) ?_
        refine tCa (l := xk_114) rfl rfl (hInvV (c := 8) hs2 rfl rfl rfl rfl rfl (Nat.le_of_ble_eq_true rfl) (Nat.le_of_ble_eq_true rfl)) ?_
        refine a75 (r := 0) hs2 rfl oc2.1 (by decide) t45 ?_
        refine tKv ?_
        simp only [hLo]
        refine tIc_ge (l := xk_114) (pc' := 94) rfl rfl rfl (fun hc => ?_) (fun hc => ?_)
        · refine tK (l := xk_114) rfl rfl (fun _ _ _ _ _ => rfl) ?_
          refine tK (l := xk_114) rfl rfl (fun _ _ _ _ _ => rfl) ?_
          refine tK (l := xk_114) rfl rfl (fun _ _ _ _ _ => rfl) ?_
          refine tCa (l := xk_114) rfl rfl (hInvV (c := 8) hs2 rfl rfl rfl rfl rfl (Nat.le_of_ble_eq_true rfl) (Nat.le_of_ble_eq_true rfl)) ?_
          refine a76 (r := 0) hs2 rfl oc2.1 (by decide) t45 hx ?_
          refine tKv ?_
          refine tK (l := xk_114) rfl rfl (fun _ _ _ _ _ => rfl) ?_
          refine tK (l := xk_114) rfl rfl (hGetR (o := some 73) hs2 rfl rfl rfl (by decide) (by decide) rfl) ?_
          refine tK (l := xk_114) rfl rfl (hGetR (o := some 74) hs2 rfl rfl rfl (by decide) (by decide) rfl) ?_
          refine tK (l := xk_114) rfl rfl (fun _ _ _ _ _ => rfl) ?_
          refine tK (l := xk_114) rfl rfl (fun _ _ _ _ _ => rfl) ?_
          refine tCa (l := xk_114) rfl rfl (hInvV (c := 8) hs2 rfl rfl rfl rfl rfl (Nat.le_of_ble_eq_true rfl) (Nat.le_of_ble_eq_true rfl)) ?_
          refine a76 hs2 rfl w74 (by omega) t74 hx ?_
          refine tKv ?_
          refine tIc_ne (l := xk_114) (pc' := 88) rfl rfl rfl (fun hc => ?_) (fun hc => ?_)
          · refine tSt (l := xk_114) rfl rfl (hIinc rfl (Nat.le_of_ble_eq_true rfl) ⟨by omega, by omega⟩) (Nat.le_of_ble_eq_true rfl) ?_
            refine tSt (l := xk_114) rfl rfl (hIinc rfl (Nat.le_of_ble_eq_true rfl) ⟨by omega, by omega⟩) (Nat.le_of_ble_eq_true rfl) ?_
            refine tK (l := xk_114) rfl rfl (fun _ _ _ _ _ => rfl) ?_
            exact ih (i + 1) (by omega)
          · exact absurd rfl hc
        · exfalso; omega
      · exfalso; omega
  exact loop v.length 0 (by omega)
end CL3
