/-! ===== the class's calls ===== -/
def psh (c : KS) : List SS := (if c.2.2.2.length = 6 then c.2.2.2.tail else c.2.2.2) ++ [c.2.1]
def ndo (c : KS) (st : SS) : KS := (c.1, st, c.2.2.1, psh c)
def setV (st : SS) (n : Nat) (v : Option (List Int)) : SS := (fun j => if j = n then v else st.1 j, st.2)
section CL1
variable {d : Nat} {ph : xH} {zs : List xV} {g : Nat} {Q : xR → Prop} {c : KS}
theorem hKl.oc (h : hKl zs ph c) : hOc ph 77 c.2.1.2.1 := h.2.2.2.1.2.2.1
theorem hKl.cnt (h : hKl zs ph c) : hRd ph 73 2 = c.2.1.2.2.1 ∧ hRd ph 73 3 = c.2.1.2.2.2.1 ∧ hRd ph 73 4 = c.2.1.2.2.2.2 := h.2.2.2.1.2.2.2
theorem hFd.cl {pha phb : xH} (h : hFd scP pha phb) : hFd clP pha phb := h.mono (fun _ q => scP_cl q)
theorem s23k (h : hKl zs ph c) (hQ : ∀ ph2, hKl zs ph2 (ndo c c.2.1) → hFd (fun a => 91 ≤ a ∧ a ≤ 146) ph ph2 → Q (.inl none, ph2, g)) : xTC (d + 5) 23 [.inr (.inl (some 91)), .inr (.inl (some 73))] ph g Q := by
  obtain ⟨hs, ⟨b1, b2⟩, ⟨w1, w2, w3, w4, w5⟩, h3, ⟨h4, h5⟩, h6, h7, h8⟩ := id h
  refine s23 hs h8 h3 (fun ph2 hs2 hh2 f2 => ?_)
  refine hQ ph2 ⟨hs2, ⟨f2.tw (by omega) b1, (f2.to (by omega) (by omega)).trans b2⟩, ⟨f2.tw (by omega) w1, f2.tw (by omega) w2, f2.tw (by omega) w3, f2.tw (by omega) w4, f2.tw (by omega) w5⟩, h3.fd f2 (fun a _ _ => by omega), ⟨f2.tw (by omega) h4, f2.tw (by omega) h5⟩, by rw [f2.1 _ _ (by omega)]; exact h6, fun st hst => (h7 st hst).fd f2 (fun a _ _ => by omega), hh2⟩ f2
theorem hKl.setv {ph2 : xH} {n : Nat} {v : Option (List Int)} (h : hKl zs ph c) (hn : n < 8) (ht : hTs zs ph ph2 74 n v) : hKl zs ph2 (c.1, setV c.2.1 n v, c.2.2) ∧ hFd clP ph ph2 := by
  obtain ⟨hs, ⟨b1, b2⟩, ⟨w1, w2, w3, w4, w5⟩, h3, ⟨h4, h5⟩, h6, h7, h8⟩ := h
  have f : hFr [75, 76] ph ph2 := ht.fr (by decide) (by decide)
  have fd : hFd (fun a => a = 75 ∨ a = 76) ph ph2 := f.fd (by intro x hx; simp only [List.mem_cons, List.not_mem_nil, or_false] at hx; exact hx)
  refine ⟨⟨ht.sh, ⟨f.tw (by decide) b1, (f.to (by decide) (by decide)).trans b2⟩, ⟨f.tw (by decide) w1, f.tw (by decide) w2, f.tw (by decide) w3, f.tw (by decide) w4, f.tw (by decide) w5⟩, ⟨ht.tw, fun j hj => ?_, h3.2.2.1.fr f (by decide) (by decide) (by decide) (by decide), by rw [f.at (by decide)]; exact h3.2.2.2.1, by rw [f.at (by decide)]; exact h3.2.2.2.2.1, by rw [f.at (by decide)]; exact h3.2.2.2.2.2⟩, ⟨f.tw (by decide) h4, f.tw (by decide) h5⟩, by rw [f.at (by decide)]; exact h6, fun st hst => (h7 st hst).fd fd (fun a _ _ => by omega), h8.fd fd (fun a _ _ => by omega)⟩, f.fd (by unfold clP; decide)⟩
  simp only [setV]
  by_cases e : j = n
  · rw [if_pos e, e]; exact ht.row
  · rw [if_neg e, ht.rows (by have := hRw74; omega) e]; exact h3.2.1 j hj
theorem hKl.buf {ph2 : xH} {v : List Int} (h : hKl zs ph c) (ht : hTs zs ph ph2 2 0 (some v)) : hKl zs ph2 (v, c.2) ∧ hFd clP ph ph2 := by
  obtain ⟨hs, ⟨b1, b2⟩, ⟨w1, w2, w3, w4, w5⟩, h3, ⟨h4, h5⟩, h6, h7, h8⟩ := h
  have f : hFr [3, 4] ph ph2 := ht.fr (by decide) (by decide)
  have fd : hFd (fun a => a = 3 ∨ a = 4) ph ph2 := f.fd (by intro x hx; simp only [List.mem_cons, List.not_mem_nil, or_false] at hx; exact hx)
  exact ⟨⟨ht.sh, ⟨ht.tw, ht.row⟩, ⟨f.tw (by decide) w1, f.tw (by decide) w2, f.tw (by decide) w3, f.tw (by decide) w4, f.tw (by decide) w5⟩, h3.fd fd (fun a _ _ => by omega), ⟨f.tw (by decide) h4, f.tw (by decide) h5⟩, by rw [f.at (by decide)]; exact h6, fun st hst => (h7 st hst).fd fd (fun a _ _ => by omega), h8.fd fd (fun a _ _ => by omega)⟩, f.fd (by unfold clP; decide)⟩
theorem hRes.fd {P : Nat → Prop} {ph2 : xH} {T : Nat} {txt : List Int} (h : hRes zs ph T txt) (hs : hSh zs ph2) (hf : hFd P ph ph2) (hS : ∀ a ∈ tS T, ¬ P a) : hRes zs ph2 T txt := by
  have k : ∀ a ∈ tS T, ∀ j, hRd ph2 a j = hRd ph a j := fun a ha j => hf.1 a j (hS a ha)
  have k0 := k T (by simp [tS])
  refine ⟨hs, by rw [k0]; exact h.2.1, by rw [k0]; exact h.2.2.1, fun s e => ?_⟩
  obtain ⟨-, h8, h9, h10, h11, hA, hM, hO⟩ := h.2.2.2 s e
  refine ⟨hs, by rw [k0]; exact h8, by rw [k0]; exact h9, by rw [k0]; exact h10, by rw [k0]; exact h11, fun i p hp => ?_, fun i p hp hk hl => ?_, hTpO_eq (fun r _ => k _ (by simp [tS]) _) hO⟩
  · rw [k (T + 1) (by simp [tS]), k (T + 2) (by simp [tS]), k (T + 3) (by simp [tS]), k (T + 5) (by simp [tS])]
    exact hA i p hp
  · rw [k (T + 4) (by simp [tS])]
    exact hM i p hp hk hl
theorem c83 (h : hKl zs ph c) (hQ : Q (.inl (some (.inl (c.1.length : Int))), ph, g)) : xTC (d + 1) 83 [.inr (.inl (some 1))] ph g Q := by
  have hs := h.1
  refine tEn (ls := [some (.inr (.inl (some 1)))]) (fun k => by match k with | 0 => rfl | k + 1 => rfl) ?_
  refine tK (l := xk_83) rfl rfl (fun _ _ _ _ _ => rfl) ?_
  refine tK (l := xk_83) rfl rfl (hGetR (o := some 2) hs rfl rfl rfl (by decide) (by decide) rfl) ?_
  refine tK (l := xk_83) rfl rfl (fun _ _ _ _ _ => rfl) ?_
  refine tCa (l := xk_83) rfl rfl (hInvV (c := 8) hs rfl rfl rfl rfl rfl (Nat.le_of_ble_eq_true rfl) (Nat.le_of_ble_eq_true rfl)) ?_
  refine a75 (r := 0) hs rfl h.2.1.1 (by decide) h.2.1.2 ?_
  refine tKv ?_
  simp only [hLo]
  refine tRt (l := xk_83) rfl rfl (fun _ _ _ _ _ => rfl) ?_
  exact hQ
theorem c87 (h : hKl zs ph c) (hQ : Q (.inl (some (.inl (c.2.1.2.1.1.length : Int))), ph, g)) : xTC (d + 1) 87 [.inr (.inl (some 1))] ph g Q := by
  have hs := h.1
  refine tEn (ls := [some (.inr (.inl (some 1)))]) (fun k => by match k with | 0 => rfl | k + 1 => rfl) ?_
  refine tK (l := xk_87) rfl rfl (fun _ _ _ _ _ => rfl) ?_
  refine tK (l := xk_87) rfl rfl (hGetR (o := some 73) hs rfl rfl rfl (by decide) (by decide) rfl) ?_
  refine tK (l := xk_87) rfl rfl (hGetR (o := some 77) hs rfl rfl rfl (by decide) (by decide) rfl) ?_
  refine tK (l := xk_87) rfl rfl (hGetR (o := some 78) hs rfl rfl rfl (by decide) (by decide) rfl) ?_
  refine tK (l := xk_87) rfl rfl (fun _ _ _ _ _ => rfl) ?_
  refine tCa (l := xk_87) rfl rfl (hInvV (c := 8) hs rfl rfl rfl rfl rfl (Nat.le_of_ble_eq_true rfl) (Nat.le_of_ble_eq_true rfl)) ?_
  refine a75 (r := 0) hs rfl h.oc.1 (by decide) h.oc.2.1 ?_
  refine tKv ?_
  simp only [hLo]
  refine tRt (l := xk_87) rfl rfl (fun _ _ _ _ _ => rfl) ?_
  exact hQ
theorem c89 (h : hKl zs ph c) (hQ : Q (.inl (some (.inl (c.2.1.2.1.2.2.1.length : Int))), ph, g)) : xTC d 89 [.inr (.inl (some 1))] ph g Q := by
  have hs := h.1
  refine tEn (ls := [some (.inr (.inl (some 1)))]) (fun k => by match k with | 0 => rfl | k + 1 => rfl) ?_
  refine tK (l := xk_89) rfl rfl (fun _ _ _ _ _ => rfl) ?_
  refine tK (l := xk_89) rfl rfl (hGetR (o := some 73) hs rfl rfl rfl (by decide) (by decide) rfl) ?_
  refine tK (l := xk_89) rfl rfl (hGetR (o := some 77) hs rfl rfl rfl (by decide) (by decide) rfl) ?_
  refine tK (l := xk_89) rfl rfl (hGetI hs rfl rfl rfl (by decide) (by decide)) ?_
  refine tRt (l := xk_89) rfl rfl (fun _ _ _ _ _ => rfl) ?_
  rw [h.oc.2.2.1]
  exact hQ
theorem c90 (h : hKl zs ph c) (hQ : Q (.inl (some (.inl c.2.1.2.1.2.2.2.1)), ph, g)) : xTC d 90 [.inr (.inl (some 1))] ph g Q := by
  have hs := h.1
  refine tEn (ls := [some (.inr (.inl (some 1)))]) (fun k => by match k with | 0 => rfl | k + 1 => rfl) ?_
  refine tK (l := xk_90) rfl rfl (fun _ _ _ _ _ => rfl) ?_
  refine tK (l := xk_90) rfl rfl (hGetR (o := some 73) hs rfl rfl rfl (by decide) (by decide) rfl) ?_
  refine tK (l := xk_90) rfl rfl (hGetR (o := some 77) hs rfl rfl rfl (by decide) (by decide) rfl) ?_
  refine tK (l := xk_90) rfl rfl (hGetI hs rfl rfl rfl (by decide) (by decide)) ?_
  refine tRt (l := xk_90) rfl rfl (fun _ _ _ _ _ => rfl) ?_
  rw [h.oc.2.2.2.2.2.2.1]
  exact hQ
theorem c91 (h : hKl zs ph c) (hQ : Q (.inl (some (.inl c.2.1.2.1.2.2.2.2.1)), ph, g)) : xTC d 91 [.inr (.inl (some 1))] ph g Q := by
  have hs := h.1
  refine tEn (ls := [some (.inr (.inl (some 1)))]) (fun k => by match k with | 0 => rfl | k + 1 => rfl) ?_
  refine tK (l := xk_91) rfl rfl (fun _ _ _ _ _ => rfl) ?_
  refine tK (l := xk_91) rfl rfl (hGetR (o := some 73) hs rfl rfl rfl (by decide) (by decide) rfl) ?_
  refine tK (l := xk_91) rfl rfl (hGetR (o := some 77) hs rfl rfl rfl (by decide) (by decide) rfl) ?_
  refine tK (l := xk_91) rfl rfl (hGetI hs rfl rfl rfl (by decide) (by decide)) ?_
  refine tRt (l := xk_91) rfl rfl (fun _ _ _ _ _ => rfl) ?_
  rw [h.oc.2.2.2.2.2.2.2.1]
  exact hQ
theorem c92 (h : hKl zs ph c) (hQ : Q (.inl (some (.inl c.2.1.2.1.2.2.2.2.2.1)), ph, g)) : xTC d 92 [.inr (.inl (some 1))] ph g Q := by
  have hs := h.1
  refine tEn (ls := [some (.inr (.inl (some 1)))]) (fun k => by match k with | 0 => rfl | k + 1 => rfl) ?_
  refine tK (l := xk_92) rfl rfl (fun _ _ _ _ _ => rfl) ?_
  refine tK (l := xk_92) rfl rfl (hGetR (o := some 73) hs rfl rfl rfl (by decide) (by decide) rfl) ?_
  refine tK (l := xk_92) rfl rfl (hGetR (o := some 77) hs rfl rfl rfl (by decide) (by decide) rfl) ?_
  refine tK (l := xk_92) rfl rfl (hGetI hs rfl rfl rfl (by decide) (by decide)) ?_
  refine tRt (l := xk_92) rfl rfl (fun _ _ _ _ _ => rfl) ?_
  rw [h.oc.2.2.2.2.2.2.2.2.1]
  exact hQ
theorem c93 (h : hKl zs ph c) (hQ : Q (.inl (some (.inl c.2.1.2.1.2.2.2.2.2.2)), ph, g)) : xTC d 93 [.inr (.inl (some 1))] ph g Q := by
  have hs := h.1
  refine tEn (ls := [some (.inr (.inl (some 1)))]) (fun k => by match k with | 0 => rfl | k + 1 => rfl) ?_
  refine tK (l := xk_93) rfl rfl (fun _ _ _ _ _ => rfl) ?_
  refine tK (l := xk_93) rfl rfl (hGetR (o := some 73) hs rfl rfl rfl (by decide) (by decide) rfl) ?_
  refine tK (l := xk_93) rfl rfl (hGetR (o := some 77) hs rfl rfl rfl (by decide) (by decide) rfl) ?_
  refine tK (l := xk_93) rfl rfl (hGetI hs rfl rfl rfl (by decide) (by decide)) ?_
  refine tRt (l := xk_93) rfl rfl (fun _ _ _ _ _ => rfl) ?_
  rw [h.oc.2.2.2.2.2.2.2.2.2]
  exact hQ
theorem c94 (h : hKl zs ph c) (hQ : Q (.inl (some (.inl c.2.1.2.2.1)), ph, g)) : xTC d 94 [.inr (.inl (some 1))] ph g Q := by
  have hs := h.1
  refine tEn (ls := [some (.inr (.inl (some 1)))]) (fun k => by match k with | 0 => rfl | k + 1 => rfl) ?_
  refine tK (l := xk_94) rfl rfl (fun _ _ _ _ _ => rfl) ?_
  refine tK (l := xk_94) rfl rfl (hGetR (o := some 73) hs rfl rfl rfl (by decide) (by decide) rfl) ?_
  refine tK (l := xk_94) rfl rfl (hGetI hs rfl rfl rfl (by decide) (by decide)) ?_
  refine tRt (l := xk_94) rfl rfl (fun _ _ _ _ _ => rfl) ?_
  rw [h.cnt.1]
  exact hQ
theorem c95 (h : hKl zs ph c) (hQ : Q (.inl (some (.inl c.2.1.2.2.2.1)), ph, g)) : xTC d 95 [.inr (.inl (some 1))] ph g Q := by
  have hs := h.1
  refine tEn (ls := [some (.inr (.inl (some 1)))]) (fun k => by match k with | 0 => rfl | k + 1 => rfl) ?_
  refine tK (l := xk_95) rfl rfl (fun _ _ _ _ _ => rfl) ?_
  refine tK (l := xk_95) rfl rfl (hGetR (o := some 73) hs rfl rfl rfl (by decide) (by decide) rfl) ?_
  refine tK (l := xk_95) rfl rfl (hGetI hs rfl rfl rfl (by decide) (by decide)) ?_
  refine tRt (l := xk_95) rfl rfl (fun _ _ _ _ _ => rfl) ?_
  rw [h.cnt.2.1]
  exact hQ
theorem c96 (h : hKl zs ph c) (hQ : Q (.inl (some (.inl c.2.1.2.2.2.2)), ph, g)) : xTC d 96 [.inr (.inl (some 1))] ph g Q := by
  have hs := h.1
  refine tEn (ls := [some (.inr (.inl (some 1)))]) (fun k => by match k with | 0 => rfl | k + 1 => rfl) ?_
  refine tK (l := xk_96) rfl rfl (fun _ _ _ _ _ => rfl) ?_
  refine tK (l := xk_96) rfl rfl (hGetR (o := some 73) hs rfl rfl rfl (by decide) (by decide) rfl) ?_
  refine tK (l := xk_96) rfl rfl (hGetI hs rfl rfl rfl (by decide) (by decide)) ?_
  refine tRt (l := xk_96) rfl rfl (fun _ _ _ _ _ => rfl) ?_
  rw [h.cnt.2.2]
  exact hQ
theorem c98 (h : hKl zs ph c) (hQ : Q (.inl (some (.inl (c.2.2.2.length : Int))), ph, g)) : xTC (d + 1) 98 [.inr (.inl (some 1))] ph g Q := by
  have hs := h.1
  refine tEn (ls := [some (.inr (.inl (some 1)))]) (fun k => by match k with | 0 => rfl | k + 1 => rfl) ?_
  refine tK (l := xk_98) rfl rfl (fun _ _ _ _ _ => rfl) ?_
  refine tK (l := xk_98) rfl rfl (hGetR (o := some 91) hs rfl rfl rfl (by decide) (by decide) rfl) ?_
  refine tCa (l := xk_98) rfl rfl (hInvV (c := 2) hs rfl rfl rfl rfl rfl (Nat.le_of_ble_eq_true rfl) (Nat.le_of_ble_eq_true rfl)) ?_
  refine s22 hs h.2.2.2.2.2.2.2 ?_
  refine tKv ?_
  refine tRt (l := xk_98) rfl rfl (fun _ _ _ _ _ => rfl) ?_
  exact hQ
theorem c88 (h : hKl zs ph c) (hQ : Q (.inl (some (.inl (if c.2.1.2.1.2.1 = 0 then 0 else 1))), ph, g)) : xTC d 88 [.inr (.inl (some 1))] ph g Q := by
  have hs := h.1
  refine tEn (ls := [some (.inr (.inl (some 1)))]) (fun k => by match k with | 0 => rfl | k + 1 => rfl) ?_
  refine tK (l := xk_88) rfl rfl (fun _ _ _ _ _ => rfl) ?_
  refine tK (l := xk_88) rfl rfl (hGetR (o := some 73) hs rfl rfl rfl (by decide) (by decide) rfl) ?_
  refine tK (l := xk_88) rfl rfl (hGetR (o := some 77) hs rfl rfl rfl (by decide) (by decide) rfl) ?_
  refine tK (l := xk_88) rfl rfl (hGetI hs rfl rfl rfl (by decide) (by decide)) ?_
  rw [h.oc.2.2.2.2.2.1]
  refine tIf_eq (l := xk_88) (pc' := 17) rfl rfl rfl (fun hc => ?_) (fun hc => ?_)
  · have hc10 := hc
    refine tK (l := xk_88) rfl rfl (fun _ _ _ _ _ => rfl) ?_
    refine tRt (l := xk_88) rfl rfl (fun _ _ _ _ _ => rfl) ?_
    rw [if_pos hc10] at hQ
    exact hQ
  · have hc10 := hc
    refine tK (l := xk_88) rfl rfl (fun _ _ _ _ _ => rfl) ?_
    refine tK (l := xk_88) rfl rfl (fun _ _ _ _ _ => rfl) ?_
    refine tRt (l := xk_88) rfl rfl (fun _ _ _ _ _ => rfl) ?_
    rw [if_neg hc10] at hQ
    exact hQ
theorem c105 (h : hKl zs ph c) (hr : c.2.1.2.1.2.1 ≠ 0) (hQ : Q (.inl (some (.inl c.2.1.2.1.2.1)), ph, g)) : xTC (d + 1) 105 [.inr (.inl (some 1))] ph g Q := by
  have hs := h.1
  refine tEn (ls := [some (.inr (.inl (some 1)))]) (fun k => by match k with | 0 => rfl | k + 1 => rfl) ?_
  refine tK (l := xk_105) rfl rfl (fun _ _ _ _ _ => rfl) ?_
  refine tCa (l := xk_105) rfl rfl (hInvV (c := 9) hs rfl rfl rfl rfl rfl (Nat.le_of_ble_eq_true rfl) (Nat.le_of_ble_eq_true rfl)) ?_
  refine c88 h ?_
  refine tKv ?_
  rw [if_neg hr]
  refine tIf_ne (l := xk_105) (pc' := 17) rfl rfl rfl (fun hc => ?_) (fun hc => ?_)
  · exact absurd hc (by decide)
  · refine tK (l := xk_105) rfl rfl (fun _ _ _ _ _ => rfl) ?_
    refine tK (l := xk_105) rfl rfl (hGetR (o := some 73) hs rfl rfl rfl (by decide) (by decide) rfl) ?_
    refine tK (l := xk_105) rfl rfl (hGetR (o := some 77) hs rfl rfl rfl (by decide) (by decide) rfl) ?_
    refine tK (l := xk_105) rfl rfl (hGetI hs rfl rfl rfl (by decide) (by decide)) ?_
    refine tRt (l := xk_105) rfl rfl (fun _ _ _ _ _ => rfl) ?_
    rw [h.oc.2.2.2.2.2.1]
    exact hQ
theorem c105x (h : hKl zs ph c) (hr : c.2.1.2.1.2.1 = 0) (hQ : Q (.inr 1, ph, g + 1)) : xTC (d + 1) 105 [.inr (.inl (some 1))] ph g Q := by
  have hs := h.1
  refine tEn (ls := [some (.inr (.inl (some 1)))]) (fun k => by match k with | 0 => rfl | k + 1 => rfl) ?_
  refine tK (l := xk_105) rfl rfl (fun _ _ _ _ _ => rfl) ?_
  refine tCa (l := xk_105) rfl rfl (hInvV (c := 9) hs rfl rfl rfl rfl rfl (Nat.le_of_ble_eq_true rfl) (Nat.le_of_ble_eq_true rfl)) ?_
  refine c88 h ?_
  refine tKv ?_
  rw [if_pos hr]
  refine tIf_ne (l := xk_105) (pc' := 17) rfl rfl rfl (fun hc => ?_) (fun hc => ?_)
  · refine tTh (l := xk_105) rfl rfl (fun _ _ _ _ _ => rfl) ?_
    exact hQ
  · exact absurd rfl hc
theorem c106 (h : hKl zs ph c) {n : Nat} {x : Int} (hx : c.2.1.2.1.2.2.1[n]? = some x) (hQ : Q (.inl (some (.inl x)), ph, g)) : xTC (d + 1) 106 [.inr (.inl (some 1)), .inl (n : Int)] ph g Q := by
  have hs := h.1
  have hn := (List.getElem?_eq_some_iff.mp hx).1
  refine tEn (ls := [some (.inr (.inl (some 1))), some (.inl (n : Int))]) (fun k => by match k with | 0 => rfl | 1 => rfl | k + 2 => rfl) ?_
  refine tK (l := xk_106) rfl rfl (fun _ _ _ _ _ => rfl) ?_
  refine tIf_lt (l := xk_106) (pc' := 12) rfl rfl rfl (fun hc => ?_) (fun hc => ?_)
  · exfalso; omega
  · refine tK (l := xk_106) rfl rfl (fun _ _ _ _ _ => rfl) ?_
    refine tK (l := xk_106) rfl rfl (fun _ _ _ _ _ => rfl) ?_
    refine tCa (l := xk_106) rfl rfl (hInvV (c := 9) hs rfl rfl rfl rfl rfl (Nat.le_of_ble_eq_true rfl) (Nat.le_of_ble_eq_true rfl)) ?_
    refine c89 h ?_
    refine tKv ?_
    refine tIc_lt (l := xk_106) (pc' := 22) rfl rfl rfl (fun hc => ?_) (fun hc => ?_)
    · refine tK (l := xk_106) rfl rfl (fun _ _ _ _ _ => rfl) ?_
      refine tK (l := xk_106) rfl rfl (hGetR (o := some 73) hs rfl rfl rfl (by decide) (by decide) rfl) ?_
      refine tK (l := xk_106) rfl rfl (hGetR (o := some 77) hs rfl rfl rfl (by decide) (by decide) rfl) ?_
      refine tK (l := xk_106) rfl rfl (fun _ _ _ _ _ => rfl) ?_
      refine tCa (l := xk_106) rfl rfl (hInvV (c := 3) hs rfl rfl rfl rfl rfl (Nat.le_of_ble_eq_true rfl) (Nat.le_of_ble_eq_true rfl)) ?_
      refine s28 hs rfl (by have := h.oc.2.2.2.1; omega) ?_
      refine tKv ?_
      rw [h.oc.2.2.2.2.1 n x hx]
      refine tRt (l := xk_106) rfl rfl (fun _ _ _ _ _ => rfl) ?_
      exact hQ
    · exfalso; omega
theorem c106x (h : hKl zs ph c) {x : Int} (hx : ¬ (0 ≤ x ∧ x < (c.2.1.2.1.2.2.1.length : Int))) (hQ : Q (.inr 2, ph, g + 1)) : xTC (d + 1) 106 [.inr (.inl (some 1)), .inl x] ph g Q := by
  have hs := h.1
  refine tEn (ls := [some (.inr (.inl (some 1))), some (.inl x)]) (fun k => by match k with | 0 => rfl | 1 => rfl | k + 2 => rfl) ?_
  refine tK (l := xk_106) rfl rfl (fun _ _ _ _ _ => rfl) ?_
  refine tIf_lt (l := xk_106) (pc' := 12) rfl rfl rfl (fun hc => ?_) (fun hc => ?_)
  · refine tTh (l := xk_106) rfl rfl (fun _ _ _ _ _ => rfl) ?_
    exact hQ
  · refine tK (l := xk_106) rfl rfl (fun _ _ _ _ _ => rfl) ?_
    refine tK (l := xk_106) rfl rfl (fun _ _ _ _ _ => rfl) ?_
    refine tCa (l := xk_106) rfl rfl (hInvV (c := 9) hs rfl rfl rfl rfl rfl (Nat.le_of_ble_eq_true rfl) (Nat.le_of_ble_eq_true rfl)) ?_
    refine c89 h ?_
    refine tKv ?_
    refine tIc_lt (l := xk_106) (pc' := 22) rfl rfl rfl (fun hc => ?_) (fun hc => ?_)
    · exfalso; omega
    · refine tTh (l := xk_106) rfl rfl (fun _ _ _ _ _ => rfl) ?_
      exact hQ
theorem c107x {x : Int} (hx : ¬ (0 ≤ x ∧ x < 8)) (hs : hSh zs ph) (hQ : Q (.inr 2, ph, g + 1)) : xTC (d + 1) 107 [.inr (.inl (some 1)), .inl x] ph g Q := by
  refine tEn (ls := [some (.inr (.inl (some 1))), some (.inl x)]) (fun k => by match k with | 0 => rfl | 1 => rfl | k + 2 => rfl) ?_
  refine tK (l := xk_107) rfl rfl (fun _ _ _ _ _ => rfl) ?_
  refine tCa (l := xk_107) rfl rfl (hInvS rfl rfl rfl rfl (Nat.le_of_ble_eq_true rfl) (Nat.le_of_ble_eq_true rfl)) ?_
  refine s108x hx ?_
  refine tKx rfl ?_
  exact hQ
theorem c107 (h : hKl zs ph c) {n : Nat} (hn : n < 8) (hQ : Q (.inl (some (.inl (if (c.2.1.1 n).isSome = true then 1 else 0))), ph, g)) : xTC (d + 1) 107 [.inr (.inl (some 1)), .inl (n : Int)] ph g Q := by
  have hs := h.1
  refine tEn (ls := [some (.inr (.inl (some 1))), some (.inl (n : Int))]) (fun k => by match k with | 0 => rfl | 1 => rfl | k + 2 => rfl) ?_
  refine tK (l := xk_107) rfl rfl (fun _ _ _ _ _ => rfl) ?_
  refine tCa (l := xk_107) rfl rfl (hInvS rfl rfl rfl rfl (Nat.le_of_ble_eq_true rfl) (Nat.le_of_ble_eq_true rfl)) ?_
  refine s108 hn ?_
  refine tKn ?_
  refine tK (l := xk_107) rfl rfl (fun _ _ _ _ _ => rfl) ?_
  refine tK (l := xk_107) rfl rfl (hGetR (o := some 73) hs rfl rfl rfl (by decide) (by decide) rfl) ?_
  refine tK (l := xk_107) rfl rfl (hGetR (o := some 74) hs rfl rfl rfl (by decide) (by decide) rfl) ?_
  refine tK (l := xk_107) rfl rfl (fun _ _ _ _ _ => rfl) ?_
  refine tCa (l := xk_107) rfl rfl (hInvV (c := 8) hs rfl rfl rfl rfl rfl (Nat.le_of_ble_eq_true rfl) (Nat.le_of_ble_eq_true rfl)) ?_
  refine a75 hs rfl (h.val hn).1 (by have := hRw74; omega) (h.val hn).2 ?_
  refine tKv ?_
  refine tK (l := xk_107) rfl rfl (fun _ _ _ _ _ => rfl) ?_
  refine tIc_eq (l := xk_107) (pc' := 23) rfl rfl rfl (fun hc => ?_) (fun hc => ?_)
  · refine tK (l := xk_107) rfl rfl (fun _ _ _ _ _ => rfl) ?_
    refine tRt (l := xk_107) rfl rfl (fun _ _ _ _ _ => rfl) ?_
    have e9 : hLo (c.2.1.1 n) = -1 := hc
    cases e8 : c.2.1.1 n with
    | none => rw [e8] at hQ; exact hQ
    | some v => rw [e8] at e9; simp only [hLo] at e9; omega
  · refine tK (l := xk_107) rfl rfl (fun _ _ _ _ _ => rfl) ?_
    refine tK (l := xk_107) rfl rfl (fun _ _ _ _ _ => rfl) ?_
    refine tRt (l := xk_107) rfl rfl (fun _ _ _ _ _ => rfl) ?_
    have e9 : ¬ hLo (c.2.1.1 n) = -1 := hc
    cases e8 : c.2.1.1 n with
    | none => rw [e8] at e9; exact absurd rfl e9
    | some v => rw [e8] at hQ; exact hQ
theorem c136x {x : Int} (hx : ¬ (0 ≤ x ∧ x < 8)) (hs : hSh zs ph) (hQ : Q (.inr 2, ph, g + 1)) : xTC (d + 2) 136 [.inr (.inl (some 1)), .inl x] ph g Q := by
  refine tEn (ls := [some (.inr (.inl (some 1))), some (.inl x)]) (fun k => by match k with | 0 => rfl | 1 => rfl | k + 2 => rfl) ?_
  refine tK (l := xk_136) rfl rfl (fun _ _ _ _ _ => rfl) ?_
  refine tK (l := xk_136) rfl rfl (fun _ _ _ _ _ => rfl) ?_
  refine tCa (l := xk_136) rfl rfl (hInvV (c := 9) hs rfl rfl rfl rfl rfl (Nat.le_of_ble_eq_true rfl) (Nat.le_of_ble_eq_true rfl)) ?_
  refine s110x hx hs ?_
  refine tKx rfl ?_
  exact hQ
theorem c136n (h : hKl zs ph c) {n : Nat} (hn : n < 8) (hv : c.2.1.1 n = none) (hQ : Q (.inr 1, ph, g + 1)) : xTC (d + 2) 136 [.inr (.inl (some 1)), .inl (n : Int)] ph g Q := by
  have hs := h.1
  refine tEn (ls := [some (.inr (.inl (some 1))), some (.inl (n : Int))]) (fun k => by match k with | 0 => rfl | 1 => rfl | k + 2 => rfl) ?_
  refine tK (l := xk_136) rfl rfl (fun _ _ _ _ _ => rfl) ?_
  refine tK (l := xk_136) rfl rfl (fun _ _ _ _ _ => rfl) ?_
  refine tCa (l := xk_136) rfl rfl (hInvV (c := 9) hs rfl rfl rfl rfl rfl (Nat.le_of_ble_eq_true rfl) (Nat.le_of_ble_eq_true rfl)) ?_
  refine s110n h hn hv ?_
  refine tKx rfl ?_
  exact hQ
theorem c136 (h : hKl zs ph c) {n : Nat} {v : List Int} (hn : n < 8) (hv : c.2.1.1 n = some v) (hQ : Q (.inl (some (.inl (v.length : Int))), ph, g)) : xTC (d + 2) 136 [.inr (.inl (some 1)), .inl (n : Int)] ph g Q := by
  have hs := h.1
  refine tEn (ls := [some (.inr (.inl (some 1))), some (.inl (n : Int))]) (fun k => by match k with | 0 => rfl | 1 => rfl | k + 2 => rfl) ?_
  refine tK (l := xk_136) rfl rfl (fun _ _ _ _ _ => rfl) ?_
  refine tK (l := xk_136) rfl rfl (fun _ _ _ _ _ => rfl) ?_
  refine tCa (l := xk_136) rfl rfl (hInvV (c := 9) hs rfl rfl rfl rfl rfl (Nat.le_of_ble_eq_true rfl) (Nat.le_of_ble_eq_true rfl)) ?_
  refine s110 h hn hv ?_
  refine tKv ?_
  refine tRt (l := xk_136) rfl rfl (fun _ _ _ _ _ => rfl) ?_
  exact hQ
theorem c137x {x y : Int} (hx : ¬ (0 ≤ x ∧ x < 8)) (hs : hSh zs ph) (hQ : Q (.inr 2, ph, g + 1)) : xTC (d + 2) 137 [.inr (.inl (some 1)), .inl x, .inl y] ph g Q := by
  refine tEn (ls := [some (.inr (.inl (some 1))), some (.inl x), some (.inl y), none]) (fun k => by match k with | 0 => rfl | 1 => rfl | 2 => rfl | 3 => rfl | k + 4 => rfl) ?_
  refine tK (l := xk_137) rfl rfl (fun _ _ _ _ _ => rfl) ?_
  refine tK (l := xk_137) rfl rfl (fun _ _ _ _ _ => rfl) ?_
  refine tCa (l := xk_137) rfl rfl (hInvV (c := 9) hs rfl rfl rfl rfl rfl (Nat.le_of_ble_eq_true rfl) (Nat.le_of_ble_eq_true rfl)) ?_
  refine s110x hx hs ?_
  refine tKx rfl ?_
  exact hQ
theorem c137n (h : hKl zs ph c) {n : Nat} {y : Int} (hn : n < 8) (hv : c.2.1.1 n = none) (hQ : Q (.inr 1, ph, g + 1)) : xTC (d + 2) 137 [.inr (.inl (some 1)), .inl (n : Int), .inl y] ph g Q := by
  have hs := h.1
  refine tEn (ls := [some (.inr (.inl (some 1))), some (.inl (n : Int)), some (.inl y), none]) (fun k => by match k with | 0 => rfl | 1 => rfl | 2 => rfl | 3 => rfl | k + 4 => rfl) ?_
  refine tK (l := xk_137) rfl rfl (fun _ _ _ _ _ => rfl) ?_
  refine tK (l := xk_137) rfl rfl (fun _ _ _ _ _ => rfl) ?_
  refine tCa (l := xk_137) rfl rfl (hInvV (c := 9) hs rfl rfl rfl rfl rfl (Nat.le_of_ble_eq_true rfl) (Nat.le_of_ble_eq_true rfl)) ?_
  refine s110n h hn hv ?_
  refine tKx rfl ?_
  exact hQ
theorem c137y (h : hKl zs ph c) {n : Nat} {y : Int} {v : List Int} (hn : n < 8) (hv : c.2.1.1 n = some v) (hy : ¬ (0 ≤ y ∧ y < (v.length : Int))) (hQ : Q (.inr 2, ph, g + 1)) : xTC (d + 2) 137 [.inr (.inl (some 1)), .inl (n : Int), .inl y] ph g Q := by
  have hs := h.1
  refine tEn (ls := [some (.inr (.inl (some 1))), some (.inl (n : Int)), some (.inl y), none]) (fun k => by match k with | 0 => rfl | 1 => rfl | 2 => rfl | 3 => rfl | k + 4 => rfl) ?_
  refine tK (l := xk_137) rfl rfl (fun _ _ _ _ _ => rfl) ?_
  refine tK (l := xk_137) rfl rfl (fun _ _ _ _ _ => rfl) ?_
  refine tCa (l := xk_137) rfl rfl (hInvV (c := 9) hs rfl rfl rfl rfl rfl (Nat.le_of_ble_eq_true rfl) (Nat.le_of_ble_eq_true rfl)) ?_
  refine s110 h hn hv ?_
  refine tKv ?_
  refine tSt (l := xk_137) rfl rfl (fun _ _ _ _ _ => rfl) (Nat.le_of_ble_eq_true rfl) ?_
  refine tK (l := xk_137) rfl rfl (fun _ _ _ _ _ => rfl) ?_
  refine tIf_lt (l := xk_137) (pc' := 15) rfl rfl rfl (fun hc => ?_) (fun hc => ?_)
  · refine tTh (l := xk_137) rfl rfl (fun _ _ _ _ _ => rfl) ?_
    exact hQ
  · refine tK (l := xk_137) rfl rfl (fun _ _ _ _ _ => rfl) ?_
    refine tK (l := xk_137) rfl rfl (fun _ _ _ _ _ => rfl) ?_
    refine tIc_lt (l := xk_137) (pc' := 25) rfl rfl rfl (fun hc => ?_) (fun hc => ?_)
    · exfalso; omega
    · refine tTh (l := xk_137) rfl rfl (fun _ _ _ _ _ => rfl) ?_
      exact hQ
theorem c137 (h : hKl zs ph c) {n k : Nat} {x : Int} {v : List Int} (hn : n < 8) (hv : c.2.1.1 n = some v) (hx : v[k]? = some x) (hQ : Q (.inl (some (.inl x)), ph, g)) : xTC (d + 2) 137 [.inr (.inl (some 1)), .inl (n : Int), .inl (k : Int)] ph g Q := by
  have hs := h.1
  have hkl := (List.getElem?_eq_some_iff.mp hx).1
  refine tEn (ls := [some (.inr (.inl (some 1))), some (.inl (n : Int)), some (.inl (k : Int)), none]) (fun k => by match k with | 0 => rfl | 1 => rfl | 2 => rfl | 3 => rfl | k + 4 => rfl) ?_
  refine tK (l := xk_137) rfl rfl (fun _ _ _ _ _ => rfl) ?_
  refine tK (l := xk_137) rfl rfl (fun _ _ _ _ _ => rfl) ?_
  refine tCa (l := xk_137) rfl rfl (hInvV (c := 9) hs rfl rfl rfl rfl rfl (Nat.le_of_ble_eq_true rfl) (Nat.le_of_ble_eq_true rfl)) ?_
  refine s110 h hn hv ?_
  refine tKv ?_
  refine tSt (l := xk_137) rfl rfl (fun _ _ _ _ _ => rfl) (Nat.le_of_ble_eq_true rfl) ?_
  refine tK (l := xk_137) rfl rfl (fun _ _ _ _ _ => rfl) ?_
  refine tIf_lt (l := xk_137) (pc' := 15) rfl rfl rfl (fun hc => ?_) (fun hc => ?_)
  · exfalso; omega
  · refine tK (l := xk_137) rfl rfl (fun _ _ _ _ _ => rfl) ?_
    refine tK (l := xk_137) rfl rfl (fun _ _ _ _ _ => rfl) ?_
    refine tIc_lt (l := xk_137) (pc' := 25) rfl rfl rfl (fun hc => ?_) (fun hc => ?_)
    · refine tK (l := xk_137) rfl rfl (fun _ _ _ _ _ => rfl) ?_
      refine tK (l := xk_137) rfl rfl (hGetR (o := some 73) hs rfl rfl rfl (by decide) (by decide) rfl) ?_
      refine tK (l := xk_137) rfl rfl (hGetR (o := some 74) hs rfl rfl rfl (by decide) (by decide) rfl) ?_
      refine tK (l := xk_137) rfl rfl (fun _ _ _ _ _ => rfl) ?_
      refine tK (l := xk_137) rfl rfl (fun _ _ _ _ _ => rfl) ?_
      refine tCa (l := xk_137) rfl rfl (hInvV (c := 8) hs rfl rfl rfl rfl rfl (Nat.le_of_ble_eq_true rfl) (Nat.le_of_ble_eq_true rfl)) ?_
      refine a76 hs rfl (h.val hn).1 (by have := hRw74; omega) ((h.val hn).2.trans hv) hx ?_
      refine tKv ?_
      refine tRt (l := xk_137) rfl rfl (fun _ _ _ _ _ => rfl) ?_
      exact hQ
    · exfalso; omega
theorem c139 (h : hKl zs ph c) {n : Nat} {x : Int} (hx : c.2.1.2.1.1[n]? = some x) (hQ : Q (.inl (some (.inl x)), ph, g)) : xTC (d + 2) 139 [.inr (.inl (some 1)), .inl (n : Int)] ph g Q := by
  have hs := h.1
  have hn := (List.getElem?_eq_some_iff.mp hx).1
  refine tEn (ls := [some (.inr (.inl (some 1))), some (.inl (n : Int))]) (fun k => by match k with | 0 => rfl | 1 => rfl | k + 2 => rfl) ?_
  refine tK (l := xk_139) rfl rfl (fun _ _ _ _ _ => rfl) ?_
  refine tIf_lt (l := xk_139) (pc' := 12) rfl rfl rfl (fun hc => ?_) (fun hc => ?_)
  · exfalso; omega
  · refine tK (l := xk_139) rfl rfl (fun _ _ _ _ _ => rfl) ?_
    refine tK (l := xk_139) rfl rfl (fun _ _ _ _ _ => rfl) ?_
    refine tCa (l := xk_139) rfl rfl (hInvV (c := 9) hs rfl rfl rfl rfl rfl (Nat.le_of_ble_eq_true rfl) (Nat.le_of_ble_eq_true rfl)) ?_
    refine c87 h ?_
    refine tKv ?_
    refine tIc_lt (l := xk_139) (pc' := 22) rfl rfl rfl (fun hc => ?_) (fun hc => ?_)
    · refine tK (l := xk_139) rfl rfl (fun _ _ _ _ _ => rfl) ?_
      refine tK (l := xk_139) rfl rfl (hGetR (o := some 73) hs rfl rfl rfl (by decide) (by decide) rfl) ?_
      refine tK (l := xk_139) rfl rfl (hGetR (o := some 77) hs rfl rfl rfl (by decide) (by decide) rfl) ?_
      refine tK (l := xk_139) rfl rfl (hGetR (o := some 78) hs rfl rfl rfl (by decide) (by decide) rfl) ?_
      refine tK (l := xk_139) rfl rfl (fun _ _ _ _ _ => rfl) ?_
      refine tK (l := xk_139) rfl rfl (fun _ _ _ _ _ => rfl) ?_
      refine tCa (l := xk_139) rfl rfl (hInvV (c := 8) hs rfl rfl rfl rfl rfl (Nat.le_of_ble_eq_true rfl) (Nat.le_of_ble_eq_true rfl)) ?_
      refine a76 (r := 0) hs rfl h.oc.1 (by decide) h.oc.2.1 hx ?_
      refine tKv ?_
      refine tRt (l := xk_139) rfl rfl (fun _ _ _ _ _ => rfl) ?_
      exact hQ
    · exfalso; omega
theorem c139x (h : hKl zs ph c) {x : Int} (hx : ¬ (0 ≤ x ∧ x < (c.2.1.2.1.1.length : Int))) (hQ : Q (.inr 2, ph, g + 1)) : xTC (d + 2) 139 [.inr (.inl (some 1)), .inl x] ph g Q := by
  have hs := h.1
  refine tEn (ls := [some (.inr (.inl (some 1))), some (.inl x)]) (fun k => by match k with | 0 => rfl | 1 => rfl | k + 2 => rfl) ?_
  refine tK (l := xk_139) rfl rfl (fun _ _ _ _ _ => rfl) ?_
  refine tIf_lt (l := xk_139) (pc' := 12) rfl rfl rfl (fun hc => ?_) (fun hc => ?_)
  · refine tTh (l := xk_139) rfl rfl (fun _ _ _ _ _ => rfl) ?_
    exact hQ
  · refine tK (l := xk_139) rfl rfl (fun _ _ _ _ _ => rfl) ?_
    refine tK (l := xk_139) rfl rfl (fun _ _ _ _ _ => rfl) ?_
    refine tCa (l := xk_139) rfl rfl (hInvV (c := 9) hs rfl rfl rfl rfl rfl (Nat.le_of_ble_eq_true rfl) (Nat.le_of_ble_eq_true rfl)) ?_
    refine c87 h ?_
    refine tKv ?_
    refine tIc_lt (l := xk_139) (pc' := 22) rfl rfl rfl (fun hc => ?_) (fun hc => ?_)
    · exfalso; omega
    · refine tTh (l := xk_139) rfl rfl (fun _ _ _ _ _ => rfl) ?_
      exact hQ
theorem c84 (h : hKl zs ph c) (hl : c.1.length ≤ 60) (hQ : ∀ ph2, hKl zs ph2 c → hFd clP ph ph2 → Q (.inl (some (.inl ((pRes c.1).1 : Int))), ph2, g)) : xTC (d + 3) 84 [.inr (.inl (some 1))] ph g Q := by
  have hs := h.1
  refine tEn (ls := [some (.inr (.inl (some 1)))]) (fun k => by match k with | 0 => rfl | k + 1 => rfl) ?_
  refine tK (l := xk_84) rfl rfl (fun _ _ _ _ _ => rfl) ?_
  refine tK (l := xk_84) rfl rfl (hGetR (o := some 36) hs rfl rfl rfl (by decide) (by decide) rfl) ?_
  refine tK (l := xk_84) rfl rfl (fun _ _ _ _ _ => rfl) ?_
  refine tK (l := xk_84) rfl rfl (hGetR (o := some 2) hs rfl rfl rfl (by decide) (by decide) rfl) ?_
  refine tK (l := xk_84) rfl rfl (fun _ _ _ _ _ => rfl) ?_
  refine tCa (l := xk_84) rfl rfl (hInvV (c := 7) hs rfl rfl rfl rfl rfl (Nat.le_of_ble_eq_true rfl) (Nat.le_of_ble_eq_true rfl)) ?_
  refine s52 (T := 36) h.1 rfl rfl h.2.1.1 (by decide) h.2.1.2 hl (fun ph1 rs1 f1 => ?_)
  refine tKn ?_
  have f1 : hFr [36, 37, 38, 39, 40, 41, 42] ph ph1 := f1
  have k1 := h.scr rs1.1 f1 (by decide)
  have g1 : hFd scP ph ph1 := f1.cl (by unfold scP; decide)
  refine tK (l := xk_84) rfl rfl (fun _ _ _ _ _ => rfl) ?_
  refine tK (l := xk_84) rfl rfl (hGetR (o := some 36) rs1.1 rfl rfl rfl (by decide) (by decide) rfl) ?_
  refine tCa (l := xk_84) rfl rfl (hInvV (c := 7) rs1.1 rfl rfl rfl rfl rfl (Nat.le_of_ble_eq_true rfl) (Nat.le_of_ble_eq_true rfl)) ?_
  refine s61 rs1.1 rfl ?_
  refine tKv ?_
  rw [rs1.2.1]
  refine tRt (l := xk_84) rfl rfl (fun _ _ _ _ _ => rfl) ?_
  exact hQ ph1 k1 g1.cl
theorem c86 (h : hKl zs ph c) (hl : c.1.length ≤ 60) (hQ : ∀ ph2, hKl zs ph2 c → hFd clP ph ph2 → Q (.inl (some (.inl (if pWh c.1 = true then 1 else 0))), ph2, g)) : xTC (d + 3) 86 [.inr (.inl (some 1))] ph g Q := by
  have hs := h.1
  refine tEn (ls := [some (.inr (.inl (some 1)))]) (fun k => by match k with | 0 => rfl | k + 1 => rfl) ?_
  refine tK (l := xk_86) rfl rfl (fun _ _ _ _ _ => rfl) ?_
  refine tK (l := xk_86) rfl rfl (hGetR (o := some 36) hs rfl rfl rfl (by decide) (by decide) rfl) ?_
  refine tK (l := xk_86) rfl rfl (fun _ _ _ _ _ => rfl) ?_
  refine tK (l := xk_86) rfl rfl (hGetR (o := some 2) hs rfl rfl rfl (by decide) (by decide) rfl) ?_
  refine tK (l := xk_86) rfl rfl (fun _ _ _ _ _ => rfl) ?_
  refine tCa (l := xk_86) rfl rfl (hInvV (c := 7) hs rfl rfl rfl rfl rfl (Nat.le_of_ble_eq_true rfl) (Nat.le_of_ble_eq_true rfl)) ?_
  refine s52 (T := 36) h.1 rfl rfl h.2.1.1 (by decide) h.2.1.2 hl (fun ph1 rs1 f1 => ?_)
  refine tKn ?_
  have f1 : hFr [36, 37, 38, 39, 40, 41, 42] ph ph1 := f1
  have k1 := h.scr rs1.1 f1 (by decide)
  have g1 : hFd scP ph ph1 := f1.cl (by unfold scP; decide)
  refine tK (l := xk_86) rfl rfl (fun _ _ _ _ _ => rfl) ?_
  refine tK (l := xk_86) rfl rfl (hGetR (o := some 36) rs1.1 rfl rfl rfl (by decide) (by decide) rfl) ?_
  refine tCa (l := xk_86) rfl rfl (hInvV (c := 7) rs1.1 rfl rfl rfl rfl rfl (Nat.le_of_ble_eq_true rfl) (Nat.le_of_ble_eq_true rfl)) ?_
  refine s62 rs1 rfl ?_
  refine tKv ?_
  by_cases hw : pWh c.1 = true
  · rw [if_pos hw] at hQ ⊢
    refine tRt (l := xk_86) rfl rfl (fun _ _ _ _ _ => rfl) ?_
    exact hQ ph1 k1 g1.cl
  · rw [if_neg hw] at hQ ⊢
    refine tRt (l := xk_86) rfl rfl (fun _ _ _ _ _ => rfl) ?_
    exact hQ ph1 k1 g1.cl
theorem c116 (h : hKl zs ph c) (hl : c.1.length ≤ 60) (hw : pWh c.1 = true) (hQ : ∀ ph2, hKl zs ph2 c → hFd clP ph ph2 → Q (.inl (some (.inl ((pPs c.1).length : Int))), ph2, g)) : xTC (d + 4) 116 [.inr (.inl (some 1))] ph g Q := by
  have hs := h.1
  refine tEn (ls := [some (.inr (.inl (some 1)))]) (fun k => by match k with | 0 => rfl | k + 1 => rfl) ?_
  refine tK (l := xk_116) rfl rfl (fun _ _ _ _ _ => rfl) ?_
  refine tCa (l := xk_116) rfl rfl (hInvV (c := 9) hs rfl rfl rfl rfl rfl (Nat.le_of_ble_eq_true rfl) (Nat.le_of_ble_eq_true rfl)) ?_
  refine s117 h hl hw (fun ph1 k1 rs1 pp1 g1 => ?_)
  refine tKn ?_
  refine tK (l := xk_116) rfl rfl (fun _ _ _ _ _ => rfl) ?_
  refine tK (l := xk_116) rfl rfl (hGetR (o := some 36) rs1.1 rfl rfl rfl (by decide) (by decide) rfl) ?_
  refine tCa (l := xk_116) rfl rfl (hInvV (c := 7) rs1.1 rfl rfl rfl rfl rfl (Nat.le_of_ble_eq_true rfl) (Nat.le_of_ble_eq_true rfl)) ?_
  refine s63 rs1.1 rfl ?_
  refine tKv ?_
  rw [pp1.1]
  refine tRt (l := xk_116) rfl rfl (fun _ _ _ _ _ => rfl) ?_
  exact hQ ph1 k1 g1.cl
theorem c118 (h : hKl zs ph c) (hl : c.1.length ≤ 60) (hw : pWh c.1 = true) (hQ : ∀ ph2, hKl zs ph2 c → hFd clP ph ph2 → Q (.inl (some (.inl (pDp c.1 : Int))), ph2, g)) : xTC (d + 4) 118 [.inr (.inl (some 1))] ph g Q := by
  have hs := h.1
  refine tEn (ls := [some (.inr (.inl (some 1)))]) (fun k => by match k with | 0 => rfl | k + 1 => rfl) ?_
  refine tK (l := xk_118) rfl rfl (fun _ _ _ _ _ => rfl) ?_
  refine tCa (l := xk_118) rfl rfl (hInvV (c := 9) hs rfl rfl rfl rfl rfl (Nat.le_of_ble_eq_true rfl) (Nat.le_of_ble_eq_true rfl)) ?_
  refine s117 h hl hw (fun ph1 k1 rs1 pp1 g1 => ?_)
  refine tKn ?_
  refine tK (l := xk_118) rfl rfl (fun _ _ _ _ _ => rfl) ?_
  refine tK (l := xk_118) rfl rfl (hGetR (o := some 36) rs1.1 rfl rfl rfl (by decide) (by decide) rfl) ?_
  refine tCa (l := xk_118) rfl rfl (hInvV (c := 7) rs1.1 rfl rfl rfl rfl rfl (Nat.le_of_ble_eq_true rfl) (Nat.le_of_ble_eq_true rfl)) ?_
  refine s69 rs1 rfl hw hl ?_
  refine tKv ?_
  refine tRt (l := xk_118) rfl rfl (fun _ _ _ _ _ => rfl) ?_
  exact hQ ph1 k1 g1.cl
theorem c119 (h : hKl zs ph c) (hl : c.1.length ≤ 60) (hw : pWh c.1 = true) (hQ : ∀ ph2, hKl zs ph2 c → hFd clP ph ph2 → Q (.inl (some (.inl (mkU (pPs c.1) 0))), ph2, g)) : xTC (d + 4) 119 [.inr (.inl (some 1))] ph g Q := by
  have hs := h.1
  refine tEn (ls := [some (.inr (.inl (some 1)))]) (fun k => by match k with | 0 => rfl | k + 1 => rfl) ?_
  refine tK (l := xk_119) rfl rfl (fun _ _ _ _ _ => rfl) ?_
  refine tCa (l := xk_119) rfl rfl (hInvV (c := 9) hs rfl rfl rfl rfl rfl (Nat.le_of_ble_eq_true rfl) (Nat.le_of_ble_eq_true rfl)) ?_
  refine s117 h hl hw (fun ph1 k1 rs1 pp1 g1 => ?_)
  refine tKn ?_
  refine tK (l := xk_119) rfl rfl (fun _ _ _ _ _ => rfl) ?_
  refine tK (l := xk_119) rfl rfl (hGetR (o := some 36) rs1.1 rfl rfl rfl (by decide) (by decide) rfl) ?_
  refine tCa (l := xk_119) rfl rfl (hInvV (c := 7) rs1.1 rfl rfl rfl rfl rfl (Nat.le_of_ble_eq_true rfl) (Nat.le_of_ble_eq_true rfl)) ?_
  refine s70 rs1.1 rfl pp1 ?_
  refine tKv ?_
  refine tRt (l := xk_119) rfl rfl (fun _ _ _ _ _ => rfl) ?_
  exact hQ ph1 k1 g1.cl
theorem c120 (h : hKl zs ph c) (hl : c.1.length ≤ 60) (hw : pWh c.1 = true) (hQ : ∀ ph2, hKl zs ph2 c → hFd clP ph ph2 → Q (.inl (some (.inl (mkG (pPs c.1) 0))), ph2, g)) : xTC (d + 4) 120 [.inr (.inl (some 1))] ph g Q := by
  have hs := h.1
  refine tEn (ls := [some (.inr (.inl (some 1)))]) (fun k => by match k with | 0 => rfl | k + 1 => rfl) ?_
  refine tK (l := xk_120) rfl rfl (fun _ _ _ _ _ => rfl) ?_
  refine tCa (l := xk_120) rfl rfl (hInvV (c := 9) hs rfl rfl rfl rfl rfl (Nat.le_of_ble_eq_true rfl) (Nat.le_of_ble_eq_true rfl)) ?_
  refine s117 h hl hw (fun ph1 k1 rs1 pp1 g1 => ?_)
  refine tKn ?_
  refine tK (l := xk_120) rfl rfl (fun _ _ _ _ _ => rfl) ?_
  refine tK (l := xk_120) rfl rfl (hGetR (o := some 36) rs1.1 rfl rfl rfl (by decide) (by decide) rfl) ?_
  refine tCa (l := xk_120) rfl rfl (hInvV (c := 7) rs1.1 rfl rfl rfl rfl rfl (Nat.le_of_ble_eq_true rfl) (Nat.le_of_ble_eq_true rfl)) ?_
  refine s71 rs1.1 rfl pp1 ?_
  refine tKv ?_
  refine tRt (l := xk_120) rfl rfl (fun _ _ _ _ _ => rfl) ?_
  exact hQ ph1 k1 g1.cl
theorem c121 (h : hKl zs ph c) (hl : c.1.length ≤ 60) (hw : pWh c.1 = true) (hQ : ∀ ph2, hKl zs ph2 c → hFd clP ph ph2 → Q (.inl (some (.inl ((mkL (pPs c.1) 0 : Nat) : Int))), ph2, g)) : xTC (d + 4) 121 [.inr (.inl (some 1))] ph g Q := by
  have hs := h.1
  refine tEn (ls := [some (.inr (.inl (some 1)))]) (fun k => by match k with | 0 => rfl | k + 1 => rfl) ?_
  refine tK (l := xk_121) rfl rfl (fun _ _ _ _ _ => rfl) ?_
  refine tCa (l := xk_121) rfl rfl (hInvV (c := 9) hs rfl rfl rfl rfl rfl (Nat.le_of_ble_eq_true rfl) (Nat.le_of_ble_eq_true rfl)) ?_
  refine s117 h hl hw (fun ph1 k1 rs1 pp1 g1 => ?_)
  refine tKn ?_
  refine tK (l := xk_121) rfl rfl (fun _ _ _ _ _ => rfl) ?_
  refine tK (l := xk_121) rfl rfl (hGetR (o := some 36) rs1.1 rfl rfl rfl (by decide) (by decide) rfl) ?_
  refine tCa (l := xk_121) rfl rfl (hInvV (c := 7) rs1.1 rfl rfl rfl rfl rfl (Nat.le_of_ble_eq_true rfl) (Nat.le_of_ble_eq_true rfl)) ?_
  refine s72 rs1.1 rfl pp1 ?_
  refine tKv ?_
  refine tRt (l := xk_121) rfl rfl (fun _ _ _ _ _ => rfl) ?_
  exact hQ ph1 k1 g1.cl
theorem c116n (h : hKl zs ph c) (hl : c.1.length ≤ 60) (hw : pWh c.1 = false) (hQ : ∀ ph2, hKl zs ph2 c → hFd clP ph ph2 → Q (.inr 1, ph2, g + 1)) : xTC (d + 4) 116 [.inr (.inl (some 1))] ph g Q := by
  have hs := h.1
  refine tEn (ls := [some (.inr (.inl (some 1)))]) (fun k => by match k with | 0 => rfl | k + 1 => rfl) ?_
  refine tK (l := xk_116) rfl rfl (fun _ _ _ _ _ => rfl) ?_
  refine tCa (l := xk_116) rfl rfl (hInvV (c := 9) hs rfl rfl rfl rfl rfl (Nat.le_of_ble_eq_true rfl) (Nat.le_of_ble_eq_true rfl)) ?_
  refine s117n h hl hw (fun ph1 k1 g1 => ?_)
  refine tKx rfl ?_
  exact hQ ph1 k1 g1.cl
theorem c118n (h : hKl zs ph c) (hl : c.1.length ≤ 60) (hw : pWh c.1 = false) (hQ : ∀ ph2, hKl zs ph2 c → hFd clP ph ph2 → Q (.inr 1, ph2, g + 1)) : xTC (d + 4) 118 [.inr (.inl (some 1))] ph g Q := by
  have hs := h.1
  refine tEn (ls := [some (.inr (.inl (some 1)))]) (fun k => by match k with | 0 => rfl | k + 1 => rfl) ?_
  refine tK (l := xk_118) rfl rfl (fun _ _ _ _ _ => rfl) ?_
  refine tCa (l := xk_118) rfl rfl (hInvV (c := 9) hs rfl rfl rfl rfl rfl (Nat.le_of_ble_eq_true rfl) (Nat.le_of_ble_eq_true rfl)) ?_
  refine s117n h hl hw (fun ph1 k1 g1 => ?_)
  refine tKx rfl ?_
  exact hQ ph1 k1 g1.cl
theorem c119n (h : hKl zs ph c) (hl : c.1.length ≤ 60) (hw : pWh c.1 = false) (hQ : ∀ ph2, hKl zs ph2 c → hFd clP ph ph2 → Q (.inr 1, ph2, g + 1)) : xTC (d + 4) 119 [.inr (.inl (some 1))] ph g Q := by
  have hs := h.1
  refine tEn (ls := [some (.inr (.inl (some 1)))]) (fun k => by match k with | 0 => rfl | k + 1 => rfl) ?_
  refine tK (l := xk_119) rfl rfl (fun _ _ _ _ _ => rfl) ?_
  refine tCa (l := xk_119) rfl rfl (hInvV (c := 9) hs rfl rfl rfl rfl rfl (Nat.le_of_ble_eq_true rfl) (Nat.le_of_ble_eq_true rfl)) ?_
  refine s117n h hl hw (fun ph1 k1 g1 => ?_)
  refine tKx rfl ?_
  exact hQ ph1 k1 g1.cl
theorem c120n (h : hKl zs ph c) (hl : c.1.length ≤ 60) (hw : pWh c.1 = false) (hQ : ∀ ph2, hKl zs ph2 c → hFd clP ph ph2 → Q (.inr 1, ph2, g + 1)) : xTC (d + 4) 120 [.inr (.inl (some 1))] ph g Q := by
  have hs := h.1
  refine tEn (ls := [some (.inr (.inl (some 1)))]) (fun k => by match k with | 0 => rfl | k + 1 => rfl) ?_
  refine tK (l := xk_120) rfl rfl (fun _ _ _ _ _ => rfl) ?_
  refine tCa (l := xk_120) rfl rfl (hInvV (c := 9) hs rfl rfl rfl rfl rfl (Nat.le_of_ble_eq_true rfl) (Nat.le_of_ble_eq_true rfl)) ?_
  refine s117n h hl hw (fun ph1 k1 g1 => ?_)
  refine tKx rfl ?_
  exact hQ ph1 k1 g1.cl
theorem c121n (h : hKl zs ph c) (hl : c.1.length ≤ 60) (hw : pWh c.1 = false) (hQ : ∀ ph2, hKl zs ph2 c → hFd clP ph ph2 → Q (.inr 1, ph2, g + 1)) : xTC (d + 4) 121 [.inr (.inl (some 1))] ph g Q := by
  have hs := h.1
  refine tEn (ls := [some (.inr (.inl (some 1)))]) (fun k => by match k with | 0 => rfl | k + 1 => rfl) ?_
  refine tK (l := xk_121) rfl rfl (fun _ _ _ _ _ => rfl) ?_
  refine tCa (l := xk_121) rfl rfl (hInvV (c := 9) hs rfl rfl rfl rfl rfl (Nat.le_of_ble_eq_true rfl) (Nat.le_of_ble_eq_true rfl)) ?_
  refine s117n h hl hw (fun ph1 k1 g1 => ?_)
  refine tKx rfl ?_
  exact hQ ph1 k1 g1.cl
theorem c122n (h : hKl zs ph c) (hl : c.1.length ≤ 60) (hw : pWh c.1 = false) (hQ : ∀ ph2, hKl zs ph2 c → hFd clP ph ph2 → Q (.inr 1, ph2, g + 1)) : xTC (d + 4) 122 [.inr (.inl (some 1))] ph g Q := by
  have hs := h.1
  refine tEn (ls := [some (.inr (.inl (some 1)))]) (fun k => by match k with | 0 => rfl | k + 1 => rfl) ?_
  refine tK (l := xk_122) rfl rfl (fun _ _ _ _ _ => rfl) ?_
  refine tCa (l := xk_122) rfl rfl (hInvV (c := 9) hs rfl rfl rfl rfl rfl (Nat.le_of_ble_eq_true rfl) (Nat.le_of_ble_eq_true rfl)) ?_
  refine s117n h hl hw (fun ph1 k1 g1 => ?_)
  refine tKx rfl ?_
  exact hQ ph1 k1 g1.cl
theorem c123n (h : hKl zs ph c) (hl : c.1.length ≤ 60) (hw : pWh c.1 = false) (hQ : ∀ ph2, hKl zs ph2 c → hFd clP ph ph2 → Q (.inr 1, ph2, g + 1)) : xTC (d + 4) 123 [.inr (.inl (some 1))] ph g Q := by
  have hs := h.1
  refine tEn (ls := [some (.inr (.inl (some 1)))]) (fun k => by match k with | 0 => rfl | k + 1 => rfl) ?_
  refine tK (l := xk_123) rfl rfl (fun _ _ _ _ _ => rfl) ?_
  refine tCa (l := xk_123) rfl rfl (hInvV (c := 9) hs rfl rfl rfl rfl rfl (Nat.le_of_ble_eq_true rfl) (Nat.le_of_ble_eq_true rfl)) ?_
  refine s117n h hl hw (fun ph1 k1 g1 => ?_)
  refine tKx rfl ?_
  exact hQ ph1 k1 g1.cl
theorem c124n (h : hKl zs ph c) (hl : c.1.length ≤ 60) (hw : pWh c.1 = false) (hQ : ∀ ph2, hKl zs ph2 c → hFd clP ph ph2 → Q (.inr 1, ph2, g + 1)) : xTC (d + 4) 124 [.inr (.inl (some 1))] ph g Q := by
  have hs := h.1
  refine tEn (ls := [some (.inr (.inl (some 1)))]) (fun k => by match k with | 0 => rfl | k + 1 => rfl) ?_
  refine tK (l := xk_124) rfl rfl (fun _ _ _ _ _ => rfl) ?_
  refine tCa (l := xk_124) rfl rfl (hInvV (c := 9) hs rfl rfl rfl rfl rfl (Nat.le_of_ble_eq_true rfl) (Nat.le_of_ble_eq_true rfl)) ?_
  refine s117n h hl hw (fun ph1 k1 g1 => ?_)
  refine tKx rfl ?_
  exact hQ ph1 k1 g1.cl
theorem c138n (h : hKl zs ph c) (hl : c.1.length ≤ 60) (hw : pWh c.1 = false) (hQ : ∀ ph2, hKl zs ph2 c → hFd clP ph ph2 → Q (.inr 1, ph2, g + 1)) : xTC (d + 4) 138 [.inr (.inl (some 1))] ph g Q := by
  have hs := h.1
  refine tEn (ls := [some (.inr (.inl (some 1)))]) (fun k => by match k with | 0 => rfl | k + 1 => rfl) ?_
  refine tK (l := xk_138) rfl rfl (fun _ _ _ _ _ => rfl) ?_
  refine tCa (l := xk_138) rfl rfl (hInvV (c := 9) hs rfl rfl rfl rfl rfl (Nat.le_of_ble_eq_true rfl) (Nat.le_of_ble_eq_true rfl)) ?_
  refine s117n h hl hw (fun ph1 k1 g1 => ?_)
  refine tKx rfl ?_
  exact hQ ph1 k1 g1.cl
theorem c109x {x : Int} (hx : ¬ (0 ≤ x ∧ x < 8)) (hs : hSh zs ph) (hQ : Q (.inr 2, ph, g + 1)) : xTC (d + 2) 109 [.inr (.inl (some 1)), .inl x] ph g Q := by
  refine tEn (ls := [some (.inr (.inl (some 1))), some (.inl x)]) (fun k => by match k with | 0 => rfl | 1 => rfl | k + 2 => rfl) ?_
  refine tK (l := xk_109) rfl rfl (fun _ _ _ _ _ => rfl) ?_
  refine tK (l := xk_109) rfl rfl (fun _ _ _ _ _ => rfl) ?_
  refine tCa (l := xk_109) rfl rfl (hInvV (c := 9) hs rfl rfl rfl rfl rfl (Nat.le_of_ble_eq_true rfl) (Nat.le_of_ble_eq_true rfl)) ?_
  refine s110x hx hs ?_
  refine tKx rfl ?_
  exact hQ
theorem c109n (h : hKl zs ph c) {n : Nat} (hn : n < 8) (hv : c.2.1.1 n = none) (hQ : Q (.inr 1, ph, g + 1)) : xTC (d + 2) 109 [.inr (.inl (some 1)), .inl (n : Int)] ph g Q := by
  have hs := h.1
  refine tEn (ls := [some (.inr (.inl (some 1))), some (.inl (n : Int))]) (fun k => by match k with | 0 => rfl | 1 => rfl | k + 2 => rfl) ?_
  refine tK (l := xk_109) rfl rfl (fun _ _ _ _ _ => rfl) ?_
  refine tK (l := xk_109) rfl rfl (fun _ _ _ _ _ => rfl) ?_
  refine tCa (l := xk_109) rfl rfl (hInvV (c := 9) hs rfl rfl rfl rfl rfl (Nat.le_of_ble_eq_true rfl) (Nat.le_of_ble_eq_true rfl)) ?_
  refine s110n h hn hv ?_
  refine tKx rfl ?_
  exact hQ
theorem c111x {x : Int} (hx : ¬ (0 ≤ x ∧ x < 8)) (hs : hSh zs ph) (hQ : Q (.inr 2, ph, g + 1)) : xTC (d + 2) 111 [.inr (.inl (some 1)), .inl x] ph g Q := by
  refine tEn (ls := [some (.inr (.inl (some 1))), some (.inl x)]) (fun k => by match k with | 0 => rfl | 1 => rfl | k + 2 => rfl) ?_
  refine tK (l := xk_111) rfl rfl (fun _ _ _ _ _ => rfl) ?_
  refine tK (l := xk_111) rfl rfl (fun _ _ _ _ _ => rfl) ?_
  refine tCa (l := xk_111) rfl rfl (hInvV (c := 9) hs rfl rfl rfl rfl rfl (Nat.le_of_ble_eq_true rfl) (Nat.le_of_ble_eq_true rfl)) ?_
  refine s110x hx hs ?_
  refine tKx rfl ?_
  exact hQ
theorem c111n (h : hKl zs ph c) {n : Nat} (hn : n < 8) (hv : c.2.1.1 n = none) (hQ : Q (.inr 1, ph, g + 1)) : xTC (d + 2) 111 [.inr (.inl (some 1)), .inl (n : Int)] ph g Q := by
  have hs := h.1
  refine tEn (ls := [some (.inr (.inl (some 1))), some (.inl (n : Int))]) (fun k => by match k with | 0 => rfl | 1 => rfl | k + 2 => rfl) ?_
  refine tK (l := xk_111) rfl rfl (fun _ _ _ _ _ => rfl) ?_
  refine tK (l := xk_111) rfl rfl (fun _ _ _ _ _ => rfl) ?_
  refine tCa (l := xk_111) rfl rfl (hInvV (c := 9) hs rfl rfl rfl rfl rfl (Nat.le_of_ble_eq_true rfl) (Nat.le_of_ble_eq_true rfl)) ?_
  refine s110n h hn hv ?_
  refine tKx rfl ?_
  exact hQ
theorem c114x {x : Int} (hx : ¬ (0 ≤ x ∧ x < 8)) (hs : hSh zs ph) (hQ : Q (.inr 2, ph, g + 1)) : xTC (d + 2) 114 [.inr (.inl (some 1)), .inl x] ph g Q := by
  refine tEn (ls := [some (.inr (.inl (some 1))), some (.inl x), none, none, none, none]) (fun k => by match k with | 0 => rfl | 1 => rfl | 2 => rfl | 3 => rfl | 4 => rfl | 5 => rfl | k + 6 => rfl) ?_
  refine tK (l := xk_114) rfl rfl (fun _ _ _ _ _ => rfl) ?_
  refine tK (l := xk_114) rfl rfl (fun _ _ _ _ _ => rfl) ?_
  refine tCa (l := xk_114) rfl rfl (hInvV (c := 9) hs rfl rfl rfl rfl rfl (Nat.le_of_ble_eq_true rfl) (Nat.le_of_ble_eq_true rfl)) ?_
  refine s110x hx hs ?_
  refine tKx rfl ?_
  exact hQ
theorem c114n (h : hKl zs ph c) {n : Nat} (hn : n < 8) (hv : c.2.1.1 n = none) (hQ : Q (.inr 1, ph, g + 1)) : xTC (d + 2) 114 [.inr (.inl (some 1)), .inl (n : Int)] ph g Q := by
  have hs := h.1
  refine tEn (ls := [some (.inr (.inl (some 1))), some (.inl (n : Int)), none, none, none, none]) (fun k => by match k with | 0 => rfl | 1 => rfl | 2 => rfl | 3 => rfl | 4 => rfl | 5 => rfl | k + 6 => rfl) ?_
  refine tK (l := xk_114) rfl rfl (fun _ _ _ _ _ => rfl) ?_
  refine tK (l := xk_114) rfl rfl (fun _ _ _ _ _ => rfl) ?_
  refine tCa (l := xk_114) rfl rfl (hInvV (c := 9) hs rfl rfl rfl rfl rfl (Nat.le_of_ble_eq_true rfl) (Nat.le_of_ble_eq_true rfl)) ?_
  refine s110n h hn hv ?_
  refine tKx rfl ?_
  exact hQ
theorem c129x {x : Int} (hx : ¬ (0 ≤ x ∧ x < 8)) (hs : hSh zs ph) (hQ : Q (.inr 2, ph, g + 1)) : xTC (d + 2) 129 [.inr (.inl (some 1)), .inl x] ph g Q := by
  refine tEn (ls := [some (.inr (.inl (some 1))), some (.inl x), none]) (fun k => by match k with | 0 => rfl | 1 => rfl | 2 => rfl | k + 3 => rfl) ?_
  refine tK (l := xk_129) rfl rfl (fun _ _ _ _ _ => rfl) ?_
  refine tK (l := xk_129) rfl rfl (fun _ _ _ _ _ => rfl) ?_
  refine tCa (l := xk_129) rfl rfl (hInvV (c := 9) hs rfl rfl rfl rfl rfl (Nat.le_of_ble_eq_true rfl) (Nat.le_of_ble_eq_true rfl)) ?_
  refine s110x hx hs ?_
  refine tKx rfl ?_
  exact hQ
theorem c129n (h : hKl zs ph c) {n : Nat} (hn : n < 8) (hv : c.2.1.1 n = none) (hQ : Q (.inr 1, ph, g + 1)) : xTC (d + 2) 129 [.inr (.inl (some 1)), .inl (n : Int)] ph g Q := by
  have hs := h.1
  refine tEn (ls := [some (.inr (.inl (some 1))), some (.inl (n : Int)), none]) (fun k => by match k with | 0 => rfl | 1 => rfl | 2 => rfl | k + 3 => rfl) ?_
  refine tK (l := xk_129) rfl rfl (fun _ _ _ _ _ => rfl) ?_
  refine tK (l := xk_129) rfl rfl (fun _ _ _ _ _ => rfl) ?_
  refine tCa (l := xk_129) rfl rfl (hInvV (c := 9) hs rfl rfl rfl rfl rfl (Nat.le_of_ble_eq_true rfl) (Nat.le_of_ble_eq_true rfl)) ?_
  refine s110n h hn hv ?_
  refine tKx rfl ?_
  exact hQ
theorem c132x {x : Int} (hx : ¬ (0 ≤ x ∧ x < 8)) (hs : hSh zs ph) (hQ : Q (.inr 2, ph, g + 1)) : xTC (d + 2) 132 [.inr (.inl (some 1)), .inl x] ph g Q := by
  refine tEn (ls := [some (.inr (.inl (some 1))), some (.inl x), none]) (fun k => by match k with | 0 => rfl | 1 => rfl | 2 => rfl | k + 3 => rfl) ?_
  refine tK (l := xk_132) rfl rfl (fun _ _ _ _ _ => rfl) ?_
  refine tK (l := xk_132) rfl rfl (fun _ _ _ _ _ => rfl) ?_
  refine tCa (l := xk_132) rfl rfl (hInvV (c := 9) hs rfl rfl rfl rfl rfl (Nat.le_of_ble_eq_true rfl) (Nat.le_of_ble_eq_true rfl)) ?_
  refine s110x hx hs ?_
  refine tKx rfl ?_
  exact hQ
theorem c132n (h : hKl zs ph c) {n : Nat} (hn : n < 8) (hv : c.2.1.1 n = none) (hQ : Q (.inr 1, ph, g + 1)) : xTC (d + 2) 132 [.inr (.inl (some 1)), .inl (n : Int)] ph g Q := by
  have hs := h.1
  refine tEn (ls := [some (.inr (.inl (some 1))), some (.inl (n : Int)), none]) (fun k => by match k with | 0 => rfl | 1 => rfl | 2 => rfl | k + 3 => rfl) ?_
  refine tK (l := xk_132) rfl rfl (fun _ _ _ _ _ => rfl) ?_
  refine tK (l := xk_132) rfl rfl (fun _ _ _ _ _ => rfl) ?_
  refine tCa (l := xk_132) rfl rfl (hInvV (c := 9) hs rfl rfl rfl rfl rfl (Nat.le_of_ble_eq_true rfl) (Nat.le_of_ble_eq_true rfl)) ?_
  refine s110n h hn hv ?_
  refine tKx rfl ?_
  exact hQ
theorem c109 (h : hKl zs ph c) {n : Nat} {v : List Int} (hn : n < 8) (hv : c.2.1.1 n = some v) (hv24 : v.length ≤ 24) (hQ : ∀ ph2, hKl zs ph2 c → hFd clP ph ph2 → Q (.inl (some (.inl (if pWh v = true then 1 else 0))), ph2, g)) : xTC (d + 3) 109 [.inr (.inl (some 1)), .inl (n : Int)] ph g Q := by
  have hs := h.1
  refine tEn (ls := [some (.inr (.inl (some 1))), some (.inl (n : Int))]) (fun k => by match k with | 0 => rfl | 1 => rfl | k + 2 => rfl) ?_
  refine tK (l := xk_109) rfl rfl (fun _ _ _ _ _ => rfl) ?_
  refine tK (l := xk_109) rfl rfl (fun _ _ _ _ _ => rfl) ?_
  refine tCa (l := xk_109) rfl rfl (hInvV (c := 9) hs rfl rfl rfl rfl rfl (Nat.le_of_ble_eq_true rfl) (Nat.le_of_ble_eq_true rfl)) ?_
  refine s110 h hn hv ?_
  refine tKv ?_
  refine tK (l := xk_109) rfl rfl (fun _ _ _ _ _ => rfl) ?_
  refine tK (l := xk_109) rfl rfl (fun _ _ _ _ _ => rfl) ?_
  refine tK (l := xk_109) rfl rfl (hGetR (o := some 36) hs rfl rfl rfl (by decide) (by decide) rfl) ?_
  refine tK (l := xk_109) rfl rfl (fun _ _ _ _ _ => rfl) ?_
  refine tK (l := xk_109) rfl rfl (hGetR (o := some 73) hs rfl rfl rfl (by decide) (by decide) rfl) ?_
  refine tK (l := xk_109) rfl rfl (hGetR (o := some 74) hs rfl rfl rfl (by decide) (by decide) rfl) ?_
  refine tK (l := xk_109) rfl rfl (fun _ _ _ _ _ => rfl) ?_
  refine tCa (l := xk_109) rfl rfl (hInvV (c := 7) hs rfl rfl rfl rfl rfl (Nat.le_of_ble_eq_true rfl) (Nat.le_of_ble_eq_true rfl)) ?_
  refine s52 (T := 36) h.1 rfl rfl (h.val hn).1 (by have := hRw74; omega) ((h.val hn).2.trans hv) (by omega) (fun ph1 rs1 f1 => ?_)
  refine tKn ?_
  have f1 : hFr [36, 37, 38, 39, 40, 41, 42] ph ph1 := f1
  have k1 := h.scr rs1.1 f1 (by decide)
  have g1 : hFd scP ph ph1 := f1.cl (by unfold scP; decide)
  refine tK (l := xk_109) rfl rfl (fun _ _ _ _ _ => rfl) ?_
  refine tK (l := xk_109) rfl rfl (hGetR (o := some 36) rs1.1 rfl rfl rfl (by decide) (by decide) rfl) ?_
  refine tCa (l := xk_109) rfl rfl (hInvV (c := 7) rs1.1 rfl rfl rfl rfl rfl (Nat.le_of_ble_eq_true rfl) (Nat.le_of_ble_eq_true rfl)) ?_
  refine s62 rs1 rfl ?_
  refine tKv ?_
  by_cases hw : pWh v = true
  · rw [if_pos hw] at hQ ⊢
    refine tRt (l := xk_109) rfl rfl (fun _ _ _ _ _ => rfl) ?_
    exact hQ ph1 k1 g1.cl
  · rw [if_neg hw] at hQ ⊢
    refine tRt (l := xk_109) rfl rfl (fun _ _ _ _ _ => rfl) ?_
    exact hQ ph1 k1 g1.cl
theorem c111 (h : hKl zs ph c) {n : Nat} {v : List Int} (hn : n < 8) (hv : c.2.1.1 n = some v) (hv24 : v.length ≤ 24) (hokv : oks v) (hQ : ∀ ph2, hKl zs ph2 c → hFd clP ph ph2 → Q (.inl (some (.inl ((esc v).length : Int))), ph2, g)) : xTC (d + 2) 111 [.inr (.inl (some 1)), .inl (n : Int)] ph g Q := by
  have hs := h.1
  refine tEn (ls := [some (.inr (.inl (some 1))), some (.inl (n : Int))]) (fun k => by match k with | 0 => rfl | 1 => rfl | k + 2 => rfl) ?_
  refine tK (l := xk_111) rfl rfl (fun _ _ _ _ _ => rfl) ?_
  refine tK (l := xk_111) rfl rfl (fun _ _ _ _ _ => rfl) ?_
  refine tCa (l := xk_111) rfl rfl (hInvV (c := 9) hs rfl rfl rfl rfl rfl (Nat.le_of_ble_eq_true rfl) (Nat.le_of_ble_eq_true rfl)) ?_
  refine s110 h hn hv ?_
  refine tKv ?_
  refine tK (l := xk_111) rfl rfl (fun _ _ _ _ _ => rfl) ?_
  refine tK (l := xk_111) rfl rfl (fun _ _ _ _ _ => rfl) ?_
  refine tK (l := xk_111) rfl rfl (fun _ _ _ _ _ => rfl) ?_
  refine tCa (l := xk_111) rfl rfl (hInvV (c := 9) hs rfl rfl rfl rfl rfl (Nat.le_of_ble_eq_true rfl) (Nat.le_of_ble_eq_true rfl)) ?_
  refine s112 h hn hv hv24 hokv (fun ph1 k1 t1 g1 => ?_)
  refine tKv ?_
  refine tRt (l := xk_111) rfl rfl (fun _ _ _ _ _ => rfl) ?_
  exact hQ ph1 k1 g1.cl
end CL1
