/-! ===== the model's share and digest ===== -/
def hFw (P : Nat → Prop) (ph ph2 : xH) : Prop := (∀ a k, ¬ P a → hRd ph2 a k = hRd ph a k) ∧ (∀ a k, a ≠ 147 → hRl ph2 a k = hRl ph a k) ∧ (¬ P 92 → ∀ k, hRs ph2 92 k = hRs ph 92 k)
def nP (_ : Nat) : Prop := False
theorem hFw.trans {P : Nat → Prop} {a b c : xH} (h1 : hFw P a b) (h2 : hFw P b c) : hFw P a c := ⟨fun x k h => (h2.1 x k h).trans (h1.1 x k h), fun x k h => (h2.2.1 x k h).trans (h1.2.1 x k h), fun q k => (h2.2.2 q k).trans (h1.2.2 q k)⟩
theorem hFw.refl {P : Nat → Prop} {a : xH} : hFw P a a := ⟨fun _ _ _ => rfl, fun _ _ _ => rfl, fun _ _ => rfl⟩
theorem hFw.n {P : Nat → Prop} {a b : xH} (h : hFw nP a b) : hFw P a b := ⟨fun x k _ => h.1 x k id, h.2.1, fun _ => h.2.2 id⟩
theorem hFd.fw {P : Nat → Prop} {a b : xH} (h : hFd P a b) : hFw P a b := ⟨h.1, fun x k _ => h.2.1 x k, h.2.2⟩
def hFz (ph ph2 : xH) : Prop := hFw moP ph ph2 ∧ hRd ph2 147 0 = hRd ph 147 0
theorem hFz.trans {a b c : xH} (h1 : hFz a b) (h2 : hFz b c) : hFz a c := ⟨h1.1.trans h2.1, h2.2.trans h1.2⟩
theorem hFz.refl {a : xH} : hFz a a := ⟨hFw.refl, rfl⟩
theorem hFw.z {a b : xH} (h : hFw nP a b) : hFz a b := ⟨h.n, h.1 147 0 id⟩
theorem hFM.z {F S : List Nat} {a b : xH} (h : hFM F S a b) (hF : 0 ∉ F := by decide) (hS : ∀ a ∈ S, 147 ≤ a ∧ a ≤ 167 := by decide) : hFz a b := ⟨(h.mo hS).fw, h.fl hF⟩
theorem hRs_ul {zs : List xV} {ph : xH} {a k : Nat} {x : Int64} (hs : hSh zs ph) (hk : hKd (hTg a) k = 3) (b j : Nat) : hRs (hUl ph a k x) b j = hRs ph b j := by
  have ht := hKd_lt (t := hTg a) (k := k) (by rw [hk]; decide)
  obtain ⟨vs, h1, h2, h3⟩ := hSh_at hs ht
  unfold hRs
  rw [hPu_get hs ht]
  by_cases e : b = a
  · subst e
    rw [if_pos rfl, h1]
    simp only [Option.map_some]
    by_cases e2 : j = k
    · subst e2
      by_cases hl : j < vs.length
      · rw [List.getElem?_set_self hl]
        have h4 := h3 j vs[j] (List.getElem?_eq_getElem hl)
        rw [List.getElem?_eq_getElem hl]
        unfold hOk at h4
        rw [hk] at h4
        split
        · rename_i q; cases q
        · split
          · rename_i q
            have q2 := Option.some.inj q
            rw [q2] at h4
            exact absurd h4 (by simp)
          · rfl
      · rw [List.getElem?_eq_none (by simpa using Nat.not_lt.mp hl), List.getElem?_eq_none (Nat.not_lt.mp hl)]
    · rw [List.getElem?_set_ne (Ne.symm e2)]
  · rw [if_neg e]
theorem hKi44 : hKd (hTg 147) 44 = 3 := by decide +kernel
theorem hFw_h {zs : List xV} {ph : xH} {x : Int64} (hs : hSh zs ph) : hFw nP ph (hUl ph 147 44 x) ∧ hRl (hUl ph 147 44 x) 147 44 = x := by
  have z := hSzM.1
  refine ⟨⟨fun a k _ => hRd_pu hs (Or.inl hKi44) (fun y q => by cases q) a k, fun a k ha => ?_, fun _ k => hRs_ul hs hKi44 92 k⟩, ?_⟩
  · rw [hRl_pu hs hKi44 (by omega), if_neg (fun q => ha q.1)]
  · rw [hRl_pu hs hKi44 (by omega), if_pos ⟨rfl, rfl⟩]
theorem hMm.fw {zs : List xV} {ph ph2 : xH} {c : KS} (h : hMm zs ph c) (hs : hSh zs ph2) (hf : hFw nP ph ph2) : hMm zs ph2 c := by
  obtain ⟨-, h1, ⟨h2, h3, h4⟩, ⟨h5, h6⟩, ⟨h7, h8, h9⟩⟩ := h
  exact ⟨hs, h1.cp (fun j _ => hf.1 _ _ id), ⟨by rw [hf.1 _ _ id]; exact h2, h3, fun k st hk => (h4 k st hk).cp (fun j _ => hf.1 _ _ id)⟩, ⟨by rw [hf.1 _ _ id]; exact h5, fun st hst => (h6 st hst).cp (fun j _ => hf.1 _ _ id)⟩, ⟨by rw [hf.1 _ _ id]; exact h7, h8, fun i x hx => by rw [hf.1 _ _ id]; exact h9 i x hx⟩⟩
theorem hMr.fw {ph ph2 : xH} {t : List Int} (h : hMr ph t) (hf : hFw nP ph ph2) : hMr ph2 t := by
  unfold hMr
  rw [hf.1 _ _ id, hf.1 _ _ id, hf.1 _ _ id, hf.1 _ _ id, hf.1 _ _ id]
  exact h
theorem hL_tk {h : Int64} {l : List Int} {i : Nat} {x : Int} (hx : l[i]? = some x) : hL h (l.take (i + 1)) = hi (hL h (l.take i)) x := by
  rw [List.take_add_one, hx, hL_app]; rfl
theorem hMv.rl {ph : xH} {a p : Nat} {v : List Int} (h : hMv ph a p (some v)) (i : Nat) (x : Int) (hx : ((v.length : Int) :: v)[i]? = some x) : hRd ph a (p + i) = x := by
  cases i with
  | zero => have := h.1; simp at hx; rw [← hx]; exact this
  | succ i => have := (h.2 v rfl).2 i x hx; rw [← this]; congr 1; omega
def o7 (st : SS) : List Int := [st.2.1.2.2.2.1, st.2.1.2.2.2.2.1, st.2.1.2.2.2.2.2.1, st.2.1.2.2.2.2.2.2, st.2.2.1, st.2.2.2.1, st.2.2.2.2]
theorem hMm.oc {zs : List xV} {ph : xH} {c : KS} (h : hMm zs ph c) : (∀ (i : Nat) (x : Int), ((c.2.1.2.1.1.length : Int) :: c.2.1.2.1.1)[i]? = some x → hRd ph 148 (200 + i) = x) ∧ c.2.1.2.1.1.length ≤ 200 ∧ hRd ph 148 401 = c.2.1.2.1.2.1 ∧ (∀ (i : Nat) (x : Int), ((c.2.1.2.1.2.2.1.length : Int) :: c.2.1.2.1.2.2.1)[i]? = some x → hRd ph 148 (402 + i) = x) ∧ c.2.1.2.1.2.2.1.length ≤ 5 ∧ (∀ (i : Nat) (x : Int), (o7 c.2.1)[i]? = some x → hRd ph 148 (409 + i) = x) := by
  obtain ⟨-, ⟨-, ⟨h1, h2, h3⟩, h4, ⟨h5, h6, h7⟩, h8, h9, h10, h11, h12, h13, h14⟩, -⟩ := h
  rw [Nat.zero_add] at h1 h4 h5 h8 h9 h10 h11 h12 h13 h14
  refine ⟨fun i x hx => ?_, h2, h4, fun i x hx => ?_, h6, fun i x hx => ?_⟩
  · cases i with
    | zero => simp at hx; rw [← hx]; exact h1
    | succ i => have := h3 i x hx; rw [← this]; congr 1; omega
  · cases i with
    | zero => simp at hx; rw [← hx]; exact h5
    | succ i => have := h7 i x hx; rw [← this]; congr 1; omega
  · match i, hx with
    | 0, hx => simp [o7] at hx; rw [← hx]; exact h8
    | 1, hx => simp [o7] at hx; rw [← hx]; exact h9
    | 2, hx => simp [o7] at hx; rw [← hx]; exact h10
    | 3, hx => simp [o7] at hx; rw [← hx]; exact h11
    | 4, hx => simp [o7] at hx; rw [← hx]; exact h12
    | 5, hx => simp [o7] at hx; rw [← hx]; exact h13
    | 6, hx => simp [o7] at hx; rw [← hx]; exact h14
    | i + 7, hx => simp [o7] at hx
theorem xTC_and {d m g : Nat} {as : List xV} {ph : xH} {Q1 Q2 : xR → Prop} (h1 : xTC d m as ph g Q1) (h2 : xTC d m as ph g Q2) : xTC d m as ph g (fun r => Q1 r ∧ Q2 r) := by
  obtain ⟨n1, r1, e1, q1⟩ := h1
  obtain ⟨n2, r2, e2, q2⟩ := h2
  have e := xr_det e1 e2
  subst e
  exact ⟨n1, r1, e1, q1, q2⟩
theorem xTC_to {d m g : Nat} {as : List xV} {ph : xH} {Q1 Q2 : xR → Prop} (h1 : xTC d m as ph g Q1) (h2 : ∀ r, Q1 r → Q2 r) : xTC d m as ph g Q2 := by
  obtain ⟨n1, r1, e1, q1⟩ := h1
  exact ⟨n1, r1, e1, h2 _ q1⟩
section MDG
variable {d : Nat} {ph : xH} {zs : List xV} {g : Nat} {Q : xR → Prop} {c : KS} {h0 : Int64}
theorem s186b {w : Int} {D D3 : Cf} (h : hMm zs ph c) (hok : oks c.1) (hov : ∀ v, v < 8 → ∀ s, c.2.1.1 v = some s → oks s) (hsg : ∀ (i : Nat) (x : Int), c.1[i]? = some x → hRd ph 152 i = x) (h9 : hRd ph 147 9 = (c.1.length : Int)) (hD : Fin c.1 c.2.1.1 w D) (hD3 : Fin c.1 c.2.1.1 w D3) (hQ : ∀ ph2, TE zs ph2 D → TE zs ph2 D3 → hMm zs ph2 c → hFM mF mA ph ph2 → Q (.inl none, ph2, g)) : xTC (d + 8) 186 [.inr (.inl (some 147)), .inl w] ph g Q := by
  have h1 : xTC (d + 8) 186 [.inr (.inl (some 147)), .inl w] ph g (fun r => ∃ ph2, r = (.inl none, ph2, g) ∧ TE zs ph2 D ∧ hMm zs ph2 c ∧ hFM mF mA ph ph2) := s186k h hok hov hsg h9 hD (fun ph2 a b e => ⟨ph2, rfl, a, b, e⟩)
  have h2 : xTC (d + 8) 186 [.inr (.inl (some 147)), .inl w] ph g (fun r => ∃ ph2, r = (.inl none, ph2, g) ∧ TE zs ph2 D3 ∧ hMm zs ph2 c ∧ hFM mF mA ph ph2) := s186k h hok hov hsg h9 hD3 (fun ph2 a b e => ⟨ph2, rfl, a, b, e⟩)
  refine xTC_to (xTC_and h1 h2) ?_
  rintro r ⟨⟨p1, rfl, a1, b1, e1⟩, p2, er, a2, b2, e2⟩
  have ep : p1 = p2 := congrArg (fun r : xR => r.2.1) er
  subst ep
  exact hQ p1 a1 a2 b1 e1
theorem s228 (h : hMm zs ph c) {v : Int64} (he : hRl ph 147 44 = h0) (hQ : ∀ ph2, hMm zs ph2 c → hRl ph2 147 44 = hw h0 v → hFw nP ph ph2 → Q (.inl none, ph2, g)) : xTC d 228 [.inr (.inl (some 147)), .inr (.inr (.inl v))] ph g Q := by
  have hs := h.1
  obtain ⟨z1, z2⟩ := hFw_h (x := hw h0 v) hs
  refine tEn (ls := [some (.inr (.inl (some 147))), some (.inr (.inr (.inl v))), none]) (fun k => by match k with | 0 => rfl | 1 => rfl | 2 => rfl | k + 3 => rfl) ?_
  refine tK (l := xk_228) rfl rfl (fun _ _ _ _ _ => rfl) ?_
  refine tK (l := xk_228) rfl rfl (fun _ _ _ _ _ => rfl) ?_
  refine tK (l := xk_228) rfl rfl (fun _ _ _ _ _ => rfl) ?_
  refine tK (l := xk_228) rfl rfl (hGetL hs rfl rfl rfl (by decide) (by decide)) ?_
  refine tK (l := xk_228) rfl rfl (fun _ _ _ _ _ => rfl) ?_
  refine tK (l := xk_228) rfl rfl (fun _ _ _ _ _ => rfl) ?_
  refine tK (l := xk_228) rfl rfl (fun _ _ _ _ _ => rfl) ?_
  refine tK (l := xk_228) rfl rfl (hPutV hs rfl rfl (by decide) (by decide) rfl) ?_
  refine tRt (l := xk_228) rfl rfl (fun _ _ _ _ _ => rfl) ?_
  rw [he]
  exact hQ _ (h.fw (hShL1 _ hs rfl rfl) z1) z2 z1
theorem s226 (h : hMm zs ph c) (hd : 0 < c.2.1.2.1.1.length → okD (FP.ddiv (FP.i2d (Int32.ofInt c.2.1.2.1.2.2.2.2.2.2)) (FP.i2d (Int32.ofInt (c.2.1.2.1.1.length : Int)))) = true) (hQ : Q (.inl (some (.inr (.inr (.inr (shV c.2.1))))), ph, g)) : xTC d 226 [.inr (.inl (some 147))] ph g Q := by
  have hs := h.1
  obtain ⟨w1, w2, w3, w4⟩ := hSzS
  obtain ⟨q1, q2, q3, q4, q5, q6⟩ := h.oc
  have e200 : hRd ph 148 200 = (c.2.1.2.1.1.length : Int) := q1 0 _ rfl
  have e412 : hRd ph 148 412 = c.2.1.2.1.2.2.2.2.2.2 := q6 3 _ rfl
  unfold shV at hQ
  refine tEn (ls := [some (.inr (.inl (some 147)))]) (fun k => by match k with | 0 => rfl | k + 1 => rfl) ?_
  refine tK (l := xk_226) rfl rfl (fun _ _ _ _ _ => rfl) ?_
  refine tK (l := xk_226) rfl rfl (hGetR (o := some 148) hs rfl rfl rfl (by decide) (by decide) rfl) ?_
  refine tK (l := xk_226) rfl rfl (fun _ _ _ _ _ => rfl) ?_
  first | refine tK (l := xk_226) rfl rfl (hIaldN hs rfl rfl (by omega)) ?_ | refine tK (l := xk_226) rfl rfl (hIald hs rfl (by omega) (by omega)) ?_
  rw [show Int.toNat 200 = 200 from rfl, e200]
  refine tIf_ne (l := xk_226) (pc' := 15) rfl rfl rfl (fun hc => ?_) (fun hc => ?_)
  · refine tK (l := xk_226) rfl rfl (fun _ _ _ _ _ => rfl) ?_
    refine tK (l := xk_226) rfl rfl (fun _ _ _ _ _ => rfl) ?_
    refine tRt (l := xk_226) rfl rfl (fun _ _ _ _ _ => rfl) ?_
    rw [if_pos (by omega)] at hQ
    exact hQ
  · refine tK (l := xk_226) rfl rfl (fun _ _ _ _ _ => rfl) ?_
    refine tK (l := xk_226) rfl rfl (hGetR (o := some 148) hs rfl rfl rfl (by decide) (by decide) rfl) ?_
    refine tK (l := xk_226) rfl rfl (fun _ _ _ _ _ => rfl) ?_
    first | refine tK (l := xk_226) rfl rfl (hIaldN hs rfl rfl (by omega)) ?_ | refine tK (l := xk_226) rfl rfl (hIald hs rfl (by omega) (by omega)) ?_
    rw [show Int.toNat 412 = 412 from rfl, e412]
    refine tK (l := xk_226) rfl rfl (fun _ _ _ _ _ => rfl) ?_
    refine tK (l := xk_226) rfl rfl (fun _ _ _ _ _ => rfl) ?_
    refine tK (l := xk_226) rfl rfl (hGetR (o := some 148) hs rfl rfl rfl (by decide) (by decide) rfl) ?_
    refine tK (l := xk_226) rfl rfl (fun _ _ _ _ _ => rfl) ?_
    first | refine tK (l := xk_226) rfl rfl (hIaldN hs rfl rfl (by omega)) ?_ | refine tK (l := xk_226) rfl rfl (hIald hs rfl (by omega) (by omega)) ?_
    rw [show Int.toNat 200 = 200 from rfl, e200]
    refine tK (l := xk_226) rfl rfl (fun _ _ _ _ _ => rfl) ?_
    refine tK (l := xk_226) rfl rfl (hDddiv (hd (by omega))) ?_
    refine tRt (l := xk_226) rfl rfl (fun _ _ _ _ _ => rfl) ?_
    rw [if_neg (by omega)] at hQ
    exact hQ
theorem m225 (h : hMm zs ph c) (hd : 0 < c.2.1.2.1.1.length → okD (FP.ddiv (FP.i2d (Int32.ofInt c.2.1.2.1.2.2.2.2.2.2)) (FP.i2d (Int32.ofInt (c.2.1.2.1.1.length : Int)))) = true) (hQ : ∀ ph2, hMm zs ph2 c → hRd ph2 147 0 = 0 → hFd moP ph ph2 → Q (.inl (some (.inr (.inr (.inr (shV c.2.1))))), ph2, g)) : xTC (d + 1) 225 [.inr (.inl (some 147))] ph g Q := by
  have hs := h.1
  obtain ⟨k1, k2, k3⟩ := h.thr (x := 0)
  refine tEn (ls := [some (.inr (.inl (some 147)))]) (fun k => by match k with | 0 => rfl | k + 1 => rfl) ?_
  refine tK (l := xk_225) rfl rfl (fun _ _ _ _ _ => rfl) ?_
  refine tK (l := xk_225) rfl rfl (fun _ _ _ _ _ => rfl) ?_
  refine tK (l := xk_225) rfl rfl (hPutV hs rfl rfl (by decide) (by decide) rfl) ?_
  refine tK (l := xk_225) rfl rfl (fun _ _ _ _ _ => rfl) ?_
  refine tCa (l := xk_225) rfl rfl (hInvV (c := 10) (hShI1 _ hs rfl rfl) rfl rfl rfl rfl rfl (Nat.le_of_ble_eq_true rfl) (Nat.le_of_ble_eq_true rfl)) ?_
  refine s226 k1 hd ?_
  refine tKv ?_
  refine tRt (l := xk_225) rfl rfl (fun _ _ _ _ _ => rfl) ?_
  exact hQ _ k1 k2 k3.mo
theorem s229n (h : hMm zs ph c) {n : Nat} (hn : n < 8) (hv : c.2.1.1 n = none) (he : hRl ph 147 44 = h0) (hQ : ∀ ph2, hMm zs ph2 c → hRl ph2 147 44 = hL h0 [0] → hFz ph ph2 → Q (.inl none, ph2, g)) : xTC (d + 2) 229 [.inr (.inl (some 147)), .inl (n : Int)] ph g Q := by
  have k0 := h
  have e0 := he
  have hs := h.1
  refine tEn (ls := [some (.inr (.inl (some 147))), some (.inl (n : Int)), none]) (fun k => by match k with | 0 => rfl | 1 => rfl | 2 => rfl | k + 3 => rfl) ?_
  refine tK (l := xk_229) rfl rfl (fun _ _ _ _ _ => rfl) ?_
  refine tK (l := xk_229) rfl rfl (fun _ _ _ _ _ => rfl) ?_
  refine tK (l := xk_229) rfl rfl (fun _ _ _ _ _ => rfl) ?_
  refine tCa (l := xk_229) rfl rfl (hInvV (c := 10) hs rfl rfl rfl rfl rfl (Nat.le_of_ble_eq_true rfl) (Nat.le_of_ble_eq_true rfl)) ?_
  refine s167n k0 hn hv ?_
  refine tKv ?_
  refine tIf_eq (l := xk_229) (pc' := 13) rfl rfl rfl (fun hc => ?_) (fun hc => ?_)
  · refine tK (l := xk_229) rfl rfl (fun _ _ _ _ _ => rfl) ?_
    refine tCa (l := xk_229) rfl rfl (hInvV (c := 10) hs rfl rfl rfl rfl rfl (Nat.le_of_ble_eq_true rfl) (Nat.le_of_ble_eq_true rfl)) ?_
    refine s228 k0 e0 (fun ph1 k1 e1 f1 => ?_)
    refine tKn ?_
    refine tK (l := xk_229) rfl rfl (fun _ _ _ _ _ => rfl) ?_
    refine tK (l := xk_229) rfl rfl (fun _ _ _ _ _ => rfl) ?_
    refine tCa (l := xk_229) rfl rfl (hInvV (c := 10) k1.1 rfl rfl rfl rfl rfl (Nat.le_of_ble_eq_true rfl) (Nat.le_of_ble_eq_true rfl)) ?_
    refine s167n k1 hn hv ?_
    refine tKv ?_
    refine tIf_eq (l := xk_229) (pc' := 103) rfl rfl rfl (fun hc => ?_) (fun hc => ?_)
    · refine tRt (l := xk_229) rfl rfl (fun _ _ _ _ _ => rfl) ?_
      exact hQ ph1 k1 e1 f1.z
    · exact absurd rfl hc
  · exact absurd rfl hc
theorem s229 (h : hMm zs ph c) {n : Nat} {v : List Int} (hn : n < 8) (hv : c.2.1.1 n = some v) (hokv : oks v) (he : hRl ph 147 44 = h0) (hQ : ∀ ph2, hMm zs ph2 c → hRl ph2 147 44 = hL h0 (vL (some v)) → hFz ph ph2 → Q (.inl none, ph2, g)) : xTC (d + 6) 229 [.inr (.inl (some 147)), .inl (n : Int)] ph g Q := by
  have hs := h.1
  obtain ⟨w1, w2, w3, w4⟩ := hSzS
  have hv24 : v.length ≤ 24 := ((h.vmv hn).2 v hv).1
  have tail : ∀ (phi : xH) (H : Int64) (x2 : Option xV), hMm zs phi c → hRl phi 147 44 = H → hFz ph phi → H = hL (hi h0 1) ((v.length : Int) :: v) → xT (d + 6) 229 60 (xlo [some (.inr (.inl (some 147))), some (.inl (n : Int)), x2]) [] phi g Q := by
    intro phi H x2 k0 e0 f0 hH
    have hs := k0.1
    cases hw9 : pWh v with
    | false =>
      refine tK (l := xk_229) rfl rfl (fun _ _ _ _ _ => rfl) ?_
      refine tK (l := xk_229) rfl rfl (fun _ _ _ _ _ => rfl) ?_
      refine tK (l := xk_229) rfl rfl (fun _ _ _ _ _ => rfl) ?_
      refine tCa (l := xk_229) rfl rfl (hInvV (c := 10) hs rfl rfl rfl rfl rfl (Nat.le_of_ble_eq_true rfl) (Nat.le_of_ble_eq_true rfl)) ?_
      refine s181 k0 hn hv hokv (fun ph1 k1 f1 => ?_)
      refine tKv ?_
      rw [if_neg (by rw [hw9]; decide)]
      have e1 : hRl ph1 147 44 = H := by rw [f1.1.2.1]; exact e0
      refine tIf_eq (l := xk_229) (pc' := 73) rfl rfl rfl (fun hc => ?_) (fun hc => ?_)
      · refine tK (l := xk_229) rfl rfl (fun _ _ _ _ _ => rfl) ?_
        refine tCa (l := xk_229) rfl rfl (hInvV (c := 10) k1.1 rfl rfl rfl rfl rfl (Nat.le_of_ble_eq_true rfl) (Nat.le_of_ble_eq_true rfl)) ?_
        refine s228 k1 e1 (fun ph2 k2 e2 f2 => ?_)
        refine tKn ?_
        refine tK (l := xk_229) rfl rfl (fun _ _ _ _ _ => rfl) ?_
        refine tK (l := xk_229) rfl rfl (fun _ _ _ _ _ => rfl) ?_
        refine tK (l := xk_229) rfl rfl (fun _ _ _ _ _ => rfl) ?_
        refine tCa (l := xk_229) rfl rfl (hInvV (c := 10) k2.1 rfl rfl rfl rfl rfl (Nat.le_of_ble_eq_true rfl) (Nat.le_of_ble_eq_true rfl)) ?_
        refine s165 k2 hn ?_
        refine tKv ?_
        rw [hv]
        simp only [hLo]
        refine tK (l := xk_229) rfl rfl (fun _ _ _ _ _ => rfl) ?_
        refine tK (l := xk_229) rfl rfl (fun _ _ _ _ _ => rfl) ?_
        refine tCa (l := xk_229) rfl rfl (hInvV (c := 10) k2.1 rfl rfl rfl rfl rfl (Nat.le_of_ble_eq_true rfl) (Nat.le_of_ble_eq_true rfl)) ?_
        refine s173 k2 hn hv ?_
        refine tKv ?_
        have hnl := nsp_le v
        refine tK (l := xk_229) rfl rfl (hAdd ⟨by omega, by omega⟩) ?_
        rw [show (v.length : Int) + (nsp v : Int) = ((esc v).length : Int) by rw [nsp_esc]; omega]
        refine tK (l := xk_229) rfl rfl (fun _ _ _ _ _ => rfl) ?_
        refine tCa (l := xk_229) rfl rfl (hInvV (c := 10) k2.1 rfl rfl rfl rfl rfl (Nat.le_of_ble_eq_true rfl) (Nat.le_of_ble_eq_true rfl)) ?_
        refine s228 k2 e2 (fun ph3 k3 e3 f3 => ?_)
        refine tKn ?_
        refine tK (l := xk_229) rfl rfl (fun _ _ _ _ _ => rfl) ?_
        refine tK (l := xk_229) rfl rfl (fun _ _ _ _ _ => rfl) ?_
        refine tK (l := xk_229) rfl rfl (fun _ _ _ _ _ => rfl) ?_
        refine tCa (l := xk_229) rfl rfl (hInvV (c := 10) k3.1 rfl rfl rfl rfl rfl (Nat.le_of_ble_eq_true rfl) (Nat.le_of_ble_eq_true rfl)) ?_
        refine s165 k3 hn ?_
        refine tKv ?_
        rw [hv]
        simp only [hLo]
        refine tK (l := xk_229) rfl rfl (fun _ _ _ _ _ => rfl) ?_
        refine tCa (l := xk_229) rfl rfl (hInvV (c := 10) k3.1 rfl rfl rfl rfl rfl (Nat.le_of_ble_eq_true rfl) (Nat.le_of_ble_eq_true rfl)) ?_
        refine s228 k3 e3 (fun ph4 k4 e4 f4 => ?_)
        refine tKn ?_
        refine tRt (l := xk_229) rfl rfl (fun _ _ _ _ _ => rfl) ?_
        refine hQ ph4 k4 ?_ (f0.trans (f1.z.trans ((f2.trans (f3.trans f4)).z)))
        rw [e4, hH]
        simp only [vL, hL_cons, hL_app]
        rw [if_neg (by rw [hw9]; decide)]
        rfl
      · exact absurd rfl hc
    | true =>
      refine tK (l := xk_229) rfl rfl (fun _ _ _ _ _ => rfl) ?_
      refine tK (l := xk_229) rfl rfl (fun _ _ _ _ _ => rfl) ?_
      refine tK (l := xk_229) rfl rfl (fun _ _ _ _ _ => rfl) ?_
      refine tCa (l := xk_229) rfl rfl (hInvV (c := 10) hs rfl rfl rfl rfl rfl (Nat.le_of_ble_eq_true rfl) (Nat.le_of_ble_eq_true rfl)) ?_
      refine s181 k0 hn hv hokv (fun ph1 k1 f1 => ?_)
      refine tKv ?_
      rw [if_pos hw9]
      have e1 : hRl ph1 147 44 = H := by rw [f1.1.2.1]; exact e0
      refine tIf_eq (l := xk_229) (pc' := 73) rfl rfl rfl (fun hc => ?_) (fun hc => ?_)
      · exact absurd hc (by decide)
      · refine tK (l := xk_229) rfl rfl (fun _ _ _ _ _ => rfl) ?_
        refine tK (l := xk_229) rfl rfl (fun _ _ _ _ _ => rfl) ?_
        refine tCa (l := xk_229) rfl rfl (hInvV (c := 10) k1.1 rfl rfl rfl rfl rfl (Nat.le_of_ble_eq_true rfl) (Nat.le_of_ble_eq_true rfl)) ?_
        refine s228 k1 e1 (fun ph2 k2 e2 f2 => ?_)
        refine tKn ?_
        refine tK (l := xk_229) rfl rfl (fun _ _ _ _ _ => rfl) ?_
        refine tK (l := xk_229) rfl rfl (fun _ _ _ _ _ => rfl) ?_
        refine tK (l := xk_229) rfl rfl (fun _ _ _ _ _ => rfl) ?_
        refine tCa (l := xk_229) rfl rfl (hInvV (c := 10) k2.1 rfl rfl rfl rfl rfl (Nat.le_of_ble_eq_true rfl) (Nat.le_of_ble_eq_true rfl)) ?_
        refine s165 k2 hn ?_
        refine tKv ?_
        rw [hv]
        simp only [hLo]
        refine tK (l := xk_229) rfl rfl (fun _ _ _ _ _ => rfl) ?_
        refine tK (l := xk_229) rfl rfl (fun _ _ _ _ _ => rfl) ?_
        refine tCa (l := xk_229) rfl rfl (hInvV (c := 10) k2.1 rfl rfl rfl rfl rfl (Nat.le_of_ble_eq_true rfl) (Nat.le_of_ble_eq_true rfl)) ?_
        refine s173 k2 hn hv ?_
        refine tKv ?_
        have hnl := nsp_le v
        refine tK (l := xk_229) rfl rfl (hAdd ⟨by omega, by omega⟩) ?_
        rw [show (v.length : Int) + (nsp v : Int) = ((esc v).length : Int) by rw [nsp_esc]; omega]
        refine tK (l := xk_229) rfl rfl (fun _ _ _ _ _ => rfl) ?_
        refine tCa (l := xk_229) rfl rfl (hInvV (c := 10) k2.1 rfl rfl rfl rfl rfl (Nat.le_of_ble_eq_true rfl) (Nat.le_of_ble_eq_true rfl)) ?_
        refine s228 k2 e2 (fun ph3 k3 e3 f3 => ?_)
        refine tKn ?_
        refine tK (l := xk_229) rfl rfl (fun _ _ _ _ _ => rfl) ?_
        refine tK (l := xk_229) rfl rfl (fun _ _ _ _ _ => rfl) ?_
        refine tK (l := xk_229) rfl rfl (fun _ _ _ _ _ => rfl) ?_
        refine tCa (l := xk_229) rfl rfl (hInvV (c := 10) k3.1 rfl rfl rfl rfl rfl (Nat.le_of_ble_eq_true rfl) (Nat.le_of_ble_eq_true rfl)) ?_
        refine s165 k3 hn ?_
        refine tKv ?_
        rw [hv]
        simp only [hLo]
        refine tK (l := xk_229) rfl rfl (fun _ _ _ _ _ => rfl) ?_
        refine tCa (l := xk_229) rfl rfl (hInvV (c := 10) k3.1 rfl rfl rfl rfl rfl (Nat.le_of_ble_eq_true rfl) (Nat.le_of_ble_eq_true rfl)) ?_
        refine s228 k3 e3 (fun ph4 k4 e4 f4 => ?_)
        refine tKn ?_
        refine tRt (l := xk_229) rfl rfl (fun _ _ _ _ _ => rfl) ?_
        refine hQ ph4 k4 ?_ (f0.trans (f1.z.trans ((f2.trans (f3.trans f4)).z)))
        rw [e4, hH]
        simp only [vL, hL_cons, hL_app]
        rw [if_pos hw9]
        rfl
  have loop : ∀ (m i : Nat) (phi : xH), i + m = v.length + 1 → hMm zs phi c → hRl phi 147 44 = hL (hi h0 1) (((v.length : Int) :: v).take i) → hFz ph phi → xT (d + 6) 229 27 (xlo [some (.inr (.inl (some 147))), some (.inl (n : Int)), some (.inl (i : Int))]) [] phi g Q := by
    intro m
    induction m with
    | zero =>
      intro i phi him hk hek hf
      have hs := hk.1
      rw [show ((v.length : Int) :: v).take i = (v.length : Int) :: v from List.take_of_length_le (by simp; omega)] at hek
      refine tK (l := xk_229) rfl rfl (fun _ _ _ _ _ => rfl) ?_
      refine tK (l := xk_229) rfl rfl (fun _ _ _ _ _ => rfl) ?_
      refine tK (l := xk_229) rfl rfl (fun _ _ _ _ _ => rfl) ?_
      refine tCa (l := xk_229) rfl rfl (hInvV (c := 10) hs rfl rfl rfl rfl rfl (Nat.le_of_ble_eq_true rfl) (Nat.le_of_ble_eq_true rfl)) ?_
      refine s165 hk hn ?_
      refine tKv ?_
      rw [hv]
      simp only [hLo]
      refine tIc_gt (l := xk_229) (pc' := 60) rfl rfl rfl (fun hc => ?_) (fun hc => ?_)
      · exact tail phi _ _ hk hek hf rfl
      · exfalso; omega
    | succ m ih =>
      intro i phi him hk hek hf
      have hs := hk.1
      have hil : i < ((v.length : Int) :: v).length := by simp; omega
      have hx := List.getElem?_eq_getElem hil
      generalize ((v.length : Int) :: v)[i] = x at hx
      have hmv := hk.vmv hn
      rw [hv] at hmv
      have hr := hmv.rl i x hx
      refine tK (l := xk_229) rfl rfl (fun _ _ _ _ _ => rfl) ?_
      refine tK (l := xk_229) rfl rfl (fun _ _ _ _ _ => rfl) ?_
      refine tK (l := xk_229) rfl rfl (fun _ _ _ _ _ => rfl) ?_
      refine tCa (l := xk_229) rfl rfl (hInvV (c := 10) hs rfl rfl rfl rfl rfl (Nat.le_of_ble_eq_true rfl) (Nat.le_of_ble_eq_true rfl)) ?_
      refine s165 hk hn ?_
      refine tKv ?_
      rw [hv]
      simp only [hLo]
      refine tIc_gt (l := xk_229) (pc' := 60) rfl rfl rfl (fun hc => ?_) (fun hc => ?_)
      · exfalso; omega
      · refine tK (l := xk_229) rfl rfl (fun _ _ _ _ _ => rfl) ?_
        refine tK (l := xk_229) rfl rfl (fun _ _ _ _ _ => rfl) ?_
        refine tK (l := xk_229) rfl rfl (hGetR (o := some 148) hs rfl rfl rfl (by decide) (by decide) rfl) ?_
        refine tK (l := xk_229) rfl rfl (fun _ _ _ _ _ => rfl) ?_
        refine tK (l := xk_229) rfl rfl (fun _ _ _ _ _ => rfl) ?_
        refine tK (l := xk_229) rfl rfl (fun _ _ _ _ _ => rfl) ?_
        refine tK (l := xk_229) rfl rfl (hMul ⟨by omega, by omega⟩) ?_
        refine tK (l := xk_229) rfl rfl (hAdd ⟨by omega, by omega⟩) ?_
        refine tK (l := xk_229) rfl rfl (fun _ _ _ _ _ => rfl) ?_
        refine tK (l := xk_229) rfl rfl (hAdd ⟨by omega, by omega⟩) ?_
        rw [show (0 : Int) + 25 * (n : Int) + (i : Int) = ((25 * n + i : Nat) : Int) by omega]
        first | refine tK (l := xk_229) rfl rfl (hIaldN hs rfl rfl (by omega)) ?_ | refine tK (l := xk_229) rfl rfl (hIald hs rfl (by omega) (by omega)) ?_
        rw [hr]
        refine tK (l := xk_229) rfl rfl (fun _ _ _ _ _ => rfl) ?_
        refine tCa (l := xk_229) rfl rfl (hInvV (c := 10) hs rfl rfl rfl rfl rfl (Nat.le_of_ble_eq_true rfl) (Nat.le_of_ble_eq_true rfl)) ?_
        refine s228 hk hek (fun ph2 k2 e2 f2 => ?_)
        refine tKn ?_
        refine tSt (l := xk_229) rfl rfl (hIinc rfl (Nat.le_of_ble_eq_true rfl) ⟨by omega, by omega⟩) (Nat.le_of_ble_eq_true rfl) ?_
        refine tK (l := xk_229) rfl rfl (fun _ _ _ _ _ => rfl) ?_
        exact ih (i + 1) ph2 (by omega) k2 (by rw [hL_tk hx]; exact e2) (hf.trans f2.z)
  refine tEn (ls := [some (.inr (.inl (some 147))), some (.inl (n : Int)), none]) (fun k => by match k with | 0 => rfl | 1 => rfl | 2 => rfl | k + 3 => rfl) ?_
  refine tK (l := xk_229) rfl rfl (fun _ _ _ _ _ => rfl) ?_
  refine tK (l := xk_229) rfl rfl (fun _ _ _ _ _ => rfl) ?_
  refine tK (l := xk_229) rfl rfl (fun _ _ _ _ _ => rfl) ?_
  refine tCa (l := xk_229) rfl rfl (hInvV (c := 10) hs rfl rfl rfl rfl rfl (Nat.le_of_ble_eq_true rfl) (Nat.le_of_ble_eq_true rfl)) ?_
  refine s167 h hn hv ?_
  refine tKv ?_
  refine tIf_eq (l := xk_229) (pc' := 13) rfl rfl rfl (fun hc => ?_) (fun hc => ?_)
  · exact absurd hc (by decide)
  · refine tK (l := xk_229) rfl rfl (fun _ _ _ _ _ => rfl) ?_
    refine tK (l := xk_229) rfl rfl (fun _ _ _ _ _ => rfl) ?_
    refine tCa (l := xk_229) rfl rfl (hInvV (c := 10) hs rfl rfl rfl rfl rfl (Nat.le_of_ble_eq_true rfl) (Nat.le_of_ble_eq_true rfl)) ?_
    refine s228 h he (fun ph1 k1 e1 f1 => ?_)
    refine tKn ?_
    refine tK (l := xk_229) rfl rfl (fun _ _ _ _ _ => rfl) ?_
    refine tK (l := xk_229) rfl rfl (fun _ _ _ _ _ => rfl) ?_
    refine tCa (l := xk_229) rfl rfl (hInvV (c := 10) k1.1 rfl rfl rfl rfl rfl (Nat.le_of_ble_eq_true rfl) (Nat.le_of_ble_eq_true rfl)) ?_
    refine s167 k1 hn hv ?_
    refine tKv ?_
    refine tIf_eq (l := xk_229) (pc' := 103) rfl rfl rfl (fun hc => ?_) (fun hc => ?_)
    · exact absurd hc (by decide)
    · refine tK (l := xk_229) rfl rfl (fun _ _ _ _ _ => rfl) ?_
      refine tSt (l := xk_229) rfl rfl (fun _ _ _ _ _ => rfl) (Nat.le_of_ble_eq_true rfl) ?_
      exact loop (v.length + 1) 0 ph1 (by omega) k1 e1 f1.z
theorem s230n (h : hMm zs ph c) (hok : oks c.1) (hw9 : pWh c.1 = false) {D D3 : Cf} (he : hRl ph 147 44 = h0) (hQ : ∀ ph2, hMm zs ph2 c → hRl ph2 147 44 = hL (hL h0 (tL c D D3)) [((pRes c.1).1 : Int)] → hFz ph ph2 → Q (.inl none, ph2, g)) : xTC (d + 9) 230 [.inr (.inl (some 147))] ph g Q := by
  have hs := h.1
  unfold tL at hQ
  rw [if_neg (by rw [hw9]; decide)] at hQ
  refine tEn (ls := [some (.inr (.inl (some 147))), none]) (fun k => by match k with | 0 => rfl | 1 => rfl | k + 2 => rfl) ?_
  refine tK (l := xk_230) rfl rfl (fun _ _ _ _ _ => rfl) ?_
  refine tCa (l := xk_230) rfl rfl (hInvV (c := 10) hs rfl rfl rfl rfl rfl (Nat.le_of_ble_eq_true rfl) (Nat.le_of_ble_eq_true rfl)) ?_
  refine s151 h hok (fun ph1 k1 f1 e17 hmr hsg e9 => ?_)
  refine tKv ?_
  rw [if_neg (by rw [hw9]; decide)] at e17
  have e1 : hRl ph1 147 44 = h0 := by rw [f1.1.2.1]; exact he
  refine tSt (l := xk_230) rfl rfl (fun _ _ _ _ _ => rfl) (Nat.le_of_ble_eq_true rfl) ?_
  refine tK (l := xk_230) rfl rfl (fun _ _ _ _ _ => rfl) ?_
  refine tK (l := xk_230) rfl rfl (fun _ _ _ _ _ => rfl) ?_
  refine tK (l := xk_230) rfl rfl (hGetI k1.1 rfl rfl rfl (by decide) (by decide)) ?_
  rw [e17]
  refine tIf_eq (l := xk_230) (pc' := 17) rfl rfl rfl (fun hc => ?_) (fun hc => ?_)
  · refine tK (l := xk_230) rfl rfl (fun _ _ _ _ _ => rfl) ?_
    refine tCa (l := xk_230) rfl rfl (hInvV (c := 10) k1.1 rfl rfl rfl rfl rfl (Nat.le_of_ble_eq_true rfl) (Nat.le_of_ble_eq_true rfl)) ?_
    refine s228 k1 e1 (fun ph2 k2 e2 f2 => ?_)
    refine tKn ?_
    have F2 : hFw nP ph1 ph2 := f2
    have e17b : hRd ph2 147 17 = _ := (F2.1 147 17 id).trans e17
    refine tK (l := xk_230) rfl rfl (fun _ _ _ _ _ => rfl) ?_
    refine tK (l := xk_230) rfl rfl (hGetI k2.1 rfl rfl rfl (by decide) (by decide)) ?_
    rw [e17b]
    refine tIf_eq (l := xk_230) (pc' := 105) rfl rfl rfl (fun hc => ?_) (fun hc => ?_)
    · refine tK (l := xk_230) rfl rfl (fun _ _ _ _ _ => rfl) ?_
      refine tK (l := xk_230) rfl rfl (fun _ _ _ _ _ => rfl) ?_
      refine tK (l := xk_230) rfl rfl (fun _ _ _ _ _ => rfl) ?_
      refine tCa (l := xk_230) rfl rfl (hInvV (c := 10) k2.1 rfl rfl rfl rfl rfl (Nat.le_of_ble_eq_true rfl) (Nat.le_of_ble_eq_true rfl)) ?_
      refine s228 k2 e2 (fun ph3 k3 e3 f3 => ?_)
      refine tKn ?_
      have F3 : hFw nP ph1 ph3 := F2.trans f3
      refine tRt (l := xk_230) rfl rfl (fun _ _ _ _ _ => rfl) ?_
      exact hQ ph3 k3 e3 (f1.z.trans F3.z)
    · exact absurd rfl hc
  · exact absurd rfl hc
theorem s230 (h : hMm zs ph c) (hok : oks c.1) (hov : ∀ v, v < 8 → ∀ s, c.2.1.1 v = some s → oks s) (hw9 : pWh c.1 = true) {D D3 : Cf} (hD : Fin c.1 c.2.1.1 (-1) D) (hD3 : Fin c.1 c.2.1.1 (-1) D3) (he : hRl ph 147 44 = h0) (hQ : ∀ ph2, hMm zs ph2 c → hRl ph2 147 44 = hL (hL h0 (tL c D D3)) [((pRes c.1).1 : Int)] → hFz ph ph2 → Q (.inl none, ph2, g)) : xTC (d + 9) 230 [.inr (.inl (some 147))] ph g Q := by
  have hs := h.1
  unfold tL at hQ
  rw [if_pos hw9] at hQ
  refine tEn (ls := [some (.inr (.inl (some 147))), none]) (fun k => by match k with | 0 => rfl | 1 => rfl | k + 2 => rfl) ?_
  refine tK (l := xk_230) rfl rfl (fun _ _ _ _ _ => rfl) ?_
  refine tCa (l := xk_230) rfl rfl (hInvV (c := 10) hs rfl rfl rfl rfl rfl (Nat.le_of_ble_eq_true rfl) (Nat.le_of_ble_eq_true rfl)) ?_
  refine s151 h hok (fun ph1 k1 f1 e17 hmr hsg e9 => ?_)
  refine tKv ?_
  rw [if_pos hw9] at e17
  have e1 : hRl ph1 147 44 = h0 := by rw [f1.1.2.1]; exact he
  have r1 := hmr hw9
  refine tSt (l := xk_230) rfl rfl (fun _ _ _ _ _ => rfl) (Nat.le_of_ble_eq_true rfl) ?_
  refine tK (l := xk_230) rfl rfl (fun _ _ _ _ _ => rfl) ?_
  refine tK (l := xk_230) rfl rfl (fun _ _ _ _ _ => rfl) ?_
  refine tK (l := xk_230) rfl rfl (hGetI k1.1 rfl rfl rfl (by decide) (by decide)) ?_
  rw [e17]
  refine tIf_eq (l := xk_230) (pc' := 17) rfl rfl rfl (fun hc => ?_) (fun hc => ?_)
  · exact absurd hc (by decide)
  · refine tK (l := xk_230) rfl rfl (fun _ _ _ _ _ => rfl) ?_
    refine tK (l := xk_230) rfl rfl (fun _ _ _ _ _ => rfl) ?_
    refine tCa (l := xk_230) rfl rfl (hInvV (c := 10) k1.1 rfl rfl rfl rfl rfl (Nat.le_of_ble_eq_true rfl) (Nat.le_of_ble_eq_true rfl)) ?_
    refine s228 k1 e1 (fun ph2 k2 e2 f2 => ?_)
    refine tKn ?_
    have F2 : hFw nP ph1 ph2 := f2
    have e17b : hRd ph2 147 17 = _ := (F2.1 147 17 id).trans e17
    have r2 := r1.fw F2
    refine tK (l := xk_230) rfl rfl (fun _ _ _ _ _ => rfl) ?_
    refine tK (l := xk_230) rfl rfl (hGetI k2.1 rfl rfl rfl (by decide) (by decide)) ?_
    rw [e17b]
    refine tIf_eq (l := xk_230) (pc' := 105) rfl rfl rfl (fun hc => ?_) (fun hc => ?_)
    · exact absurd hc (by decide)
    · refine tK (l := xk_230) rfl rfl (fun _ _ _ _ _ => rfl) ?_
      refine tK (l := xk_230) rfl rfl (fun _ _ _ _ _ => rfl) ?_
      refine tK (l := xk_230) rfl rfl (hGetI k2.1 rfl rfl rfl (by decide) (by decide)) ?_
      rw [r2.1]
      refine tK (l := xk_230) rfl rfl (fun _ _ _ _ _ => rfl) ?_
      refine tCa (l := xk_230) rfl rfl (hInvV (c := 10) k2.1 rfl rfl rfl rfl rfl (Nat.le_of_ble_eq_true rfl) (Nat.le_of_ble_eq_true rfl)) ?_
      refine s228 k2 e2 (fun ph3 k3 e3 f3 => ?_)
      refine tKn ?_
      have F3 : hFw nP ph1 ph3 := F2.trans f3
      have r3 := r1.fw F3
      refine tK (l := xk_230) rfl rfl (fun _ _ _ _ _ => rfl) ?_
      refine tK (l := xk_230) rfl rfl (fun _ _ _ _ _ => rfl) ?_
      refine tK (l := xk_230) rfl rfl (hGetI k3.1 rfl rfl rfl (by decide) (by decide)) ?_
      rw [r3.2.1]
      refine tK (l := xk_230) rfl rfl (fun _ _ _ _ _ => rfl) ?_
      refine tCa (l := xk_230) rfl rfl (hInvV (c := 10) k3.1 rfl rfl rfl rfl rfl (Nat.le_of_ble_eq_true rfl) (Nat.le_of_ble_eq_true rfl)) ?_
      refine s228 k3 e3 (fun ph4 k4 e4 f4 => ?_)
      refine tKn ?_
      have F4 : hFw nP ph1 ph4 := F3.trans f4
      have r4 := r1.fw F4
      refine tK (l := xk_230) rfl rfl (fun _ _ _ _ _ => rfl) ?_
      refine tK (l := xk_230) rfl rfl (fun _ _ _ _ _ => rfl) ?_
      refine tK (l := xk_230) rfl rfl (hGetI k4.1 rfl rfl rfl (by decide) (by decide)) ?_
      rw [r4.2.2.1]
      refine tK (l := xk_230) rfl rfl (fun _ _ _ _ _ => rfl) ?_
      refine tCa (l := xk_230) rfl rfl (hInvV (c := 10) k4.1 rfl rfl rfl rfl rfl (Nat.le_of_ble_eq_true rfl) (Nat.le_of_ble_eq_true rfl)) ?_
      refine s228 k4 e4 (fun ph5 k5 e5 f5 => ?_)
      refine tKn ?_
      have F5 : hFw nP ph1 ph5 := F4.trans f5
      have r5 := r1.fw F5
      refine tK (l := xk_230) rfl rfl (fun _ _ _ _ _ => rfl) ?_
      refine tK (l := xk_230) rfl rfl (fun _ _ _ _ _ => rfl) ?_
      refine tK (l := xk_230) rfl rfl (hGetI k5.1 rfl rfl rfl (by decide) (by decide)) ?_
      rw [r5.2.2.2.1]
      refine tK (l := xk_230) rfl rfl (fun _ _ _ _ _ => rfl) ?_
      refine tCa (l := xk_230) rfl rfl (hInvV (c := 10) k5.1 rfl rfl rfl rfl rfl (Nat.le_of_ble_eq_true rfl) (Nat.le_of_ble_eq_true rfl)) ?_
      refine s228 k5 e5 (fun ph6 k6 e6 f6 => ?_)
      refine tKn ?_
      have F6 : hFw nP ph1 ph6 := F5.trans f6
      have r6 := r1.fw F6
      refine tK (l := xk_230) rfl rfl (fun _ _ _ _ _ => rfl) ?_
      refine tK (l := xk_230) rfl rfl (fun _ _ _ _ _ => rfl) ?_
      refine tK (l := xk_230) rfl rfl (hGetI k6.1 rfl rfl rfl (by decide) (by decide)) ?_
      rw [r6.2.2.2.2]
      refine tK (l := xk_230) rfl rfl (fun _ _ _ _ _ => rfl) ?_
      refine tCa (l := xk_230) rfl rfl (hInvV (c := 10) k6.1 rfl rfl rfl rfl rfl (Nat.le_of_ble_eq_true rfl) (Nat.le_of_ble_eq_true rfl)) ?_
      refine s228 k6 e6 (fun ph7 k7 e7 f7 => ?_)
      refine tKn ?_
      have F7 : hFw nP ph1 ph7 := F6.trans f7
      have r7 := r1.fw F7
      refine tK (l := xk_230) rfl rfl (fun _ _ _ _ _ => rfl) ?_
      refine tK (l := xk_230) rfl rfl (fun _ _ _ _ _ => rfl) ?_
      refine tCa (l := xk_230) rfl rfl (hInvV (c := 10) k7.1 rfl rfl rfl rfl rfl (Nat.le_of_ble_eq_true rfl) (Nat.le_of_ble_eq_true rfl)) ?_
      refine s186b k7 hok hov (fun i x hx => by rw [F7.1 _ _ id]; exact hsg i x hx) (by rw [F7.1 _ _ id]; exact e9) hD hD3 (fun ph8 t8 t9 k8 f8 => ?_)
      refine tKn ?_
      have e8 : hRl ph8 147 44 = _ := (f8.1.2.1 147 44).trans e7
      refine tK (l := xk_230) rfl rfl (fun _ _ _ _ _ => rfl) ?_
      refine tK (l := xk_230) rfl rfl (fun _ _ _ _ _ => rfl) ?_
      refine tK (l := xk_230) rfl rfl (hGetI k8.1 rfl rfl rfl (by decide) (by decide)) ?_
      rw [t8.out]
      refine tK (l := xk_230) rfl rfl (fun _ _ _ _ _ => rfl) ?_
      refine tCa (l := xk_230) rfl rfl (hInvV (c := 10) k8.1 rfl rfl rfl rfl rfl (Nat.le_of_ble_eq_true rfl) (Nat.le_of_ble_eq_true rfl)) ?_
      refine s228 k8 e8 (fun ph9 k9 e9 f9 => ?_)
      refine tKn ?_
      have G9 : hFw nP ph8 ph9 := f9
      refine tK (l := xk_230) rfl rfl (fun _ _ _ _ _ => rfl) ?_
      refine tK (l := xk_230) rfl rfl (fun _ _ _ _ _ => rfl) ?_
      refine tK (l := xk_230) rfl rfl (hGetI k9.1 rfl rfl rfl (by decide) (by decide)) ?_
      rw [show hRd ph9 147 19 = _ from (G9.1 147 19 id).trans t8.out]
      refine tK (l := xk_230) rfl rfl (fun _ _ _ _ _ => rfl) ?_
      refine tCa (l := xk_230) rfl rfl (hInvV (c := 10) k9.1 rfl rfl rfl rfl rfl (Nat.le_of_ble_eq_true rfl) (Nat.le_of_ble_eq_true rfl)) ?_
      refine s228 k9 e9 (fun ph10 k10 e10 f10 => ?_)
      refine tKn ?_
      have G10 : hFw nP ph8 ph10 := G9.trans f10
      refine tK (l := xk_230) rfl rfl (fun _ _ _ _ _ => rfl) ?_
      refine tK (l := xk_230) rfl rfl (fun _ _ _ _ _ => rfl) ?_
      refine tK (l := xk_230) rfl rfl (hGetI k10.1 rfl rfl rfl (by decide) (by decide)) ?_
      rw [show hRd ph10 147 20 = _ from (G10.1 147 20 id).trans t9.rs]
      refine tK (l := xk_230) rfl rfl (fun _ _ _ _ _ => rfl) ?_
      refine tCa (l := xk_230) rfl rfl (hInvV (c := 10) k10.1 rfl rfl rfl rfl rfl (Nat.le_of_ble_eq_true rfl) (Nat.le_of_ble_eq_true rfl)) ?_
      refine s228 k10 e10 (fun ph11 k11 e11 f11 => ?_)
      refine tKn ?_
      have G11 : hFw nP ph8 ph11 := G10.trans f11
      refine tK (l := xk_230) rfl rfl (fun _ _ _ _ _ => rfl) ?_
      refine tK (l := xk_230) rfl rfl (fun _ _ _ _ _ => rfl) ?_
      refine tK (l := xk_230) rfl rfl (fun _ _ _ _ _ => rfl) ?_
      refine tCa (l := xk_230) rfl rfl (hInvV (c := 10) k11.1 rfl rfl rfl rfl rfl (Nat.le_of_ble_eq_true rfl) (Nat.le_of_ble_eq_true rfl)) ?_
      refine s228 k11 e11 (fun ph12 k12 e12 f12 => ?_)
      refine tKn ?_
      have G12 : hFw nP ph8 ph12 := G11.trans f12
      refine tRt (l := xk_230) rfl rfl (fun _ _ _ _ _ => rfl) ?_
      exact hQ ph12 k12 e12 (f1.z.trans (F7.z.trans (f8.z.trans G12.z)))
end MDG
