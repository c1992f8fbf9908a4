/-! ===== History ===== -/
theorem hRl_us {zs : List xV} {ph : xH} {a k x : Nat} (hs : hSh zs ph) (hk : hKd (hTg a) k = 4) (b j : Nat) : hRl (hUs ph a k x) b j = hRl ph b j := by
  have ht := hKd_lt (t := hTg a) (k := k) (by rw [hk]; decide)
  obtain ⟨vs, h1, h2, h3⟩ := hSh_at hs ht
  unfold hRl
  rw [hPu_get hs ht]
  by_cases e : b = a
  · subst e
    rw [if_pos rfl, h1]
    simp only [Option.map_some]
    by_cases e2 : j = k
    · subst e2
      by_cases hl : j < vs.length
      · rw [List.getElem?_set_self hl]
        have h4 := h3 j vs[j] (List.getElem?_eq_getElem hl)
        rw [List.getElem?_eq_getElem hl]
        unfold hOk at h4
        rw [hk] at h4
        obtain ⟨s, hs4, -⟩ := h4
        rw [hs4]
      · rw [List.getElem?_eq_none (by simpa using Nat.not_lt.mp hl), List.getElem?_eq_none (Nat.not_lt.mp hl)]
    · rw [List.getElem?_set_ne (Ne.symm e2)]
  · rw [if_neg e]
def hHp (ph : xH) (pm : Nat → Nat) (l : List SS) : Prop := hRd ph 91 1 = (l.length : Int) ∧ l.length ≤ 6 ∧ (∀ k, k < 6 → hTg (pm k) = 6 ∧ pm k ≠ 73 ∧ pm k ≠ 82 ∧ hRs ph 92 k = pm k ∧ hTW ph (pm k + 1) ∧ hTW ph (pm k + 5)) ∧ (∀ j k, j < 6 → k < 6 → pm j = pm k → j = k) ∧ (∀ (k : Nat) (st : SS), l[k]? = some st → hSt ph (pm k) st)
def hHi (ph : xH) (l : List SS) : Prop := ∃ pm, hHp ph pm l
def hFd (P : Nat → Prop) (ph ph2 : xH) : Prop := (∀ a k, ¬ P a → hRd ph2 a k = hRd ph a k) ∧ (∀ a k, hRl ph2 a k = hRl ph a k) ∧ (¬ P 92 → ∀ k, hRs ph2 92 k = hRs ph 92 k)
theorem hFd.trans {P : Nat → Prop} {a b c : xH} (h1 : hFd P a b) (h2 : hFd P b c) : hFd P a c := ⟨fun x k h => (h2.1 x k h).trans (h1.1 x k h), fun x k => (h2.2.1 x k).trans (h1.2.1 x k), fun q k => (h2.2.2 q k).trans (h1.2.2 q k)⟩
theorem hFd.mono {P P2 : Nat → Prop} {a b : xH} (h : hFd P a b) (hP : ∀ x, P x → P2 x) : hFd P2 a b := ⟨fun x k hx => h.1 x k (fun q => hx (hP x q)), h.2.1, fun q => h.2.2 (fun p => q (hP 92 p))⟩
theorem hFr.fd {S : List Nat} {P : Nat → Prop} {a b : xH} (h : hFr S a b) (hP : ∀ x ∈ S, P x) : hFd P a b := ⟨fun x k hx => h.1 x k (fun q => hx (hP x q)), h.2.1, fun _ k => h.2.2 92 k⟩
theorem hFd.to {P : Nat → Prop} {ph ph2 : xH} {t r : Nat} (h : hFd P ph ph2) (h1 : ¬ P (t + 1)) (h2 : ¬ P (t + 2)) : hTo ph2 t r = hTo ph t r := hTo_eq (fun k => h.1 _ k h1) (h.1 _ r h2)
theorem hFd.tw {P : Nat → Prop} {ph ph2 : xH} {t : Nat} (h : hFd P ph ph2) (h2 : ¬ P (t + 2)) (hw : hTW ph t) : hTW ph2 t := fun r hr => by rw [h.1 _ r h2]; exact hw r hr
theorem hSt.fd {P : Nat → Prop} {ph ph2 : xH} {s : Nat} {c : SS} (h : hSt ph s c) (hf : hFd P ph ph2) (h1 : ∀ a, s ≤ a → a ≤ s + 8 → ¬ P a) : hSt ph2 s c :=
  h.eq (fun a k ha hb => hf.1 a k (h1 a ha hb))
theorem hHp.in {ph : xH} {pm : Nat → Nat} {l : List SS} (h : hHp ph pm l) {k : Nat} (hk : k < 6) : 93 ≤ pm k ∧ pm k ≤ 138 := by
  obtain ⟨q1, q2, q3, -⟩ := h.2.2.1 k hk
  have := hSt_all q1
  omega
theorem hHi.fd {P : Nat → Prop} {ph ph2 : xH} {l : List SS} (h : hHi ph l) (hf : hFd P ph ph2) (h1 : ∀ a, 91 ≤ a → a ≤ 146 → ¬ P a) : hHi ph2 l := by
  obtain ⟨pm, hp⟩ := h
  refine ⟨pm, by rw [hf.1 _ _ (h1 91 (by omega) (by omega))]; exact hp.1, hp.2.1, fun k hk => ?_, hp.2.2.2.1, fun k st hk => ?_⟩
  · have hi := hp.in hk
    obtain ⟨q1, q2, q3, q4, q5, q6⟩ := hp.2.2.1 k hk
    exact ⟨q1, q2, q3, by rw [hf.2.2 (h1 92 (by omega) (by omega))]; exact q4, hf.tw (h1 _ (by omega) (by omega)) q5, hf.tw (h1 _ (by omega) (by omega)) q6⟩
  · have hk6 : k < 6 := by have := (List.getElem?_eq_some_iff.mp hk).1; have := hp.2.1; omega
    have hi := hp.in hk6
    exact (hp.2.2.2.2 k st hk).fd hf (fun a ha hb => h1 a (by omega) (by omega))
def hPr (pm : Nat → Nat) (k : Nat) : Nat := if k < 5 then pm (k + 1) else pm 0
theorem hPr_lt {pm : Nat → Nat} {k : Nat} (h : k < 5) : hPr pm k = pm (k + 1) := if_pos h
theorem hPr_ge {pm : Nat → Nat} {k : Nat} (h : ¬ k < 5) : hPr pm k = pm 0 := if_neg h
section HI2
variable {d : Nat} {ph : xH} {zs : List xV} {g : Nat} {Q : xR → Prop} {l : List SS}
theorem s22 (hs : hSh zs ph) (h : hHi ph l) (hQ : Q (.inl (some (.inl (l.length : Int))), ph, g)) : xTC d 22 [.inr (.inl (some 91))] ph g Q := by
  obtain ⟨pm, h⟩ := h
  refine tEn (ls := [some (.inr (.inl (some 91)))]) (fun k => by match k with | 0 => rfl | k + 1 => rfl) ?_
  refine tK (l := xk_22) rfl rfl (fun _ _ _ _ _ => rfl) ?_
  refine tK (l := xk_22) rfl rfl (hGetI hs rfl rfl rfl (by decide) (by decide)) ?_
  refine tRt (l := xk_22) rfl rfl (fun _ _ _ _ _ => rfl) ?_
  rw [h.1]
  exact hQ
theorem s24 {pm : Nat → Nat} {st0 : SS} (hs : hSh zs ph) (h : hHp ph pm (st0 :: l)) (hQ : ∀ ph2, hSh zs ph2 → hHp ph2 (hPr pm) l → hFd (fun a => a = 91 ∨ a = 92) ph ph2 → Q (.inl none, ph2, g)) : xTC d 24 [.inr (.inl (some 91))] ph g Q := by
  have hz : hSz 92 = 6 := by decide +kernel
  have ta0 := (h.2.2.1 0 (by decide)).1
  have r0 := (h.2.2.1 0 (by decide)).2.2.2.1
  have r0b : hRs ph 92 ((0 : Int).toNat) = pm 0 := r0
  have e1 := h.1
  simp only [List.length_cons] at e1
  have hl6 : l.length + 1 ≤ 6 := h.2.1
  have loop : ∀ (m j : Nat) (phi : xH), j + m = 5 → hSh zs phi → hFd (fun a => a = 92) ph phi → (∀ k, k < 6 → hRs phi 92 k = if k < j then pm (k + 1) else pm k) → xT d 24 18 (xlo [some (.inr (.inl (some 91))), some (.inr (.inl (some (pm 0)))), some (.inl ((j + 1 : Nat) : Int))]) [] phi g Q := by
    intro m
    induction m with
    | zero =>
      intro j phi him hs hf hi
      have hj : j = 5 := by omega
      subst hj
      have e9 : hRd phi 91 1 = (l.length : Int) + 1 := by rw [hf.1 _ _ (by decide)]; omega
      have u1 : hSh zs (hUs phi 92 5 (pm 0)) := hShS1 _ hs rfl rfl ta0
      have rs : ∀ k, hRs (hUs phi 92 5 (pm 0)) 92 k = if k = 5 then pm 0 else hRs phi 92 k := fun k => by rw [hRs_pu hs rfl (by omega)]; by_cases e : k = 5 <;> simp [e]
      have rdu : ∀ a k, hRd (hUs phi 92 5 (pm 0)) a k = hRd phi a k := fun a k => hRd_pu hs (Or.inr rfl) (by simp) a k
      have e10 : hRd (hUs phi 92 5 (pm 0)) 91 1 = (l.length : Int) + 1 := by rw [rdu]; exact e9
      have e11 : (if 0 < hRd (hUs phi 92 5 (pm 0)) 91 1 - 1 then hRd (hUs phi 92 5 (pm 0)) 91 1 - 1 else 0) = (l.length : Int) := by rw [e10]; split <;> omega
      have e65 : ((hSz 92 : Nat) : Int) - 1 = ((5 : Nat) : Int) := by rw [hz]; rfl
      refine tK (l := xk_24) rfl rfl (fun _ _ _ _ _ => rfl) ?_
      refine tK (l := xk_24) rfl rfl (fun _ _ _ _ _ => rfl) ?_
      refine tK (l := xk_24) rfl rfl (hGetR (o := some 92) hs rfl rfl rfl (by decide) (by decide) rfl) ?_
      refine tK (l := xk_24) rfl rfl (hAlen hs (by decide) (by decide)) ?_
      refine tIc_ge (l := xk_24) (pc' := 47) rfl rfl rfl (fun hc => ?_) (fun hc => ?_)
      · exfalso
        omega
      · refine tK (l := xk_24) rfl rfl (fun _ _ _ _ _ => rfl) ?_
        refine tK (l := xk_24) rfl rfl (hGetR (o := some 92) hs rfl rfl rfl (by decide) (by decide) rfl) ?_
        refine tK (l := xk_24) rfl rfl (fun _ _ _ _ _ => rfl) ?_
        refine tK (l := xk_24) rfl rfl (hGetR (o := some 92) hs rfl rfl rfl (by decide) (by decide) rfl) ?_
        refine tK (l := xk_24) rfl rfl (hAlen hs (by decide) (by decide)) ?_
        refine tK (l := xk_24) rfl rfl (fun _ _ _ _ _ => rfl) ?_
        refine tK (l := xk_24) rfl rfl (hSub ⟨by omega, by omega⟩) ?_
        rw [e65]
        refine tK (l := xk_24) rfl rfl (fun _ _ _ _ _ => rfl) ?_
        first | refine tK (l := xk_24) rfl rfl (hAastN hs rfl ta0 rfl (by omega)) ?_ | refine tK (l := xk_24) rfl rfl (hAast hs rfl ta0 (by omega) (by omega)) ?_
        refine tK (l := xk_24) rfl rfl (fun _ _ _ _ _ => rfl) ?_
        refine tK (l := xk_24) rfl rfl (fun _ _ _ _ _ => rfl) ?_
        refine tK (l := xk_24) rfl rfl (fun _ _ _ _ _ => rfl) ?_
        refine tK (l := xk_24) rfl rfl (hGetI (hShS1 _ hs rfl rfl ta0) rfl rfl rfl (by decide) (by decide)) ?_
        refine tK (l := xk_24) rfl rfl (fun _ _ _ _ _ => rfl) ?_
        refine tK (l := xk_24) rfl rfl (hSub ⟨by omega, by omega⟩) ?_
        refine tK (l := xk_24) rfl rfl (fun _ _ _ _ _ => rfl) ?_
        rw [e11]
        refine tK (l := xk_24) rfl rfl (hPutV (hShS1 _ hs rfl rfl ta0) rfl rfl (by decide) (by decide) rfl) ?_
        refine tRt (l := xk_24) rfl rfl (fun _ _ _ _ _ => rfl) ?_
        have hfd : hFd (fun a => a = 91 ∨ a = 92) ph (hUp (hUs phi 92 5 (pm 0)) 91 1 (l.length : Int)) := ⟨fun a k ha => by rw [hRd_up u1 rfl (by decide), if_neg (fun q => ha (Or.inl q.1)), rdu]; exact hf.1 a k (fun q => ha (Or.inr q)), fun a k => by rw [hRl_up u1 rfl, hRl_us hs rfl]; exact hf.2.1 a k, fun q => absurd (Or.inr rfl) q⟩
        refine hQ _ (hShI1 _ (hShS1 _ hs rfl rfl ta0) rfl rfl) ⟨by rw [hRd_up u1 rfl (by decide), if_pos ⟨rfl, rfl⟩], by have := h.2.1; simp only [List.length_cons] at this; omega, fun k hk => ?_, fun i k hi hk he => ?_, fun k st hk => ?_⟩ hfd
        · by_cases e : k < 5
          · obtain ⟨q1, q2, q3, q4, q5, q6⟩ := h.2.2.1 (k + 1) (by omega)
            have hin := h.in (k := k + 1) (by omega)
            refine ⟨by rw [hPr_lt e]; exact q1, by rw [hPr_lt e]; exact q2, by rw [hPr_lt e]; exact q3, ?_, by rw [hPr_lt e]; exact hfd.tw (by omega) q5, by rw [hPr_lt e]; exact hfd.tw (by omega) q6⟩
            rw [hRs_up u1 rfl, rs, if_neg (by omega), hi k hk, if_pos e, hPr_lt e]
          · obtain ⟨q1, q2, q3, q4, q5, q6⟩ := h.2.2.1 0 (by omega)
            have hin := h.in (k := 0) (by omega)
            refine ⟨by rw [hPr_ge e]; exact q1, by rw [hPr_ge e]; exact q2, by rw [hPr_ge e]; exact q3, ?_, by rw [hPr_ge e]; exact hfd.tw (by omega) q5, by rw [hPr_ge e]; exact hfd.tw (by omega) q6⟩
            rw [hRs_up u1 rfl, rs, if_pos (by omega), hPr_ge e]
        · have hj := h.2.2.2.1
          by_cases e5 : i < 5
          · rw [hPr_lt e5] at he
            by_cases e6 : k < 5
            · rw [hPr_lt e6] at he
              have := hj _ _ (by omega) (by omega) he; omega
            · rw [hPr_ge e6] at he
              have := hj _ _ (by omega) (by omega) he; omega
          · rw [hPr_ge e5] at he
            by_cases e6 : k < 5
            · rw [hPr_lt e6] at he
              have := hj _ _ (by omega) (by omega) he; omega
            · omega
        · have hk5 : k < 5 := by have := (List.getElem?_eq_some_iff.mp hk).1; have := h.2.1; simp only [List.length_cons] at this; omega
          rw [hPr_lt hk5]
          have hin := h.in (k := k + 1) (by omega)
          exact (h.2.2.2.2 (k + 1) st (by simpa using hk)).fd hfd (fun a ha hb => by omega)
    | succ m ih =>
      intro j phi him hs hf hi
      have taj := (h.2.2.1 (j + 1) (by omega)).1
      have rj : hRs phi 92 (j + 1) = pm (j + 1) := by rw [hi (j + 1) (by omega), if_neg (by omega)]
      have ej : ((j + 1 : Nat) : Int) - 1 = (j : Int) := by omega
      refine tK (l := xk_24) rfl rfl (fun _ _ _ _ _ => rfl) ?_
      refine tK (l := xk_24) rfl rfl (fun _ _ _ _ _ => rfl) ?_
      refine tK (l := xk_24) rfl rfl (hGetR (o := some 92) hs rfl rfl rfl (by decide) (by decide) rfl) ?_
      refine tK (l := xk_24) rfl rfl (hAlen hs (by decide) (by decide)) ?_
      refine tIc_ge (l := xk_24) (pc' := 47) rfl rfl rfl (fun hc => ?_) (fun hc => ?_)
      · refine tK (l := xk_24) rfl rfl (fun _ _ _ _ _ => rfl) ?_
        refine tK (l := xk_24) rfl rfl (hGetR (o := some 92) hs rfl rfl rfl (by decide) (by decide) rfl) ?_
        refine tK (l := xk_24) rfl rfl (fun _ _ _ _ _ => rfl) ?_
        refine tK (l := xk_24) rfl rfl (fun _ _ _ _ _ => rfl) ?_
        refine tK (l := xk_24) rfl rfl (hSub ⟨by omega, by omega⟩) ?_
        refine tK (l := xk_24) rfl rfl (fun _ _ _ _ _ => rfl) ?_
        refine tK (l := xk_24) rfl rfl (hGetR (o := some 92) hs rfl rfl rfl (by decide) (by decide) rfl) ?_
        refine tK (l := xk_24) rfl rfl (fun _ _ _ _ _ => rfl) ?_
        first | refine tK (l := xk_24) rfl rfl (hAaldN hs rfl rfl (by omega)) ?_ | refine tK (l := xk_24) rfl rfl (hAald hs rfl (by omega) (by omega)) ?_
        rw [rj, ej]
        first | refine tK (l := xk_24) rfl rfl (hAastN hs rfl taj rfl (by omega)) ?_ | refine tK (l := xk_24) rfl rfl (hAast hs rfl taj (by omega) (by omega)) ?_
        refine tSt (l := xk_24) rfl rfl (hIinc rfl (Nat.le_of_ble_eq_true rfl) ⟨by omega, by omega⟩) (Nat.le_of_ble_eq_true rfl) ?_
        refine tK (l := xk_24) rfl rfl (fun _ _ _ _ _ => rfl) ?_
        refine ih (j + 1) _ (by omega) (hShS1 _ hs rfl rfl taj) ⟨fun a k ha => by rw [hRd_pu hs (Or.inr rfl) (by simp)]; exact hf.1 a k ha, fun a k => by rw [hRl_us hs rfl]; exact hf.2.1 a k, fun q => absurd rfl q⟩ (fun k hk => ?_)
        rw [hRs_pu hs rfl (by omega)]
        by_cases e : k = j
        · rw [if_pos ⟨rfl, e⟩, if_pos (by omega), e]
        · rw [if_neg (fun q => e q.2), hi k hk]
          by_cases e2 : k < j
          · rw [if_pos e2, if_pos (by omega)]
          · rw [if_neg e2, if_neg (by omega)]
      · exfalso
        omega
  refine tEn (ls := [some (.inr (.inl (some 91))), none, none]) (fun k => by match k with | 0 => rfl | 1 => rfl | 2 => rfl | k + 3 => rfl) ?_
  refine tK (l := xk_24) rfl rfl (fun _ _ _ _ _ => rfl) ?_
  refine tK (l := xk_24) rfl rfl (hGetR (o := some 92) hs rfl rfl rfl (by decide) (by decide) rfl) ?_
  refine tK (l := xk_24) rfl rfl (hAlen hs (by decide) (by decide)) ?_
  refine tIf_ne (l := xk_24) (pc' := 9) rfl rfl rfl (fun hc => ?_) (fun hc => ?_)
  · exfalso
    omega
  · refine tK (l := xk_24) rfl rfl (fun _ _ _ _ _ => rfl) ?_
    refine tK (l := xk_24) rfl rfl (hGetR (o := some 92) hs rfl rfl rfl (by decide) (by decide) rfl) ?_
    refine tK (l := xk_24) rfl rfl (fun _ _ _ _ _ => rfl) ?_
    first | refine tK (l := xk_24) rfl rfl (hAaldN hs rfl rfl (by omega)) ?_ | refine tK (l := xk_24) rfl rfl (hAald hs rfl (by omega) (by omega)) ?_
    first | rw [r0] | rw [r0b]
    refine tSt (l := xk_24) rfl rfl (fun _ _ _ _ _ => rfl) (Nat.le_of_ble_eq_true rfl) ?_
    refine tK (l := xk_24) rfl rfl (fun _ _ _ _ _ => rfl) ?_
    refine tSt (l := xk_24) rfl rfl (fun _ _ _ _ _ => rfl) (Nat.le_of_ble_eq_true rfl) ?_
    exact loop 5 0 ph rfl hs ⟨fun _ _ _ => rfl, fun _ _ => rfl, fun _ _ => rfl⟩ (fun k hk => by rw [if_neg (by omega)]; exact (h.2.2.1 k hk).2.2.2.1)
theorem s23r {pm : Nat → Nat} {st : SS} (hs : hSh zs ph) (h : hHp ph pm l) (hl5 : l.length < 6) (hst : hSt ph 73 st) (hQ : ∀ ph2, hSh zs ph2 → hHi ph2 (l ++ [st]) → hFd (fun a => 91 ≤ a ∧ a ≤ 146) ph ph2 → Q (.inl none, ph2, g)) : xT (d + 5) 23 16 (xlo [some (.inr (.inl (some 91))), some (.inr (.inl (some 73))), none]) [] ph g Q := by
  have hz : hSz 92 = 6 := by decide +kernel
  have tan := (h.2.2.1 l.length hl5).1
  have rn := (h.2.2.1 l.length hl5).2.2.2.1
  have e1 := h.1
  have hin := h.in hl5
  refine tK (l := xk_23) rfl rfl (fun _ _ _ _ _ => rfl) ?_
  refine tK (l := xk_23) rfl rfl (hGetI hs rfl rfl rfl (by decide) (by decide)) ?_
  refine tIf_lt (l := xk_23) (pc' := 64) rfl rfl rfl (fun hc => ?_) (fun hc => ?_)
  · exfalso
    omega
  · refine tK (l := xk_23) rfl rfl (fun _ _ _ _ _ => rfl) ?_
    refine tK (l := xk_23) rfl rfl (hGetI hs rfl rfl rfl (by decide) (by decide)) ?_
    refine tK (l := xk_23) rfl rfl (fun _ _ _ _ _ => rfl) ?_
    refine tK (l := xk_23) rfl rfl (hGetR (o := some 92) hs rfl rfl rfl (by decide) (by decide) rfl) ?_
    refine tK (l := xk_23) rfl rfl (hAlen hs (by decide) (by decide)) ?_
    refine tIc_ge (l := xk_23) (pc' := 64) rfl rfl rfl (fun hc => ?_) (fun hc => ?_)
    · refine tK (l := xk_23) rfl rfl (fun _ _ _ _ _ => rfl) ?_
      refine tK (l := xk_23) rfl rfl (hGetR (o := some 92) hs rfl rfl rfl (by decide) (by decide) rfl) ?_
      refine tK (l := xk_23) rfl rfl (fun _ _ _ _ _ => rfl) ?_
      refine tK (l := xk_23) rfl rfl (hGetI hs rfl rfl rfl (by decide) (by decide)) ?_
      rw [h.1]
      first | refine tK (l := xk_23) rfl rfl (hAaldN hs rfl rfl (by omega)) ?_ | refine tK (l := xk_23) rfl rfl (hAald hs rfl (by omega) (by omega)) ?_
      rw [rn]
      refine tSt (l := xk_23) rfl rfl (fun _ _ _ _ _ => rfl) (Nat.le_of_ble_eq_true rfl) ?_
      refine tK (l := xk_23) rfl rfl (fun _ _ _ _ _ => rfl) ?_
      refine tK (l := xk_23) rfl rfl (fun _ _ _ _ _ => rfl) ?_
      refine tK (l := xk_23) rfl rfl (fun _ _ _ _ _ => rfl) ?_
      refine tK (l := xk_23) rfl rfl (fun _ _ _ _ _ => rfl) ?_
      refine tCa (l := xk_23) rfl rfl (hInvV (c := 6) hs rfl rfl rfl tan rfl (Nat.le_of_ble_eq_true rfl) (Nat.le_of_ble_eq_true rfl)) ?_
      refine s49 hs tan rfl (by have := (h.2.2.1 l.length hl5).2.1; omega) (h.2.2.1 l.length hl5).2.2.2.2.1 (h.2.2.1 l.length hl5).2.2.2.2.2 hst (fun ph3 hs3 st3 fr3 => ?_)
      refine tKn ?_
      have e3 : hRd ph3 91 1 = (l.length : Int) := by rw [fr3.at (by simp only [sS, List.mem_cons, List.not_mem_nil, or_false]; omega) 1]; exact e1
      refine tK (l := xk_23) rfl rfl (fun _ _ _ _ _ => rfl) ?_
      refine tK (l := xk_23) rfl rfl (fun _ _ _ _ _ => rfl) ?_
      refine tK (l := xk_23) rfl rfl (hGetI hs3 rfl rfl rfl (by decide) (by decide)) ?_
      rw [e3]
      refine tK (l := xk_23) rfl rfl (fun _ _ _ _ _ => rfl) ?_
      refine tK (l := xk_23) rfl rfl (hAdd ⟨by omega, by omega⟩) ?_
      refine tK (l := xk_23) rfl rfl (hPutV hs3 rfl rfl (by decide) (by decide) rfl) ?_
      refine tRt (l := xk_23) rfl rfl (fun _ _ _ _ _ => rfl) ?_
      have f1 : hFr [91] ph3 (hUp ph3 91 1 ((l.length : Int) + 1)) := hUp_fr hs3 rfl (by decide) (by simp)
      have fA : hFd (fun a => a = 91 ∨ (pm l.length ≤ a ∧ a ≤ pm l.length + 8)) ph (hUp ph3 91 1 ((l.length : Int) + 1)) := (fr3.fd (by intro x hx; simp only [sS, List.mem_cons, List.not_mem_nil, or_false] at hx ⊢; omega)).trans (f1.fd (by intro x hx; simp only [List.mem_cons, List.not_mem_nil, or_false] at hx; omega))
      have apart : ∀ k, k < 6 → k ≠ l.length → pm k + 9 ≤ pm l.length ∨ pm l.length + 9 ≤ pm k := by
        intro k hk hne
        have q1 := hSt_all (h.2.2.1 k hk).1
        have q2 := hSt_all tan
        have q3 : pm k ≠ pm l.length := fun e => hne (h.2.2.2.1 _ _ hk hl5 e)
        omega
      refine hQ _ (hShI1 _ hs3 rfl rfl) ⟨pm, by rw [hRd_up hs3 rfl (by decide), if_pos ⟨rfl, rfl⟩]; simp, by simp; omega, fun k hk => ?_, h.2.2.2.1, fun k st9 hk => ?_⟩ (fA.mono (by intro x hx; omega))
      · obtain ⟨q1, q2, q3, q4, q5, q6⟩ := h.2.2.1 k hk
        refine ⟨q1, q2, q3, by rw [f1.2.2, fr3.2.2]; exact q4, ?_, ?_⟩
        · by_cases e : k = l.length
          · rw [e]; exact f1.tw (by simp only [List.mem_cons, List.not_mem_nil, or_false]; omega) st3.1
          · have := apart k hk e; have hink := h.in hk; exact fA.tw (by omega) q5
        · by_cases e : k = l.length
          · rw [e]; exact f1.tw (by simp only [List.mem_cons, List.not_mem_nil, or_false]; omega) st3.2.2.1.1
          · have := apart k hk e; have hink := h.in hk; exact fA.tw (by omega) q6
      · by_cases e : k < l.length
        · rw [List.getElem?_append_left e] at hk
          have := apart k (by omega) (by omega)
          have hink := h.in (k := k) (by omega)
          exact (h.2.2.2.2 k st9 hk).fd fA (fun a ha hb => by omega)
        · rw [List.getElem?_append_right (by omega)] at hk
          have hk0 := (List.getElem?_eq_some_iff.mp hk).1
          simp only [List.length_cons, List.length_nil] at hk0
          have hk1 : k = l.length := by omega
          subst hk1
          rw [Nat.sub_self] at hk
          cases hk
          exact st3.fr f1 (fun a ha hb => by simp only [List.mem_cons, List.not_mem_nil, or_false]; omega)
    · exfalso
      omega
theorem s23 {st : SS} (hs : hSh zs ph) (h : hHi ph l) (hst : hSt ph 73 st) (hQ : ∀ ph2, hSh zs ph2 → hHi ph2 ((if l.length = 6 then l.tail else l) ++ [st]) → hFd (fun a => 91 ≤ a ∧ a ≤ 146) ph ph2 → Q (.inl none, ph2, g)) : xTC (d + 5) 23 [.inr (.inl (some 91)), .inr (.inl (some 73))] ph g Q := by
  obtain ⟨pm, h⟩ := h
  have hz : hSz 92 = 6 := by decide +kernel
  have e1 := h.1
  have hl6 := h.2.1
  refine tEn (ls := [some (.inr (.inl (some 91))), some (.inr (.inl (some 73))), none]) (fun k => by match k with | 0 => rfl | 1 => rfl | 2 => rfl | k + 3 => rfl) ?_
  refine tK (l := xk_23) rfl rfl (fun _ _ _ _ _ => rfl) ?_
  refine tK (l := xk_23) rfl rfl (hGetI hs rfl rfl rfl (by decide) (by decide)) ?_
  refine tK (l := xk_23) rfl rfl (fun _ _ _ _ _ => rfl) ?_
  refine tK (l := xk_23) rfl rfl (hGetR (o := some 92) hs rfl rfl rfl (by decide) (by decide) rfl) ?_
  refine tK (l := xk_23) rfl rfl (hAlen hs (by decide) (by decide)) ?_
  refine tIc_lt (l := xk_23) (pc' := 16) rfl rfl rfl (fun hc => ?_) (fun hc => ?_)
  · have hc9 := hc
    refine s23r hs h (by omega) hst (fun ph2 hs2 h2 f2 => ?_)
    rw [if_neg (by omega)] at hQ
    exact hQ ph2 hs2 h2 f2
  · have hc9 := hc
    refine tK (l := xk_23) rfl rfl (fun _ _ _ _ _ => rfl) ?_
    refine tCa (l := xk_23) rfl rfl (hInvV (c := 2) hs rfl rfl rfl rfl rfl (Nat.le_of_ble_eq_true rfl) (Nat.le_of_ble_eq_true rfl)) ?_
    cases l with
    | nil => exact absurd hc9 (by rw [e1]; simp [hz])
    | cons st0 l =>
      refine s24 hs h (fun ph1 hs1 h1 f1 => ?_)
      refine tKn ?_
      simp only [List.length_cons] at hl6 e1
      refine s23r hs1 h1 (by omega) (hst.fd f1 (fun a ha hb => by omega)) (fun ph2 hs2 h2 f2 => ?_)
      rw [if_pos (by simp only [List.length_cons]; omega)] at hQ
      exact hQ ph2 hs2 h2 ((f1.mono (by intro x hx; omega)).trans f2)
theorem s25 {st : SS} (hs : hSh zs ph) (h : hHi ph (l ++ [st])) (hw : hTW ph 74) (hw2 : hTW ph 78) (hQ : ∀ ph2, hSh zs ph2 → hHi ph2 l → hSt ph2 73 st → hFd (fun a => a = 91 ∨ (73 ≤ a ∧ a ≤ 81)) ph ph2 → Q (.inl (some (.inl 1)), ph2, g)) : xTC (d + 5) 25 [.inr (.inl (some 91)), .inr (.inl (some 73))] ph g Q := by
  obtain ⟨pm, h⟩ := h
  have hz : hSz 92 = 6 := by decide +kernel
  have e1 := h.1
  have hl6 := h.2.1
  simp only [List.length_append, List.length_cons, List.length_nil] at e1 hl6
  have hl5 : l.length < 6 := by omega
  have tan := (h.2.2.1 l.length hl5).1
  have rn := (h.2.2.1 l.length hl5).2.2.2.1
  have hin := h.in hl5
  have e9 : hRd ph 91 1 - 1 = (l.length : Int) := by omega
  have hq : hSt ph (pm l.length) st := h.2.2.2.2 l.length st (by simp)
  refine tEn (ls := [some (.inr (.inl (some 91))), some (.inr (.inl (some 73))), none, none]) (fun k => by match k with | 0 => rfl | 1 => rfl | 2 => rfl | 3 => rfl | k + 4 => rfl) ?_
  refine tK (l := xk_25) rfl rfl (fun _ _ _ _ _ => rfl) ?_
  refine tK (l := xk_25) rfl rfl (hGetI hs rfl rfl rfl (by decide) (by decide)) ?_
  refine tK (l := xk_25) rfl rfl (fun _ _ _ _ _ => rfl) ?_
  refine tK (l := xk_25) rfl rfl (hSub ⟨by omega, by omega⟩) ?_
  refine tSt (l := xk_25) rfl rfl (fun _ _ _ _ _ => rfl) (Nat.le_of_ble_eq_true rfl) ?_
  rw [e9]
  refine tK (l := xk_25) rfl rfl (fun _ _ _ _ _ => rfl) ?_
  refine tIf_lt (l := xk_25) (pc' := 20) rfl rfl rfl (fun hc => ?_) (fun hc => ?_)
  · exfalso
    omega
  · refine tK (l := xk_25) rfl rfl (fun _ _ _ _ _ => rfl) ?_
    refine tK (l := xk_25) rfl rfl (fun _ _ _ _ _ => rfl) ?_
    refine tK (l := xk_25) rfl rfl (hGetR (o := some 92) hs rfl rfl rfl (by decide) (by decide) rfl) ?_
    refine tK (l := xk_25) rfl rfl (hAlen hs (by decide) (by decide)) ?_
    refine tIc_lt (l := xk_25) (pc' := 22) rfl rfl rfl (fun hc => ?_) (fun hc => ?_)
    · refine tK (l := xk_25) rfl rfl (fun _ _ _ _ _ => rfl) ?_
      refine tK (l := xk_25) rfl rfl (hGetR (o := some 92) hs rfl rfl rfl (by decide) (by decide) rfl) ?_
      refine tK (l := xk_25) rfl rfl (fun _ _ _ _ _ => rfl) ?_
      first | refine tK (l := xk_25) rfl rfl (hAaldN hs rfl rfl (by omega)) ?_ | refine tK (l := xk_25) rfl rfl (hAald hs rfl (by omega) (by omega)) ?_
      rw [rn]
      refine tSt (l := xk_25) rfl rfl (fun _ _ _ _ _ => rfl) (Nat.le_of_ble_eq_true rfl) ?_
      refine tK (l := xk_25) rfl rfl (fun _ _ _ _ _ => rfl) ?_
      refine tK (l := xk_25) rfl rfl (fun _ _ _ _ _ => rfl) ?_
      refine tK (l := xk_25) rfl rfl (fun _ _ _ _ _ => rfl) ?_
      refine tK (l := xk_25) rfl rfl (fun _ _ _ _ _ => rfl) ?_
      refine tCa (l := xk_25) rfl rfl (hInvV (c := 6) hs rfl rfl rfl rfl rfl (Nat.le_of_ble_eq_true rfl) (Nat.le_of_ble_eq_true rfl)) ?_
      refine s49 hs rfl tan (by have := (h.2.2.1 l.length hl5).2.1; omega) hw hw2 hq (fun ph3 hs3 st3 fr3 => ?_)
      refine tKn ?_
      refine tK (l := xk_25) rfl rfl (fun _ _ _ _ _ => rfl) ?_
      refine tK (l := xk_25) rfl rfl (fun _ _ _ _ _ => rfl) ?_
      refine tK (l := xk_25) rfl rfl (hPutV hs3 rfl rfl (by decide) (by decide) rfl) ?_
      refine tK (l := xk_25) rfl rfl (fun _ _ _ _ _ => rfl) ?_
      refine tRt (l := xk_25) rfl rfl (fun _ _ _ _ _ => rfl) ?_
      have f1 : hFr [91] ph3 (hUp ph3 91 1 (l.length : Int)) := hUp_fr hs3 rfl (by decide) (by simp)
      have fA : hFd (fun a => a = 91 ∨ (73 ≤ a ∧ a ≤ 81)) ph (hUp ph3 91 1 (l.length : Int)) := (fr3.fd (by intro x hx; simp only [sS, List.mem_cons, List.not_mem_nil, or_false] at hx ⊢; omega)).trans (f1.fd (by intro x hx; simp only [List.mem_cons, List.not_mem_nil, or_false] at hx; omega))
      refine hQ _ (hShI1 _ hs3 rfl rfl) ⟨pm, by rw [hRd_up hs3 rfl (by decide), if_pos ⟨rfl, rfl⟩], by omega, fun k hk => ?_, h.2.2.2.1, fun k st9 hk => ?_⟩ (st3.fr f1 (fun a ha hb => by simp only [List.mem_cons, List.not_mem_nil, or_false]; omega)) fA
      · obtain ⟨q1, q2, q3, q4, q5, q6⟩ := h.2.2.1 k hk
        have hink := h.in hk
        exact ⟨q1, q2, q3, by rw [f1.2.2, fr3.2.2]; exact q4, fA.tw (by omega) q5, fA.tw (by omega) q6⟩
      · have hk0 := (List.getElem?_eq_some_iff.mp hk).1
        have hink := h.in (k := k) (by omega)
        exact (h.2.2.2.2 k st9 (by rw [List.getElem?_append_left hk0]; exact hk)).fd fA (fun a ha hb => by omega)
    · exfalso
      omega
theorem s25n (hs : hSh zs ph) (h : hHi ph []) (hQ : Q (.inl (some (.inl 0)), ph, g)) : xTC d 25 [.inr (.inl (some 91)), .inr (.inl (some 73))] ph g Q := by
  obtain ⟨pm, h⟩ := h
  have e9 : hRd ph 91 1 - 1 = -1 := by rw [h.1]; rfl
  refine tEn (ls := [some (.inr (.inl (some 91))), some (.inr (.inl (some 73))), none, none]) (fun k => by match k with | 0 => rfl | 1 => rfl | 2 => rfl | 3 => rfl | k + 4 => rfl) ?_
  refine tK (l := xk_25) rfl rfl (fun _ _ _ _ _ => rfl) ?_
  refine tK (l := xk_25) rfl rfl (hGetI hs rfl rfl rfl (by decide) (by decide)) ?_
  refine tK (l := xk_25) rfl rfl (fun _ _ _ _ _ => rfl) ?_
  refine tK (l := xk_25) rfl rfl (hSub ⟨by omega, by omega⟩) ?_
  refine tSt (l := xk_25) rfl rfl (fun _ _ _ _ _ => rfl) (Nat.le_of_ble_eq_true rfl) ?_
  rw [e9]
  refine tK (l := xk_25) rfl rfl (fun _ _ _ _ _ => rfl) ?_
  refine tIf_lt (l := xk_25) (pc' := 20) rfl rfl rfl (fun hc => ?_) (fun hc => ?_)
  · refine tK (l := xk_25) rfl rfl (fun _ _ _ _ _ => rfl) ?_
    refine tRt (l := xk_25) rfl rfl (fun _ _ _ _ _ => rfl) ?_
    exact hQ
  · exact absurd (show ((-1 : Int) < 0) by decide) hc
end HI2
