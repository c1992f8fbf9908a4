/-! ===== the model: scopes, what is open ===== -/
section MSC
variable {d : Nat} {ph : xH} {zs : List xV} {g : Nat} {Q : xR → Prop} {sc : List xSc} {r2 : List (List Int) × List Int × Nat × Nat × Nat × Nat}
theorem s187 (h : hMN zs ph (sc, r2)) (hl : sc.length ≤ 40) (hQ : ∀ ph2, hMN zs ph2 ((fun _ => none) :: sc, r2) → hFM [28] [155] ph ph2 → (∀ j, j < 250 * sc.length → hRd ph2 155 j = hRd ph 155 j) → Q (.inl none, ph2, g)) : xTC (d + 1) 187 [.inr (.inl (some 147))] ph g Q := by
  obtain ⟨z1, z2, z3, z4, z5, z6, z7, z8⟩ := hSzM
  obtain ⟨hs, ⟨h1, h2, h3⟩, h4⟩ := id h
  simp only at h1 h2 h3
  have loop : ∀ (m i : Nat) (phi : xH), i + m = 10 → hSh zs phi → hFM [28] [155] ph phi → hRd phi 147 28 = (sc.length : Int) → (∀ j, j < 250 * sc.length → hRd phi 155 j = hRd ph 155 j) → (∀ n, n < i → hRd phi 155 (250 * sc.length + 25 * n) = -1) → xT (d + 1) 187 2 (xlo [some (.inr (.inl (some 147))), some (.inl (i : Int))]) [] phi g Q := by
    intro m
    induction m with
    | zero =>
      intro i phi him hs hf e28 hlow hnew
      have rd := hRd_up (x := (sc.length : Int) + 1) hs (show hKi (hTg 147) 28 = true from rfl) (by decide)
      have f2 : hFM [28] [155] phi (hUp phi 147 28 ((sc.length : Int) + 1)) := hFM_f hs rfl (by decide) (by decide)
      have fA := hf.trans f2
      have hall : ∀ j, hRd (hUp phi 147 28 ((sc.length : Int) + 1)) 155 j = hRd phi 155 j := fun j => by rw [rd, if_neg (by omega)]
      refine tK (l := xk_187) rfl rfl (fun _ _ _ _ _ => rfl) ?_
      refine tK (l := xk_187) rfl rfl (fun _ _ _ _ _ => rfl) ?_
      refine tIc_ge (l := xk_187) (pc' := 28) rfl rfl rfl (fun hc => ?_) (fun hc => ?_)
      · exfalso; omega
      · refine tK (l := xk_187) rfl rfl (fun _ _ _ _ _ => rfl) ?_
        refine tK (l := xk_187) rfl rfl (fun _ _ _ _ _ => rfl) ?_
        refine tK (l := xk_187) rfl rfl (hGetI hs rfl rfl rfl (by decide) (by decide)) ?_
        rw [e28]
        refine tK (l := xk_187) rfl rfl (fun _ _ _ _ _ => rfl) ?_
        refine tK (l := xk_187) rfl rfl (hAdd ⟨by omega, by omega⟩) ?_
        refine tK (l := xk_187) rfl rfl (hPutV hs rfl rfl (by decide) (by decide) rfl) ?_
        refine tRt (l := xk_187) rfl rfl (fun _ _ _ _ _ => rfl) ?_
        obtain ⟨⟨q4, q5, q6⟩, ⟨q7, q8, q9⟩, q10, q11, q12, q13, q14, q15⟩ := h4
        have nf : ∀ k, k ∉ [28] → hRd (hUp phi 147 28 ((sc.length : Int) + 1)) 147 k = hRd ph 147 k := fun k hk => fA.fl hk
        refine hQ _ ⟨(hShI1 _ hs rfl rfl), ⟨?_, by simp only [List.length_cons]; omega, ⟨fun n hn => ⟨?_, fun s hs => by cases hs⟩, h3.eq (fun j hj => by rw [hall]; exact hlow j hj)⟩⟩, ⟨by rw [nf _ (by decide)]; exact q4, q5, q6.eq (fun j _ => fA.at (by decide) j) (fun j _ => fA.at (by decide) j)⟩, ⟨by rw [nf _ (by decide)]; exact q7, q8, fun i c hi => by rw [fA.at (by decide)]; exact q9 i c hi⟩, by rw [nf _ (by decide)]; exact q10, q11, by rw [nf _ (by decide)]; exact q12, by rw [nf _ (by decide)]; exact q13, by rw [nf _ (by decide)]; exact q14, q15⟩ fA (fun j hj => by rw [hall]; exact hlow j hj)
        · rw [rd, if_pos ⟨rfl, rfl⟩]; simp
        · rw [hall, hnew n (by omega)]; rfl
    | succ m ih =>
      intro i phi him hs hf e28 hlow hnew
      have rd := hRd_up (x := -1) hs (show hKi (hTg 155) (250 * sc.length + 25 * i) = true from rfl) (by omega)
      refine tK (l := xk_187) rfl rfl (fun _ _ _ _ _ => rfl) ?_
      refine tK (l := xk_187) rfl rfl (fun _ _ _ _ _ => rfl) ?_
      refine tIc_ge (l := xk_187) (pc' := 28) rfl rfl rfl (fun hc => ?_) (fun hc => ?_)
      · refine tK (l := xk_187) rfl rfl (fun _ _ _ _ _ => rfl) ?_
        refine tK (l := xk_187) rfl rfl (hGetR (o := some 155) hs rfl rfl rfl (by decide) (by decide) rfl) ?_
        refine tK (l := xk_187) rfl rfl (fun _ _ _ _ _ => rfl) ?_
        refine tK (l := xk_187) rfl rfl (hGetI hs rfl rfl rfl (by decide) (by decide)) ?_
        rw [e28]
        refine tK (l := xk_187) rfl rfl (fun _ _ _ _ _ => rfl) ?_
        refine tCa (l := xk_187) rfl rfl (hInvS rfl rfl rfl rfl (Nat.le_of_ble_eq_true rfl) (Nat.le_of_ble_eq_true rfl)) ?_
        refine s188 (k := sc.length) (n := i) (by omega) (by omega) ?_
        refine tKv ?_
        refine tK (l := xk_187) rfl rfl (fun _ _ _ _ _ => rfl) ?_
        first | refine tK (l := xk_187) rfl rfl (hIastN hs rfl rfl (by omega)) ?_ | refine tK (l := xk_187) rfl rfl (hIast hs rfl (by omega) (by omega)) ?_
        refine tSt (l := xk_187) rfl rfl (hIinc rfl (Nat.le_of_ble_eq_true rfl) ⟨by omega, by omega⟩) (Nat.le_of_ble_eq_true rfl) ?_
        refine tK (l := xk_187) rfl rfl (fun _ _ _ _ _ => rfl) ?_
        refine ih (i + 1) (hUp phi 155 (250 * sc.length + 25 * i) (-1)) (by omega) (hShI1 _ hs rfl rfl) (hf.trans (hFM_a hs rfl (by omega) (by decide) (by decide))) (by rw [rd, if_neg (by omega)]; exact e28) (fun j hj => by rw [rd, if_neg (by omega)]; exact hlow j hj) (fun n hn => ?_)
        rw [rd]
        by_cases e : n = i
        · rw [if_pos ⟨rfl, by rw [e]⟩]
        · rw [if_neg (by omega)]; exact hnew n (by omega)
      · exfalso; omega
  refine tEn (ls := [some (.inr (.inl (some 147))), none]) (fun k => by match k with | 0 => rfl | 1 => rfl | k + 2 => rfl) ?_
  refine tK (l := xk_187) rfl rfl (fun _ _ _ _ _ => rfl) ?_
  refine tSt (l := xk_187) rfl rfl (fun _ _ _ _ _ => rfl) (Nat.le_of_ble_eq_true rfl) ?_
  exact loop 10 0 ph rfl hs hFM.refl h1 (fun _ _ => rfl) (fun n hn => absurd hn (by omega))
theorem lkA_ge {scs : List xSc} {n : Nat} : -1 ≤ lkA scs n := by
  induction scs with
  | nil => exact Int.le_refl _
  | cons f t ih =>
    simp only [lkA]
    cases f n with
    | none => exact ih
    | some v => simp only; omega
theorem lkA_c {f : xSc} {t : List xSc} {n : Nat} : lkA (f :: t) n = if hLo (f n) < 0 then lkA t n else ((250 * t.length + 25 * n : Nat) : Int) := by
  simp only [lkA]
  cases f n with
  | none => rfl
  | some v => rw [if_neg (by simp only [hLo]; omega)]
theorem s196 {n : Nat} (hn : n < 10) (hs : hSh zs ph) (h28 : hRd ph 147 28 = (sc.length : Int)) (hl41 : sc.length ≤ 41) (hml : hMl ph sc) (hQ : Q (.inl (some (.inl (lkA sc n))), ph, g)) : xTC (d + 1) 196 [.inr (.inl (some 147)), .inl (n : Int)] ph g Q := by
  obtain ⟨z1, z2, z3, z4, z5, z6, z7, z8⟩ := hSzM
  have loop : ∀ (pre l : List xSc), pre.reverse ++ l = sc → xT (d + 1) 196 4 (xlo [some (.inr (.inl (some 147))), some (.inl (n : Int)), some (.inl (lkA l n)), some (.inl (l.length : Int))]) [] ph g Q := by
    intro pre
    induction pre with
    | nil =>
      intro l he
      rw [List.reverse_nil, List.nil_append] at he
      subst he
      refine tK (l := xk_196) rfl rfl (fun _ _ _ _ _ => rfl) ?_
      refine tK (l := xk_196) rfl rfl (fun _ _ _ _ _ => rfl) ?_
      refine tK (l := xk_196) rfl rfl (hGetI hs rfl rfl rfl (by decide) (by decide)) ?_
      rw [h28]
      refine tIc_ge (l := xk_196) (pc' := 41) rfl rfl rfl (fun hc => ?_) (fun hc => ?_)
      · exfalso; omega
      · refine tK (l := xk_196) rfl rfl (fun _ _ _ _ _ => rfl) ?_
        refine tRt (l := xk_196) rfl rfl (fun _ _ _ _ _ => rfl) ?_
        exact hQ
    | cons f pre ih =>
      intro l he
      rw [List.reverse_cons, List.append_assoc, List.singleton_append] at he
      have hlen : pre.length + 1 + l.length = sc.length := by rw [← he]; simp; omega
      have hml2 : hMl ph (f :: l) := by rw [← he] at hml; exact hml.suf
      have e55 : hRd ph 155 (250 * l.length + 25 * n) = hLo (f n) := (hml2.1 n hn).1
      have hnext := ih (f :: l) he
      rw [lkA_c, List.length_cons] at hnext
      refine tK (l := xk_196) rfl rfl (fun _ _ _ _ _ => rfl) ?_
      refine tK (l := xk_196) rfl rfl (fun _ _ _ _ _ => rfl) ?_
      refine tK (l := xk_196) rfl rfl (hGetI hs rfl rfl rfl (by decide) (by decide)) ?_
      rw [h28]
      refine tIc_ge (l := xk_196) (pc' := 41) rfl rfl rfl (fun hc => ?_) (fun hc => ?_)
      · have hc9 := hc
        refine tK (l := xk_196) rfl rfl (fun _ _ _ _ _ => rfl) ?_
        refine tK (l := xk_196) rfl rfl (hGetR (o := some 155) hs rfl rfl rfl (by decide) (by decide) rfl) ?_
        refine tK (l := xk_196) rfl rfl (fun _ _ _ _ _ => rfl) ?_
        refine tK (l := xk_196) rfl rfl (fun _ _ _ _ _ => rfl) ?_
        refine tCa (l := xk_196) rfl rfl (hInvS rfl rfl rfl rfl (Nat.le_of_ble_eq_true rfl) (Nat.le_of_ble_eq_true rfl)) ?_
        refine s188 (k := l.length) (n := n) (by omega) (by omega) ?_
        refine tKv ?_
        first | refine tK (l := xk_196) rfl rfl (hIaldN hs rfl rfl (by omega)) ?_ | refine tK (l := xk_196) rfl rfl (hIald hs rfl (by omega) (by omega)) ?_
        rw [e55]
        refine tIf_lt (l := xk_196) (pc' := 33) rfl rfl rfl (fun hc => ?_) (fun hc => ?_)
        · have hc22 := hc
          refine tK (l := xk_196) rfl rfl (fun _ _ _ _ _ => rfl) ?_
          refine tSt (l := xk_196) rfl rfl (fun _ _ _ _ _ => rfl) (Nat.le_of_ble_eq_true rfl) ?_
          refine tSt (l := xk_196) rfl rfl (hIinc rfl (Nat.le_of_ble_eq_true rfl) ⟨by omega, by omega⟩) (Nat.le_of_ble_eq_true rfl) ?_
          refine tK (l := xk_196) rfl rfl (fun _ _ _ _ _ => rfl) ?_
          rw [if_pos (by omega)] at hnext
          exact hnext
        · have hc22 := hc
          refine tK (l := xk_196) rfl rfl (fun _ _ _ _ _ => rfl) ?_
          refine tK (l := xk_196) rfl rfl (fun _ _ _ _ _ => rfl) ?_
          refine tCa (l := xk_196) rfl rfl (hInvS rfl rfl rfl rfl (Nat.le_of_ble_eq_true rfl) (Nat.le_of_ble_eq_true rfl)) ?_
          refine s188 (k := l.length) (n := n) (by omega) (by omega) ?_
          refine tKv ?_
          refine tK (l := xk_196) rfl rfl (fun _ _ _ _ _ => rfl) ?_
          refine tSt (l := xk_196) rfl rfl (fun _ _ _ _ _ => rfl) (Nat.le_of_ble_eq_true rfl) ?_
          refine tSt (l := xk_196) rfl rfl (hIinc rfl (Nat.le_of_ble_eq_true rfl) ⟨by omega, by omega⟩) (Nat.le_of_ble_eq_true rfl) ?_
          refine tK (l := xk_196) rfl rfl (fun _ _ _ _ _ => rfl) ?_
          rw [if_neg (by omega)] at hnext
          exact hnext
      · have hc9 := hc
        exfalso; omega
  refine tEn (ls := [some (.inr (.inl (some 147))), some (.inl (n : Int)), none, none]) (fun k => by match k with | 0 => rfl | 1 => rfl | 2 => rfl | 3 => rfl | k + 4 => rfl) ?_
  refine tK (l := xk_196) rfl rfl (fun _ _ _ _ _ => rfl) ?_
  refine tSt (l := xk_196) rfl rfl (fun _ _ _ _ _ => rfl) (Nat.le_of_ble_eq_true rfl) ?_
  refine tK (l := xk_196) rfl rfl (fun _ _ _ _ _ => rfl) ?_
  refine tSt (l := xk_196) rfl rfl (fun _ _ _ _ _ => rfl) (Nat.le_of_ble_eq_true rfl) ?_
  exact loop sc.reverse [] (by rw [List.reverse_reverse, List.append_nil])
theorem s189 {m fo nx : Nat} {sg nm : Int} (hs : hSh zs ph) (h43 : hRd ph 147 43 = (m : Int)) (hm : m < 64) (hQ : ∀ ph2, hSh zs ph2 → hFM [43] [160, 161, 162, 163, 164, 165, 166] ph ph2 → (∀ b j, hRd ph2 b j = if b = 147 ∧ j = 43 then (m : Int) + 1 else if b = 166 ∧ j = m then 0 else if b = 165 ∧ j = m then 0 else if b = 164 ∧ j = m then nm else if b = 163 ∧ j = m then (nx : Int) else if b = 162 ∧ j = m then (nx : Int) else if b = 161 ∧ j = m then (fo : Int) else if b = 160 ∧ j = m then sg else hRd ph b j) → Q (.inl none, ph2, g)) : xTC d 189 [.inr (.inl (some 147)), .inl sg, .inl (fo : Int), .inl (nx : Int), .inl nm] ph g Q := by
  obtain ⟨z1, z2, z3, z4, z5, z6, z7, z8, z9⟩ := hSzO
  have u1 : hSh zs (hUp ph 160 m sg) := hShI1 _ hs rfl rfl
  have u2 : hSh zs (hUp (hUp ph 160 m sg) 161 m (fo : Int)) := hShI1 _ u1 rfl rfl
  have u3 : hSh zs (hUp (hUp (hUp ph 160 m sg) 161 m (fo : Int)) 162 m (nx : Int)) := hShI1 _ u2 rfl rfl
  have u4 : hSh zs (hUp (hUp (hUp (hUp ph 160 m sg) 161 m (fo : Int)) 162 m (nx : Int)) 163 m (nx : Int)) := hShI1 _ u3 rfl rfl
  have u5 : hSh zs (hUp (hUp (hUp (hUp (hUp ph 160 m sg) 161 m (fo : Int)) 162 m (nx : Int)) 163 m (nx : Int)) 164 m nm) := hShI1 _ u4 rfl rfl
  have u6 : hSh zs (hUp (hUp (hUp (hUp (hUp (hUp ph 160 m sg) 161 m (fo : Int)) 162 m (nx : Int)) 163 m (nx : Int)) 164 m nm) 165 m 0) := hShI1 _ u5 rfl rfl
  have u7 : hSh zs (hUp (hUp (hUp (hUp (hUp (hUp (hUp ph 160 m sg) 161 m (fo : Int)) 162 m (nx : Int)) 163 m (nx : Int)) 164 m nm) 165 m 0) 166 m 0) := hShI1 _ u6 rfl rfl
  have u8 : hSh zs (hUp (hUp (hUp (hUp (hUp (hUp (hUp (hUp ph 160 m sg) 161 m (fo : Int)) 162 m (nx : Int)) 163 m (nx : Int)) 164 m nm) 165 m 0) 166 m 0) 147 43 ((m : Int) + 1)) := hShI1 _ u7 rfl rfl
  have v1 : hRd (hUp ph 160 m sg) 147 43 = (m : Int) := by rw [hRd_up hs (a := 160) (k := m) (x := sg) rfl (by omega), if_neg (by omega)]; exact h43
  have v2 : hRd (hUp (hUp ph 160 m sg) 161 m (fo : Int)) 147 43 = (m : Int) := by rw [hRd_up u1 (a := 161) (k := m) (x := (fo : Int)) rfl (by omega), if_neg (by omega), hRd_up hs (a := 160) (k := m) (x := sg) rfl (by omega), if_neg (by omega)]; exact h43
  have v3 : hRd (hUp (hUp (hUp ph 160 m sg) 161 m (fo : Int)) 162 m (nx : Int)) 147 43 = (m : Int) := by rw [hRd_up u2 (a := 162) (k := m) (x := (nx : Int)) rfl (by omega), if_neg (by omega), hRd_up u1 (a := 161) (k := m) (x := (fo : Int)) rfl (by omega), if_neg (by omega), hRd_up hs (a := 160) (k := m) (x := sg) rfl (by omega), if_neg (by omega)]; exact h43
  have v4 : hRd (hUp (hUp (hUp (hUp ph 160 m sg) 161 m (fo : Int)) 162 m (nx : Int)) 163 m (nx : Int)) 147 43 = (m : Int) := by rw [hRd_up u3 (a := 163) (k := m) (x := (nx : Int)) rfl (by omega), if_neg (by omega), hRd_up u2 (a := 162) (k := m) (x := (nx : Int)) rfl (by omega), if_neg (by omega), hRd_up u1 (a := 161) (k := m) (x := (fo : Int)) rfl (by omega), if_neg (by omega), hRd_up hs (a := 160) (k := m) (x := sg) rfl (by omega), if_neg (by omega)]; exact h43
  have v5 : hRd (hUp (hUp (hUp (hUp (hUp ph 160 m sg) 161 m (fo : Int)) 162 m (nx : Int)) 163 m (nx : Int)) 164 m nm) 147 43 = (m : Int) := by rw [hRd_up u4 (a := 164) (k := m) (x := nm) rfl (by omega), if_neg (by omega), hRd_up u3 (a := 163) (k := m) (x := (nx : Int)) rfl (by omega), if_neg (by omega), hRd_up u2 (a := 162) (k := m) (x := (nx : Int)) rfl (by omega), if_neg (by omega), hRd_up u1 (a := 161) (k := m) (x := (fo : Int)) rfl (by omega), if_neg (by omega), hRd_up hs (a := 160) (k := m) (x := sg) rfl (by omega), if_neg (by omega)]; exact h43
  have v6 : hRd (hUp (hUp (hUp (hUp (hUp (hUp ph 160 m sg) 161 m (fo : Int)) 162 m (nx : Int)) 163 m (nx : Int)) 164 m nm) 165 m 0) 147 43 = (m : Int) := by rw [hRd_up u5 (a := 165) (k := m) (x := 0) rfl (by omega), if_neg (by omega), hRd_up u4 (a := 164) (k := m) (x := nm) rfl (by omega), if_neg (by omega), hRd_up u3 (a := 163) (k := m) (x := (nx : Int)) rfl (by omega), if_neg (by omega), hRd_up u2 (a := 162) (k := m) (x := (nx : Int)) rfl (by omega), if_neg (by omega), hRd_up u1 (a := 161) (k := m) (x := (fo : Int)) rfl (by omega), if_neg (by omega), hRd_up hs (a := 160) (k := m) (x := sg) rfl (by omega), if_neg (by omega)]; exact h43
  have v7 : hRd (hUp (hUp (hUp (hUp (hUp (hUp (hUp ph 160 m sg) 161 m (fo : Int)) 162 m (nx : Int)) 163 m (nx : Int)) 164 m nm) 165 m 0) 166 m 0) 147 43 = (m : Int) := by rw [hRd_up u6 (a := 166) (k := m) (x := 0) rfl (by omega), if_neg (by omega), hRd_up u5 (a := 165) (k := m) (x := 0) rfl (by omega), if_neg (by omega), hRd_up u4 (a := 164) (k := m) (x := nm) rfl (by omega), if_neg (by omega), hRd_up u3 (a := 163) (k := m) (x := (nx : Int)) rfl (by omega), if_neg (by omega), hRd_up u2 (a := 162) (k := m) (x := (nx : Int)) rfl (by omega), if_neg (by omega), hRd_up u1 (a := 161) (k := m) (x := (fo : Int)) rfl (by omega), if_neg (by omega), hRd_up hs (a := 160) (k := m) (x := sg) rfl (by omega), if_neg (by omega)]; exact h43
  refine tEn (ls := [some (.inr (.inl (some 147))), some (.inl sg), some (.inl (fo : Int)), some (.inl (nx : Int)), some (.inl nm)]) (fun k => by match k with | 0 => rfl | 1 => rfl | 2 => rfl | 3 => rfl | 4 => rfl | k + 5 => rfl) ?_
  refine tK (l := xk_189) rfl rfl (fun _ _ _ _ _ => rfl) ?_
  refine tK (l := xk_189) rfl rfl (hGetR (o := some 160) hs rfl rfl rfl (by decide) (by decide) rfl) ?_
  refine tK (l := xk_189) rfl rfl (fun _ _ _ _ _ => rfl) ?_
  refine tK (l := xk_189) rfl rfl (hGetI hs rfl rfl rfl (by decide) (by decide)) ?_
  rw [h43]
  refine tK (l := xk_189) rfl rfl (fun _ _ _ _ _ => rfl) ?_
  first | refine tK (l := xk_189) rfl rfl (hIastN hs rfl rfl (by omega)) ?_ | refine tK (l := xk_189) rfl rfl (hIast hs rfl (by omega) (by omega)) ?_
  refine tK (l := xk_189) rfl rfl (fun _ _ _ _ _ => rfl) ?_
  refine tK (l := xk_189) rfl rfl (hGetR (o := some 161) (hShI1 _ hs rfl rfl) rfl rfl rfl (by decide) (by decide) rfl) ?_
  refine tK (l := xk_189) rfl rfl (fun _ _ _ _ _ => rfl) ?_
  refine tK (l := xk_189) rfl rfl (hGetI (hShI1 _ hs rfl rfl) rfl rfl rfl (by decide) (by decide)) ?_
  rw [v1]
  refine tK (l := xk_189) rfl rfl (fun _ _ _ _ _ => rfl) ?_
  first | refine tK (l := xk_189) rfl rfl (hIastN (hShI1 _ hs rfl rfl) rfl rfl (by omega)) ?_ | refine tK (l := xk_189) rfl rfl (hIast (hShI1 _ hs rfl rfl) rfl (by omega) (by omega)) ?_
  refine tK (l := xk_189) rfl rfl (fun _ _ _ _ _ => rfl) ?_
  refine tK (l := xk_189) rfl rfl (hGetR (o := some 162) (hShI1 _ (hShI1 _ hs rfl rfl) rfl rfl) rfl rfl rfl (by decide) (by decide) rfl) ?_
  refine tK (l := xk_189) rfl rfl (fun _ _ _ _ _ => rfl) ?_
  refine tK (l := xk_189) rfl rfl (hGetI (hShI1 _ (hShI1 _ hs rfl rfl) rfl rfl) rfl rfl rfl (by decide) (by decide)) ?_
  rw [v2]
  refine tK (l := xk_189) rfl rfl (fun _ _ _ _ _ => rfl) ?_
  first | refine tK (l := xk_189) rfl rfl (hIastN (hShI1 _ (hShI1 _ hs rfl rfl) rfl rfl) rfl rfl (by omega)) ?_ | refine tK (l := xk_189) rfl rfl (hIast (hShI1 _ (hShI1 _ hs rfl rfl) rfl rfl) rfl (by omega) (by omega)) ?_
  refine tK (l := xk_189) rfl rfl (fun _ _ _ _ _ => rfl) ?_
  refine tK (l := xk_189) rfl rfl (hGetR (o := some 163) (hShI1 _ (hShI1 _ (hShI1 _ hs rfl rfl) rfl rfl) rfl rfl) rfl rfl rfl (by decide) (by decide) rfl) ?_
  refine tK (l := xk_189) rfl rfl (fun _ _ _ _ _ => rfl) ?_
  refine tK (l := xk_189) rfl rfl (hGetI (hShI1 _ (hShI1 _ (hShI1 _ hs rfl rfl) rfl rfl) rfl rfl) rfl rfl rfl (by decide) (by decide)) ?_
  rw [v3]
  refine tK (l := xk_189) rfl rfl (fun _ _ _ _ _ => rfl) ?_
  first | refine tK (l := xk_189) rfl rfl (hIastN (hShI1 _ (hShI1 _ (hShI1 _ hs rfl rfl) rfl rfl) rfl rfl) rfl rfl (by omega)) ?_ | refine tK (l := xk_189) rfl rfl (hIast (hShI1 _ (hShI1 _ (hShI1 _ hs rfl rfl) rfl rfl) rfl rfl) rfl (by omega) (by omega)) ?_
  refine tK (l := xk_189) rfl rfl (fun _ _ _ _ _ => rfl) ?_
  refine tK (l := xk_189) rfl rfl (hGetR (o := some 164) (hShI1 _ (hShI1 _ (hShI1 _ (hShI1 _ hs rfl rfl) rfl rfl) rfl rfl) rfl rfl) rfl rfl rfl (by decide) (by decide) rfl) ?_
  refine tK (l := xk_189) rfl rfl (fun _ _ _ _ _ => rfl) ?_
  refine tK (l := xk_189) rfl rfl (hGetI (hShI1 _ (hShI1 _ (hShI1 _ (hShI1 _ hs rfl rfl) rfl rfl) rfl rfl) rfl rfl) rfl rfl rfl (by decide) (by decide)) ?_
  rw [v4]
  refine tK (l := xk_189) rfl rfl (fun _ _ _ _ _ => rfl) ?_
  first | refine tK (l := xk_189) rfl rfl (hIastN (hShI1 _ (hShI1 _ (hShI1 _ (hShI1 _ hs rfl rfl) rfl rfl) rfl rfl) rfl rfl) rfl rfl (by omega)) ?_ | refine tK (l := xk_189) rfl rfl (hIast (hShI1 _ (hShI1 _ (hShI1 _ (hShI1 _ hs rfl rfl) rfl rfl) rfl rfl) rfl rfl) rfl (by omega) (by omega)) ?_
  refine tK (l := xk_189) rfl rfl (fun _ _ _ _ _ => rfl) ?_
  refine tK (l := xk_189) rfl rfl (hGetR (o := some 165) (hShI1 _ (hShI1 _ (hShI1 _ (hShI1 _ (hShI1 _ hs rfl rfl) rfl rfl) rfl rfl) rfl rfl) rfl rfl) rfl rfl rfl (by decide) (by decide) rfl) ?_
  refine tK (l := xk_189) rfl rfl (fun _ _ _ _ _ => rfl) ?_
  refine tK (l := xk_189) rfl rfl (hGetI (hShI1 _ (hShI1 _ (hShI1 _ (hShI1 _ (hShI1 _ hs rfl rfl) rfl rfl) rfl rfl) rfl rfl) rfl rfl) rfl rfl rfl (by decide) (by decide)) ?_
  rw [v5]
  refine tK (l := xk_189) rfl rfl (fun _ _ _ _ _ => rfl) ?_
  first | refine tK (l := xk_189) rfl rfl (hIastN (hShI1 _ (hShI1 _ (hShI1 _ (hShI1 _ (hShI1 _ hs rfl rfl) rfl rfl) rfl rfl) rfl rfl) rfl rfl) rfl rfl (by omega)) ?_ | refine tK (l := xk_189) rfl rfl (hIast (hShI1 _ (hShI1 _ (hShI1 _ (hShI1 _ (hShI1 _ hs rfl rfl) rfl rfl) rfl rfl) rfl rfl) rfl rfl) rfl (by omega) (by omega)) ?_
  refine tK (l := xk_189) rfl rfl (fun _ _ _ _ _ => rfl) ?_
  refine tK (l := xk_189) rfl rfl (hGetR (o := some 166) (hShI1 _ (hShI1 _ (hShI1 _ (hShI1 _ (hShI1 _ (hShI1 _ hs rfl rfl) rfl rfl) rfl rfl) rfl rfl) rfl rfl) rfl rfl) rfl rfl rfl (by decide) (by decide) rfl) ?_
  refine tK (l := xk_189) rfl rfl (fun _ _ _ _ _ => rfl) ?_
  refine tK (l := xk_189) rfl rfl (hGetI (hShI1 _ (hShI1 _ (hShI1 _ (hShI1 _ (hShI1 _ (hShI1 _ hs rfl rfl) rfl rfl) rfl rfl) rfl rfl) rfl rfl) rfl rfl) rfl rfl rfl (by decide) (by decide)) ?_
  rw [v6]
  refine tK (l := xk_189) rfl rfl (fun _ _ _ _ _ => rfl) ?_
  first | refine tK (l := xk_189) rfl rfl (hIastN (hShI1 _ (hShI1 _ (hShI1 _ (hShI1 _ (hShI1 _ (hShI1 _ hs rfl rfl) rfl rfl) rfl rfl) rfl rfl) rfl rfl) rfl rfl) rfl rfl (by omega)) ?_ | refine tK (l := xk_189) rfl rfl (hIast (hShI1 _ (hShI1 _ (hShI1 _ (hShI1 _ (hShI1 _ (hShI1 _ hs rfl rfl) rfl rfl) rfl rfl) rfl rfl) rfl rfl) rfl rfl) rfl (by omega) (by omega)) ?_
  refine tK (l := xk_189) rfl rfl (fun _ _ _ _ _ => rfl) ?_
  refine tK (l := xk_189) rfl rfl (fun _ _ _ _ _ => rfl) ?_
  refine tK (l := xk_189) rfl rfl (hGetI (hShI1 _ (hShI1 _ (hShI1 _ (hShI1 _ (hShI1 _ (hShI1 _ (hShI1 _ hs rfl rfl) rfl rfl) rfl rfl) rfl rfl) rfl rfl) rfl rfl) rfl rfl) rfl rfl rfl (by decide) (by decide)) ?_
  rw [v7]
  refine tK (l := xk_189) rfl rfl (fun _ _ _ _ _ => rfl) ?_
  refine tK (l := xk_189) rfl rfl (hAdd ⟨by omega, by omega⟩) ?_
  refine tK (l := xk_189) rfl rfl (hPutV (hShI1 _ (hShI1 _ (hShI1 _ (hShI1 _ (hShI1 _ (hShI1 _ (hShI1 _ hs rfl rfl) rfl rfl) rfl rfl) rfl rfl) rfl rfl) rfl rfl) rfl rfl) rfl rfl (by decide) (by decide) rfl) ?_
  refine tRt (l := xk_189) rfl rfl (fun _ _ _ _ _ => rfl) ?_
  exact hQ _ u8 ((((((((hFM_a hs rfl (by omega) (by decide) (by decide)).trans (hFM_a u1 rfl (by omega) (by decide) (by decide))).trans (hFM_a u2 rfl (by omega) (by decide) (by decide))).trans (hFM_a u3 rfl (by omega) (by decide) (by decide))).trans (hFM_a u4 rfl (by omega) (by decide) (by decide))).trans (hFM_a u5 rfl (by omega) (by decide) (by decide))).trans (hFM_a u6 rfl (by omega) (by decide) (by decide))).trans (hFM_f u7 rfl (by decide) (by decide))) (fun b j => by rw [hRd_up u7 (a := 147) (k := 43) (x := ((m : Int) + 1)) rfl (by decide), hRd_up u6 (a := 166) (k := m) (x := 0) rfl (by omega), hRd_up u5 (a := 165) (k := m) (x := 0) rfl (by omega), hRd_up u4 (a := 164) (k := m) (x := nm) rfl (by omega), hRd_up u3 (a := 163) (k := m) (x := (nx : Int)) rfl (by omega), hRd_up u2 (a := 162) (k := m) (x := (nx : Int)) rfl (by omega), hRd_up u1 (a := 161) (k := m) (x := (fo : Int)) rfl (by omega), hRd_up hs (a := 160) (k := m) (x := sg) rfl (by omega)])
end MSC
