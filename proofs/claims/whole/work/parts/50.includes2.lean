/-! ===== the model: an included value, a loop ===== -/
section MIN
variable {d : Nat} {ph : xH} {zs : List xV} {g : Nat} {Q : xR → Prop} {fs : List Fm} {rs : RS}
theorem frO_4 {L : Nat} : frO (L + 1) = 60 + 24 * L := by
  unfold frO
  rw [if_neg (by omega)]
  omega
/-- what is open is pushed -/
theorem hMC.push {ph2 ph3 : xH} {f : Fm} {sg nm9 : Int} {m : Nat} {rs3 : RS} {S F : List Nat} (h : hMC zs ph fs rs) (hm : fs.length = m) (hl : fs.length ≤ 39)
    (rd : ∀ b j, hRd ph2 b j = if b = 147 ∧ j = 43 then (m : Int) + 1 else if b = 166 ∧ j = m then 0 else if b = 165 ∧ j = m then 0 else if b = 164 ∧ j = m then nm9 else if b = 163 ∧ j = m then (f.2.1 : Int) else if b = 162 ∧ j = m then (f.2.1 : Int) else if b = 161 ∧ j = m then (frO (cP fs).length : Int) else if b = 160 ∧ j = m then sg else hRd ph b j)
    (hr3 : hMN zs ph3 rs3) (hf3 : hFM F S ph2 ph3) (hF : ∀ k ∈ [9, 20, 22, 34, 43], k ∉ F) (hS : ∀ a ∈ [152, 158, 159, 160, 161, 163, 164, 165], a ∉ 147 :: S) (h66 : ∀ j, j < m → hRd ph3 166 j = hRd ph2 166 j) (h67 : ∀ j, j < 24 * m → hRd ph3 167 j = hRd ph2 167 j) (h62 : ∀ j, j ≤ m → hRd ph3 162 j = hRd ph2 162 j)
    (hk : f.1 ≠ 0) (hsg : sg = sgM f.1) (h7 : f.1 = 7 → nm9 = (f.2.2.2.1 : Int))
    (h5 : f.1 = 5 → f.2.2.1 = f.2.1 ∧ f.2.2.2.2.1 = 0 ∧ hRd ph3 166 m = (f.2.2.2.2.2.length : Int) ∧ f.2.2.2.2.2.length ≤ 24 ∧ ∀ (i : Nat) (c : Int), f.2.2.2.2.2[i]? = some c → hRd ph3 167 (24 * m + i) = c) (hl3 : rs3.1.length = nsc (f :: fs)) : hMC zs ph3 (f :: fs) rs3 := by
  obtain ⟨a1, a2, a3, a4, a5, a6, a7, a8⟩ := h
  subst hm
  have e2 : ∀ a j, a ≠ 147 → (a < 160 ∨ 166 < a ∨ j ≠ fs.length) → hRd ph2 a j = hRd ph a j := fun a j q1 q2 => by
    rw [rd, if_neg (by omega), if_neg (by omega), if_neg (by omega), if_neg (by omega), if_neg (by omega), if_neg (by omega), if_neg (by omega), if_neg (by omega)]
  have e2f : ∀ k, k ≠ 43 → hRd ph2 147 k = hRd ph 147 k := fun k q => by
    rw [rd, if_neg (by omega), if_neg (by omega), if_neg (by omega), if_neg (by omega), if_neg (by omega), if_neg (by omega), if_neg (by omega), if_neg (by omega)]
  refine ⟨hr3, List.cons_ne_nil _ _, ⟨a3.eq (fun a j q1 q2 q3 => ?_) (fun j hj => by rw [h67 j hj]; exact e2 _ _ (by decide) (by omega)) (fun j _ => by rw [hf3.at (hS _ (by decide))]; exact e2 _ _ (by decide) (by omega)) (by rw [hf3.fl (hF _ (by decide))]; exact e2f _ (by decide)) (fun j _ => by rw [hf3.at (hS _ (by decide))]; exact e2 _ _ (by decide) (by omega)), Or.inr a2, fun q => absurd q hk, ?_, ?_, ?_, fun q => ?_, fun q => ?_⟩, ?_, by simp only [List.length_cons]; omega, ?_, ⟨by rw [hf3.fl (hF _ (by decide)), e2f _ (by decide)]; exact a7.1, by rw [hf3.fl (hF _ (by decide)), e2f _ (by decide)]; exact a7.2⟩, hl3⟩
  · by_cases w : a = 162
    · rw [w, h62 j (by omega)]; exact e2 _ _ (by decide) (by omega)
    · by_cases w2 : a = 166
      · rw [w2, h66 j (by omega)]; exact e2 _ _ (by decide) (by omega)
      · rw [hf3.at (hS a (by simp only [List.mem_cons, List.not_mem_nil, or_false]; omega))]; exact e2 _ _ (by omega) (by omega)
  · rw [hf3.at (hS _ (by decide)), rd, if_neg (by omega), if_neg (by omega), if_neg (by omega), if_neg (by omega), if_neg (by omega), if_neg (by omega), if_neg (by omega), if_pos ⟨rfl, rfl⟩]; exact hsg
  · rw [hf3.at (hS _ (by decide)), rd, if_neg (by omega), if_neg (by omega), if_neg (by omega), if_neg (by omega), if_neg (by omega), if_neg (by omega), if_pos ⟨rfl, rfl⟩, cP_k hk]
  · rw [h62 _ (Nat.le_refl _), rd, if_neg (by omega), if_neg (by omega), if_neg (by omega), if_neg (by omega), if_neg (by omega), if_pos ⟨rfl, rfl⟩]
  · rw [hf3.at (hS _ (by decide)), rd, if_neg (by omega), if_neg (by omega), if_neg (by omega), if_pos ⟨rfl, rfl⟩]; exact h7 q
  · obtain ⟨c1, c2, c3, c4, c5⟩ := h5 q
    refine ⟨?_, ?_, c3, c4, by omega, c5⟩
    · rw [hf3.at (hS _ (by decide)), rd, if_neg (by omega), if_neg (by omega), if_neg (by omega), if_neg (by omega), if_pos ⟨rfl, rfl⟩, c1]
    · rw [hf3.at (hS _ (by decide)), rd, if_neg (by omega), if_neg (by omega), if_pos ⟨rfl, rfl⟩, c2]; rfl
  · rw [hf3.fl (hF _ (by decide)), rd, if_pos ⟨rfl, rfl⟩]; simp
  · rw [cP_k hk]
    exact ⟨by rw [hf3.fl (hF _ (by decide)), e2f _ (by decide)]; exact a6.1, a6.2.1, fun k x hx => by rw [hf3.at (hS _ (by decide)), e2 _ _ (by decide) (by omega)]; exact a6.2.2 k x hx⟩
theorem s199_4 {x nm a : Nat} {v : List Int} {D : Cf} (h : hMC zs ph (fsN fs (x + 4)) rs) (ha : a + 25 ≤ 16000) (hv : hMv ph 155 a (some v)) (hch : ∀ c ∈ v, 0 ≤ c ∧ c ≤ 65535) (hL : (cP fs).length = 4) (hD : D = FL fs rs 4 x) (hQ : ∀ ph2, TM zs ph2 D → hFM mF mA ph ph2 → Q (.inl none, ph2, g)) : xTC (d + 4) 199 [.inr (.inl (some 147)), .inl (a : Int), .inl (x : Int)] ph g Q := by
  obtain ⟨z1, z2, z3, z4, z5, z6, z7, z8⟩ := hSzM
  obtain ⟨y1, y2, y3, y4, y5, y6, y7, y8, y9⟩ := hSzO
  obtain ⟨a1, a2, a3, a4, a5, a6, a7, a8⟩ := id h
  have hs := a1.1
  obtain ⟨hv1, hv2⟩ := hv
  obtain ⟨hv24, hv2⟩ := hv2 v rfl
  have hv1 : hRd ph 155 a = (v.length : Int) := hv1
  rw [cP_fsN] at a6
  have e34 : hRd ph 147 34 = ((cP fs).length : Int) := by rw [a6.1, List.length_reverse]
  have hne : fs ≠ [] := by rintro rfl; exact a2 rfl
  refine tEn (ls := [some (.inr (.inl (some 147))), some (.inl (a : Int)), some (.inl (x : Int)), none, none, none]) (fun k => by match k with | 0 => rfl | 1 => rfl | 2 => rfl | 3 => rfl | 4 => rfl | 5 => rfl | k + 6 => rfl) ?_
  refine tK (l := xk_199) rfl rfl (fun _ _ _ _ _ => rfl) ?_
  refine tK (l := xk_199) rfl rfl (hGetR (o := some 155) hs rfl rfl rfl (by decide) (by decide) rfl) ?_
  refine tK (l := xk_199) rfl rfl (fun _ _ _ _ _ => rfl) ?_
  first | refine tK (l := xk_199) rfl rfl (hIaldN hs rfl rfl (by omega)) ?_ | refine tK (l := xk_199) rfl rfl (hIald hs rfl (by omega) (by omega)) ?_
  rw [hv1]
  refine tSt (l := xk_199) rfl rfl (fun _ _ _ _ _ => rfl) (Nat.le_of_ble_eq_true rfl) ?_
  refine tK (l := xk_199) rfl rfl (fun _ _ _ _ _ => rfl) ?_
  refine tK (l := xk_199) rfl rfl (fun _ _ _ _ _ => rfl) ?_
  refine tK (l := xk_199) rfl rfl (fun _ _ _ _ _ => rfl) ?_
  refine tK (l := xk_199) rfl rfl (hGetI hs rfl rfl rfl (by decide) (by decide)) ?_
  rw [e34]
  refine tK (l := xk_199) rfl rfl (hMul ⟨by omega, by omega⟩) ?_
  refine tK (l := xk_199) rfl rfl (hAdd ⟨by omega, by omega⟩) ?_
  rw [show (60 : Int) + 24 * ((cP fs).length : Int) = ((frO ((cP fs).length + 1) : Nat) : Int) by rw [frO_4]; omega]
  refine tSt (l := xk_199) rfl rfl (fun _ _ _ _ _ => rfl) (Nat.le_of_ble_eq_true rfl) ?_
  refine tK (l := xk_199) rfl rfl (fun _ _ _ _ _ => rfl) ?_
  refine tK (l := xk_199) rfl rfl (hGetI hs rfl rfl rfl (by decide) (by decide)) ?_
  rw [e34]
  refine tK (l := xk_199) rfl rfl (fun _ _ _ _ _ => rfl) ?_
  refine tIc_ne (l := xk_199) (pc' := 34) rfl rfl rfl (fun hc => ?_) (fun hc => ?_)
  · refine tK (l := xk_199) rfl rfl (fun _ _ _ _ _ => rfl) ?_
    refine tK (l := xk_199) rfl rfl (fun _ _ _ _ _ => rfl) ?_
    refine tK (l := xk_199) rfl rfl (fun _ _ _ _ _ => rfl) ?_
    refine tCa (l := xk_199) rfl rfl (hInvV (c := 10) hs rfl rfl rfl rfl rfl (Nat.le_of_ble_eq_true rfl) (Nat.le_of_ble_eq_true rfl)) ?_
    refine s194 (why := 4) (ip := (cP fs).reverse) hs a6 (fun ph2 hs2 f2 hx2 => ?_)
    refine tKn ?_
    refine tRt (l := xk_199) rfl rfl (fun _ _ _ _ _ => rfl) ?_
    subst hD
    exact hQ ph2 (TMf (a1.fr hs2 f2) hx2 rfl (by decide)) f2.big
  · exfalso; omega
theorem s199_5 {x nm a : Nat} {v : List Int} {D : Cf} (h : hMC zs ph (fsN fs (x + 4)) rs) (ha : a + 25 ≤ 16000) (hv : hMv ph 155 a (some v)) (hch : ∀ c ∈ v, 0 ≤ c ∧ c ≤ 65535) (hL : (cP fs).length < 4) (hw : pWh v = false) (hD : D = (fs, rs, 5, (cP fs).reverse ++ [x, (pRes v).1])) (hQ : ∀ ph2, TM zs ph2 D → hFM mF mA ph ph2 → Q (.inl none, ph2, g)) : xTC (d + 4) 199 [.inr (.inl (some 147)), .inl (a : Int), .inl (x : Int)] ph g Q := by
  obtain ⟨z1, z2, z3, z4, z5, z6, z7, z8⟩ := hSzM
  obtain ⟨y1, y2, y3, y4, y5, y6, y7, y8, y9⟩ := hSzO
  obtain ⟨a1, a2, a3, a4, a5, a6, a7, a8⟩ := id h
  have hs := a1.1
  obtain ⟨hv1, hv2⟩ := hv
  obtain ⟨hv24, hv2⟩ := hv2 v rfl
  have hv1 : hRd ph 155 a = (v.length : Int) := hv1
  rw [cP_fsN] at a6
  have e34 : hRd ph 147 34 = ((cP fs).length : Int) := by rw [a6.1, List.length_reverse]
  have hne : fs ≠ [] := by rintro rfl; exact a2 rfl
  have hfo : (frO ((cP fs).length + 1)) = 60 + 24 * (cP fs).length := frO_4
  have loop : ∀ (n i : Nat) (phi : xH), i + n = v.length → hSh zs phi → hFM [] [152] ph phi → (∀ j, j < (frO ((cP fs).length + 1)) → hRd phi 152 j = hRd ph 152 j) → (∀ (k : Nat) (c : Int), k < i → v[k]? = some c → hRd phi 152 ((frO ((cP fs).length + 1)) + k) = c) → xT (d + 4) 199 37 (xlo [some (.inr (.inl (some 147))), some (.inl (a : Int)), some (.inl (x : Int)), some (.inl (v.length : Int)), some (.inl ((frO ((cP fs).length + 1) : Nat) : Int)), some (.inl (i : Int))]) [] phi g Q := by
    intro n
    induction n with
    | zero =>
      intro i phi him hs hf hlow hnew
      have e34i : hRd phi 147 34 = ((cP fs).length : Int) := by rw [hf.fl (by decide)]; exact e34
      refine tK (l := xk_199) rfl rfl (fun _ _ _ _ _ => rfl) ?_
      refine tK (l := xk_199) rfl rfl (fun _ _ _ _ _ => rfl) ?_
      refine tIc_ge (l := xk_199) (pc' := 70) rfl rfl rfl (fun hc => ?_) (fun hc => ?_)
      · exfalso; omega
      · refine tK (l := xk_199) rfl rfl (fun _ _ _ _ _ => rfl) ?_
        refine tK (l := xk_199) rfl rfl (fun _ _ _ _ _ => rfl) ?_
        refine tK (l := xk_199) rfl rfl (fun _ _ _ _ _ => rfl) ?_
        refine tCa (l := xk_199) rfl rfl (hInvV (c := 10) hs rfl rfl rfl rfl rfl (Nat.le_of_ble_eq_true rfl) (Nat.le_of_ble_eq_true rfl)) ?_
        refine s152 (fo := (frO ((cP fs).length + 1))) (t := v) hs (fun k c hk => hnew k c (by have := (List.getElem?_eq_some_iff.mp hk).1; omega) hk) (by omega) (by omega) hch (fun ph1 hs1 f1 e17 hmr => ?_)
        refine tKv ?_
        rw [if_neg (by rw [hw]; decide)] at e17
        have fA : hFM [10, 11, 12, 13, 14, 15, 16, 17] [152] ph ph1 := (hf.mono (by decide) (by decide)).trans (f1.mono (by decide) (by decide))
        have n1 := a1.fr hs1 fA
        refine tSt (l := xk_199) rfl rfl (fun _ _ _ _ _ => rfl) (Nat.le_of_ble_eq_true rfl) ?_
        refine tK (l := xk_199) rfl rfl (fun _ _ _ _ _ => rfl) ?_
        refine tK (l := xk_199) rfl rfl (hGetI hs1 rfl rfl rfl (by decide) (by decide)) ?_
        rw [e17]
        refine tIf_ne (l := xk_199) (pc' := 114) rfl rfl rfl (fun hc => ?_) (fun hc => ?_)
        · refine tK (l := xk_199) rfl rfl (fun _ _ _ _ _ => rfl) ?_
          refine tK (l := xk_199) rfl rfl (fun _ _ _ _ _ => rfl) ?_
          refine tK (l := xk_199) rfl rfl (fun _ _ _ _ _ => rfl) ?_
          refine tCa (l := xk_199) rfl rfl (hInvV (c := 10) hs1 rfl rfl rfl rfl rfl (Nat.le_of_ble_eq_true rfl) (Nat.le_of_ble_eq_true rfl)) ?_
          refine s194 (why := 5) (ip := (cP fs).reverse) hs1 (a6.fr fA) (fun ph2 hs2 f2 hx2 => ?_)
          refine tKn ?_
          have e22 : hRd ph2 147 22 = (((cP fs).length + 1 : Nat) : Int) := by rw [hx2.2.1]; simp
          have s3 : hSh zs (hUp ph2 154 ((cP fs).length + 1) ((pRes v).1 : Int)) := hShI1 _ hs2 rfl rfl
          have rd3 := hRd_up (x := ((pRes v).1 : Int)) hs2 (show hKi (hTg 154) ((cP fs).length + 1) = true from rfl) (by omega)
          have e22b : hRd (hUp ph2 154 ((cP fs).length + 1) ((pRes v).1 : Int)) 147 22 = (((cP fs).length + 1 : Nat) : Int) := by rw [rd3, if_neg (by omega)]; exact e22
          refine tK (l := xk_199) rfl rfl (fun _ _ _ _ _ => rfl) ?_
          refine tK (l := xk_199) rfl rfl (hGetR (o := some 154) hs2 rfl rfl rfl (by decide) (by decide) rfl) ?_
          refine tK (l := xk_199) rfl rfl (fun _ _ _ _ _ => rfl) ?_
          refine tK (l := xk_199) rfl rfl (hGetI hs2 rfl rfl rfl (by decide) (by decide)) ?_
          rw [e22]
          refine tK (l := xk_199) rfl rfl (fun _ _ _ _ _ => rfl) ?_
          first | refine tK (l := xk_199) rfl rfl (hIastN hs2 rfl rfl (by omega)) ?_ | refine tK (l := xk_199) rfl rfl (hIast hs2 rfl (by omega) (by omega)) ?_
          refine tK (l := xk_199) rfl rfl (fun _ _ _ _ _ => rfl) ?_
          refine tK (l := xk_199) rfl rfl (fun _ _ _ _ _ => rfl) ?_
          refine tK (l := xk_199) rfl rfl (hGetI (hShI1 _ hs2 rfl rfl) rfl rfl rfl (by decide) (by decide)) ?_
          rw [e22b]
          refine tK (l := xk_199) rfl rfl (fun _ _ _ _ _ => rfl) ?_
          refine tK (l := xk_199) rfl rfl (hAdd ⟨by omega, by omega⟩) ?_
          refine tK (l := xk_199) rfl rfl (hPutV (hShI1 _ hs2 rfl rfl) rfl rfl (by decide) (by decide) rfl) ?_
          refine tRt (l := xk_199) rfl rfl (fun _ _ _ _ _ => rfl) ?_
          subst hD
          have rd4 := hRd_up (x := (((cP fs).length + 1 : Nat) : Int) + 1) s3 (show hKi (hTg 147) 22 = true from rfl) (by decide)
          have f4 : hFM [20, 22] [154] ph2 (hUp (hUp ph2 154 ((cP fs).length + 1) ((pRes v).1 : Int)) 147 22 ((((cP fs).length + 1 : Nat) : Int) + 1)) := (hFM_a hs2 rfl (by omega) (by decide) (by decide)).trans (hFM_f s3 rfl (by decide) (by decide))
          refine hQ _ (TMf (pls := (cP fs).reverse ++ [x, (pRes v).1]) ((n1.fr hs2 f2).fr (hShI1 _ (hShI1 _ hs2 rfl rfl) rfl rfl) f4) ⟨?_, ?_, fun k y hy => ?_⟩ rfl (by decide)) (fA.big.trans (f2.big.trans f4.big))
          · rw [rd4, if_neg (by decide), rd3, if_neg (by omega)]; exact hx2.1
          · rw [rd4, if_pos ⟨rfl, rfl⟩]; simp; omega
          · rw [rd4, if_neg (by omega), rd3]
            by_cases hk : k < (cP fs).length + 1
            · rw [if_neg (by omega)]
              have e9 : (cP fs).reverse ++ [x, (pRes v).1] = ((cP fs).reverse ++ [x]) ++ [(pRes v).1] := by simp
              rw [e9, List.getElem?_append_left (l₁ := (cP fs).reverse ++ [x]) (by simp only [List.length_append, List.length_reverse, List.length_cons, List.length_nil]; omega)] at hy
              exact hx2.2.2 k y hy
            · have hk9 := (List.getElem?_eq_some_iff.mp hy).1
              simp only [List.length_append, List.length_reverse, List.length_cons, List.length_nil] at hk9
              have ek : k = (cP fs).length + 1 := by omega
              subst ek
              rw [show (cP fs).reverse ++ [x, (pRes v).1] = ((cP fs).reverse ++ [x]) ++ [(pRes v).1] by simp, List.getElem?_append_right (by simp)] at hy
              simp at hy
              rw [if_pos ⟨rfl, rfl⟩, hy]
        · exact absurd rfl hc
    | succ n ih =>
      intro i phi him hs hf hlow hnew
      obtain ⟨c, hc9⟩ : ∃ c, v[i]? = some c := ⟨_, List.getElem?_eq_getElem (by omega)⟩
      have e55 : hRd phi 155 (a + 1 + i) = c := by rw [hf.at (by decide)]; exact hv2 i c hc9
      refine tK (l := xk_199) rfl rfl (fun _ _ _ _ _ => rfl) ?_
      refine tK (l := xk_199) rfl rfl (fun _ _ _ _ _ => rfl) ?_
      refine tIc_ge (l := xk_199) (pc' := 70) rfl rfl rfl (fun hc => ?_) (fun hc => ?_)
      · refine tK (l := xk_199) rfl rfl (fun _ _ _ _ _ => rfl) ?_
        refine tK (l := xk_199) rfl rfl (hGetR (o := some 152) hs rfl rfl rfl (by decide) (by decide) rfl) ?_
        refine tK (l := xk_199) rfl rfl (fun _ _ _ _ _ => rfl) ?_
        refine tK (l := xk_199) rfl rfl (fun _ _ _ _ _ => rfl) ?_
        refine tK (l := xk_199) rfl rfl (hAdd ⟨by omega, by omega⟩) ?_
        rw [show (((frO ((cP fs).length + 1)) : Nat) : Int) + (i : Int) = (((frO ((cP fs).length + 1)) + i : Nat) : Int) by omega]
        refine tK (l := xk_199) rfl rfl (fun _ _ _ _ _ => rfl) ?_
        refine tK (l := xk_199) rfl rfl (hGetR (o := some 155) hs rfl rfl rfl (by decide) (by decide) rfl) ?_
        refine tK (l := xk_199) rfl rfl (fun _ _ _ _ _ => rfl) ?_
        refine tK (l := xk_199) rfl rfl (fun _ _ _ _ _ => rfl) ?_
        refine tK (l := xk_199) rfl rfl (hAdd ⟨by omega, by omega⟩) ?_
        rw [show (a : Int) + 1 = ((a + 1 : Nat) : Int) by omega]
        refine tK (l := xk_199) rfl rfl (fun _ _ _ _ _ => rfl) ?_
        refine tK (l := xk_199) rfl rfl (hAdd ⟨by omega, by omega⟩) ?_
        rw [show ((a + 1 : Nat) : Int) + (i : Int) = ((a + 1 + i : Nat) : Int) by omega]
        first | refine tK (l := xk_199) rfl rfl (hIaldN hs rfl rfl (by omega)) ?_ | refine tK (l := xk_199) rfl rfl (hIald hs rfl (by omega) (by omega)) ?_
        rw [e55]
        first | refine tK (l := xk_199) rfl rfl (hIastN hs rfl rfl (by omega)) ?_ | refine tK (l := xk_199) rfl rfl (hIast hs rfl (by omega) (by omega)) ?_
        refine tSt (l := xk_199) rfl rfl (hIinc rfl (Nat.le_of_ble_eq_true rfl) ⟨by omega, by omega⟩) (Nat.le_of_ble_eq_true rfl) ?_
        refine tK (l := xk_199) rfl rfl (fun _ _ _ _ _ => rfl) ?_
        have rd := hRd_up (x := c) hs (show hKi (hTg 152) ((frO ((cP fs).length + 1)) + i) = true from rfl) (by omega)
        refine ih (i + 1) _ (by omega) (hShI1 _ hs rfl rfl) (hf.trans (hFM_a hs rfl (by omega) (by decide) (by decide))) (fun j hj => by rw [rd, if_neg (by omega)]; exact hlow j hj) (fun k c2 hk hc2 => ?_)
        rw [rd]
        by_cases e : k = i
        · rw [if_pos ⟨rfl, by rw [e]⟩]; subst e; rw [hc9] at hc2; exact Option.some.inj hc2
        · rw [if_neg (by omega)]; exact hnew k c2 (by omega) hc2
      · exfalso; omega
  refine tEn (ls := [some (.inr (.inl (some 147))), some (.inl (a : Int)), some (.inl (x : Int)), none, none, none]) (fun k => by match k with | 0 => rfl | 1 => rfl | 2 => rfl | 3 => rfl | 4 => rfl | 5 => rfl | k + 6 => rfl) ?_
  refine tK (l := xk_199) rfl rfl (fun _ _ _ _ _ => rfl) ?_
  refine tK (l := xk_199) rfl rfl (hGetR (o := some 155) hs rfl rfl rfl (by decide) (by decide) rfl) ?_
  refine tK (l := xk_199) rfl rfl (fun _ _ _ _ _ => rfl) ?_
  first | refine tK (l := xk_199) rfl rfl (hIaldN hs rfl rfl (by omega)) ?_ | refine tK (l := xk_199) rfl rfl (hIald hs rfl (by omega) (by omega)) ?_
  rw [hv1]
  refine tSt (l := xk_199) rfl rfl (fun _ _ _ _ _ => rfl) (Nat.le_of_ble_eq_true rfl) ?_
  refine tK (l := xk_199) rfl rfl (fun _ _ _ _ _ => rfl) ?_
  refine tK (l := xk_199) rfl rfl (fun _ _ _ _ _ => rfl) ?_
  refine tK (l := xk_199) rfl rfl (fun _ _ _ _ _ => rfl) ?_
  refine tK (l := xk_199) rfl rfl (hGetI hs rfl rfl rfl (by decide) (by decide)) ?_
  rw [e34]
  refine tK (l := xk_199) rfl rfl (hMul ⟨by omega, by omega⟩) ?_
  refine tK (l := xk_199) rfl rfl (hAdd ⟨by omega, by omega⟩) ?_
  rw [show (60 : Int) + 24 * ((cP fs).length : Int) = ((frO ((cP fs).length + 1) : Nat) : Int) by rw [frO_4]; omega]
  refine tSt (l := xk_199) rfl rfl (fun _ _ _ _ _ => rfl) (Nat.le_of_ble_eq_true rfl) ?_
  refine tK (l := xk_199) rfl rfl (fun _ _ _ _ _ => rfl) ?_
  refine tK (l := xk_199) rfl rfl (hGetI hs rfl rfl rfl (by decide) (by decide)) ?_
  rw [e34]
  refine tK (l := xk_199) rfl rfl (fun _ _ _ _ _ => rfl) ?_
  refine tIc_ne (l := xk_199) (pc' := 34) rfl rfl rfl (fun hc => ?_) (fun hc => ?_)
  · exfalso; omega
  · refine tK (l := xk_199) rfl rfl (fun _ _ _ _ _ => rfl) ?_
    refine tSt (l := xk_199) rfl rfl (fun _ _ _ _ _ => rfl) (Nat.le_of_ble_eq_true rfl) ?_
    exact loop v.length 0 ph (by omega) hs hFM.refl (fun _ _ => rfl) (fun k c hk => absurd hk (by omega))
theorem s199_6 {x nm a : Nat} {v : List Int} {D : Cf} (h : hMC zs ph (fsN fs (x + 4)) rs) (ha : a + 25 ≤ 16000) (hv : hMv ph 155 a (some v)) (hch : ∀ c ∈ v, 0 ≤ c ∧ c ≤ 65535) (hL : (cP fs).length < 4) (hw : pWh v = true) (hfl : fs.length ≤ 39) (hsc : rs.1.length ≤ 40) (hD : D = RU ((0, 0, x, nm, 0, v) :: fsN fs (x + 4)) (spS rs (fun _ => none))) (hQ : ∀ ph2, TM zs ph2 D → hFM mF mA ph ph2 → Q (.inl none, ph2, g)) : xTC (d + 4) 199 [.inr (.inl (some 147)), .inl (a : Int), .inl (x : Int)] ph g Q := by
  obtain ⟨z1, z2, z3, z4, z5, z6, z7, z8⟩ := hSzM
  obtain ⟨y1, y2, y3, y4, y5, y6, y7, y8, y9⟩ := hSzO
  obtain ⟨a1, a2, a3, a4, a5, a6, a7, a8⟩ := id h
  have hs := a1.1
  obtain ⟨hv1, hv2⟩ := hv
  obtain ⟨hv24, hv2⟩ := hv2 v rfl
  have hv1 : hRd ph 155 a = (v.length : Int) := hv1
  rw [cP_fsN] at a6
  have e34 : hRd ph 147 34 = ((cP fs).length : Int) := by rw [a6.1, List.length_reverse]
  have hne : fs ≠ [] := by rintro rfl; exact a2 rfl
  have hfo : (frO ((cP fs).length + 1)) = 60 + 24 * (cP fs).length := frO_4
  have loop : ∀ (n i : Nat) (phi : xH), i + n = v.length → hSh zs phi → hFM [] [152] ph phi → (∀ j, j < (frO ((cP fs).length + 1)) → hRd phi 152 j = hRd ph 152 j) → (∀ (k : Nat) (c : Int), k < i → v[k]? = some c → hRd phi 152 ((frO ((cP fs).length + 1)) + k) = c) → xT (d + 4) 199 37 (xlo [some (.inr (.inl (some 147))), some (.inl (a : Int)), some (.inl (x : Int)), some (.inl (v.length : Int)), some (.inl ((frO ((cP fs).length + 1) : Nat) : Int)), some (.inl (i : Int))]) [] phi g Q := by
    intro n
    induction n with
    | zero =>
      intro i phi him hs hf hlow hnew
      have e34i : hRd phi 147 34 = ((cP fs).length : Int) := by rw [hf.fl (by decide)]; exact e34
      refine tK (l := xk_199) rfl rfl (fun _ _ _ _ _ => rfl) ?_
      refine tK (l := xk_199) rfl rfl (fun _ _ _ _ _ => rfl) ?_
      refine tIc_ge (l := xk_199) (pc' := 70) rfl rfl rfl (fun hc => ?_) (fun hc => ?_)
      · exfalso; omega
      · refine tK (l := xk_199) rfl rfl (fun _ _ _ _ _ => rfl) ?_
        refine tK (l := xk_199) rfl rfl (fun _ _ _ _ _ => rfl) ?_
        refine tK (l := xk_199) rfl rfl (fun _ _ _ _ _ => rfl) ?_
        refine tCa (l := xk_199) rfl rfl (hInvV (c := 10) hs rfl rfl rfl rfl rfl (Nat.le_of_ble_eq_true rfl) (Nat.le_of_ble_eq_true rfl)) ?_
        refine s152 (fo := (frO ((cP fs).length + 1))) (t := v) hs (fun k c hk => hnew k c (by have := (List.getElem?_eq_some_iff.mp hk).1; omega) hk) (by omega) (by omega) hch (fun ph1 hs1 f1 e17 hmr => ?_)
        refine tKv ?_
        rw [if_pos hw] at e17
        have fA : hFM [10, 11, 12, 13, 14, 15, 16, 17] [152] ph ph1 := (hf.mono (by decide) (by decide)).trans (f1.mono (by decide) (by decide))
        have n1 := a1.fr hs1 fA
        refine tSt (l := xk_199) rfl rfl (fun _ _ _ _ _ => rfl) (Nat.le_of_ble_eq_true rfl) ?_
        refine tK (l := xk_199) rfl rfl (fun _ _ _ _ _ => rfl) ?_
        refine tK (l := xk_199) rfl rfl (hGetI hs1 rfl rfl rfl (by decide) (by decide)) ?_
        rw [e17]
        refine tIf_ne (l := xk_199) (pc' := 114) rfl rfl rfl (fun hc => ?_) (fun hc => ?_)
        · exact absurd hc (by decide)
        · have e341 : hRd ph1 147 34 = ((cP fs).length : Int) := by rw [fA.fl (by decide)]; exact e34
          have s2 : hSh zs (hUp ph1 158 (cP fs).length (x : Int)) := hShI1 _ hs1 rfl rfl
          have rd2 := hRd_up (x := (x : Int)) hs1 (show hKi (hTg 158) (cP fs).length = true from rfl) (by omega)
          have e342 : hRd (hUp ph1 158 (cP fs).length (x : Int)) 147 34 = ((cP fs).length : Int) := by rw [rd2, if_neg (by omega)]; exact e341
          have s3 : hSh zs (hUp (hUp ph1 158 (cP fs).length (x : Int)) 159 (cP fs).length (v.length : Int)) := hShI1 _ s2 rfl rfl
          have rd3 := hRd_up (x := (v.length : Int)) s2 (show hKi (hTg 159) (cP fs).length = true from rfl) (by omega)
          have e343 : hRd (hUp (hUp ph1 158 (cP fs).length (x : Int)) 159 (cP fs).length (v.length : Int)) 147 34 = ((cP fs).length : Int) := by rw [rd3, if_neg (by omega)]; exact e342
          have s4 : hSh zs (hUp (hUp (hUp ph1 158 (cP fs).length (x : Int)) 159 (cP fs).length (v.length : Int)) 147 34 (((cP fs).length : Int) + 1)) := hShI1 _ s3 rfl rfl
          have rd4 := hRd_up (x := ((cP fs).length : Int) + 1) s3 (show hKi (hTg 147) 34 = true from rfl) (by decide)
          have fB : hFM [10, 11, 12, 13, 14, 15, 16, 17, 34] [152, 158, 159] ph (hUp (hUp (hUp ph1 158 (cP fs).length (x : Int)) 159 (cP fs).length (v.length : Int)) 147 34 (((cP fs).length : Int) + 1)) := (((fA.mono (by decide) (by decide)).trans (hFM_a hs1 rfl (by omega) (by decide) (by decide))).trans (hFM_a s2 rfl (by omega) (by decide) (by decide))).trans (hFM_f s3 rfl (by decide) (by decide))
          have n4 : hMN zs (hUp (hUp (hUp ph1 158 (cP fs).length (x : Int)) 159 (cP fs).length (v.length : Int)) 147 34 (((cP fs).length : Int) + 1)) (rs.1, rs.2) := a1.fr s4 fB
          refine tK (l := xk_199) rfl rfl (fun _ _ _ _ _ => rfl) ?_
          refine tK (l := xk_199) rfl rfl (hGetR (o := some 158) hs1 rfl rfl rfl (by decide) (by decide) rfl) ?_
          refine tK (l := xk_199) rfl rfl (fun _ _ _ _ _ => rfl) ?_
          refine tK (l := xk_199) rfl rfl (hGetI hs1 rfl rfl rfl (by decide) (by decide)) ?_
          rw [e341]
          refine tK (l := xk_199) rfl rfl (fun _ _ _ _ _ => rfl) ?_
          first | refine tK (l := xk_199) rfl rfl (hIastN hs1 rfl rfl (by omega)) ?_ | refine tK (l := xk_199) rfl rfl (hIast hs1 rfl (by omega) (by omega)) ?_
          refine tK (l := xk_199) rfl rfl (fun _ _ _ _ _ => rfl) ?_
          refine tK (l := xk_199) rfl rfl (hGetR (o := some 159) (hShI1 _ hs1 rfl rfl) rfl rfl rfl (by decide) (by decide) rfl) ?_
          refine tK (l := xk_199) rfl rfl (fun _ _ _ _ _ => rfl) ?_
          refine tK (l := xk_199) rfl rfl (hGetI (hShI1 _ hs1 rfl rfl) rfl rfl rfl (by decide) (by decide)) ?_
          rw [e342]
          refine tK (l := xk_199) rfl rfl (fun _ _ _ _ _ => rfl) ?_
          first | refine tK (l := xk_199) rfl rfl (hIastN (hShI1 _ hs1 rfl rfl) rfl rfl (by omega)) ?_ | refine tK (l := xk_199) rfl rfl (hIast (hShI1 _ hs1 rfl rfl) rfl (by omega) (by omega)) ?_
          refine tK (l := xk_199) rfl rfl (fun _ _ _ _ _ => rfl) ?_
          refine tK (l := xk_199) rfl rfl (fun _ _ _ _ _ => rfl) ?_
          refine tK (l := xk_199) rfl rfl (hGetI (hShI1 _ (hShI1 _ hs1 rfl rfl) rfl rfl) rfl rfl rfl (by decide) (by decide)) ?_
          rw [e343]
          refine tK (l := xk_199) rfl rfl (fun _ _ _ _ _ => rfl) ?_
          refine tK (l := xk_199) rfl rfl (hAdd ⟨by omega, by omega⟩) ?_
          refine tK (l := xk_199) rfl rfl (hPutV (hShI1 _ (hShI1 _ hs1 rfl rfl) rfl rfl) rfl rfl (by decide) (by decide) rfl) ?_
          refine tK (l := xk_199) rfl rfl (fun _ _ _ _ _ => rfl) ?_
          refine tCa (l := xk_199) rfl rfl (hInvV (c := 10) (hShI1 _ (hShI1 _ (hShI1 _ hs1 rfl rfl) rfl rfl) rfl rfl) rfl rfl rfl rfl rfl (Nat.le_of_ble_eq_true rfl) (Nat.le_of_ble_eq_true rfl)) ?_
          refine s187 (sc := rs.1) (r2 := rs.2) n4 hsc (fun ph5 r5 f5 l5 => ?_)
          refine tKn ?_
          have e43 : hRd ph5 147 43 = (((fsN fs (x + 4)).length : Nat) : Int) := by rw [f5.fl (by decide), fB.fl (by decide)]; exact a4
          refine tK (l := xk_199) rfl rfl (fun _ _ _ _ _ => rfl) ?_
          refine tK (l := xk_199) rfl rfl (fun _ _ _ _ _ => rfl) ?_
          refine tK (l := xk_199) rfl rfl (fun _ _ _ _ _ => rfl) ?_
          refine tK (l := xk_199) rfl rfl (fun _ _ _ _ _ => rfl) ?_
          refine tK (l := xk_199) rfl rfl (fun _ _ _ _ _ => rfl) ?_
          refine tCa (l := xk_199) rfl rfl (hInvV (c := 10) r5.1 rfl rfl rfl rfl rfl (Nat.le_of_ble_eq_true rfl) (Nat.le_of_ble_eq_true rfl)) ?_
          refine s189 (m := (fsN fs (x + 4)).length) (fo := (frO ((cP fs).length + 1))) (nx := 0) r5.1 e43 (by rw [fsN_len]; omega) (fun ph6 hs6 f6 rd6 => ?_)
          refine tKn ?_
          refine tRt (l := xk_199) rfl rfl (fun _ _ _ _ _ => rfl) ?_
          subst hD
          have f56 : hFM [28, 43] [155, 160, 161, 162, 163, 164, 165, 166] (hUp (hUp (hUp ph1 158 (cP fs).length (x : Int)) 159 (cP fs).length (v.length : Int)) 147 34 (((cP fs).length : Int) + 1)) ph6 := (f5.mono (by decide) (by decide)).trans (f6.mono (by decide) (by decide))
          have fC : hFM [10, 11, 12, 13, 14, 15, 16, 17, 28, 34, 43] [152, 155, 158, 159, 160, 161, 162, 163, 164, 165, 166] ph ph6 := (fB.mono (by decide) (by decide)).trans (f56.mono (by decide) (by decide))
          have ecp : cP ((0, 0, x, nm, 0, v) :: fsN fs (x + 4)) = x :: cP fs := by simp only [cP]; rw [if_pos ⟨trivial, a2⟩, cP_fsN]
          have e52 : ∀ j, hRd ph6 152 j = hRd phi 152 j := fun j => by rw [f56.at (by decide), rd4, if_neg (by omega), rd3, if_neg (by omega), rd2, if_neg (by omega), f1.at (by decide)]
          have e59 : ∀ j, hRd ph6 159 j = if j = (cP fs).length then (v.length : Int) else hRd ph 159 j := fun j => by rw [f56.at (by decide), rd4, if_neg (by omega), rd3]; by_cases ej : j = (cP fs).length; rw [if_pos ⟨rfl, ej⟩, if_pos ej]; rw [if_neg (fun q => ej q.2), if_neg ej, rd2, if_neg (by omega), fA.at (by decide)]
          have e58 : ∀ j, hRd ph6 158 j = if j = (cP fs).length then (x : Int) else hRd ph 158 j := fun j => by rw [f56.at (by decide), rd4, if_neg (by omega), rd3, if_neg (by omega), rd2]; by_cases ej : j = (cP fs).length; rw [if_pos ⟨rfl, ej⟩, if_pos ej]; rw [if_neg (fun q => ej q.2), if_neg ej, fA.at (by decide)]
          have eO : ∀ b j, 160 ≤ b → b ≤ 166 → j < (fsN fs (x + 4)).length → hRd ph6 b j = hRd ph b j := fun b j q1 q2 q3 => by rw [rd6, if_neg (by omega), if_neg (by omega), if_neg (by omega), if_neg (by omega), if_neg (by omega), if_neg (by omega), if_neg (by omega), if_neg (by omega), f5.at (by simp only [List.mem_cons, List.not_mem_nil, or_false]; omega), fB.at (by simp only [List.mem_cons, List.not_mem_nil, or_false]; omega)]
          have t6 : ∀ k9, k9 < (cP fs).length + 1 → k9 ≠ (cP fs).length → k9 < (cP fs).length := fun k9 _ _ => by omega
          refine hQ ph6 (TMr (fs2 := (0, 0, x, nm, 0, v) :: fsN fs (x + 4)) (rs2 := spS rs (fun _ => none)) ⟨r5.fr hs6 f6, List.cons_ne_nil _ _, ⟨a3.eq eO (fun j _ => fC.at (by decide) j) (fun j hj => ?_) (fC.fl (by decide)) (fun j hj => ?_), Or.inl rfl, fun _ => ?_, ?_, ?_, ?_, fun q => absurd q (by simp), fun q => absurd q (by simp)⟩, ?_, by simp only [List.length_cons, fsN_len]; omega, ?_, a7.fr fC, ?_⟩ rfl) fC.big
          · rw [e52]; rw [cP_fsN] at hj; exact hlow j hj
          · rw [cP_fsN] at hj; rw [e59, if_neg (by omega)]
          · rw [ecp]; exact ⟨fun k c hk => by rw [e52]; exact hnew k c (by have := (List.getElem?_eq_some_iff.mp hk).1; simp only at this; omega) hk, fun q => by simp at q, fun _ => ⟨by rw [e59]; simp, hv24⟩⟩
          · rw [rd6, if_neg (by omega), if_neg (by omega), if_neg (by omega), if_neg (by omega), if_neg (by omega), if_neg (by omega), if_neg (by omega), if_pos ⟨rfl, rfl⟩]; rfl
          · rw [rd6, if_neg (by omega), if_neg (by omega), if_neg (by omega), if_neg (by omega), if_neg (by omega), if_neg (by omega), if_pos ⟨rfl, rfl⟩, ecp]; rfl
          · rw [rd6, if_neg (by omega), if_neg (by omega), if_neg (by omega), if_neg (by omega), if_neg (by omega), if_pos ⟨rfl, rfl⟩]
          · rw [rd6, if_pos ⟨rfl, rfl⟩]; simp
          · rw [ecp]; refine ⟨?_, by simp; omega, fun k y hy => ?_⟩
            · rw [f56.fl (by decide), rd4, if_pos ⟨rfl, rfl⟩]; simp
            · rw [List.reverse_cons] at hy
              rw [e58]
              by_cases hk : k < (cP fs).length
              · rw [List.getElem?_append_left (by rw [List.length_reverse]; exact hk)] at hy
                rw [if_neg (by omega)]
                exact a6.2.2 k y hy
              · have hk9 := (List.getElem?_eq_some_iff.mp hy).1
                simp only [List.length_append, List.length_reverse, List.length_cons, List.length_nil] at hk9
                rw [List.getElem?_append_right (by rw [List.length_reverse]; omega), List.length_reverse, show k - (cP fs).length = 0 by omega] at hy
                simp only [List.getElem?_cons_zero, Option.some.injEq] at hy
                rw [if_pos (by omega), hy]
          · rw [nsc_s (Or.inl rfl)]; simp only [spS, List.length_cons]; omega
    | succ n ih =>
      intro i phi him hs hf hlow hnew
      obtain ⟨c, hc9⟩ : ∃ c, v[i]? = some c := ⟨_, List.getElem?_eq_getElem (by omega)⟩
      have e55 : hRd phi 155 (a + 1 + i) = c := by rw [hf.at (by decide)]; exact hv2 i c hc9
      refine tK (l := xk_199) rfl rfl (fun _ _ _ _ _ => rfl) ?_
      refine tK (l := xk_199) rfl rfl (fun _ _ _ _ _ => rfl) ?_
      refine tIc_ge (l := xk_199) (pc' := 70) rfl rfl rfl (fun hc => ?_) (fun hc => ?_)
      · refine tK (l := xk_199) rfl rfl (fun _ _ _ _ _ => rfl) ?_
        refine tK (l := xk_199) rfl rfl (hGetR (o := some 152) hs rfl rfl rfl (by decide) (by decide) rfl) ?_
        refine tK (l := xk_199) rfl rfl (fun _ _ _ _ _ => rfl) ?_
        refine tK (l := xk_199) rfl rfl (fun _ _ _ _ _ => rfl) ?_
        refine tK (l := xk_199) rfl rfl (hAdd ⟨by omega, by omega⟩) ?_
        rw [show (((frO ((cP fs).length + 1)) : Nat) : Int) + (i : Int) = (((frO ((cP fs).length + 1)) + i : Nat) : Int) by omega]
        refine tK (l := xk_199) rfl rfl (fun _ _ _ _ _ => rfl) ?_
        refine tK (l := xk_199) rfl rfl (hGetR (o := some 155) hs rfl rfl rfl (by decide) (by decide) rfl) ?_
        refine tK (l := xk_199) rfl rfl (fun _ _ _ _ _ => rfl) ?_
        refine tK (l := xk_199) rfl rfl (fun _ _ _ _ _ => rfl) ?_
        refine tK (l := xk_199) rfl rfl (hAdd ⟨by omega, by omega⟩) ?_
        rw [show (a : Int) + 1 = ((a + 1 : Nat) : Int) by omega]
        refine tK (l := xk_199) rfl rfl (fun _ _ _ _ _ => rfl) ?_
        refine tK (l := xk_199) rfl rfl (hAdd ⟨by omega, by omega⟩) ?_
        rw [show ((a + 1 : Nat) : Int) + (i : Int) = ((a + 1 + i : Nat) : Int) by omega]
        first | refine tK (l := xk_199) rfl rfl (hIaldN hs rfl rfl (by omega)) ?_ | refine tK (l := xk_199) rfl rfl (hIald hs rfl (by omega) (by omega)) ?_
        rw [e55]
        first | refine tK (l := xk_199) rfl rfl (hIastN hs rfl rfl (by omega)) ?_ | refine tK (l := xk_199) rfl rfl (hIast hs rfl (by omega) (by omega)) ?_
        refine tSt (l := xk_199) rfl rfl (hIinc rfl (Nat.le_of_ble_eq_true rfl) ⟨by omega, by omega⟩) (Nat.le_of_ble_eq_true rfl) ?_
        refine tK (l := xk_199) rfl rfl (fun _ _ _ _ _ => rfl) ?_
        have rd := hRd_up (x := c) hs (show hKi (hTg 152) ((frO ((cP fs).length + 1)) + i) = true from rfl) (by omega)
        refine ih (i + 1) _ (by omega) (hShI1 _ hs rfl rfl) (hf.trans (hFM_a hs rfl (by omega) (by decide) (by decide))) (fun j hj => by rw [rd, if_neg (by omega)]; exact hlow j hj) (fun k c2 hk hc2 => ?_)
        rw [rd]
        by_cases e : k = i
        · rw [if_pos ⟨rfl, by rw [e]⟩]; subst e; rw [hc9] at hc2; exact Option.some.inj hc2
        · rw [if_neg (by omega)]; exact hnew k c2 (by omega) hc2
      · exfalso; omega
  refine tEn (ls := [some (.inr (.inl (some 147))), some (.inl (a : Int)), some (.inl (x : Int)), none, none, none]) (fun k => by match k with | 0 => rfl | 1 => rfl | 2 => rfl | 3 => rfl | 4 => rfl | 5 => rfl | k + 6 => rfl) ?_
  refine tK (l := xk_199) rfl rfl (fun _ _ _ _ _ => rfl) ?_
  refine tK (l := xk_199) rfl rfl (hGetR (o := some 155) hs rfl rfl rfl (by decide) (by decide) rfl) ?_
  refine tK (l := xk_199) rfl rfl (fun _ _ _ _ _ => rfl) ?_
  first | refine tK (l := xk_199) rfl rfl (hIaldN hs rfl rfl (by omega)) ?_ | refine tK (l := xk_199) rfl rfl (hIald hs rfl (by omega) (by omega)) ?_
  rw [hv1]
  refine tSt (l := xk_199) rfl rfl (fun _ _ _ _ _ => rfl) (Nat.le_of_ble_eq_true rfl) ?_
  refine tK (l := xk_199) rfl rfl (fun _ _ _ _ _ => rfl) ?_
  refine tK (l := xk_199) rfl rfl (fun _ _ _ _ _ => rfl) ?_
  refine tK (l := xk_199) rfl rfl (fun _ _ _ _ _ => rfl) ?_
  refine tK (l := xk_199) rfl rfl (hGetI hs rfl rfl rfl (by decide) (by decide)) ?_
  rw [e34]
  refine tK (l := xk_199) rfl rfl (hMul ⟨by omega, by omega⟩) ?_
  refine tK (l := xk_199) rfl rfl (hAdd ⟨by omega, by omega⟩) ?_
  rw [show (60 : Int) + 24 * ((cP fs).length : Int) = ((frO ((cP fs).length + 1) : Nat) : Int) by rw [frO_4]; omega]
  refine tSt (l := xk_199) rfl rfl (fun _ _ _ _ _ => rfl) (Nat.le_of_ble_eq_true rfl) ?_
  refine tK (l := xk_199) rfl rfl (fun _ _ _ _ _ => rfl) ?_
  refine tK (l := xk_199) rfl rfl (hGetI hs rfl rfl rfl (by decide) (by decide)) ?_
  rw [e34]
  refine tK (l := xk_199) rfl rfl (fun _ _ _ _ _ => rfl) ?_
  refine tIc_ne (l := xk_199) (pc' := 34) rfl rfl rfl (fun hc => ?_) (fun hc => ?_)
  · exfalso; omega
  · refine tK (l := xk_199) rfl rfl (fun _ _ _ _ _ => rfl) ?_
    refine tSt (l := xk_199) rfl rfl (fun _ _ _ _ _ => rfl) (Nat.le_of_ble_eq_true rfl) ?_
    exact loop v.length 0 ph (by omega) hs hFM.refl (fun _ _ => rfl) (fun k c hk => absurd hk (by omega))
end MIN
