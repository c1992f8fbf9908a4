/-! ===== ByParts.runIncluded ===== -/
theorem hTp.fr {S : List Nat} {zs : List xV} {ph ph2 : xH} {T : Nat} {s : PSt} (h : hTp zs ph T s) (hs : hSh zs ph2) (hf : hFr S ph ph2) (hS : ∀ a ∈ tS T, a ∉ S) : hTp zs ph2 T s := by
  have k : ∀ a ∈ tS T, ∀ j, hRd ph2 a j = hRd ph a j := fun a ha j => hf.1 a j (hS a ha)
  obtain ⟨-, h8, h9, h10, h11, hA, hM, hO⟩ := h
  have k0 := k T (by simp [tS])
  refine ⟨hs, by rw [k0]; exact h8, by rw [k0]; exact h9, by rw [k0]; exact h10, by rw [k0]; exact h11, fun i p hp => ?_, fun i p hp hk hl => ?_, hTpO_eq (fun r _ => k _ (by simp [tS]) _) hO⟩
  · rw [k (T + 1) (by simp [tS]), k (T + 2) (by simp [tS]), k (T + 3) (by simp [tS]), k (T + 5) (by simp [tS])]
    exact hA i p hp
  · rw [k (T + 4) (by simp [tS])]
    exact hM i p hp hk hl
theorem hRes.fr {S : List Nat} {zs : List xV} {ph ph2 : xH} {T : Nat} {txt : List Int} (h : hRes zs ph T txt) (hs : hSh zs ph2) (hf : hFr S ph ph2) (hS : ∀ a ∈ tS T, a ∉ S) : hRes zs ph2 T txt := by
  have k0 : ∀ j, hRd ph2 T j = hRd ph T j := fun j => hf.1 T j (hS T (by simp [tS]))
  exact ⟨hs, by rw [k0]; exact h.2.1, by rw [k0]; exact h.2.2.1, fun s e => (h.2.2.2 s e).fr hs hf hS⟩
theorem tS_in {L a : Nat} (hL : L < 4) (ha : a ∈ tS (36 - 7 * (L + 1))) : 8 ≤ a ∧ a + 7 * L < 36 := by
  simp only [tS, List.mem_cons, List.not_mem_nil, or_false] at ha
  omega
theorem bP_in {L a : Nat} (h : bP (L + 1) a) : bP L a := by
  unfold bP at h ⊢
  omega
section BYI
variable {d : Nat} {ph : xH} {zs : List xV} {g : Nat} {Q : xR → Prop} {L n j : Nat} {fs : List Fm} {rs : RS}
theorem s3 {x deep bh nm : Nat} {cd : Int} {c0 : Cf} (ih : L < 4 → BPn zs (d + 3) 61 (L + 1)) (hb : hBR zs ph L fs rs deep) (hd : deep ≤ 32) (hp : (pPs (cT fs))[j]? = some (4, x, cd, nm, bh)) (hnm : nm < 10) (hd5 : 5 * deep + 4 ≤ 60 + 25 * L) (h0 : ∀ d, PSim fs x 4 cd nm rs d → Rn c0 d) (hUn : ∀ ph2 r, unB zs L c0 rs.1.length fs x ph ph2 r → Q (.inl (some (.inl (r : Int))), ph2, g)) (hOk : ∀ ph2 rs2, okB zs L c0 fs (x + 4) rs ph ph2 rs2 → Q (.inl (some (.inl 0)), ph2, g)) (hBad : ∀ ph2 r, badB zs L c0 rs.1.length ph ph2 r → Q (.inl (some (.inl (r : Int))), ph2, g)) : xTC (d + 4) 3 [.inr (.inl (some 56)), .inr (.inl (some (36 - 7 * L))), .inl (j : Int), .inl (deep : Int)] ph g Q := by
  obtain ⟨b1, b2, b3, hpp, b5, b6, b7, b8, b9, b10, b11, b12, b13, b14⟩ := id hb
  have hs := b1.1.1
  have ht := (hTgL b12).1
  have hj := (List.getElem?_eq_some_iff.mp hp).1
  have hl := hpp.2.1
  have eL := (hTgL b12).2
  have hz := hRw50
  cases hlk : lk rs.1 nm with
  | none =>
    have hl0 : lkR rs.1 nm = none := by
      cases e : lkR rs.1 nm with
      | none => rfl
      | some r => have := (lkR_to (ph := ph) hnm b1.1.2.2.2.2 e).2; rw [hlk] at this; cases this
    refine tEn (ls := [some (.inr (.inl (some 56))), some (.inr (.inl (some (36 - 7 * L)))), some (.inl (j : Int)), some (.inl (deep : Int)), none, none, none]) (fun k => by match k with | 0 => rfl | 1 => rfl | 2 => rfl | 3 => rfl | 4 => rfl | 5 => rfl | 6 => rfl | k + 7 => rfl) ?_
    refine tK (l := xk_3) rfl rfl (fun _ _ _ _ _ => rfl) ?_
    refine tK (l := xk_3) rfl rfl (hGetR (o := some 49) hs rfl rfl rfl (by decide) (by decide) rfl) ?_
    refine tK (l := xk_3) rfl rfl (fun _ _ _ _ _ => rfl) ?_
    refine tK (l := xk_3) rfl rfl (fun _ _ _ _ _ => rfl) ?_
    refine tCa (l := xk_3) rfl rfl (hInvV (c := 7) hs rfl rfl rfl ht rfl (Nat.le_of_ble_eq_true rfl) (Nat.le_of_ble_eq_true rfl)) ?_
    refine s65 hs ht hpp hp (by simp) ?_
    refine tKv ?_
    refine tCa (l := xk_3) rfl rfl (hInvV (c := 5) hs rfl rfl rfl rfl rfl (Nat.le_of_ble_eq_true rfl) (Nat.le_of_ble_eq_true rfl)) ?_
    refine s45 b1.1 hnm ?_
    refine tKv ?_
    simp only [hl0, lkI]
    refine tSt (l := xk_3) rfl rfl (fun _ _ _ _ _ => rfl) (Nat.le_of_ble_eq_true rfl) ?_
    refine tK (l := xk_3) rfl rfl (fun _ _ _ _ _ => rfl) ?_
    refine tK (l := xk_3) rfl rfl (fun _ _ _ _ _ => rfl) ?_
    refine tIc_ne (l := xk_3) (pc' := 22) rfl rfl rfl (fun hc => ?_) (fun hc => ?_)
    · refine tK (l := xk_3) rfl rfl (fun _ _ _ _ _ => rfl) ?_
      refine tRt (l := xk_3) rfl rfl (fun _ _ _ _ _ => rfl) ?_
      exact hUn ph 1 ⟨by decide, rs, rs, h0 _ (Or.inr (Or.inr (Or.inr (Or.inl ⟨rfl, hlk, rfl⟩)))), b1, rfl, rfl, b6, hFd.refl, fun _ _ => rfl⟩
    · exact absurd rfl hc
  | some v =>
    obtain ⟨r0, hl0⟩ := lk_lkR hlk
    have hr0 := lkR_some hnm hl0
    obtain ⟨hto, -⟩ := lkR_to hnm b1.1.2.2.2.2 hl0
    rw [hlk] at hto
    have hr41 : r0 < hRw 50 := by have := b1.1.2.2.2.1; omega
    have hv24 : v.length ≤ 24 := by have := hTo_len b1.1.2.1 hr41 hto; have := hWd50; omega
    by_cases hL : L < 4
    case neg =>
      have h4 : L = 4 := by omega
      have hrf : hRf (36 - 7 * L) 1 = none := by rw [h4]; rfl
      refine tEn (ls := [some (.inr (.inl (some 56))), some (.inr (.inl (some (36 - 7 * L)))), some (.inl (j : Int)), some (.inl (deep : Int)), none, none, none]) (fun k => by match k with | 0 => rfl | 1 => rfl | 2 => rfl | 3 => rfl | 4 => rfl | 5 => rfl | 6 => rfl | k + 7 => rfl) ?_
      refine tK (l := xk_3) rfl rfl (fun _ _ _ _ _ => rfl) ?_
      refine tK (l := xk_3) rfl rfl (hGetR (o := some 49) hs rfl rfl rfl (by decide) (by decide) rfl) ?_
      refine tK (l := xk_3) rfl rfl (fun _ _ _ _ _ => rfl) ?_
      refine tK (l := xk_3) rfl rfl (fun _ _ _ _ _ => rfl) ?_
      refine tCa (l := xk_3) rfl rfl (hInvV (c := 7) hs rfl rfl rfl ht rfl (Nat.le_of_ble_eq_true rfl) (Nat.le_of_ble_eq_true rfl)) ?_
      refine s65 hs ht hpp hp (by simp) ?_
      refine tKv ?_
      refine tCa (l := xk_3) rfl rfl (hInvV (c := 5) hs rfl rfl rfl rfl rfl (Nat.le_of_ble_eq_true rfl) (Nat.le_of_ble_eq_true rfl)) ?_
      refine s45 b1.1 hnm ?_
      refine tKv ?_
      simp only [hl0, lkI]
      refine tSt (l := xk_3) rfl rfl (fun _ _ _ _ _ => rfl) (Nat.le_of_ble_eq_true rfl) ?_
      refine tK (l := xk_3) rfl rfl (fun _ _ _ _ _ => rfl) ?_
      refine tK (l := xk_3) rfl rfl (fun _ _ _ _ _ => rfl) ?_
      refine tIc_ne (l := xk_3) (pc' := 22) rfl rfl rfl (fun hc => ?_) (fun hc => ?_)
      · exfalso
        have h9 : (r0 : Int) = -1 := hc
        omega
      · refine tK (l := xk_3) rfl rfl (fun _ _ _ _ _ => rfl) ?_
        refine tK (l := xk_3) rfl rfl (hGetR (o := none) hs rfl ht rfl (by decide) (by decide) hrf) ?_
        refine tSt (l := xk_3) rfl rfl (fun _ _ _ _ _ => rfl) (Nat.le_of_ble_eq_true rfl) ?_
        refine tK (l := xk_3) rfl rfl (fun _ _ _ _ _ => rfl) ?_
        refine tK (l := xk_3) rfl rfl (fun _ _ _ _ _ => rfl) ?_
        refine tK (l := xk_3) rfl rfl (fun _ _ _ _ _ => rfl) ?_
        refine tRt (l := xk_3) rfl rfl (fun _ _ _ _ _ => rfl) ?_
        exact hUn ph 4 ⟨by decide, rs, rs, h0 _ (Or.inr (Or.inr (Or.inr (Or.inr (Or.inl ⟨rfl, v, hlk, by omega, rfl⟩))))), b1, rfl, rfl, b6, hFd.refl, fun _ _ => rfl⟩
    case pos =>
      have ht2 := (hTgL (show L + 1 ≤ 4 by omega)).1
      have eL2 := (hTgL (show L + 1 ≤ 4 by omega)).2
      have hrf : hRf (36 - 7 * L) 1 = some (36 - 7 * (L + 1)) := by
        have e9 : 36 - 7 * (L + 1) = 36 - 7 * L - 7 := by omega
        rw [e9]
        unfold hRf
        rw [ht]
        simp only
        rw [if_neg (by omega)]
      have d48 : ∀ a ∈ tS (36 - 7 * (L + 1)), a ∉ [48] := fun a ha h => by have := tS_in hL ha; simp only [List.mem_cons, List.not_mem_nil, or_false] at h; omega
      have z48 : hSz 48 = 5 := by decide +kernel
      refine tEn (ls := [some (.inr (.inl (some 56))), some (.inr (.inl (some (36 - 7 * L)))), some (.inl (j : Int)), some (.inl (deep : Int)), none, none, none]) (fun k => by match k with | 0 => rfl | 1 => rfl | 2 => rfl | 3 => rfl | 4 => rfl | 5 => rfl | 6 => rfl | k + 7 => rfl) ?_
      refine tK (l := xk_3) rfl rfl (fun _ _ _ _ _ => rfl) ?_
      refine tK (l := xk_3) rfl rfl (hGetR (o := some 49) hs rfl rfl rfl (by decide) (by decide) rfl) ?_
      refine tK (l := xk_3) rfl rfl (fun _ _ _ _ _ => rfl) ?_
      refine tK (l := xk_3) rfl rfl (fun _ _ _ _ _ => rfl) ?_
      refine tCa (l := xk_3) rfl rfl (hInvV (c := 7) hs rfl rfl rfl ht rfl (Nat.le_of_ble_eq_true rfl) (Nat.le_of_ble_eq_true rfl)) ?_
      refine s65 hs ht hpp hp (by simp) ?_
      refine tKv ?_
      refine tCa (l := xk_3) rfl rfl (hInvV (c := 5) hs rfl rfl rfl rfl rfl (Nat.le_of_ble_eq_true rfl) (Nat.le_of_ble_eq_true rfl)) ?_
      refine s45 b1.1 hnm ?_
      refine tKv ?_
      simp only [hl0, lkI]
      refine tSt (l := xk_3) rfl rfl (fun _ _ _ _ _ => rfl) (Nat.le_of_ble_eq_true rfl) ?_
      refine tK (l := xk_3) rfl rfl (fun _ _ _ _ _ => rfl) ?_
      refine tK (l := xk_3) rfl rfl (fun _ _ _ _ _ => rfl) ?_
      refine tIc_ne (l := xk_3) (pc' := 22) rfl rfl rfl (fun hc => ?_) (fun hc => ?_)
      · exfalso
        have h9 : (r0 : Int) = -1 := hc
        omega
      · refine tK (l := xk_3) rfl rfl (fun _ _ _ _ _ => rfl) ?_
        refine tK (l := xk_3) rfl rfl (hGetR (o := some (36 - 7 * (L + 1))) hs rfl ht rfl (by decide) (by decide) hrf) ?_
        refine tSt (l := xk_3) rfl rfl (fun _ _ _ _ _ => rfl) (Nat.le_of_ble_eq_true rfl) ?_
        refine tK (l := xk_3) rfl rfl (fun _ _ _ _ _ => rfl) ?_
        refine tK (l := xk_3) rfl rfl (fun _ _ _ _ _ => rfl) ?_
        refine tK (l := xk_3) rfl rfl (fun _ _ _ _ _ => rfl) ?_
        refine tK (l := xk_3) rfl rfl (fun _ _ _ _ _ => rfl) ?_
        refine tK (l := xk_3) rfl rfl (hGetR (o := some 49) hs rfl rfl rfl (by decide) (by decide) rfl) ?_
        refine tK (l := xk_3) rfl rfl (hGetR (o := some 50) hs rfl rfl rfl (by decide) (by decide) rfl) ?_
        refine tK (l := xk_3) rfl rfl (fun _ _ _ _ _ => rfl) ?_
        refine tCa (l := xk_3) rfl rfl (hInvV (c := 7) hs rfl rfl rfl ht2 rfl (Nat.le_of_ble_eq_true rfl) (Nat.le_of_ble_eq_true rfl)) ?_
        refine s52 (T := 36 - 7 * (L + 1)) (txt := v) hs ht2 rfl b1.1.2.1 hr41 hto (by omega) (fun ph1 q1 f1 => ?_)
        refine tKn ?_
        have u1 := q1.1
        have g1 : hFd (bP L) ph ph1 := f1.fd (fun a ha => by have := tS_in hL ha; unfold bP; omega)
        have n1 : ∀ a, 36 ≤ a → a ∉ tS (36 - 7 * (L + 1)) := fun a h1 h2 => by have := tS_in hL h2; omega
        have r1 : hRN zs ph1 rs := b1.fr u1 f1 (fun a ha h2 => by have := tS_in hL ha; simp only [List.mem_cons, List.not_mem_nil, or_false] at h2; omega)
        have hpp1 := hpp.fr2 b12 g1
        refine tK (l := xk_3) rfl rfl (fun _ _ _ _ _ => rfl) ?_
        refine tK (l := xk_3) rfl rfl (hGetR (o := some 44) u1 rfl rfl rfl (by decide) (by decide) rfl) ?_
        refine tK (l := xk_3) rfl rfl (fun _ _ _ _ _ => rfl) ?_
        refine tK (l := xk_3) rfl rfl (hGetC u1 rfl ht rfl (by decide) (by decide) (hCs_7 ht)) ?_
        rw [eL]
        refine tK (l := xk_3) rfl rfl (fun _ _ _ _ _ => rfl) ?_
        refine tK (l := xk_3) rfl rfl (fun _ _ _ _ _ => rfl) ?_
        refine tCa (l := xk_3) rfl rfl (hInvV (c := 7) u1 rfl rfl rfl ht rfl (Nat.le_of_ble_eq_true rfl) (Nat.le_of_ble_eq_true rfl)) ?_
        refine s66 u1 ht hpp1 hp ?_
        refine tKv ?_
        refine tCa (l := xk_3) rfl rfl (hInvV (c := 3) u1 rfl rfl rfl rfl rfl (Nat.le_of_ble_eq_true rfl) (Nat.le_of_ble_eq_true rfl)) ?_
        refine s30 u1 (by omega) ?_
        refine tKn ?_
        have u2 : hSh zs (hUp ph1 48 L (x : Int)) := hShI1 _ u1 rfl rfl
        have f2 : hFr [48] ph1 (hUp ph1 48 L (x : Int)) := hUp_fr u1 rfl (by omega) (by simp)
        have k2 : ∀ b j, hRd (hUp ph1 48 L (x : Int)) b j = if b = 48 ∧ j = L then (x : Int) else hRd ph1 b j := fun b j => hRd_up u1 rfl (by omega) b j
        generalize hUp ph1 48 L (x : Int) = ph2 at u2 f2 k2 ⊢
        have q2 : hRes zs ph2 (36 - 7 * (L + 1)) v := q1.fr u2 f2 d48
        have r2 : hRN zs ph2 rs := r1.fr u2 f2 (by decide)
        have g2 : hFd (bP L) ph ph2 := g1.trans (f2.fd (by intro a ha; simp only [List.mem_cons, List.not_mem_nil, or_false] at ha; unfold bP; omega))
        have e443 : h43 ph2 := (b6.fr f1 (n1 44 (by omega))).fr f2 (by decide)
        have w48 : ∀ k, k < L → hRd ph2 48 k = hRd ph 48 k := fun k hk => by rw [k2, if_neg (by omega), f1.at (n1 48 (by omega))]
        have e12 : hRd ph2 (36 - 7 * (L + 1)) 12 = ((pRes v).1 : Int) := q2.2.1
        refine tK (l := xk_3) rfl rfl (fun _ _ _ _ _ => rfl) ?_
        refine tCa (l := xk_3) rfl rfl (hInvV (c := 7) u2 rfl rfl rfl ht2 rfl (Nat.le_of_ble_eq_true rfl) (Nat.le_of_ble_eq_true rfl)) ?_
        refine s62 q2 ht2 ?_
        refine tKv ?_
        cases hw : pWh v with
        | false =>
          simp only [Bool.false_eq_true, if_false]
          refine tIf_ne (l := xk_3) (pc' := 93) rfl rfl rfl (fun hc => ?_) (fun hc => ?_)
          · refine tK (l := xk_3) rfl rfl (fun _ _ _ _ _ => rfl) ?_
            refine tK (l := xk_3) rfl rfl (hGetR (o := some 44) u2 rfl rfl rfl (by decide) (by decide) rfl) ?_
            refine tK (l := xk_3) rfl rfl (fun _ _ _ _ _ => rfl) ?_
            refine tK (l := xk_3) rfl rfl (fun _ _ _ _ _ => rfl) ?_
            refine tK (l := xk_3) rfl rfl (hGetC u2 rfl ht2 rfl (by decide) (by decide) (hCs_7 ht2)) ?_
            rw [eL2]
            refine tK (l := xk_3) rfl rfl (fun _ _ _ _ _ => rfl) ?_
            refine tCa (l := xk_3) rfl rfl (hInvV (c := 7) u2 rfl rfl rfl ht2 rfl (Nat.le_of_ble_eq_true rfl) (Nat.le_of_ble_eq_true rfl)) ?_
            refine s61 u2 ht2 ?_
            refine tKv ?_
            rw [e12]
            refine tCa (l := xk_3) rfl rfl (hInvV (c := 3) u2 rfl rfl rfl rfl rfl (Nat.le_of_ble_eq_true rfl) (Nat.le_of_ble_eq_true rfl)) ?_
            have el1 : ((L : Int) + 1) = ((L + 1 : Nat) : Int) := by omega
            refine s31 (l := L + 1) u2 e443.1 (by omega) ?_
            refine tKn ?_
            have u3 : hSh zs (hUp ph2 44 3 5) := hShI1 _ u2 rfl rfl
            have u4 : hSh zs (hUp (hUp ph2 44 3 5) 48 (L + 1) ((pRes v).1 : Int)) := hShI1 _ u3 rfl rfl
            have u5 : hSh zs (hUp (hUp (hUp ph2 44 3 5) 48 (L + 1) ((pRes v).1 : Int)) 44 2 (((L + 1 : Nat) : Int) + 1)) := hShI1 _ u4 rfl rfl
            have k5 : ∀ b j, hRd (hUp (hUp (hUp ph2 44 3 5) 48 (L + 1) ((pRes v).1 : Int)) 44 2 (((L + 1 : Nat) : Int) + 1)) b j = if b = 44 ∧ j = 2 then (((L + 1 : Nat) : Int) + 1) else if b = 48 ∧ j = L + 1 then ((pRes v).1 : Int) else if b = 44 ∧ j = 3 then 5 else hRd ph2 b j := fun b j => by rw [hRd_up u4 rfl (by decide), hRd_up u3 rfl (by omega), hRd_up u2 rfl (by decide)]
            have r5 : hRN zs (hUp (hUp (hUp ph2 44 3 5) 48 (L + 1) ((pRes v).1 : Int)) 44 2 (((L + 1 : Nat) : Int) + 1)) rs := hRN_44 ((hRN_44 r2 (Or.inr rfl)).fr u4 (hUp_fr (S := [48]) u3 rfl (by omega) (by simp)) (by decide)) (Or.inl rfl)
            have g5 : hFd (bP L) ph2 (hUp (hUp (hUp ph2 44 3 5) 48 (L + 1) ((pRes v).1 : Int)) 44 2 (((L + 1 : Nat) : Int) + 1)) := ((hUp_fr (S := [44, 48]) u2 rfl (by decide) (by simp)).trans ((hUp_fr u3 rfl (by omega) (by simp)).trans (hUp_fr u4 rfl (by decide) (by simp)))).fd (by intro a ha; simp only [List.mem_cons, List.not_mem_nil, or_false] at ha; unfold bP; omega)
            refine tK (l := xk_3) rfl rfl (fun _ _ _ _ _ => rfl) ?_
            refine tRt (l := xk_3) rfl rfl (fun _ _ _ _ _ => rfl) ?_
            refine hBad _ 5 ⟨by decide, rs, rs, fs, (cP fs).reverse ++ [x, (pRes v).1], h0 _ (Or.inr (Or.inr (Or.inr (Or.inr (Or.inr (Or.inl ⟨rfl, v, hlk, by omega, hw, hv24, rfl⟩)))))), r5, rfl, rfl, ?_, ?_, ?_, g2.trans g5⟩
            · rw [k5, if_neg (by omega), if_neg (by omega), if_pos ⟨rfl, rfl⟩]; rfl
            · rw [k5, if_pos ⟨rfl, rfl⟩]; simp; omega
            · intro k y hy
              by_cases e1 : k < L
              · rw [List.getElem?_append_left (by rw [List.length_reverse]; omega)] at hy
                rw [k5, if_neg (by omega), if_neg (by omega), if_neg (by omega), w48 k e1]
                exact b7 k y hy
              · rw [List.getElem?_append_right (by rw [List.length_reverse]; omega)] at hy
                rw [List.length_reverse, b3] at hy
                have hk9 := (List.getElem?_eq_some_iff.mp hy).1
                simp only [List.length_cons, List.length_nil] at hk9
                by_cases e2 : k = L
                · subst e2
                  rw [Nat.sub_self] at hy
                  simp only [List.getElem?_cons_zero, Option.some.injEq] at hy
                  rw [k5, if_neg (by omega), if_neg (by omega), if_neg (by omega), k2, if_pos ⟨rfl, rfl⟩, hy]
                · have e3 : k = L + 1 := by omega
                  subst e3
                  rw [show L + 1 - L = 1 by omega] at hy
                  simp only [List.getElem?_cons_succ, List.getElem?_cons_zero, Option.some.injEq] at hy
                  rw [k5, if_neg (by omega), if_pos ⟨rfl, rfl⟩, hy]
          · exact absurd rfl hc
        | true =>
          simp only [if_true]
          refine tIf_ne (l := xk_3) (pc' := 93) rfl rfl rfl (fun hc => ?_) (fun hc => ?_)
          · exact absurd hc (by decide)
          · refine tK (l := xk_3) rfl rfl (fun _ _ _ _ _ => rfl) ?_
            refine tK (l := xk_3) rfl rfl (hGetR (o := some 49) u2 rfl rfl rfl (by decide) (by decide) rfl) ?_
            refine tCa (l := xk_3) rfl rfl (hInvV (c := 5) u2 rfl rfl rfl rfl rfl (Nat.le_of_ble_eq_true rfl) (Nat.le_of_ble_eq_true rfl)) ?_
            refine s42 r2.1 (by omega) (fun ph3 q3 f3 w3 => ?_)
            refine tKv ?_
            refine tIf_ne (l := xk_3) (pc' := 105) rfl rfl rfl (fun hc => ?_) (fun hc => ?_)
            · exact absurd hc (by decide)
            · refine tK (l := xk_3) rfl rfl (fun _ _ _ _ _ => rfl) ?_
              refine tK (l := xk_3) rfl rfl (fun _ _ _ _ _ => rfl) ?_
              refine tK (l := xk_3) rfl rfl (fun _ _ _ _ _ => rfl) ?_
              refine tK (l := xk_3) rfl rfl (fun _ _ _ _ _ => rfl) ?_
              refine tCa (l := xk_3) rfl rfl (hInvV (c := 7) q3.1 rfl rfl rfl ht2 rfl (Nat.le_of_ble_eq_true rfl) (Nat.le_of_ble_eq_true rfl)) ?_
              have q4 : hRes zs ph3 (36 - 7 * (L + 1)) v := q2.fr q3.1 f3 (fun a ha h2 => by have := tS_in hL ha; simp only [List.mem_cons, List.not_mem_nil, or_false] at h2; omega)
              have pp4 := q4.pp hw (by omega)
              have e8 := pp4.1
              refine s63 q3.1 ht2 ?_
              refine tKv ?_
              rw [e8]
              refine tK (l := xk_3) rfl rfl (fun _ _ _ _ _ => rfl) ?_
              refine tK (l := xk_3) rfl rfl (fun _ _ _ _ _ => rfl) ?_
              refine tK (l := xk_3) rfl rfl (hAdd ⟨by omega, by omega⟩) ?_
              refine tCa (l := xk_3) rfl rfl (hInvV (c := 0) q3.1 rfl rfl rfl rfl rfl (Nat.le_of_ble_eq_true rfl) (Nat.le_of_ble_eq_true rfl)) ?_
              obtain ⟨si, gi, ti⟩ := rs
              simp only at b8 b9 b10
              have r4 : hRN zs ph3 ((fun _ => none) :: si, gi, ti) := hRN.scs r2 q3 f3
              have g4 : hFd (bP L) ph ph3 := g2.trans (fd49 f3)
              have hcp : cP ((0, 0, x, nm, 0, v) :: fsN fs (x + 4)) = x :: cP fs := by simp only [cP]; rw [if_pos ⟨trivial, fsN_ne b2⟩, cP_fsN]
              have hct : cT ((0, 0, x, nm, 0, v) :: fsN fs (x + 4)) = v := by simp only [cT, if_true]
              have hr1 : Rn c0 (RU ((0, 0, x, nm, 0, v) :: fsN fs (x + 4)) ((fun _ => none) :: si, gi, ti)) := h0 _ (Or.inr (Or.inr (Or.inr (Or.inr (Or.inr (Or.inr ⟨rfl, v, hlk, by omega, hw, hv24, by omega, by simp only; omega, rfl⟩))))))
              have hb1 : hBR zs ph3 (L + 1) ((0, 0, x, nm, 0, v) :: fsN fs (x + 4)) ((fun _ => none) :: si, gi, ti) (deep + 1) := by
                refine ⟨r4, List.cons_ne_nil _ _, by rw [hcp, List.length_cons, b3], by rw [hct]; exact pp4, by rw [hct]; omega, e443.fr f3 (by decide), ?_, by simp only [List.length_cons]; omega, by simp, by simp only; omega, by simp only [List.length_cons, fsN_len]; omega, by omega, by omega, by rw [hct]; exact hTo_ch hs rfl hto⟩
                rw [hcp, List.reverse_cons]
                intro k y hy
                by_cases e1 : k < L
                · rw [List.getElem?_append_left (by rw [List.length_reverse]; omega)] at hy
                  rw [f3.at (by decide), w48 k e1]
                  exact b7 k y hy
                · rw [List.getElem?_append_right (by rw [List.length_reverse]; omega)] at hy
                  rw [List.length_reverse, b3] at hy
                  have hk9 := (List.getElem?_eq_some_iff.mp hy).1
                  simp only [List.length_cons, List.length_nil] at hk9
                  have e2 : k = L := by omega
                  subst e2
                  rw [Nat.sub_self] at hy
                  simp only [List.getElem?_cons_zero, Option.some.injEq] at hy
                  rw [f3.at (by decide), k2, if_pos ⟨rfl, rfl⟩, hy]
              have hsg := pWh_sg hw
              have hlq := Sg_le hsg
              refine ih hL ph3 g _ ((0, 0, x, nm, 0, v) :: fsN fs (x + 4)) ((fun _ => none) :: si, gi, ti) 0 (pPs v).length 0 v.length (deep + 1) hb1 (by rw [hct]; exact Sg_fuel hsg _ (by omega)) rfl (by rw [hct]; exact Nat.le_refl _) (by omega) (fun ph5 rs5 k5 => ?_) (fun ph5 r k5 => ?_)
              · refine tKv ?_
                obtain ⟨r5, k5, k6, k7, k8, k9, k10, k11⟩ := k5
                refine tSt (l := xk_3) rfl rfl (fun _ _ _ _ _ => rfl) (Nat.le_of_ble_eq_true rfl) ?_
                refine tK (l := xk_3) rfl rfl (fun _ _ _ _ _ => rfl) ?_
                refine tK (l := xk_3) rfl rfl (hGetR (o := some 49) r5.1.1 rfl rfl rfl (by decide) (by decide) rfl) ?_
                refine tCa (l := xk_3) rfl rfl (hInvV (c := 5) r5.1.1 rfl rfl rfl rfl rfl (Nat.le_of_ble_eq_true rfl) (Nat.le_of_ble_eq_true rfl)) ?_
                obtain ⟨sc2, z2⟩ := rs5
                simp only [List.length_cons] at k8 k9 k10
                cases sc2 with
                | nil => simp at k8
                | cons f0 sc2 =>
                simp only [List.length_cons] at k8
                refine s46 r5.1 (fun ph6 q6 f6 => ?_)
                refine tKn ?_
                have p6 := hRN.pop r5 q6 f6
                refine tK (l := xk_3) rfl rfl (fun _ _ _ _ _ => rfl) ?_
                refine tRt (l := xk_3) rfl rfl (fun _ _ _ _ _ => rfl) ?_
                refine hOk ph6 (sc2, z2) ⟨p6, (hr1.trans k5).trans (Rn.one (Or.inr ?_)), (g4.trans (k6.mono (fun a ha => bP_in ha))).trans (fd49a f6), k7.fr f6 (by decide), by simp only; omega, by simp only; omega, fun r hr => ?_, fun k hk => by rw [f6.at (by decide), k11 k (by omega), f3.at (by decide)]; exact w48 k hk⟩
                · cases hfs : fs with
                  | nil => exact absurd hfs b2
                  | cons f gs => exact ⟨(0, v.length, x, nm, 0, v), (f.1, x + 4, f.2.2), gs, (f0 :: sc2, z2), rfl, Or.inl ⟨rfl, rfl, f0, sc2, rfl, rfl⟩⟩
                · simp only at hr
                  rw [f6.to (by decide) (by decide), k10 r (by omega), w3 r (by simp only; omega), f2.to (by decide) (by decide)]
                  exact f1.to (n1 51 (by omega)) (n1 52 (by omega))
              · refine tKv ?_
                obtain ⟨hr9, rs1, rs2, fs2, pls, a1, a2, a0, a3, a4, a5, a6, a7⟩ := k5
                refine tSt (l := xk_3) rfl rfl (fun _ _ _ _ _ => rfl) (Nat.le_of_ble_eq_true rfl) ?_
                refine tK (l := xk_3) rfl rfl (fun _ _ _ _ _ => rfl) ?_
                refine tK (l := xk_3) rfl rfl (hGetR (o := some 49) a2.1.1 rfl rfl rfl (by decide) (by decide) rfl) ?_
                refine tCa (l := xk_3) rfl rfl (hInvV (c := 5) a2.1.1 rfl rfl rfl rfl rfl (Nat.le_of_ble_eq_true rfl) (Nat.le_of_ble_eq_true rfl)) ?_
                obtain ⟨sc2, z2⟩ := rs2
                simp only [List.length_cons] at a0
                cases sc2 with
                | nil => simp at a0
                | cons f0 sc2 =>
                simp only [List.length_cons] at a0
                refine s46 a2.1 (fun ph6 q6 f6 => ?_)
                refine tKn ?_
                have p6 := hRN.pop a2 q6 f6
                refine tK (l := xk_3) rfl rfl (fun _ _ _ _ _ => rfl) ?_
                refine tRt (l := xk_3) rfl rfl (fun _ _ _ _ _ => rfl) ?_
                exact hBad ph6 r ⟨hr9, rs1, (sc2, z2), fs2, pls, hr1.trans a1, p6, by simp only; omega, a3, by rw [f6.at (by decide)]; exact a4, by rw [f6.at (by decide)]; exact a5, fun k y hy => by rw [f6.at (by decide)]; exact a6 k y hy, (g4.trans (a7.mono (fun a ha => bP_in ha))).trans (fd49a f6)⟩
end BYI
