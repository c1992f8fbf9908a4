/-! ===== signs, names, values printed, settings ===== -/
def nmF (c : Int) : Int := if 97 ≤ c ∧ c ≤ 104 then c - 97 else if c = 107 then 8 else if c = 120 then 9 else -1
theorem nmF_le (c : Int) : -1 ≤ nmF c ∧ nmF c ≤ 9 := by
  unfold nmF
  (repeat' split) <;> omega
section PRV
variable {d : Nat} {ph : xH} {zs : List xV} {g : Nat} {Q : xR → Prop} {sc : List xSc} {stg : List (List Int)} {ou : List Int} {st pl es vl : Nat} {scs : List xSc} {n : Nat}
theorem s113 {c : Int} (hQ : Q (.inl (some (.inl (if spc c = true then 1 else 0))), ph, g)) : xTC d 113 [.inl c] ph g Q := by
  refine tEn (ls := [some (.inl c)]) (fun k => by match k with | 0 => rfl | k + 1 => rfl) ?_
  refine tK (l := xk_113) rfl rfl (fun _ _ _ _ _ => rfl) ?_
  refine tK (l := xk_113) rfl rfl (fun _ _ _ _ _ => rfl) ?_
  refine tIc_eq (l := xk_113) (pc' := 18) rfl rfl rfl (fun hc => ?_) (fun hc => ?_)
  · refine tK (l := xk_113) rfl rfl (fun _ _ _ _ _ => rfl) ?_
    refine tK (l := xk_113) rfl rfl (fun _ _ _ _ _ => rfl) ?_
    refine tRt (l := xk_113) rfl rfl (fun _ _ _ _ _ => rfl) ?_
    simp only [spc, Bool.or_eq_true, beq_iff_eq] at hQ
    first | (rw [if_pos (by omega)] at hQ; exact hQ) | (rw [if_neg (by omega)] at hQ; exact hQ)
  · refine tK (l := xk_113) rfl rfl (fun _ _ _ _ _ => rfl) ?_
    refine tK (l := xk_113) rfl rfl (fun _ _ _ _ _ => rfl) ?_
    refine tIc_eq (l := xk_113) (pc' := 18) rfl rfl rfl (fun hc => ?_) (fun hc => ?_)
    · refine tK (l := xk_113) rfl rfl (fun _ _ _ _ _ => rfl) ?_
      refine tK (l := xk_113) rfl rfl (fun _ _ _ _ _ => rfl) ?_
      refine tRt (l := xk_113) rfl rfl (fun _ _ _ _ _ => rfl) ?_
      simp only [spc, Bool.or_eq_true, beq_iff_eq] at hQ
      first | (rw [if_pos (by omega)] at hQ; exact hQ) | (rw [if_neg (by omega)] at hQ; exact hQ)
    · refine tK (l := xk_113) rfl rfl (fun _ _ _ _ _ => rfl) ?_
      refine tK (l := xk_113) rfl rfl (fun _ _ _ _ _ => rfl) ?_
      refine tIc_ne (l := xk_113) (pc' := 22) rfl rfl rfl (fun hc => ?_) (fun hc => ?_)
      · refine tK (l := xk_113) rfl rfl (fun _ _ _ _ _ => rfl) ?_
        refine tK (l := xk_113) rfl rfl (fun _ _ _ _ _ => rfl) ?_
        refine tRt (l := xk_113) rfl rfl (fun _ _ _ _ _ => rfl) ?_
        simp only [spc, Bool.or_eq_true, beq_iff_eq] at hQ
        first | (rw [if_pos (by omega)] at hQ; exact hQ) | (rw [if_neg (by omega)] at hQ; exact hQ)
      · refine tK (l := xk_113) rfl rfl (fun _ _ _ _ _ => rfl) ?_
        refine tRt (l := xk_113) rfl rfl (fun _ _ _ _ _ => rfl) ?_
        simp only [spc, Bool.or_eq_true, beq_iff_eq] at hQ
        first | (rw [if_pos (by omega)] at hQ; exact hQ) | (rw [if_neg (by omega)] at hQ; exact hQ)
theorem s85 {c : Int} (hb : -2000000000 ≤ c) (hQ : Q (.inl (some (.inl (nmF c))), ph, g)) : xTC d 85 [.inl c] ph g Q := by
  refine tEn (ls := [some (.inl c)]) (fun k => by match k with | 0 => rfl | k + 1 => rfl) ?_
  refine tK (l := xk_85) rfl rfl (fun _ _ _ _ _ => rfl) ?_
  refine tK (l := xk_85) rfl rfl (fun _ _ _ _ _ => rfl) ?_
  refine tIc_lt (l := xk_85) (pc' := 17) rfl rfl rfl (fun hc => ?_) (fun hc => ?_)
  · refine tK (l := xk_85) rfl rfl (fun _ _ _ _ _ => rfl) ?_
    refine tK (l := xk_85) rfl rfl (fun _ _ _ _ _ => rfl) ?_
    refine tIc_ne (l := xk_85) (pc' := 26) rfl rfl rfl (fun hc => ?_) (fun hc => ?_)
    · refine tK (l := xk_85) rfl rfl (fun _ _ _ _ _ => rfl) ?_
      refine tRt (l := xk_85) rfl rfl (fun _ _ _ _ _ => rfl) ?_
      unfold nmF at hQ
      (repeat' split at hQ) <;> first | exact hQ | (exfalso; omega)
    · refine tK (l := xk_85) rfl rfl (fun _ _ _ _ _ => rfl) ?_
      refine tK (l := xk_85) rfl rfl (fun _ _ _ _ _ => rfl) ?_
      refine tIc_ne (l := xk_85) (pc' := 37) rfl rfl rfl (fun hc => ?_) (fun hc => ?_)
      · refine tK (l := xk_85) rfl rfl (fun _ _ _ _ _ => rfl) ?_
        refine tK (l := xk_85) rfl rfl (fun _ _ _ _ _ => rfl) ?_
        refine tRt (l := xk_85) rfl rfl (fun _ _ _ _ _ => rfl) ?_
        unfold nmF at hQ
        (repeat' split at hQ) <;> first | exact hQ | (exfalso; omega)
      · refine tK (l := xk_85) rfl rfl (fun _ _ _ _ _ => rfl) ?_
        refine tRt (l := xk_85) rfl rfl (fun _ _ _ _ _ => rfl) ?_
        unfold nmF at hQ
        (repeat' split at hQ) <;> first | exact hQ | (exfalso; omega)
  · refine tK (l := xk_85) rfl rfl (fun _ _ _ _ _ => rfl) ?_
    refine tK (l := xk_85) rfl rfl (fun _ _ _ _ _ => rfl) ?_
    refine tIc_gt (l := xk_85) (pc' := 17) rfl rfl rfl (fun hc => ?_) (fun hc => ?_)
    · refine tK (l := xk_85) rfl rfl (fun _ _ _ _ _ => rfl) ?_
      refine tK (l := xk_85) rfl rfl (fun _ _ _ _ _ => rfl) ?_
      refine tIc_ne (l := xk_85) (pc' := 26) rfl rfl rfl (fun hc => ?_) (fun hc => ?_)
      · refine tK (l := xk_85) rfl rfl (fun _ _ _ _ _ => rfl) ?_
        refine tRt (l := xk_85) rfl rfl (fun _ _ _ _ _ => rfl) ?_
        unfold nmF at hQ
        (repeat' split at hQ) <;> first | exact hQ | (exfalso; omega)
      · refine tK (l := xk_85) rfl rfl (fun _ _ _ _ _ => rfl) ?_
        refine tK (l := xk_85) rfl rfl (fun _ _ _ _ _ => rfl) ?_
        refine tIc_ne (l := xk_85) (pc' := 37) rfl rfl rfl (fun hc => ?_) (fun hc => ?_)
        · refine tK (l := xk_85) rfl rfl (fun _ _ _ _ _ => rfl) ?_
          refine tK (l := xk_85) rfl rfl (fun _ _ _ _ _ => rfl) ?_
          refine tRt (l := xk_85) rfl rfl (fun _ _ _ _ _ => rfl) ?_
          unfold nmF at hQ
          (repeat' split at hQ) <;> first | exact hQ | (exfalso; omega)
        · refine tK (l := xk_85) rfl rfl (fun _ _ _ _ _ => rfl) ?_
          refine tRt (l := xk_85) rfl rfl (fun _ _ _ _ _ => rfl) ?_
          unfold nmF at hQ
          (repeat' split at hQ) <;> first | exact hQ | (exfalso; omega)
    · refine tK (l := xk_85) rfl rfl (fun _ _ _ _ _ => rfl) ?_
      refine tK (l := xk_85) rfl rfl (fun _ _ _ _ _ => rfl) ?_
      refine tK (l := xk_85) rfl rfl (hSub ⟨by omega, by omega⟩) ?_
      refine tRt (l := xk_85) rfl rfl (fun _ _ _ _ _ => rfl) ?_
      unfold nmF at hQ
      (repeat' split at hQ) <;> first | exact hQ | (exfalso; omega)
def hoF : Option (List Int) → Int
  | none => 0
  | some v => if v.length = 0 then 0 else 1
theorem s37 (h : hSC zs ph scs) (hn : n < 10) (hQ : Q (.inl (some (.inl (hoF (lk scs n)))), ph, g)) : xTC (d + 2) 37 [.inr (.inl (some 43)), .inl (n : Int)] ph g Q := by
  obtain ⟨hs, hw, h1, h2, h3⟩ := id h
  have hz := hRw50
  refine tEn (ls := [some (.inr (.inl (some 43))), some (.inl (n : Int))]) (fun k => by match k with | 0 => rfl | 1 => rfl | k + 2 => rfl) ?_
  refine tK (l := xk_37) rfl rfl (fun _ _ _ _ _ => rfl) ?_
  refine tK (l := xk_37) rfl rfl (hGetR (o := some 49) hs rfl rfl rfl (by decide) (by decide) rfl) ?_
  refine tK (l := xk_37) rfl rfl (hGetR (o := some 50) hs rfl rfl rfl (by decide) (by decide) rfl) ?_
  refine tK (l := xk_37) rfl rfl (fun _ _ _ _ _ => rfl) ?_
  refine tK (l := xk_37) rfl rfl (hGetR (o := some 49) hs rfl rfl rfl (by decide) (by decide) rfl) ?_
  refine tK (l := xk_37) rfl rfl (fun _ _ _ _ _ => rfl) ?_
  refine tCa (l := xk_37) rfl rfl (hInvV (c := 5) hs rfl rfl rfl rfl rfl (Nat.le_of_ble_eq_true rfl) (Nat.le_of_ble_eq_true rfl)) ?_
  refine s45 h hn ?_
  refine tKv ?_
  cases hl : lkR scs n with
  | none =>
    rw [lkR_none hl] at hQ
    refine tCa (l := xk_37) rfl rfl (hInvV (c := 8) hs rfl rfl rfl rfl rfl (Nat.le_of_ble_eq_true rfl) (Nat.le_of_ble_eq_true rfl)) ?_
    refine s75n hs rfl ?_
    refine tKv ?_
    refine tIf_le (l := xk_37) (pc' := 25) rfl rfl rfl (fun hc => ?_) (fun hc => ?_)
    · refine tK (l := xk_37) rfl rfl (fun _ _ _ _ _ => rfl) ?_
      refine tK (l := xk_37) rfl rfl (fun _ _ _ _ _ => rfl) ?_
      refine tRt (l := xk_37) rfl rfl (fun _ _ _ _ _ => rfl) ?_
      first | exact hQ | (exfalso; have h9 : (0 : Int) < -1 := hc; omega)
    · refine tK (l := xk_37) rfl rfl (fun _ _ _ _ _ => rfl) ?_
      refine tRt (l := xk_37) rfl rfl (fun _ _ _ _ _ => rfl) ?_
      first | exact hQ | (exfalso; have h9 : (0 : Int) < -1 := hc; omega)
  | some r =>
    obtain ⟨q1, q2⟩ := lkR_to hn h3 hl
    have hr := lkR_some hn hl
    obtain ⟨v, hv⟩ := Option.isSome_iff_exists.mp q2
    rw [hv] at hQ q1
    refine tCa (l := xk_37) rfl rfl (hInvV (c := 8) hs rfl rfl rfl rfl rfl (Nat.le_of_ble_eq_true rfl) (Nat.le_of_ble_eq_true rfl)) ?_
    refine a75 (r := r) hs rfl hw (by omega) q1 ?_
    refine tKv ?_
    refine tIf_le (l := xk_37) (pc' := 25) rfl rfl rfl (fun hc => ?_) (fun hc => ?_)
    · refine tK (l := xk_37) rfl rfl (fun _ _ _ _ _ => rfl) ?_
      refine tK (l := xk_37) rfl rfl (fun _ _ _ _ _ => rfl) ?_
      refine tRt (l := xk_37) rfl rfl (fun _ _ _ _ _ => rfl) ?_
      simp only [hoF] at hQ
      first | (rw [if_neg (by have h9 : (0 : Int) < (v.length : Int) := hc; omega)] at hQ; exact hQ) | (rw [if_pos (by have h9 : ¬ (0 : Int) < (v.length : Int) := hc; omega)] at hQ; exact hQ)
    · refine tK (l := xk_37) rfl rfl (fun _ _ _ _ _ => rfl) ?_
      refine tRt (l := xk_37) rfl rfl (fun _ _ _ _ _ => rfl) ?_
      simp only [hoF] at hQ
      first | (rw [if_neg (by have h9 : (0 : Int) < (v.length : Int) := hc; omega)] at hQ; exact hQ) | (rw [if_pos (by have h9 : ¬ (0 : Int) < (v.length : Int) := hc; omega)] at hQ; exact hQ)
theorem s38 (h : hRN zs ph (sc, stg, ou, st, pl, es, vl)) (hl : stg.length < 40) (hQ : ∀ ph2, hRN zs ph2 (sc, [] :: stg, ou, st, pl, es, vl) → hFr [43, 54, 55] ph ph2 → Q (.inl (some (.inl 0)), ph2, g)) : xTC (d + 1) 38 [.inr (.inl (some 43))] ph g Q := by
  obtain ⟨h1, h2, h3, h4, h5, h6, h7, h8, h9, h10, h11, h12, h13⟩ := id h
  have hs := h1.1
  have hz := hRw53
  simp only at h4 h5 h6 h7 h8 h9 h10 h11 h12 h13
  refine tEn (ls := [some (.inr (.inl (some 43)))]) (fun k => by match k with | 0 => rfl | k + 1 => rfl) ?_
  refine tK (l := xk_38) rfl rfl (fun _ _ _ _ _ => rfl) ?_
  refine tK (l := xk_38) rfl rfl (hGetI hs rfl rfl rfl (by decide) (by decide)) ?_
  refine tK (l := xk_38) rfl rfl (fun _ _ _ _ _ => rfl) ?_
  refine tIc_lt (l := xk_38) (pc' := 11) rfl rfl rfl (fun hc => ?_) (fun hc => ?_)
  · refine tK (l := xk_38) rfl rfl (fun _ _ _ _ _ => rfl) ?_
    refine tK (l := xk_38) rfl rfl (hGetR (o := some 53) hs rfl rfl rfl (by decide) (by decide) rfl) ?_
    refine tK (l := xk_38) rfl rfl (fun _ _ _ _ _ => rfl) ?_
    refine tK (l := xk_38) rfl rfl (hGetI hs rfl rfl rfl (by decide) (by decide)) ?_
    refine tCa (l := xk_38) rfl rfl (hInvV (c := 8) hs rfl rfl rfl rfl rfl (Nat.le_of_ble_eq_true rfl) (Nat.le_of_ble_eq_true rfl)) ?_
    rw [h4]
    refine a74 hs rfl h2 (by omega) (fun ph1 hts => ?_)
    refine tKn ?_
    have hf2 := hts.fr (S := [54, 55]) (by decide) (by decide)
    have e4 : hRd ph1 43 3 = (stg.length : Int) := by rw [hf2.1 _ _ (by decide)]; exact h4
    refine tK (l := xk_38) rfl rfl (fun _ _ _ _ _ => rfl) ?_
    refine tK (l := xk_38) rfl rfl (fun _ _ _ _ _ => rfl) ?_
    refine tK (l := xk_38) rfl rfl (hGetI hts.sh rfl rfl rfl (by decide) (by decide)) ?_
    refine tK (l := xk_38) rfl rfl (fun _ _ _ _ _ => rfl) ?_
    refine tK (l := xk_38) rfl rfl (hAdd ⟨by omega, by omega⟩) ?_
    refine tK (l := xk_38) rfl rfl (hPutV hts.sh rfl rfl (by decide) (by decide) rfl) ?_
    refine tK (l := xk_38) rfl rfl (fun _ _ _ _ _ => rfl) ?_
    refine tRt (l := xk_38) rfl rfl (fun _ _ _ _ _ => rfl) ?_
    have hf3 : hFr [43] ph1 (hUp ph1 43 3 (hRd ph1 43 3 + 1)) := hUp_fr hts.sh rfl (by decide) (by decide)
    have hg : hFr [43, 54, 55] ph (hUp ph1 43 3 (hRd ph1 43 3 + 1)) := (hf2.mono (by decide)).trans (hf3.mono (by decide))
    refine hQ _ ⟨h1.fr (hShI1 _ hts.sh rfl rfl) hg (by decide) (by decide) (by decide), hf3.tw (by decide) hts.tw, hg.tw (by decide) h3, ?_, by simp; omega, ⟨by rw [hf3.to (by decide) (by decide)]; exact hts.row, hStg_eq (fun r hr => by rw [hf3.to (by decide) (by decide)]; exact hts.rows (by omega) (by omega)) h6⟩, by rw [hg.to (by decide) (by decide)]; exact h7, by rw [hg.1 _ _ (by decide)]; exact h8, h9, by rw [hg.1 _ _ (by decide)]; exact h10, by rw [hg.1 _ _ (by decide)]; exact h11, by rw [hg.1 _ _ (by decide)]; exact h12, h13⟩ hg
    rw [hRd_up hts.sh rfl (by decide), if_pos ⟨rfl, rfl⟩, e4]; simp
  · exfalso; omega
theorem s39 {f0 : xSc} {t : List Int} (h : hRN zs ph (f0 :: scs, t :: stg, ou, st, pl, es, vl)) (hn : n < 10) (hQ : ∀ ph2, hRN zs ph2 (scU f0 n (some t) :: scs, stg, ou, st, pl, es, vl) → hFr [43, 51, 52] ph ph2 → (∀ r, r < scs.length * 10 → hTo ph2 50 r = hTo ph 50 r) → Q (.inl none, ph2, g)) : xTC (d + 3) 39 [.inr (.inl (some 43)), .inl (n : Int)] ph g Q := by
  obtain ⟨h1, h2, h3, h4, h5, h6, h7, h8, h9, h10, h11, h12, h13⟩ := id h
  have hs := h1.1
  have hz := hRw53
  simp only [List.length_cons] at h4 h5 h7 h8 h9 h10 h11 h12 h13
  have e9 : (if (0 : Int) < hRd ph 43 3 - 1 then hRd ph 43 3 - 1 else 0) = (stg.length : Int) := by split <;> omega
  have hf3 : hFr [43] ph (hUp ph 43 3 (stg.length : Int)) := hUp_fr hs rfl (by decide) (by decide)
  have hs3 : hSh zs (hUp ph 43 3 (stg.length : Int)) := hShI1 _ hs rfl rfl
  have e4 : hRd (hUp ph 43 3 (stg.length : Int)) 43 3 = (stg.length : Int) := by rw [hRd_up hs rfl (by decide), if_pos ⟨rfl, rfl⟩]
  have q1 := h1.fr hs3 hf3 (by decide) (by decide) (by decide)
  refine tEn (ls := [some (.inr (.inl (some 43))), some (.inl (n : Int))]) (fun k => by match k with | 0 => rfl | 1 => rfl | k + 2 => rfl) ?_
  refine tK (l := xk_39) rfl rfl (fun _ _ _ _ _ => rfl) ?_
  refine tK (l := xk_39) rfl rfl (fun _ _ _ _ _ => rfl) ?_
  refine tK (l := xk_39) rfl rfl (fun _ _ _ _ _ => rfl) ?_
  refine tK (l := xk_39) rfl rfl (hGetI hs rfl rfl rfl (by decide) (by decide)) ?_
  refine tK (l := xk_39) rfl rfl (fun _ _ _ _ _ => rfl) ?_
  refine tK (l := xk_39) rfl rfl (hSub ⟨by omega, by omega⟩) ?_
  refine tK (l := xk_39) rfl rfl (fun _ _ _ _ _ => rfl) ?_
  refine tK (l := xk_39) rfl rfl (hPutV hs rfl rfl (by decide) (by decide) rfl) ?_
  rw [e9]
  refine tK (l := xk_39) rfl rfl (fun _ _ _ _ _ => rfl) ?_
  refine tK (l := xk_39) rfl rfl (hGetR (o := some 49) hs3 rfl rfl rfl (by decide) (by decide) rfl) ?_
  refine tK (l := xk_39) rfl rfl (fun _ _ _ _ _ => rfl) ?_
  refine tK (l := xk_39) rfl rfl (fun _ _ _ _ _ => rfl) ?_
  refine tK (l := xk_39) rfl rfl (hGetR (o := some 53) hs3 rfl rfl rfl (by decide) (by decide) rfl) ?_
  refine tK (l := xk_39) rfl rfl (fun _ _ _ _ _ => rfl) ?_
  refine tK (l := xk_39) rfl rfl (hGetI hs3 rfl rfl rfl (by decide) (by decide)) ?_
  refine tCa (l := xk_39) rfl rfl (hInvV (c := 5) hs3 rfl rfl rfl rfl rfl (Nat.le_of_ble_eq_true rfl) (Nat.le_of_ble_eq_true rfl)) ?_
  rw [e4]
  refine s44 (v := some t) q1 hn rfl (hf3.tw (by decide) h2) (by omega) (by rw [hf3.to (by decide) (by decide)]; exact h6.1) (fun s hs9 => by cases hs9; have := hTo_len h2 (show stg.length < hRw 53 by omega) h6.1; omega) (fun ph2 q2 f2 r2 => ?_)
  refine tKn ?_
  refine tRt (l := xk_39) rfl rfl (fun _ _ _ _ _ => rfl) ?_
  have hg : hFr [43, 51, 52] ph ph2 := (hf3.mono (by decide)).trans (f2.mono (by decide))
  have hg2 : hFr [43] ph (hUp ph 43 3 (stg.length : Int)) := hf3
  refine hQ ph2 ⟨q2, hg.tw (by decide) h2, hg.tw (by decide) h3, by rw [f2.1 _ _ (by decide)]; exact e4, by simp only; omega, hStg_eq (fun r _ => hg.to (by decide) (by decide)) h6.2, by rw [hg.to (by decide) (by decide)]; exact h7, by rw [hg.1 _ _ (by decide)]; exact h8, h9, by rw [hg.1 _ _ (by decide)]; exact h10, by rw [hg.1 _ _ (by decide)]; exact h11, by rw [hg.1 _ _ (by decide)]; exact h12, h13⟩ hg (fun r hr => by rw [r2 r hr]; exact hf3.to (by decide) (by decide))
theorem s35n {k : Int} (h : hRN zs ph (sc, stg, ou, st, pl, es, vl)) (hn : n < 10) (hv : lk sc n = none) (hQ : Q (.inl (some (.inl 1)), ph, g)) : xTC (d + 2) 35 [.inr (.inl (some 43)), .inl (n : Int), .inl k] ph g Q := by
  obtain ⟨h1, -⟩ := id h
  have hs := h1.1
  have hl : lkR sc n = none := by
    cases e : lkR sc n with
    | none => rfl
    | some r => have := (lkR_to (ph := ph) hn h1.2.2.2.2 e).2; simp only at this; rw [hv] at this; cases this
  refine tEn (ls := [some (.inr (.inl (some 43))), some (.inl (n : Int)), some (.inl k), none, none, none, none]) (fun k => by match k with | 0 => rfl | 1 => rfl | 2 => rfl | 3 => rfl | 4 => rfl | 5 => rfl | 6 => rfl | k + 7 => rfl) ?_
  refine tK (l := xk_35) rfl rfl (fun _ _ _ _ _ => rfl) ?_
  refine tK (l := xk_35) rfl rfl (hGetR (o := some 49) hs rfl rfl rfl (by decide) (by decide) rfl) ?_
  refine tK (l := xk_35) rfl rfl (fun _ _ _ _ _ => rfl) ?_
  refine tCa (l := xk_35) rfl rfl (hInvV (c := 5) hs rfl rfl rfl rfl rfl (Nat.le_of_ble_eq_true rfl) (Nat.le_of_ble_eq_true rfl)) ?_
  refine s45 h1 hn ?_
  refine tKv ?_
  simp only [hl, lkI]
  refine tSt (l := xk_35) rfl rfl (fun _ _ _ _ _ => rfl) (Nat.le_of_ble_eq_true rfl) ?_
  refine tK (l := xk_35) rfl rfl (fun _ _ _ _ _ => rfl) ?_
  refine tK (l := xk_35) rfl rfl (fun _ _ _ _ _ => rfl) ?_
  refine tIc_ne (l := xk_35) (pc' := 16) rfl rfl rfl (fun hc => ?_) (fun hc => ?_)
  · have hc11 := hc
    refine tK (l := xk_35) rfl rfl (fun _ _ _ _ _ => rfl) ?_
    refine tRt (l := xk_35) rfl rfl (fun _ _ _ _ _ => rfl) ?_
    exact hQ
  · have hc11 := hc
    exact absurd rfl hc
theorem pvF_cons {e : Bool} {k : Int} {c : Int} {cs : List Int} {s : RS} (he : (e && spc c) = false) : pvF e k (c :: cs) s = (match prF c k s with
        | (s2, 0) => pvF e k cs s2
        | q => q) := by simp only [pvF, he]; rfl
theorem pvF_conE {e : Bool} {k : Int} {c : Int} {cs : List Int} {s : RS} (he : (e && spc c) = true) : pvF e k (c :: cs) s = (match prF 126 k s with
      | (s1, 0) => (match prF c k s1 with
        | (s2, 0) => pvF e k cs s2
        | q => q)
      | q => q) := by simp only [pvF, he, if_true]; rfl
theorem s35 {k : Int} {v : List Int} (h : hRN zs ph (sc, stg, ou, st, pl, es, vl)) (hn : n < 10) (hv : lk sc n = some v) (hQ : ∀ ph2, hRN zs ph2 (pvF (k == 3) k v (sc, stg, ou, st, pl, es, vl)).1 → hF4 [44, 46, 47, 54, 55] ph ph2 → Q (.inl (some (.inl ((pvF (k == 3) k v (sc, stg, ou, st, pl, es, vl)).2 : Int))), ph2, g)) : xTC (d + 2) 35 [.inr (.inl (some 43)), .inl (n : Int), .inl k] ph g Q := by
  obtain ⟨h1, -⟩ := id h
  have hs := h1.1
  have hz := hRw50
  have hw24 := hWd50
  simp only at h1
  obtain ⟨r, hl⟩ := lk_lkR hv
  have hr := lkR_some hn hl
  obtain ⟨q1, -⟩ := lkR_to hn h1.2.2.2.2 hl
  rw [hv] at q1
  have hr2 : r < hRw 50 := by have := h1.2.2.2.1; omega
  have hvl : v.length ≤ 24 := by have := hTo_len h1.2.1 hr2 q1; omega
  have hch := hTo_ch hs rfl q1
  -- the end behind a failure
  have fin : ∀ (i rs : Nat) (phi : xH) (o6 : Option xV), i ≤ 24 → rs ≠ 0 → hSh zs phi → hTW phi 50 → hTo phi 50 r = some v → Q (.inl (some (.inl (rs : Int))), phi, g) → xT (d + 2) 35 22 (xlo [some (.inr (.inl (some 43))), some (.inl (n : Int)), some (.inl k), some (.inl (r : Int)), some (.inl (rs : Int)), some (.inl (i : Int)), o6]) [] phi g Q := by
    intro i rs phi o6 hi hrs hs hw9 hto hq
    refine tK (l := xk_35) rfl rfl (fun _ _ _ _ _ => rfl) ?_
    refine tK (l := xk_35) rfl rfl (fun _ _ _ _ _ => rfl) ?_
    refine tK (l := xk_35) rfl rfl (hGetR (o := some 49) hs rfl rfl rfl (by decide) (by decide) rfl) ?_
    refine tK (l := xk_35) rfl rfl (hGetR (o := some 50) hs rfl rfl rfl (by decide) (by decide) rfl) ?_
    refine tK (l := xk_35) rfl rfl (fun _ _ _ _ _ => rfl) ?_
    refine tCa (l := xk_35) rfl rfl (hInvV (c := 8) hs rfl rfl rfl rfl rfl (Nat.le_of_ble_eq_true rfl) (Nat.le_of_ble_eq_true rfl)) ?_
    refine a75 hs rfl hw9 hr2 hto ?_
    refine tKv ?_
    refine tIc_ge (l := xk_35) (pc' := 100) rfl rfl rfl (fun hc => ?_) (fun hc => ?_)
    · have hc35 := hc
      refine tK (l := xk_35) rfl rfl (fun _ _ _ _ _ => rfl) ?_
      refine tIf_ne (l := xk_35) (pc' := 100) rfl rfl rfl (fun hc => ?_) (fun hc => ?_)
      · have hc40 := hc
        exfalso; omega
      · have hc40 := hc
        refine tK (l := xk_35) rfl rfl (fun _ _ _ _ _ => rfl) ?_
        refine tRt (l := xk_35) rfl rfl (fun _ _ _ _ _ => rfl) ?_
        exact hq
    · have hc35 := hc
      refine tK (l := xk_35) rfl rfl (fun _ _ _ _ _ => rfl) ?_
      refine tRt (l := xk_35) rfl rfl (fun _ _ _ _ _ => rfl) ?_
      exact hq
  have loop : ∀ (l : List Int) (i : Nat) (s : RS) (phi : xH) (o6 : Option xV), i + l.length = v.length → v.drop i = l → hRN zs phi s → s.1 = sc → hF4 [44, 46, 47, 54, 55] ph phi → pvF (k == 3) k v (sc, stg, ou, st, pl, es, vl) = pvF (k == 3) k l s → xT (d + 2) 35 22 (xlo [some (.inr (.inl (some 43))), some (.inl (n : Int)), some (.inl k), some (.inl (r : Int)), some (.inl 0), some (.inl (i : Int)), o6]) [] phi g Q := by
    intro l
    induction l with
    | nil =>
      intro i s phi o6 him hdr hR hsc hf he
      have hs := hR.1.1
      have hw9 := hR.1.2.1
      have hto : hTo phi 50 r = some v := by rw [hf.to (by decide) (by decide)]; exact q1
      have hi : i = v.length := by simpa using him
      refine tK (l := xk_35) rfl rfl (fun _ _ _ _ _ => rfl) ?_
      refine tK (l := xk_35) rfl rfl (fun _ _ _ _ _ => rfl) ?_
      refine tK (l := xk_35) rfl rfl (hGetR (o := some 49) hs rfl rfl rfl (by decide) (by decide) rfl) ?_
      refine tK (l := xk_35) rfl rfl (hGetR (o := some 50) hs rfl rfl rfl (by decide) (by decide) rfl) ?_
      refine tK (l := xk_35) rfl rfl (fun _ _ _ _ _ => rfl) ?_
      refine tCa (l := xk_35) rfl rfl (hInvV (c := 8) hs rfl rfl rfl rfl rfl (Nat.le_of_ble_eq_true rfl) (Nat.le_of_ble_eq_true rfl)) ?_
      refine a75 hs rfl hw9 hr2 hto ?_
      refine tKv ?_
      refine tIc_ge (l := xk_35) (pc' := 100) rfl rfl rfl (fun hc => ?_) (fun hc => ?_)
      · have hc35 := hc
        exfalso
        have h9 : (i : Int) < (v.length : Int) := hc
        omega
      · have hc35 := hc
        refine tK (l := xk_35) rfl rfl (fun _ _ _ _ _ => rfl) ?_
        refine tRt (l := xk_35) rfl rfl (fun _ _ _ _ _ => rfl) ?_
        rw [he] at hQ
        exact hQ phi hR hf
    | cons c cs ih =>
      intro i s phi o6 him hdr hR hsc hf he
      have hs := hR.1.1
      have hw9 := hR.1.2.1
      have hto : hTo phi 50 r = some v := by rw [hf.to (by decide) (by decide)]; exact q1
      have hck : v[i]? = some c := by
        have := congrArg (fun l => l[0]?) hdr
        simpa using this
      have hdr2 : v.drop (i + 1) = cs := by rw [← List.drop_drop, hdr]; rfl
      have him2 : i + 1 + cs.length = v.length := by simp only [List.length_cons] at him; omega
      have hcc := hch c (List.mem_of_getElem? hck)
      refine tK (l := xk_35) rfl rfl (fun _ _ _ _ _ => rfl) ?_
      refine tK (l := xk_35) rfl rfl (fun _ _ _ _ _ => rfl) ?_
      refine tK (l := xk_35) rfl rfl (hGetR (o := some 49) hs rfl rfl rfl (by decide) (by decide) rfl) ?_
      refine tK (l := xk_35) rfl rfl (hGetR (o := some 50) hs rfl rfl rfl (by decide) (by decide) rfl) ?_
      refine tK (l := xk_35) rfl rfl (fun _ _ _ _ _ => rfl) ?_
      refine tCa (l := xk_35) rfl rfl (hInvV (c := 8) hs rfl rfl rfl rfl rfl (Nat.le_of_ble_eq_true rfl) (Nat.le_of_ble_eq_true rfl)) ?_
      refine a75 hs rfl hw9 hr2 hto ?_
      refine tKv ?_
      refine tIc_ge (l := xk_35) (pc' := 100) rfl rfl rfl (fun hc => ?_) (fun hc => ?_)
      · have hc35 := hc
        refine tK (l := xk_35) rfl rfl (fun _ _ _ _ _ => rfl) ?_
        refine tIf_ne (l := xk_35) (pc' := 100) rfl rfl rfl (fun hc => ?_) (fun hc => ?_)
        · have hc40 := hc
          refine tK (l := xk_35) rfl rfl (fun _ _ _ _ _ => rfl) ?_
          refine tK (l := xk_35) rfl rfl (hGetR (o := some 49) hs rfl rfl rfl (by decide) (by decide) rfl) ?_
          refine tK (l := xk_35) rfl rfl (hGetR (o := some 50) hs rfl rfl rfl (by decide) (by decide) rfl) ?_
          refine tK (l := xk_35) rfl rfl (fun _ _ _ _ _ => rfl) ?_
          refine tK (l := xk_35) rfl rfl (fun _ _ _ _ _ => rfl) ?_
          refine tCa (l := xk_35) rfl rfl (hInvV (c := 8) hs rfl rfl rfl rfl rfl (Nat.le_of_ble_eq_true rfl) (Nat.le_of_ble_eq_true rfl)) ?_
          refine a76 hs rfl hw9 hr2 hto hck ?_
          refine tKv ?_
          refine tSt (l := xk_35) rfl rfl (fun _ _ _ _ _ => rfl) (Nat.le_of_ble_eq_true rfl) ?_
          refine tK (l := xk_35) rfl rfl (fun _ _ _ _ _ => rfl) ?_
          refine tK (l := xk_35) rfl rfl (fun _ _ _ _ _ => rfl) ?_
          refine tIc_ne (l := xk_35) (pc' := 80) rfl rfl rfl (fun hc => ?_) (fun hc => ?_)
          · have hc60 := hc
            refine tK (l := xk_35) rfl rfl (fun _ _ _ _ _ => rfl) ?_
            refine tCa (l := xk_35) rfl rfl (hInvS rfl rfl rfl rfl (Nat.le_of_ble_eq_true rfl) (Nat.le_of_ble_eq_true rfl)) ?_
            refine s113 ?_
            refine tKv ?_
            refine tIf_eq (l := xk_35) (pc' := 80) rfl rfl rfl (fun hc => ?_) (fun hc => ?_)
            · have hc68 := hc
              have hspc : ((k == 3) && spc c) = false := by cases hsp : spc c with | false => simp | true => rw [hsp] at hc68; exact absurd hc68 (by decide)
              refine tK (l := xk_35) rfl rfl (fun _ _ _ _ _ => rfl) ?_
              refine tIf_ne (l := xk_35) (pc' := 94) rfl rfl rfl (fun hc => ?_) (fun hc => ?_)
              · have hc82 := hc
                refine tK (l := xk_35) rfl rfl (fun _ _ _ _ _ => rfl) ?_
                refine tK (l := xk_35) rfl rfl (fun _ _ _ _ _ => rfl) ?_
                refine tK (l := xk_35) rfl rfl (fun _ _ _ _ _ => rfl) ?_
                refine tCa (l := xk_35) rfl rfl (hInvV (c := 4) hs rfl rfl rfl rfl rfl (Nat.le_of_ble_eq_true rfl) (Nat.le_of_ble_eq_true rfl)) ?_
                obtain ⟨y1, y2, y3, y4, y5, y6, y7⟩ := s
                refine s36 (c := c) hR hcc (fun ph5 hR5 hf5 => ?_)
                refine tKv ?_
                cases hp5 : prF c k (y1, y2, y3, y4, y5, y6, y7) with | mk s5 r5 => ?_
                rw [hp5] at hR5
                simp only [hp5]
                have hsc5 : s5.1 = sc := by have := (prF_sc c k (y1, y2, y3, y4, y5, y6, y7)).1; rw [hp5] at this; rw [this]; exact hsc
                refine tSt (l := xk_35) rfl rfl (fun _ _ _ _ _ => rfl) (Nat.le_of_ble_eq_true rfl) ?_
                refine tSt (l := xk_35) rfl rfl (hIinc rfl (Nat.le_of_ble_eq_true rfl) ⟨by omega, by omega⟩) (Nat.le_of_ble_eq_true rfl) ?_
                refine tK (l := xk_35) rfl rfl (fun _ _ _ _ _ => rfl) ?_
                cases r5 with
                | succ r5 => exact fin (i + 1) (r5 + 1) ph5 _ (by omega) (by omega) hR5.1.1 hR5.1.2.1 (by rw [(hf.trans hf5).to (by decide) (by decide)]; exact q1) (by rw [he, pvF_cons hspc, hp5] at hQ; exact hQ ph5 hR5 (hf.trans hf5))
                | zero => exact ih (i + 1) s5 ph5 _ him2 hdr2 hR5 hsc5 (hf.trans hf5) (by rw [he, pvF_cons hspc, hp5]; rfl)
              · have hc82 := hc
                exact absurd rfl hc
            · have hc68 := hc
              refine tK (l := xk_35) rfl rfl (fun _ _ _ _ _ => rfl) ?_
              refine tK (l := xk_35) rfl rfl (fun _ _ _ _ _ => rfl) ?_
              refine tK (l := xk_35) rfl rfl (fun _ _ _ _ _ => rfl) ?_
              refine tCa (l := xk_35) rfl rfl (hInvV (c := 4) hs rfl rfl rfl rfl rfl (Nat.le_of_ble_eq_true rfl) (Nat.le_of_ble_eq_true rfl)) ?_
              obtain ⟨z1, z2, z3, z4, z5, z6, z7⟩ := s
              refine s36 (c := 126) hR (by decide) (fun ph1 hR1 hf1 => ?_)
              refine tKv ?_
              cases hp1 : prF 126 k (z1, z2, z3, z4, z5, z6, z7) with | mk s1 r1 => ?_
              rw [hp1] at hR1
              simp only [hp1]
              refine tSt (l := xk_35) rfl rfl (fun _ _ _ _ _ => rfl) (Nat.le_of_ble_eq_true rfl) ?_
              have hsc1 : s1.1 = sc := by have := (prF_sc 126 k (z1, z2, z3, z4, z5, z6, z7)).1; rw [hp1] at this; rw [this]; exact hsc
              have hspc : ((k == 3) && spc c) = true := by cases hsp : spc c with | false => exact absurd (by rw [hsp]; rfl) hc68 | true => rw [hc60]; rfl
              cases r1 with
              | succ r1 =>
                refine tK (l := xk_35) rfl rfl (fun _ _ _ _ _ => rfl) ?_
                refine tIf_ne (l := xk_35) (pc' := 94) rfl rfl rfl (fun hc => ?_) (fun hc => ?_)
                · have hc82 := hc
                  exfalso
                  have h9 : ((r1 + 1 : Nat) : Int) = 0 := hc
                  omega
                · have hc82 := hc
                  refine tSt (l := xk_35) rfl rfl (hIinc rfl (Nat.le_of_ble_eq_true rfl) ⟨by omega, by omega⟩) (Nat.le_of_ble_eq_true rfl) ?_
                  refine tK (l := xk_35) rfl rfl (fun _ _ _ _ _ => rfl) ?_
                  exact fin (i + 1) (r1 + 1) ph1 _ (by omega) (by omega) hR1.1.1 hR1.1.2.1 (by rw [(hf.trans hf1).to (by decide) (by decide)]; exact q1) (by rw [he, pvF_conE hspc, hp1] at hQ; exact hQ ph1 hR1 (hf.trans hf1))
              | zero =>
                refine tK (l := xk_35) rfl rfl (fun _ _ _ _ _ => rfl) ?_
                refine tIf_ne (l := xk_35) (pc' := 94) rfl rfl rfl (fun hc => ?_) (fun hc => ?_)
                · have hc82 := hc
                  refine tK (l := xk_35) rfl rfl (fun _ _ _ _ _ => rfl) ?_
                  refine tK (l := xk_35) rfl rfl (fun _ _ _ _ _ => rfl) ?_
                  refine tK (l := xk_35) rfl rfl (fun _ _ _ _ _ => rfl) ?_
                  refine tCa (l := xk_35) rfl rfl (hInvV (c := 4) hR1.1.1 rfl rfl rfl rfl rfl (Nat.le_of_ble_eq_true rfl) (Nat.le_of_ble_eq_true rfl)) ?_
                  obtain ⟨y1, y2, y3, y4, y5, y6, y7⟩ := s1
                  refine s36 (c := c) hR1 hcc (fun ph5 hR5 hf5 => ?_)
                  refine tKv ?_
                  cases hp5 : prF c k (y1, y2, y3, y4, y5, y6, y7) with | mk s5 r5 => ?_
                  rw [hp5] at hR5
                  simp only [hp5]
                  have hsc5 : s5.1 = sc := by have := (prF_sc c k (y1, y2, y3, y4, y5, y6, y7)).1; rw [hp5] at this; rw [this]; exact hsc1
                  refine tSt (l := xk_35) rfl rfl (fun _ _ _ _ _ => rfl) (Nat.le_of_ble_eq_true rfl) ?_
                  refine tSt (l := xk_35) rfl rfl (hIinc rfl (Nat.le_of_ble_eq_true rfl) ⟨by omega, by omega⟩) (Nat.le_of_ble_eq_true rfl) ?_
                  refine tK (l := xk_35) rfl rfl (fun _ _ _ _ _ => rfl) ?_
                  cases r5 with
                  | succ r5 => exact fin (i + 1) (r5 + 1) ph5 _ (by omega) (by omega) hR5.1.1 hR5.1.2.1 (by rw [((hf.trans hf1).trans hf5).to (by decide) (by decide)]; exact q1) (by rw [he, pvF_conE hspc, hp1] at hQ; simp only [hp5] at hQ; exact hQ ph5 hR5 ((hf.trans hf1).trans hf5))
                  | zero => exact ih (i + 1) s5 ph5 _ him2 hdr2 hR5 hsc5 ((hf.trans hf1).trans hf5) (by rw [he, pvF_conE hspc, hp1]; simp only [hp5])
                · have hc82 := hc
                  exact absurd rfl hc
          · have hc60 := hc
            have hspc : ((k == 3) && spc c) = false := by rw [show (k == 3) = false from beq_eq_false_iff_ne.mpr hc60]; rfl
            refine tK (l := xk_35) rfl rfl (fun _ _ _ _ _ => rfl) ?_
            refine tIf_ne (l := xk_35) (pc' := 94) rfl rfl rfl (fun hc => ?_) (fun hc => ?_)
            · have hc82 := hc
              refine tK (l := xk_35) rfl rfl (fun _ _ _ _ _ => rfl) ?_
              refine tK (l := xk_35) rfl rfl (fun _ _ _ _ _ => rfl) ?_
              refine tK (l := xk_35) rfl rfl (fun _ _ _ _ _ => rfl) ?_
              refine tCa (l := xk_35) rfl rfl (hInvV (c := 4) hs rfl rfl rfl rfl rfl (Nat.le_of_ble_eq_true rfl) (Nat.le_of_ble_eq_true rfl)) ?_
              obtain ⟨y1, y2, y3, y4, y5, y6, y7⟩ := s
              refine s36 (c := c) hR hcc (fun ph5 hR5 hf5 => ?_)
              refine tKv ?_
              cases hp5 : prF c k (y1, y2, y3, y4, y5, y6, y7) with | mk s5 r5 => ?_
              rw [hp5] at hR5
              simp only [hp5]
              have hsc5 : s5.1 = sc := by have := (prF_sc c k (y1, y2, y3, y4, y5, y6, y7)).1; rw [hp5] at this; rw [this]; exact hsc
              refine tSt (l := xk_35) rfl rfl (fun _ _ _ _ _ => rfl) (Nat.le_of_ble_eq_true rfl) ?_
              refine tSt (l := xk_35) rfl rfl (hIinc rfl (Nat.le_of_ble_eq_true rfl) ⟨by omega, by omega⟩) (Nat.le_of_ble_eq_true rfl) ?_
              refine tK (l := xk_35) rfl rfl (fun _ _ _ _ _ => rfl) ?_
              cases r5 with
              | succ r5 => exact fin (i + 1) (r5 + 1) ph5 _ (by omega) (by omega) hR5.1.1 hR5.1.2.1 (by rw [(hf.trans hf5).to (by decide) (by decide)]; exact q1) (by rw [he, pvF_cons hspc, hp5] at hQ; exact hQ ph5 hR5 (hf.trans hf5))
              | zero => exact ih (i + 1) s5 ph5 _ him2 hdr2 hR5 hsc5 (hf.trans hf5) (by rw [he, pvF_cons hspc, hp5]; rfl)
            · have hc82 := hc
              exact absurd rfl hc
        · have hc40 := hc
          exact absurd rfl hc
      · have hc35 := hc
        exfalso
        have h9 : ¬ (i : Int) < (v.length : Int) := hc
        omega
  refine tEn (ls := [some (.inr (.inl (some 43))), some (.inl (n : Int)), some (.inl k), none, none, none, none]) (fun k => by match k with | 0 => rfl | 1 => rfl | 2 => rfl | 3 => rfl | 4 => rfl | 5 => rfl | 6 => rfl | k + 7 => rfl) ?_
  refine tK (l := xk_35) rfl rfl (fun _ _ _ _ _ => rfl) ?_
  refine tK (l := xk_35) rfl rfl (hGetR (o := some 49) hs rfl rfl rfl (by decide) (by decide) rfl) ?_
  refine tK (l := xk_35) rfl rfl (fun _ _ _ _ _ => rfl) ?_
  refine tCa (l := xk_35) rfl rfl (hInvV (c := 5) hs rfl rfl rfl rfl rfl (Nat.le_of_ble_eq_true rfl) (Nat.le_of_ble_eq_true rfl)) ?_
  refine s45 h1 hn ?_
  refine tKv ?_
  simp only [hl, lkI]
  refine tSt (l := xk_35) rfl rfl (fun _ _ _ _ _ => rfl) (Nat.le_of_ble_eq_true rfl) ?_
  refine tK (l := xk_35) rfl rfl (fun _ _ _ _ _ => rfl) ?_
  refine tK (l := xk_35) rfl rfl (fun _ _ _ _ _ => rfl) ?_
  refine tIc_ne (l := xk_35) (pc' := 16) rfl rfl rfl (fun hc => ?_) (fun hc => ?_)
  · have hc11 := hc
    exfalso
    have h9 : (r : Int) = -1 := hc
    omega
  · have hc11 := hc
    refine tK (l := xk_35) rfl rfl (fun _ _ _ _ _ => rfl) ?_
    refine tSt (l := xk_35) rfl rfl (fun _ _ _ _ _ => rfl) (Nat.le_of_ble_eq_true rfl) ?_
    refine tK (l := xk_35) rfl rfl (fun _ _ _ _ _ => rfl) ?_
    refine tSt (l := xk_35) rfl rfl (fun _ _ _ _ _ => rfl) (Nat.le_of_ble_eq_true rfl) ?_
    exact loop v 0 _ ph none (by simp) rfl h rfl hF4.refl rfl
end PRV
