/-! ===== what a rendering works on ===== -/
abbrev RS : Type := List xSc × List (List Int) × List Int × Nat × Nat × Nat × Nat
def hStg (ph : xH) : List (List Int) → Prop
  | [] => True
  | t :: ts => hTo ph 53 ts.length = some t ∧ hStg ph ts
def hRN (zs : List xV) (ph : xH) (s : RS) : Prop := hSC zs ph s.1 ∧ hTW ph 53 ∧ hTW ph 45 ∧ hRd ph 43 3 = (s.2.1.length : Int) ∧ s.2.1.length ≤ 40 ∧ hStg ph s.2.1 ∧ hTo ph 45 0 = some s.2.2.1 ∧ hRd ph 44 4 = (s.2.2.2.1 : Int) ∧ s.2.2.2.1 ≤ 200 ∧ hRd ph 44 5 = (s.2.2.2.2.1 : Int) ∧ hRd ph 44 6 = (s.2.2.2.2.2.1 : Int) ∧ hRd ph 44 7 = (s.2.2.2.2.2.2 : Int) ∧ s.2.2.2.2.1 + s.2.2.2.2.2.1 + s.2.2.2.2.2.2 = s.2.2.1.length
theorem hStg_eq {ph ph2 : xH} : ∀ {l : List (List Int)}, (∀ r, r < l.length → hTo ph2 53 r = hTo ph 53 r) → hStg ph l → hStg ph2 l := by
  intro l
  induction l with
  | nil => intro _ _; trivial
  | cons t ts ih =>
    intro h ⟨h1, h2⟩
    simp only [List.length_cons] at h
    exact ⟨by rw [h _ (by omega)]; exact h1, ih (fun r hr => h r (by omega)) h2⟩
/-- a character printed for a part of a kind -/
def prF (c k : Int) : RS → RS × Nat
  | (sc, t :: ts, ou, st, pl, es, vl) => if t.length = 24 then ((sc, t :: ts, ou, st, pl, es, vl), 6) else ((sc, (t ++ [c]) :: ts, ou, st, pl, es, vl), 0)
  | (sc, [], ou, st, pl, es, vl) => if ou.length = 200 then ((sc, [], ou, st, pl, es, vl), 2) else if k = 0 then ((sc, [], ou ++ [c], st, pl + 1, es, vl), 0) else if k = 1 then ((sc, [], ou ++ [c], st, pl, es + 1, vl), 0) else ((sc, [], ou ++ [c], st, pl, es, vl + 1), 0)
def spc (c : Int) : Bool := c == 123 || c == 125 || c == 126
/-- a value printed, escaped or not -/
def pvF (e : Bool) (k : Int) : List Int → RS → RS × Nat
  | [], s => (s, 0)
  | c :: cs, s => if (e && spc c) = true then (match prF 126 k s with
      | (s1, 0) => (match prF c k s1 with
        | (s2, 0) => pvF e k cs s2
        | q => q)
      | q => q) else (match prF c k s with
        | (s2, 0) => pvF e k cs s2
        | q => q)
theorem hRw53 : hRw 53 = 40 ∧ hWd 53 = 24 ∧ hRw 45 = 1 ∧ hWd 45 = 200 := by decide +kernel
theorem prF_sc (c k : Int) (s : RS) : (prF c k s).1.1 = s.1 ∧ (prF c k s).1.2.2.2.1 = s.2.2.2.1 ∧ (prF c k s).1.2.1.length = s.2.1.length := by
  obtain ⟨sc, stg, ou, st, pl, es, vl⟩ := s
  cases stg with
  | nil => simp only [prF]; (repeat' split) <;> exact ⟨rfl, rfl, rfl⟩
  | cons t ts => simp only [prF]; split <;> exact ⟨rfl, rfl, rfl⟩
def hF4 (S : List Nat) (ph ph2 : xH) : Prop := hFr S ph ph2 ∧ ∀ k, k < 4 → hRd ph2 44 k = hRd ph 44 k
theorem hF4.refl {S : List Nat} {ph : xH} : hF4 S ph ph := ⟨hFr.refl, fun _ _ => rfl⟩
theorem hF4.trans {S : List Nat} {a b c : xH} (h1 : hF4 S a b) (h2 : hF4 S b c) : hF4 S a c := ⟨h1.1.trans h2.1, fun k hk => (h2.2 k hk).trans (h1.2 k hk)⟩
theorem hF4.to {S : List Nat} {ph ph2 : xH} {t r : Nat} (h : hF4 S ph ph2) (h1 : t + 1 ∉ S) (h2 : t + 2 ∉ S) : hTo ph2 t r = hTo ph t r := h.1.to h1 h2
theorem hRN.fr {zs : List xV} {ph ph2 : xH} {s : RS} {S : List Nat} (h : hRN zs ph s) (hs : hSh zs ph2) (hf : hFr S ph ph2) (hS : ∀ a ∈ S, a ∉ [43, 44, 46, 47, 49, 51, 52, 54, 55]) : hRN zs ph2 s := by
  obtain ⟨h1, h2, h3, h4, h5, h6, h7, h8, h9, h10, h11, h12, h13⟩ := h
  have n : ∀ a, a ∈ [43, 44, 46, 47, 49, 51, 52, 54, 55] → a ∉ S := fun a ha hq => hS a hq ha
  exact ⟨h1.fr hs hf (n _ (by decide)) (n _ (by decide)) (n _ (by decide)), hf.tw (n _ (by decide)) h2, hf.tw (n _ (by decide)) h3, by rw [hf.1 _ _ (n _ (by decide))]; exact h4, h5, hStg_eq (fun r _ => hf.to (n _ (by decide)) (n _ (by decide))) h6, by rw [hf.to (n _ (by decide)) (n _ (by decide))]; exact h7, by rw [hf.1 _ _ (n _ (by decide))]; exact h8, h9, by rw [hf.1 _ _ (n _ (by decide))]; exact h10, by rw [hf.1 _ _ (n _ (by decide))]; exact h11, by rw [hf.1 _ _ (n _ (by decide))]; exact h12, h13⟩
section RNP
variable {d : Nat} {ph : xH} {zs : List xV} {g : Nat} {Q : xR → Prop} {sc : List xSc} {stg : List (List Int)} {ou : List Int} {st pl es vl : Nat}
theorem s34f (h : hRN zs ph (sc, stg, ou, st, pl, es, vl)) (he : st = 200) (hQ : Q (.inl (some (.inl 3)), ph, g)) : xTC d 34 [.inr (.inl (some 43))] ph g Q := by
  obtain ⟨⟨hs, -⟩, -, -, -, -, -, -, h8, h9, -⟩ := id h
  simp only at h8 h9
  refine tEn (ls := [some (.inr (.inl (some 43)))]) (fun k => by match k with | 0 => rfl | k + 1 => rfl) ?_
  refine tK (l := xk_34) rfl rfl (fun _ _ _ _ _ => rfl) ?_
  refine tK (l := xk_34) rfl rfl (hGetR (o := some 44) hs rfl rfl rfl (by decide) (by decide) rfl) ?_
  refine tK (l := xk_34) rfl rfl (hGetI hs rfl rfl rfl (by decide) (by decide)) ?_
  refine tK (l := xk_34) rfl rfl (fun _ _ _ _ _ => rfl) ?_
  refine tIc_lt (l := xk_34) (pc' := 15) rfl rfl rfl (fun hc => ?_) (fun hc => ?_)
  · exfalso; omega
  · refine tK (l := xk_34) rfl rfl (fun _ _ _ _ _ => rfl) ?_
    refine tRt (l := xk_34) rfl rfl (fun _ _ _ _ _ => rfl) ?_
    exact hQ
theorem s34 (h : hRN zs ph (sc, stg, ou, st, pl, es, vl)) (he : st < 200) (hQ : ∀ ph2, hRN zs ph2 (sc, stg, ou, st + 1, pl, es, vl) → hF4 [44] ph ph2 → Q (.inl (some (.inl 0)), ph2, g)) : xTC d 34 [.inr (.inl (some 43))] ph g Q := by
  obtain ⟨h1, h2, h3, h4, h5, h6, h7, h8, h9, h10, h11, h12, h13⟩ := id h
  have hs := h1.1
  simp only at h8 h9
  refine tEn (ls := [some (.inr (.inl (some 43)))]) (fun k => by match k with | 0 => rfl | k + 1 => rfl) ?_
  refine tK (l := xk_34) rfl rfl (fun _ _ _ _ _ => rfl) ?_
  refine tK (l := xk_34) rfl rfl (hGetR (o := some 44) hs rfl rfl rfl (by decide) (by decide) rfl) ?_
  refine tK (l := xk_34) rfl rfl (hGetI hs rfl rfl rfl (by decide) (by decide)) ?_
  refine tK (l := xk_34) rfl rfl (fun _ _ _ _ _ => rfl) ?_
  refine tIc_lt (l := xk_34) (pc' := 15) rfl rfl rfl (fun hc => ?_) (fun hc => ?_)
  · refine tK (l := xk_34) rfl rfl (fun _ _ _ _ _ => rfl) ?_
    refine tK (l := xk_34) rfl rfl (hGetR (o := some 44) hs rfl rfl rfl (by decide) (by decide) rfl) ?_
    refine tK (l := xk_34) rfl rfl (fun _ _ _ _ _ => rfl) ?_
    refine tK (l := xk_34) rfl rfl (hGetI hs rfl rfl rfl (by decide) (by decide)) ?_
    refine tK (l := xk_34) rfl rfl (fun _ _ _ _ _ => rfl) ?_
    refine tK (l := xk_34) rfl rfl (hAdd ⟨by omega, by omega⟩) ?_
    refine tK (l := xk_34) rfl rfl (hPutV hs rfl rfl (by decide) (by decide) rfl) ?_
    refine tK (l := xk_34) rfl rfl (fun _ _ _ _ _ => rfl) ?_
    refine tRt (l := xk_34) rfl rfl (fun _ _ _ _ _ => rfl) ?_
    have hf : hFr [44] ph (hUp ph 44 4 (hRd ph 44 4 + 1)) := hUp_fr hs rfl (by decide) (by decide)
    have hr := hRd_up (x := hRd ph 44 4 + 1) hs (show hKi (hTg 44) 4 = true from rfl) (by decide)
    have hs2 : hSh zs (hUp ph 44 4 (hRd ph 44 4 + 1)) := (hShI1 _ hs rfl rfl)
    refine hQ _ ⟨h1.fr hs2 hf (by decide) (by decide) (by decide), hf.tw (by decide) h2, hf.tw (by decide) h3, by rw [hf.1 _ _ (by decide)]; exact h4, h5, hStg_eq (fun r _ => hf.to (by decide) (by decide)) h6, by rw [hf.to (by decide) (by decide)]; exact h7, ?_, by show st + 1 ≤ 200; omega, ?_, ?_, ?_, h13⟩ ⟨hf, fun q hq => by rw [hr, if_neg (by omega)]⟩
    · rw [hr, if_pos ⟨rfl, rfl⟩, h8]; push_cast; rfl
    · rw [hr, if_neg (by decide)]; exact h10
    · rw [hr, if_neg (by decide)]; exact h11
    · rw [hr, if_neg (by decide)]; exact h12
  · exfalso; omega
theorem s36 {c k : Int} (h : hRN zs ph (sc, stg, ou, st, pl, es, vl)) (hcc : 0 ≤ c ∧ c ≤ 65535) (hQ : ∀ ph2, hRN zs ph2 (prF c k (sc, stg, ou, st, pl, es, vl)).1 → hF4 [44, 46, 47, 54, 55] ph ph2 → Q (.inl (some (.inl ((prF c k (sc, stg, ou, st, pl, es, vl)).2 : Int))), ph2, g)) : xTC (d + 1) 36 [.inr (.inl (some 43)), .inl c, .inl k] ph g Q := by
  obtain ⟨h1, h2, h3, h4, h5, h6, h7, h8, h9, h10, h11, h12, h13⟩ := id h
  have hs := h1.1
  have hz := hRw53
  simp only at h4 h5 h6 h7 h8 h9 h10 h11 h12 h13
  refine tEn (ls := [some (.inr (.inl (some 43))), some (.inl c), some (.inl k)]) (fun k => by match k with | 0 => rfl | 1 => rfl | 2 => rfl | k + 3 => rfl) ?_
  cases stg with
  | cons t ts =>
    simp only [List.length_cons] at h4 h5
    have hlt := hTo_len h2 (show ts.length < hRw 53 by omega) h6.1
    by_cases hl : t.length = 24
    · refine tK (l := xk_36) rfl rfl (fun _ _ _ _ _ => rfl) ?_
      refine tK (l := xk_36) rfl rfl (hGetI hs rfl rfl rfl (by decide) (by decide)) ?_
      refine tIf_le (l := xk_36) (pc' := 31) rfl rfl rfl (fun hc => ?_) (fun hc => ?_)
      · refine tK (l := xk_36) rfl rfl (fun _ _ _ _ _ => rfl) ?_
        refine tK (l := xk_36) rfl rfl (hGetR (o := some 53) hs rfl rfl rfl (by decide) (by decide) rfl) ?_
        refine tK (l := xk_36) rfl rfl (fun _ _ _ _ _ => rfl) ?_
        refine tK (l := xk_36) rfl rfl (hGetI hs rfl rfl rfl (by decide) (by decide)) ?_
        refine tK (l := xk_36) rfl rfl (fun _ _ _ _ _ => rfl) ?_
        refine tK (l := xk_36) rfl rfl (hSub ⟨by omega, by omega⟩) ?_
        refine tK (l := xk_36) rfl rfl (fun _ _ _ _ _ => rfl) ?_
        refine tCa (l := xk_36) rfl rfl (hInvV (c := 8) hs rfl rfl rfl rfl rfl (Nat.le_of_ble_eq_true rfl) (Nat.le_of_ble_eq_true rfl)) ?_
        rw [show hRd ph 43 3 - 1 = (ts.length : Int) by omega]
        refine a79f hs rfl h2 (by omega) h6.1 (by omega) ?_
        refine tKv ?_
        refine tIf_eq (l := xk_36) (pc' := 28) rfl rfl rfl (fun hc => ?_) (fun hc => ?_)
        · refine tK (l := xk_36) rfl rfl (fun _ _ _ _ _ => rfl) ?_
          refine tRt (l := xk_36) rfl rfl (fun _ _ _ _ _ => rfl) ?_
          simp only [prF, if_pos hl] at hQ
          exact hQ ph h hF4.refl
        · exact absurd rfl hc
      · exfalso; omega
    · refine tK (l := xk_36) rfl rfl (fun _ _ _ _ _ => rfl) ?_
      refine tK (l := xk_36) rfl rfl (hGetI hs rfl rfl rfl (by decide) (by decide)) ?_
      refine tIf_le (l := xk_36) (pc' := 31) rfl rfl rfl (fun hc => ?_) (fun hc => ?_)
      · refine tK (l := xk_36) rfl rfl (fun _ _ _ _ _ => rfl) ?_
        refine tK (l := xk_36) rfl rfl (hGetR (o := some 53) hs rfl rfl rfl (by decide) (by decide) rfl) ?_
        refine tK (l := xk_36) rfl rfl (fun _ _ _ _ _ => rfl) ?_
        refine tK (l := xk_36) rfl rfl (hGetI hs rfl rfl rfl (by decide) (by decide)) ?_
        refine tK (l := xk_36) rfl rfl (fun _ _ _ _ _ => rfl) ?_
        refine tK (l := xk_36) rfl rfl (hSub ⟨by omega, by omega⟩) ?_
        refine tK (l := xk_36) rfl rfl (fun _ _ _ _ _ => rfl) ?_
        refine tCa (l := xk_36) rfl rfl (hInvV (c := 8) hs rfl rfl rfl rfl rfl (Nat.le_of_ble_eq_true rfl) (Nat.le_of_ble_eq_true rfl)) ?_
        rw [show hRd ph 43 3 - 1 = (ts.length : Int) by omega]
        refine a79 hs rfl h2 (by omega) h6.1 (by omega) hcc (fun ph2 hts => ?_)
        refine tKv ?_
        refine tIf_eq (l := xk_36) (pc' := 28) rfl rfl rfl (fun hc => ?_) (fun hc => ?_)
        · exact absurd hc (by decide)
        · refine tK (l := xk_36) rfl rfl (fun _ _ _ _ _ => rfl) ?_
          refine tK (l := xk_36) rfl rfl (fun _ _ _ _ _ => rfl) ?_
          refine tRt (l := xk_36) rfl rfl (fun _ _ _ _ _ => rfl) ?_
          simp only [prF, if_neg hl] at hQ
          have hf := hts.fr (S := [44, 46, 47, 54, 55]) (by decide) (by decide)
          have hf2 := hts.fr (S := [54, 55]) (by decide) (by decide)
          refine hQ ph2 ⟨h1.fr hts.sh hf (by decide) (by decide) (by decide), hts.tw, hf2.tw (by decide) h3, by rw [hf2.1 _ _ (by decide), h4]; simp, by simp; omega, ⟨hts.row, hStg_eq (fun r hr => hts.rows (by omega) (by omega)) h6.2⟩, by rw [hf2.to (by decide) (by decide)]; exact h7, by rw [hf2.1 _ _ (by decide)]; exact h8, h9, by rw [hf2.1 _ _ (by decide)]; exact h10, by rw [hf2.1 _ _ (by decide)]; exact h11, by rw [hf2.1 _ _ (by decide)]; exact h12, h13⟩ ⟨hf, fun q hq => hf2.1 _ _ (by decide)⟩
      · exfalso; omega
  | nil =>
    have h4 : hRd ph 43 3 = 0 := h4
    have hlt := hTo_len h3 (show 0 < hRw 45 by omega) h7
    by_cases hl : ou.length = 200
    · refine tK (l := xk_36) rfl rfl (fun _ _ _ _ _ => rfl) ?_
      refine tK (l := xk_36) rfl rfl (hGetI hs rfl rfl rfl (by decide) (by decide)) ?_
      refine tIf_le (l := xk_36) (pc' := 31) rfl rfl rfl (fun hc => ?_) (fun hc => ?_)
      · exfalso; omega
      · refine tK (l := xk_36) rfl rfl (fun _ _ _ _ _ => rfl) ?_
        refine tK (l := xk_36) rfl rfl (hGetR (o := some 44) hs rfl rfl rfl (by decide) (by decide) rfl) ?_
        refine tK (l := xk_36) rfl rfl (hGetR (o := some 45) hs rfl rfl rfl (by decide) (by decide) rfl) ?_
        refine tK (l := xk_36) rfl rfl (fun _ _ _ _ _ => rfl) ?_
        refine tK (l := xk_36) rfl rfl (fun _ _ _ _ _ => rfl) ?_
        refine tCa (l := xk_36) rfl rfl (hInvV (c := 8) hs rfl rfl rfl rfl rfl (Nat.le_of_ble_eq_true rfl) (Nat.le_of_ble_eq_true rfl)) ?_
        refine a79f (r := 0) hs rfl h3 (by omega) h7 (by omega) ?_
        refine tKv ?_
        refine tIf_ne (l := xk_36) (pc' := 48) rfl rfl rfl (fun hc => ?_) (fun hc => ?_)
        · refine tK (l := xk_36) rfl rfl (fun _ _ _ _ _ => rfl) ?_
          refine tRt (l := xk_36) rfl rfl (fun _ _ _ _ _ => rfl) ?_
          simp only [prF, if_pos hl] at hQ
          exact hQ ph h hF4.refl
        · exact absurd rfl hc
    · refine tK (l := xk_36) rfl rfl (fun _ _ _ _ _ => rfl) ?_
      refine tK (l := xk_36) rfl rfl (hGetI hs rfl rfl rfl (by decide) (by decide)) ?_
      refine tIf_le (l := xk_36) (pc' := 31) rfl rfl rfl (fun hc => ?_) (fun hc => ?_)
      · exfalso; omega
      · refine tK (l := xk_36) rfl rfl (fun _ _ _ _ _ => rfl) ?_
        refine tK (l := xk_36) rfl rfl (hGetR (o := some 44) hs rfl rfl rfl (by decide) (by decide) rfl) ?_
        refine tK (l := xk_36) rfl rfl (hGetR (o := some 45) hs rfl rfl rfl (by decide) (by decide) rfl) ?_
        refine tK (l := xk_36) rfl rfl (fun _ _ _ _ _ => rfl) ?_
        refine tK (l := xk_36) rfl rfl (fun _ _ _ _ _ => rfl) ?_
        refine tCa (l := xk_36) rfl rfl (hInvV (c := 8) hs rfl rfl rfl rfl rfl (Nat.le_of_ble_eq_true rfl) (Nat.le_of_ble_eq_true rfl)) ?_
        refine a79 (r := 0) hs rfl h3 (by omega) h7 (by omega) hcc (fun ph2 hts => ?_)
        refine tKv ?_
        have hf2 := hts.fr (S := [46, 47]) (by decide) (by decide)
        refine tIf_ne (l := xk_36) (pc' := 48) rfl rfl rfl (fun hc => ?_) (fun hc => ?_)
        · exact absurd hc (by decide)
        · refine tK (l := xk_36) rfl rfl (fun _ _ _ _ _ => rfl) ?_
          refine tIf_ne (l := xk_36) (pc' := 68) rfl rfl rfl (fun hc => ?_) (fun hc => ?_)
          · refine tK (l := xk_36) rfl rfl (fun _ _ _ _ _ => rfl) ?_
            refine tK (l := xk_36) rfl rfl (hGetR (o := some 44) hts.sh rfl rfl rfl (by decide) (by decide) rfl) ?_
            refine tK (l := xk_36) rfl rfl (fun _ _ _ _ _ => rfl) ?_
            refine tK (l := xk_36) rfl rfl (hGetI hts.sh rfl rfl rfl (by decide) (by decide)) ?_
            refine tK (l := xk_36) rfl rfl (fun _ _ _ _ _ => rfl) ?_
            refine tK (l := xk_36) rfl rfl (hAdd ⟨by (first | omega | (rw [hf2.1 _ _ (by decide)]; omega)), by (first | omega | (rw [hf2.1 _ _ (by decide)]; omega))⟩) ?_
            refine tK (l := xk_36) rfl rfl (hPutV hts.sh rfl rfl (by decide) (by decide) rfl) ?_
            refine tK (l := xk_36) rfl rfl (fun _ _ _ _ _ => rfl) ?_
            refine tK (l := xk_36) rfl rfl (fun _ _ _ _ _ => rfl) ?_
            refine tRt (l := xk_36) rfl rfl (fun _ _ _ _ _ => rfl) ?_
            simp only [prF, if_neg hl, if_pos hc] at hQ
            have hs2 := hts.sh
            have hf3 : hFr [44] ph2 (hUp ph2 44 5 (hRd ph2 44 5 + 1)) := hUp_fr hs2 rfl (by decide) (by decide)
            have hr := hRd_up (x := hRd ph2 44 5 + 1) hs2 (show hKi (hTg 44) 5 = true from rfl) (by decide)
            have hf : hFr [44, 46, 47, 54, 55] ph (hUp ph2 44 5 (hRd ph2 44 5 + 1)) := (hf2.mono (by decide)).trans (hf3.mono (by decide))
            have hg : hFr [44, 46, 47] ph (hUp ph2 44 5 (hRd ph2 44 5 + 1)) := (hf2.mono (by decide)).trans (hf3.mono (by decide))
            refine hQ _ ⟨h1.fr (hShI1 _ hts.sh rfl rfl) hf (by decide) (by decide) (by decide), hg.tw (by decide) h2, hf3.tw (by decide) hts.tw, by rw [hg.1 _ _ (by decide)]; exact h4, h5, trivial, by rw [hf3.to (by decide) (by decide)]; exact hts.row, ?_, h9, ?_, ?_, ?_, by simp; omega⟩ ⟨hf, fun q hq => by rw [hr, if_neg (by omega), hf2.1 _ _ (by decide)]⟩
            · rw [hr, if_neg (by decide), hf2.1 _ _ (by decide)]; exact h8
            · rw [hr, if_pos ⟨rfl, rfl⟩, hf2.1 _ _ (by decide), h10]; push_cast; rfl
            · rw [hr, if_neg (by decide), hf2.1 _ _ (by decide)]; exact h11
            · rw [hr, if_neg (by decide), hf2.1 _ _ (by decide)]; exact h12
          · refine tK (l := xk_36) rfl rfl (fun _ _ _ _ _ => rfl) ?_
            refine tK (l := xk_36) rfl rfl (fun _ _ _ _ _ => rfl) ?_
            refine tIc_ne (l := xk_36) (pc' := 89) rfl rfl rfl (fun hc => ?_) (fun hc => ?_)
            · refine tK (l := xk_36) rfl rfl (fun _ _ _ _ _ => rfl) ?_
              refine tK (l := xk_36) rfl rfl (hGetR (o := some 44) hts.sh rfl rfl rfl (by decide) (by decide) rfl) ?_
              refine tK (l := xk_36) rfl rfl (fun _ _ _ _ _ => rfl) ?_
              refine tK (l := xk_36) rfl rfl (hGetI hts.sh rfl rfl rfl (by decide) (by decide)) ?_
              refine tK (l := xk_36) rfl rfl (fun _ _ _ _ _ => rfl) ?_
              refine tK (l := xk_36) rfl rfl (hAdd ⟨by (first | omega | (rw [hf2.1 _ _ (by decide)]; omega)), by (first | omega | (rw [hf2.1 _ _ (by decide)]; omega))⟩) ?_
              refine tK (l := xk_36) rfl rfl (hPutV hts.sh rfl rfl (by decide) (by decide) rfl) ?_
              refine tK (l := xk_36) rfl rfl (fun _ _ _ _ _ => rfl) ?_
              refine tK (l := xk_36) rfl rfl (fun _ _ _ _ _ => rfl) ?_
              refine tRt (l := xk_36) rfl rfl (fun _ _ _ _ _ => rfl) ?_
              simp only [prF, if_neg hl, if_pos hc, if_neg (show ¬ k = 0 by omega)] at hQ
              have hs2 := hts.sh
              have hf3 : hFr [44] ph2 (hUp ph2 44 6 (hRd ph2 44 6 + 1)) := hUp_fr hs2 rfl (by decide) (by decide)
              have hr := hRd_up (x := hRd ph2 44 6 + 1) hs2 (show hKi (hTg 44) 6 = true from rfl) (by decide)
              have hf : hFr [44, 46, 47, 54, 55] ph (hUp ph2 44 6 (hRd ph2 44 6 + 1)) := (hf2.mono (by decide)).trans (hf3.mono (by decide))
              have hg : hFr [44, 46, 47] ph (hUp ph2 44 6 (hRd ph2 44 6 + 1)) := (hf2.mono (by decide)).trans (hf3.mono (by decide))
              refine hQ _ ⟨h1.fr (hShI1 _ hts.sh rfl rfl) hf (by decide) (by decide) (by decide), hg.tw (by decide) h2, hf3.tw (by decide) hts.tw, by rw [hg.1 _ _ (by decide)]; exact h4, h5, trivial, by rw [hf3.to (by decide) (by decide)]; exact hts.row, ?_, h9, ?_, ?_, ?_, by simp; omega⟩ ⟨hf, fun q hq => by rw [hr, if_neg (by omega), hf2.1 _ _ (by decide)]⟩
              · rw [hr, if_neg (by decide), hf2.1 _ _ (by decide)]; exact h8
              · rw [hr, if_neg (by decide), hf2.1 _ _ (by decide)]; exact h10
              · rw [hr, if_pos ⟨rfl, rfl⟩, hf2.1 _ _ (by decide), h11]; push_cast; rfl
              · rw [hr, if_neg (by decide), hf2.1 _ _ (by decide)]; exact h12
            · refine tK (l := xk_36) rfl rfl (fun _ _ _ _ _ => rfl) ?_
              refine tK (l := xk_36) rfl rfl (hGetR (o := some 44) hts.sh rfl rfl rfl (by decide) (by decide) rfl) ?_
              refine tK (l := xk_36) rfl rfl (fun _ _ _ _ _ => rfl) ?_
              refine tK (l := xk_36) rfl rfl (hGetI hts.sh rfl rfl rfl (by decide) (by decide)) ?_
              refine tK (l := xk_36) rfl rfl (fun _ _ _ _ _ => rfl) ?_
              refine tK (l := xk_36) rfl rfl (hAdd ⟨by (first | omega | (rw [hf2.1 _ _ (by decide)]; omega)), by (first | omega | (rw [hf2.1 _ _ (by decide)]; omega))⟩) ?_
              refine tK (l := xk_36) rfl rfl (hPutV hts.sh rfl rfl (by decide) (by decide) rfl) ?_
              refine tK (l := xk_36) rfl rfl (fun _ _ _ _ _ => rfl) ?_
              refine tRt (l := xk_36) rfl rfl (fun _ _ _ _ _ => rfl) ?_
              simp only [prF, if_neg hl, if_neg (show ¬ k = 0 by assumption), if_neg (show ¬ k = 1 by assumption)] at hQ
              have hs2 := hts.sh
              have hf3 : hFr [44] ph2 (hUp ph2 44 7 (hRd ph2 44 7 + 1)) := hUp_fr hs2 rfl (by decide) (by decide)
              have hr := hRd_up (x := hRd ph2 44 7 + 1) hs2 (show hKi (hTg 44) 7 = true from rfl) (by decide)
              have hf : hFr [44, 46, 47, 54, 55] ph (hUp ph2 44 7 (hRd ph2 44 7 + 1)) := (hf2.mono (by decide)).trans (hf3.mono (by decide))
              have hg : hFr [44, 46, 47] ph (hUp ph2 44 7 (hRd ph2 44 7 + 1)) := (hf2.mono (by decide)).trans (hf3.mono (by decide))
              refine hQ _ ⟨h1.fr (hShI1 _ hts.sh rfl rfl) hf (by decide) (by decide) (by decide), hg.tw (by decide) h2, hf3.tw (by decide) hts.tw, by rw [hg.1 _ _ (by decide)]; exact h4, h5, trivial, by rw [hf3.to (by decide) (by decide)]; exact hts.row, ?_, h9, ?_, ?_, ?_, by simp; omega⟩ ⟨hf, fun q hq => by rw [hr, if_neg (by omega), hf2.1 _ _ (by decide)]⟩
              · rw [hr, if_neg (by decide), hf2.1 _ _ (by decide)]; exact h8
              · rw [hr, if_neg (by decide), hf2.1 _ _ (by decide)]; exact h10
              · rw [hr, if_neg (by decide), hf2.1 _ _ (by decide)]; exact h11
              · rw [hr, if_pos ⟨rfl, rfl⟩, hf2.1 _ _ (by decide), h12]; push_cast; rfl
end RNP
