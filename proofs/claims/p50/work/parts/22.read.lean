/-! ===== Template.read ===== -/
section RDP
variable {d : Nat} {ph : xH} {zs : List xV} {g : Nat} {Q : xR → Prop} {T : Nat} {ps : List PP} {op : List Nat} {mo i : Nat} {c : Int}
theorem s53_1 (h : hTp zs ph T (1, ps, op, mo)) (ht : hTg T = 7) (hin : pIn i (1, ps, op, mo)) (hi : i < 60) (hb : -2000000000 ≤ c) (hQ : ∀ ph2 s2, pRd i c (1, ps, op, mo) = some s2 → hTp zs ph2 T s2 → hFk T ph ph2 → Q (.inl (some (.inl 1)), ph2, g)) (hN : ∀ ph2, pRd i c (1, ps, op, mo) = none → hSh zs ph2 → hFk T ph ph2 → Q (.inl (some (.inl 0)), ph2, g)) : xTC (d + 1) 53 [.inr (.inl (some T)), .inl (i : Int), .inl c] ph g Q := by
  obtain ⟨i1, i2, i3, i4, i5, i6⟩ := id hin
  simp only at i1 i2 i3 i6
  obtain ⟨hs, h8, h9, h10, h11, hA, hM, hO⟩ := id h
  simp only at h8 h9 h10 h11 hA hM hO
  have hz := hTp_sz ht
  have tg1 := htg_7_2 ht
  have tg2 := htg_7_3 ht
  have tg3 := htg_7_4 ht
  have tg4 := htg_7_5 ht
  have tg5 := htg_7_6 ht
  have tg6 := htg_7_7 ht
  have hpl : 0 < ps.length := i5 (by simp)
  obtain ⟨n, hn⟩ : ∃ n, ps.length = n + 1 := ⟨ps.length - 1, by omega⟩
  have em : ps.length - 1 = n := by omega
  have e8 : hRd ph T 8 = (n : Int) + 1 := by rw [h8, hn]; simp
  have hpg : ∃ p, ps[n]? = some p := ⟨_, List.getElem?_eq_getElem (by omega)⟩
  obtain ⟨p, hp⟩ := hpg
  refine tEn (ls := [some (.inr (.inl (some T))), some (.inl (i : Int)), some (.inl c)]) (fun k => by match k with | 0 => rfl | 1 => rfl | 2 => rfl | k + 3 => rfl) ?_
  refine tK (l := xk_53) rfl rfl (fun _ _ _ _ _ => rfl) ?_
  refine tK (l := xk_53) rfl rfl (hGetI hs rfl ht rfl (by decide) (by decide)) ?_
  rw [h11]
  refine tK (l := xk_53) (pc' := 40) rfl rfl (fun _ _ _ _ _ => rfl) ?_
  refine tK (l := xk_53) rfl rfl (fun _ _ _ _ _ => rfl) ?_
  refine tK (l := xk_53) rfl rfl (fun _ _ _ _ _ => rfl) ?_
  refine tCa (l := xk_53) rfl rfl (hInvV (c := 7) hs rfl rfl rfl ht rfl (Nat.le_of_ble_eq_true rfl) (Nat.le_of_ble_eq_true rfl)) ?_
  refine s54 (n := n) hs ht e8 (by omega) ?_
  refine tKn ?_
  refine tK (l := xk_53) rfl rfl (fun _ _ _ _ _ => rfl) ?_
  refine tK (l := xk_53) rfl rfl (fun _ _ _ _ _ => rfl) ?_
  refine tK (l := xk_53) rfl rfl (hPutV (hShI1 _ hs tg3 rfl) rfl ht (by decide) (by decide) rfl) ?_
  refine tK (l := xk_53) rfl rfl (fun _ _ _ _ _ => rfl) ?_
  refine tRt (l := xk_53) rfl rfl (fun _ _ _ _ _ => rfl) ?_
  have u1 : hSh zs (hUp ph (T + 3) n c) := hShI1 _ hs tg3 rfl
  have u2 : hSh zs (hUp (hUp ph (T + 3) n c) T 11 0) := hShI1 _ u1 ht rfl
  have rd : ∀ b j, hRd (hUp (hUp ph (T + 3) n c) T 11 0) b j = if b = T ∧ j = 11 then 0 else if b = (T + 3) ∧ j = n then c else hRd ph b j := fun b j => by rw [hRd_up u1 (a := T) (k := 11) (x := 0) (by rw [ht]; rfl) (by rw [hSz_c ht (by decide)]; decide), hRd_up hs (a := (T + 3)) (k := n) (x := c) (by rw [tg3]; rfl) (by omega)]
  have fr : hFk T ph (hUp (hUp ph (T + 3) n c) T 11 0) := ⟨(hUp_fr (S := (tS T)) (a := (T + 3)) (k := n) (x := c) hs (by rw [tg3]; rfl) (by omega) (by simp [tS])).trans (hUp_fr (S := (tS T)) (a := T) (k := 11) (x := 0) u1 (by rw [ht]; rfl) (by rw [hSz_c ht (by decide)]; decide) (by simp [tS])), fun k hk => by rw [rd, if_neg (by omega), if_neg (by omega)]⟩
  refine hQ _ (0, pSet ps (ps.length - 1) (fun p => (p.1, p.2.1, c, p.2.2.2)), op, mo) rfl ⟨u2, ?_, ?_, ?_, ?_, fun j q hq => ?_, fun j q hq hk hl => ?_, hTpO_eq (fun r _ => ?_) hO⟩ fr
  · rw [rd, if_neg (by omega), if_neg (by omega), h8]; simp only [pSet_len]
  · rw [rd, if_neg (by omega), if_neg (by omega), h9]
  · rw [rd, if_neg (by omega), if_neg (by omega), h10]
  · rw [rd, if_pos ⟨rfl, rfl⟩]; rfl
  · simp only [em] at hq
    rcases pSet_get hq with ⟨rfl, q2, hq2, rfl⟩ | ⟨hne, hq2⟩
    · obtain ⟨a1, a2, a3, a5⟩ := hA _ q2 hq2
      exact ⟨by rw [rd, if_neg (by omega), if_neg (by omega), a1], by rw [rd, if_neg (by omega), if_neg (by omega), a2], by rw [rd, if_neg (by omega), if_pos ⟨rfl, rfl⟩], by rw [rd, if_neg (by omega), if_neg (by omega), a5]⟩
    · obtain ⟨a1, a2, a3, a5⟩ := hA _ q hq2
      exact ⟨by rw [rd, if_neg (by omega), if_neg (by omega), a1], by rw [rd, if_neg (by omega), if_neg (by omega), a2], by rw [rd, if_neg (by omega), if_neg (by omega), a3], by rw [rd, if_neg (by omega), if_neg (by omega), a5]⟩
  · rw [rd, if_neg (by omega), if_neg (by omega)]
    simp only [em] at hq
    rcases pSet_get hq with ⟨rfl, q2, hq2, rfl⟩ | ⟨hne, hq2⟩
    · exact hM _ q2 hq2 hk (fun _ => ⟨by omega, by omega⟩)
    · exact hM _ q hq2 hk (fun _ => ⟨by omega, by omega⟩)
  · rw [rd, if_neg (by omega), if_neg (by omega)]
theorem s53_3 (h : hTp zs ph T (3, ps, op, mo)) (ht : hTg T = 7) (hin : pIn i (3, ps, op, mo)) (hi : i < 60) (hb : -2000000000 ≤ c) (hQ : ∀ ph2 s2, pRd i c (3, ps, op, mo) = some s2 → hTp zs ph2 T s2 → hFk T ph ph2 → Q (.inl (some (.inl 1)), ph2, g)) (hN : ∀ ph2, pRd i c (3, ps, op, mo) = none → hSh zs ph2 → hFk T ph ph2 → Q (.inl (some (.inl 0)), ph2, g)) : xTC (d + 1) 53 [.inr (.inl (some T)), .inl (i : Int), .inl c] ph g Q := by
  obtain ⟨i1, i2, i3, i4, i5, i6⟩ := id hin
  simp only at i1 i2 i3 i6
  obtain ⟨hs, h8, h9, h10, h11, hA, hM, hO⟩ := id h
  simp only at h8 h9 h10 h11 hA hM hO
  have hz := hTp_sz ht
  have tg1 := htg_7_2 ht
  have tg2 := htg_7_3 ht
  have tg3 := htg_7_4 ht
  have tg4 := htg_7_5 ht
  have tg5 := htg_7_6 ht
  have tg6 := htg_7_7 ht
  have hpl : 0 < ps.length := i5 (by simp)
  obtain ⟨n, hn⟩ : ∃ n, ps.length = n + 1 := ⟨ps.length - 1, by omega⟩
  have em : ps.length - 1 = n := by omega
  have e8 : hRd ph T 8 = (n : Int) + 1 := by rw [h8, hn]; simp
  have hpg : ∃ p, ps[n]? = some p := ⟨_, List.getElem?_eq_getElem (by omega)⟩
  obtain ⟨p, hp⟩ := hpg
  refine tEn (ls := [some (.inr (.inl (some T))), some (.inl (i : Int)), some (.inl c)]) (fun k => by match k with | 0 => rfl | 1 => rfl | 2 => rfl | k + 3 => rfl) ?_
  refine tK (l := xk_53) rfl rfl (fun _ _ _ _ _ => rfl) ?_
  refine tK (l := xk_53) rfl rfl (hGetI hs rfl ht rfl (by decide) (by decide)) ?_
  rw [h11]
  refine tK (l := xk_53) (pc' := 80) rfl rfl (fun _ _ _ _ _ => rfl) ?_
  refine tK (l := xk_53) rfl rfl (fun _ _ _ _ _ => rfl) ?_
  refine tK (l := xk_53) rfl rfl (fun _ _ _ _ _ => rfl) ?_
  refine tCa (l := xk_53) rfl rfl (hInvS rfl rfl rfl rfl (Nat.le_of_ble_eq_true rfl) (Nat.le_of_ble_eq_true rfl)) ?_
  refine s85 hb ?_
  refine tKv ?_
  refine tCa (l := xk_53) rfl rfl (hInvV (c := 7) hs rfl rfl rfl ht rfl (Nat.le_of_ble_eq_true rfl) (Nat.le_of_ble_eq_true rfl)) ?_
  refine s56 (n := n) h ht hn (by omega) (nmF_le c).1 (fun ph2 s2 e2 t2 f2 => ?_) (fun e2 => ?_)
  · refine tKv ?_
    refine tRt (l := xk_53) rfl rfl (fun _ _ _ _ _ => rfl) ?_
    exact hQ ph2 s2 (by first | exact e2 | (simp only [pRd]; (try rw [if_pos (kc 2 hc57)]); exact e2)) t2 f2
  · refine tKv ?_
    refine tRt (l := xk_53) rfl rfl (fun _ _ _ _ _ => rfl) ?_
    exact hN ph (by first | exact e2 | (simp only [pRd]; (try rw [if_pos (kc 2 hc57)]); exact e2)) hs hFk.refl
theorem s53_2 (h : hTp zs ph T (2, ps, op, mo)) (ht : hTg T = 7) (hin : pIn i (2, ps, op, mo)) (hi : i < 60) (hb : -2000000000 ≤ c) (hQ : ∀ ph2 s2, pRd i c (2, ps, op, mo) = some s2 → hTp zs ph2 T s2 → hFk T ph ph2 → Q (.inl (some (.inl 1)), ph2, g)) (hN : ∀ ph2, pRd i c (2, ps, op, mo) = none → hSh zs ph2 → hFk T ph ph2 → Q (.inl (some (.inl 0)), ph2, g)) : xTC (d + 1) 53 [.inr (.inl (some T)), .inl (i : Int), .inl c] ph g Q := by
  obtain ⟨i1, i2, i3, i4, i5, i6⟩ := id hin
  simp only at i1 i2 i3 i6
  obtain ⟨hs, h8, h9, h10, h11, hA, hM, hO⟩ := id h
  simp only at h8 h9 h10 h11 hA hM hO
  have hz := hTp_sz ht
  have tg1 := htg_7_2 ht
  have tg2 := htg_7_3 ht
  have tg3 := htg_7_4 ht
  have tg4 := htg_7_5 ht
  have tg5 := htg_7_6 ht
  have tg6 := htg_7_7 ht
  have hpl : 0 < ps.length := i5 (by simp)
  obtain ⟨n, hn⟩ : ∃ n, ps.length = n + 1 := ⟨ps.length - 1, by omega⟩
  have em : ps.length - 1 = n := by omega
  have e8 : hRd ph T 8 = (n : Int) + 1 := by rw [h8, hn]; simp
  have hpg : ∃ p, ps[n]? = some p := ⟨_, List.getElem?_eq_getElem (by omega)⟩
  obtain ⟨p, hp⟩ := hpg
  have kc : ∀ m : Nat, (kdF c : Int) = (m : Int) → kdF c = m := fun m h => by omega
  refine tEn (ls := [some (.inr (.inl (some T))), some (.inl (i : Int)), some (.inl c)]) (fun k => by match k with | 0 => rfl | 1 => rfl | 2 => rfl | k + 3 => rfl) ?_
  refine tK (l := xk_53) rfl rfl (fun _ _ _ _ _ => rfl) ?_
  refine tK (l := xk_53) rfl rfl (hGetI hs rfl ht rfl (by decide) (by decide)) ?_
  rw [h11]
  refine tK (l := xk_53) (pc' := 52) rfl rfl (fun _ _ _ _ _ => rfl) ?_
  refine tK (l := xk_53) rfl rfl (fun _ _ _ _ _ => rfl) ?_
  refine tCa (l := xk_53) rfl rfl (hInvS rfl rfl rfl rfl (Nat.le_of_ble_eq_true rfl) (Nat.le_of_ble_eq_true rfl)) ?_
  refine s55 ?_
  refine tKv ?_
  refine tK (l := xk_53) rfl rfl (fun _ _ _ _ _ => rfl) ?_
  refine tIc_ne (l := xk_53) (pc' := 71) rfl rfl rfl (fun hc => ?_) (fun hc => ?_)
  · have hc57 := hc
    refine tK (l := xk_53) rfl rfl (fun _ _ _ _ _ => rfl) ?_
    refine tK (l := xk_53) rfl rfl (fun _ _ _ _ _ => rfl) ?_
    refine tCa (l := xk_53) rfl rfl (hInvS rfl rfl rfl rfl (Nat.le_of_ble_eq_true rfl) (Nat.le_of_ble_eq_true rfl)) ?_
    refine s85 hb ?_
    refine tKv ?_
    refine tCa (l := xk_53) rfl rfl (hInvV (c := 7) hs rfl rfl rfl ht rfl (Nat.le_of_ble_eq_true rfl) (Nat.le_of_ble_eq_true rfl)) ?_
    refine s56 (n := n) h ht hn (by omega) (nmF_le c).1 (fun ph2 s2 e2 t2 f2 => ?_) (fun e2 => ?_)
    · refine tKv ?_
      refine tK (l := xk_53) rfl rfl (fun _ _ _ _ _ => rfl) ?_
      refine tRt (l := xk_53) rfl rfl (fun _ _ _ _ _ => rfl) ?_
      exact hQ ph2 s2 (by first | exact e2 | (simp only [pRd]; (try rw [if_pos (kc 2 hc57)]); exact e2)) t2 f2
    · refine tKv ?_
      refine tK (l := xk_53) rfl rfl (fun _ _ _ _ _ => rfl) ?_
      refine tRt (l := xk_53) rfl rfl (fun _ _ _ _ _ => rfl) ?_
      exact hN ph (by first | exact e2 | (simp only [pRd]; (try rw [if_pos (kc 2 hc57)]); exact e2)) hs hFk.refl
  · have hc57 := hc
    refine tK (l := xk_53) rfl rfl (fun _ _ _ _ _ => rfl) ?_
    refine tK (l := xk_53) rfl rfl (fun _ _ _ _ _ => rfl) ?_
    refine tCa (l := xk_53) rfl rfl (hInvS rfl rfl rfl rfl (Nat.le_of_ble_eq_true rfl) (Nat.le_of_ble_eq_true rfl)) ?_
    refine s55 ?_
    refine tKv ?_
    refine tCa (l := xk_53) rfl rfl (hInvV (c := 7) hs rfl rfl rfl ht rfl (Nat.le_of_ble_eq_true rfl) (Nat.le_of_ble_eq_true rfl)) ?_
    refine s57 (n := n) hs ht e8 (by omega) ?_
    refine tKv ?_
    refine tRt (l := xk_53) rfl rfl (fun _ _ _ _ _ => rfl) ?_
    have u1 : hSh zs (hUp ph (T + 1) n (kdF c : Int)) := hShI1 _ hs tg1 rfl
    have u2 : hSh zs (hUp (hUp ph (T + 1) n (kdF c : Int)) T 11 3) := hShI1 _ u1 ht rfl
    have rd : ∀ b j, hRd (hUp (hUp ph (T + 1) n (kdF c : Int)) T 11 3) b j = if b = T ∧ j = 11 then 3 else if b = (T + 1) ∧ j = n then (kdF c : Int) else hRd ph b j := fun b j => by rw [hRd_up u1 (a := T) (k := 11) (x := 3) (by rw [ht]; rfl) (by rw [hSz_c ht (by decide)]; decide), hRd_up hs (a := (T + 1)) (k := n) (x := (kdF c : Int)) (by rw [tg1]; rfl) (by omega)]
    have fr : hFk T ph (hUp (hUp ph (T + 1) n (kdF c : Int)) T 11 3) := ⟨(hUp_fr (S := (tS T)) (a := (T + 1)) (k := n) (x := (kdF c : Int)) hs (by rw [tg1]; rfl) (by omega) (by simp [tS])).trans (hUp_fr (S := (tS T)) (a := T) (k := 11) (x := 3) u1 (by rw [ht]; rfl) (by rw [hSz_c ht (by decide)]; decide) (by simp [tS])), fun k hk => by rw [rd, if_neg (by omega), if_neg (by omega)]⟩
    refine hQ _ (3, pSet ps (ps.length - 1) (fun p => (kdF c, p.2)), op, mo) (by simp only [pRd]; rw [if_neg (fun h => hc57 (by rw [h]; rfl))]) ⟨u2, ?_, ?_, ?_, ?_, fun j q hq => ?_, fun j q hq hk hl => ?_, hTpO_eq (fun r _ => ?_) hO⟩ fr
    · rw [rd, if_neg (by omega), if_neg (by omega), h8]; simp only [pSet_len]
    · rw [rd, if_neg (by omega), if_neg (by omega), h9]
    · rw [rd, if_neg (by omega), if_neg (by omega), h10]
    · rw [rd, if_pos ⟨rfl, rfl⟩]; rfl
    · simp only [em] at hq
      rcases pSet_get hq with ⟨rfl, q2, hq2, rfl⟩ | ⟨hne, hq2⟩
      · obtain ⟨a1, a2, a3, a5⟩ := hA _ q2 hq2
        exact ⟨by rw [rd, if_neg (by omega), if_pos ⟨rfl, rfl⟩], by rw [rd, if_neg (by omega), if_neg (by omega), a2], by rw [rd, if_neg (by omega), if_neg (by omega), a3], by rw [rd, if_neg (by omega), if_neg (by omega), a5]⟩
      · obtain ⟨a1, a2, a3, a5⟩ := hA _ q hq2
        exact ⟨by rw [rd, if_neg (by omega), if_neg (by omega), a1], by rw [rd, if_neg (by omega), if_neg (by omega), a2], by rw [rd, if_neg (by omega), if_neg (by omega), a3], by rw [rd, if_neg (by omega), if_neg (by omega), a5]⟩
    · rw [rd, if_neg (by omega), if_neg (by omega)]
      simp only [em, pSet_len] at hq hl
      rcases pSet_get hq with ⟨rfl, q2, hq2, rfl⟩ | ⟨hne, hq2⟩
      · exact absurd rfl (hl (by omega)).2
      · have := (List.getElem?_eq_some_iff.mp hq2).1
        exact hM _ q hq2 hk (fun _ => by omega)
    · rw [rd, if_neg (by omega), if_neg (by omega)]
theorem s53_4 (h : hTp zs ph T (4, ps, op, mo)) (ht : hTg T = 7) (hin : pIn i (4, ps, op, mo)) (hi : i < 60) (hb : -2000000000 ≤ c) (hQ : ∀ ph2 s2, pRd i c (4, ps, op, mo) = some s2 → hTp zs ph2 T s2 → hFk T ph ph2 → Q (.inl (some (.inl 1)), ph2, g)) (hN : ∀ ph2, pRd i c (4, ps, op, mo) = none → hSh zs ph2 → hFk T ph ph2 → Q (.inl (some (.inl 0)), ph2, g)) : xTC (d + 1) 53 [.inr (.inl (some T)), .inl (i : Int), .inl c] ph g Q := by
  obtain ⟨i1, i2, i3, i4, i5, i6⟩ := id hin
  simp only at i1 i2 i3 i6
  obtain ⟨hs, h8, h9, h10, h11, hA, hM, hO⟩ := id h
  simp only at h8 h9 h10 h11 hA hM hO
  have hz := hTp_sz ht
  have tg1 := htg_7_2 ht
  have tg2 := htg_7_3 ht
  have tg3 := htg_7_4 ht
  have tg4 := htg_7_5 ht
  have tg5 := htg_7_6 ht
  have tg6 := htg_7_7 ht
  have hpl : 0 < ps.length := i5 (by simp)
  obtain ⟨n, hn⟩ : ∃ n, ps.length = n + 1 := ⟨ps.length - 1, by omega⟩
  have em : ps.length - 1 = n := by omega
  have e8 : hRd ph T 8 = (n : Int) + 1 := by rw [h8, hn]; simp
  have hpg : ∃ p, ps[n]? = some p := ⟨_, List.getElem?_eq_getElem (by omega)⟩
  obtain ⟨p, hp⟩ := hpg
  refine tEn (ls := [some (.inr (.inl (some T))), some (.inl (i : Int)), some (.inl c)]) (fun k => by match k with | 0 => rfl | 1 => rfl | 2 => rfl | k + 3 => rfl) ?_
  refine tK (l := xk_53) rfl rfl (fun _ _ _ _ _ => rfl) ?_
  refine tK (l := xk_53) rfl rfl (hGetI hs rfl ht rfl (by decide) (by decide)) ?_
  rw [h11]
  refine tK (l := xk_53) (pc' := 89) rfl rfl (fun _ _ _ _ _ => rfl) ?_
  refine tK (l := xk_53) rfl rfl (fun _ _ _ _ _ => rfl) ?_
  refine tK (l := xk_53) rfl rfl (fun _ _ _ _ _ => rfl) ?_
  refine tIc_ne (l := xk_53) (pc' := 106) rfl rfl rfl (fun hc => ?_) (fun hc => ?_)
  · have hc92 := hc
    refine tK (l := xk_53) rfl rfl (fun _ _ _ _ _ => rfl) ?_
    refine tCa (l := xk_53) rfl rfl (hInvV (c := 7) hs rfl rfl rfl ht rfl (Nat.le_of_ble_eq_true rfl) (Nat.le_of_ble_eq_true rfl)) ?_
    refine s58 (n := n) h ht hn (by omega) (by omega) (fun ph2 t2 f2 => ?_)
    refine tKv ?_
    refine tIf_eq (l := xk_53) (pc' := 106) rfl rfl rfl (fun hc => ?_) (fun hc => ?_)
    · have hc99 := hc
      exact absurd hc (by decide)
    · have hc99 := hc
      refine tK (l := xk_53) rfl rfl (fun _ _ _ _ _ => rfl) ?_
      refine tK (l := xk_53) rfl rfl (fun _ _ _ _ _ => rfl) ?_
      refine tRt (l := xk_53) rfl rfl (fun _ _ _ _ _ => rfl) ?_
      exact hQ ph2 (0, ps, n :: op, mo) (by simp only [pRd]; rw [if_pos hc92, em]) t2 f2
  · have hc92 := hc
    refine tK (l := xk_53) rfl rfl (fun _ _ _ _ _ => rfl) ?_
    refine tRt (l := xk_53) rfl rfl (fun _ _ _ _ _ => rfl) ?_
    exact hN ph (by simp only [pRd]; rw [if_neg hc92]) hs hFk.refl
theorem s53_5 (h : hTp zs ph T (5, ps, op, mo)) (ht : hTg T = 7) (hin : pIn i (5, ps, op, mo)) (hi : i < 60) (hb : -2000000000 ≤ c) (hQ : ∀ ph2 s2, pRd i c (5, ps, op, mo) = some s2 → hTp zs ph2 T s2 → hFk T ph ph2 → Q (.inl (some (.inl 1)), ph2, g)) (hN : ∀ ph2, pRd i c (5, ps, op, mo) = none → hSh zs ph2 → hFk T ph ph2 → Q (.inl (some (.inl 0)), ph2, g)) : xTC (d + 1) 53 [.inr (.inl (some T)), .inl (i : Int), .inl c] ph g Q := by
  obtain ⟨i1, i2, i3, i4, i5, i6⟩ := id hin
  simp only at i1 i2 i3 i6
  obtain ⟨hs, h8, h9, h10, h11, hA, hM, hO⟩ := id h
  simp only at h8 h9 h10 h11 hA hM hO
  have hz := hTp_sz ht
  have tg1 := htg_7_2 ht
  have tg2 := htg_7_3 ht
  have tg3 := htg_7_4 ht
  have tg4 := htg_7_5 ht
  have tg5 := htg_7_6 ht
  have tg6 := htg_7_7 ht
  refine tEn (ls := [some (.inr (.inl (some T))), some (.inl (i : Int)), some (.inl c)]) (fun k => by match k with | 0 => rfl | 1 => rfl | 2 => rfl | k + 3 => rfl) ?_
  refine tK (l := xk_53) rfl rfl (fun _ _ _ _ _ => rfl) ?_
  refine tK (l := xk_53) rfl rfl (hGetI hs rfl ht rfl (by decide) (by decide)) ?_
  rw [h11]
  refine tK (l := xk_53) (pc' := 108) rfl rfl (fun _ _ _ _ _ => rfl) ?_
  refine tK (l := xk_53) rfl rfl (fun _ _ _ _ _ => rfl) ?_
  refine tK (l := xk_53) rfl rfl (fun _ _ _ _ _ => rfl) ?_
  refine tK (l := xk_53) rfl rfl (hPutV hs rfl ht (by decide) (by decide) rfl) ?_
  refine tK (l := xk_53) rfl rfl (fun _ _ _ _ _ => rfl) ?_
  refine tK (l := xk_53) rfl rfl (fun _ _ _ _ _ => rfl) ?_
  refine tIc_ne (l := xk_53) (pc' := 123) rfl rfl rfl (fun hc => ?_) (fun hc => ?_)
  · have hc116 := hc
    refine tK (l := xk_53) rfl rfl (fun _ _ _ _ _ => rfl) ?_
    refine tK (l := xk_53) rfl rfl (fun _ _ _ _ _ => rfl) ?_
    refine tRt (l := xk_53) rfl rfl (fun _ _ _ _ _ => rfl) ?_
    have u1 : hSh zs (hUp ph T 11 0) := hShI1 _ hs ht rfl
    have rd : ∀ b j, hRd (hUp ph T 11 0) b j = if b = T ∧ j = 11 then 0 else hRd ph b j := fun b j => by rw [hRd_up hs (a := T) (k := 11) (x := 0) (by rw [ht]; rfl) (by rw [hSz_c ht (by decide)]; decide)]
    have fr : hFk T ph (hUp ph T 11 0) := ⟨hUp_fr (S := (tS T)) (a := T) (k := 11) (x := 0) hs (by rw [ht]; rfl) (by rw [hSz_c ht (by decide)]; decide) (by simp [tS]), fun k hk => by rw [rd, if_neg (by omega)]⟩
    refine hQ _ (0, ps, op, mo) (by simp only [pRd]; rw [if_pos hc116]) ⟨u1, ?_, ?_, ?_, ?_, fun j q hq => ?_, fun j q hq hk hl => ?_, hTpO_eq (fun r _ => ?_) hO⟩ fr
    · rw [rd, if_neg (by omega), h8]
    · rw [rd, if_neg (by omega), h9]
    · rw [rd, if_neg (by omega), h10]
    · rw [rd, if_pos ⟨rfl, rfl⟩]; rfl
    · obtain ⟨a1, a2, a3, a5⟩ := hA _ q hq
      exact ⟨by rw [rd, if_neg (by omega), a1], by rw [rd, if_neg (by omega), a2], by rw [rd, if_neg (by omega), a3], by rw [rd, if_neg (by omega), a5]⟩
    · rw [rd, if_neg (by omega)]; exact hM j q hq hk (fun _ => ⟨by omega, by omega⟩)
    · rw [rd, if_neg (by omega)]
  · have hc116 := hc
    refine tK (l := xk_53) rfl rfl (fun _ _ _ _ _ => rfl) ?_
    refine tRt (l := xk_53) rfl rfl (fun _ _ _ _ _ => rfl) ?_
    have u1 : hSh zs (hUp ph T 11 0) := hShI1 _ hs ht rfl
    have rd : ∀ b j, hRd (hUp ph T 11 0) b j = if b = T ∧ j = 11 then 0 else hRd ph b j := fun b j => by rw [hRd_up hs (a := T) (k := 11) (x := 0) (by rw [ht]; rfl) (by rw [hSz_c ht (by decide)]; decide)]
    have fr : hFk T ph (hUp ph T 11 0) := ⟨hUp_fr (S := (tS T)) (a := T) (k := 11) (x := 0) hs (by rw [ht]; rfl) (by rw [hSz_c ht (by decide)]; decide) (by simp [tS]), fun k hk => by rw [rd, if_neg (by omega)]⟩
    exact hN _ (by simp only [pRd]; rw [if_neg hc116]) u1 fr
theorem s53_0 (h : hTp zs ph T (0, ps, op, mo)) (ht : hTg T = 7) (hin : pIn i (0, ps, op, mo)) (hi : i < 60) (hb : -2000000000 ≤ c) (hQ : ∀ ph2 s2, pRd i c (0, ps, op, mo) = some s2 → hTp zs ph2 T s2 → hFk T ph ph2 → Q (.inl (some (.inl 1)), ph2, g)) (hN : ∀ ph2, pRd i c (0, ps, op, mo) = none → hSh zs ph2 → hFk T ph ph2 → Q (.inl (some (.inl 0)), ph2, g)) : xTC (d + 1) 53 [.inr (.inl (some T)), .inl (i : Int), .inl c] ph g Q := by
  obtain ⟨i1, i2, i3, i4, i5, i6⟩ := id hin
  simp only at i1 i2 i3 i6
  obtain ⟨hs, h8, h9, h10, h11, hA, hM, hO⟩ := id h
  simp only at h8 h9 h10 h11 hA hM hO
  have hz := hTp_sz ht
  have tg1 := htg_7_2 ht
  have tg2 := htg_7_3 ht
  have tg3 := htg_7_4 ht
  have tg4 := htg_7_5 ht
  have tg5 := htg_7_6 ht
  have tg6 := htg_7_7 ht
  refine tEn (ls := [some (.inr (.inl (some T))), some (.inl (i : Int)), some (.inl c)]) (fun k => by match k with | 0 => rfl | 1 => rfl | 2 => rfl | k + 3 => rfl) ?_
  refine tK (l := xk_53) rfl rfl (fun _ _ _ _ _ => rfl) ?_
  refine tK (l := xk_53) rfl rfl (hGetI hs rfl ht rfl (by decide) (by decide)) ?_
  rw [h11]
  refine tK (l := xk_53) (pc' := 125) rfl rfl (fun _ _ _ _ _ => rfl) ?_
  refine tK (l := xk_53) rfl rfl (fun _ _ _ _ _ => rfl) ?_
  refine tK (l := xk_53) rfl rfl (fun _ _ _ _ _ => rfl) ?_
  refine tIc_ne (l := xk_53) (pc' := 138) rfl rfl rfl (fun hc => ?_) (fun hc => ?_)
  · have hc128 := hc
    refine tK (l := xk_53) rfl rfl (fun _ _ _ _ _ => rfl) ?_
    refine tCa (l := xk_53) rfl rfl (hInvV (c := 7) hs rfl rfl rfl ht rfl (Nat.le_of_ble_eq_true rfl) (Nat.le_of_ble_eq_true rfl)) ?_
    subst hc128
    cases op with
    | nil =>
      refine s59n h ht ?_
      refine tKv ?_
      refine tK (l := xk_53) rfl rfl (fun _ _ _ _ _ => rfl) ?_
      refine tRt (l := xk_53) rfl rfl (fun _ _ _ _ _ => rfl) ?_
      exact hN ph rfl hs hFk.refl
    | cons q os =>
      simp only [List.length_cons] at i2
      refine s59 h ht (i3 q List.mem_cons_self) (by omega) (by omega) (fun ph2 t2 f2 => ?_)
      refine tKv ?_
      refine tK (l := xk_53) rfl rfl (fun _ _ _ _ _ => rfl) ?_
      refine tRt (l := xk_53) rfl rfl (fun _ _ _ _ _ => rfl) ?_
      exact hQ ph2 _ rfl t2 f2
  · have hc128 := hc
    refine tK (l := xk_53) rfl rfl (fun _ _ _ _ _ => rfl) ?_
    refine tK (l := xk_53) rfl rfl (fun _ _ _ _ _ => rfl) ?_
    refine tK (l := xk_53) rfl rfl (fun _ _ _ _ _ => rfl) ?_
    refine tCa (l := xk_53) rfl rfl (hInvV (c := 7) hs rfl rfl rfl ht rfl (Nat.le_of_ble_eq_true rfl) (Nat.le_of_ble_eq_true rfl)) ?_
    refine s60 h ht (by omega) (by omega) (by omega) hc128 (fun ph2 s2 e2 t2 f2 => ?_)
    refine tKv ?_
    refine tRt (l := xk_53) rfl rfl (fun _ _ _ _ _ => rfl) ?_
    exact hQ ph2 s2 e2 t2 f2
theorem s53 {s : PSt} {c : Int} (h : hTp zs ph T s) (ht : hTg T = 7) (hin : pIn i s) (hi : i < 60) (hb : -2000000000 ≤ c) (hQ : ∀ ph2 s2, pRd i c s = some s2 → hTp zs ph2 T s2 → hFk T ph ph2 → Q (.inl (some (.inl 1)), ph2, g)) (hN : ∀ ph2, pRd i c s = none → hSh zs ph2 → hFk T ph ph2 → Q (.inl (some (.inl 0)), ph2, g)) : xTC (d + 1) 53 [.inr (.inl (some T)), .inl (i : Int), .inl c] ph g Q := by
  obtain ⟨k, ps, op, mo⟩ := s
  have hk := hin.2.2.2.1
  simp only at hk
  match k, hk with
  | 0, _ => exact s53_0 h ht hin hi hb hQ hN
  | 1, _ => exact s53_1 h ht hin hi hb hQ hN
  | 2, _ => exact s53_2 h ht hin hi hb hQ hN
  | 3, _ => exact s53_3 h ht hin hi hb hQ hN
  | 4, _ => exact s53_4 h ht hin hi hb hQ hN
  | 5, _ => exact s53_5 h ht hin hi hb hQ hN
  | k + 6, hk => exact absurd hk (by omega)
end RDP
