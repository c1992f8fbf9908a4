/-! ===== the outcome; how a rendering begins ===== -/
def hPl (ph : xH) (pl : List Nat) : Prop := ∀ k x : Nat, pl[k]? = some x → hRd ph 48 k = (x : Int)
theorem hRN_44 {zs : List xV} {ph : xH} {s : RS} {k : Nat} {x : Int} (h : hRN zs ph s) (hk : k = 2 ∨ k = 3) : hRN zs (hUp ph 44 k x) s := by
  obtain ⟨h1, h2, h3, h4, h5, h6, h7, h8, h9, h10, h11, h12, h13⟩ := h
  have hs := h1.1
  have hki : hKi (hTg 44) k = true := by rcases hk with rfl | rfl <;> rfl
  have hz : k < hSz 44 := by rcases hk with rfl | rfl <;> decide
  have hs2 : hSh zs (hUp ph 44 k x) := hShI1 x hs rfl (by rcases hk with rfl | rfl <;> rfl)
  have hf : hFr [44] ph (hUp ph 44 k x) := hUp_fr hs hki hz (by decide)
  have hr := hRd_up (x := x) hs hki hz
  refine ⟨h1.fr hs2 hf (by decide) (by decide) (by decide), hf.tw (by decide) h2, hf.tw (by decide) h3, by rw [hf.1 _ _ (by decide)]; exact h4, h5, hStg_eq (fun r _ => hf.to (by decide) (by decide)) h6, by rw [hf.to (by decide) (by decide)]; exact h7, ?_, h9, ?_, ?_, ?_, h13⟩
  · rw [hr, if_neg (by omega)]; exact h8
  · rw [hr, if_neg (by omega)]; exact h10
  · rw [hr, if_neg (by omega)]; exact h11
  · rw [hr, if_neg (by omega)]; exact h12
/-- the scope that a rendering begins with -/
def sc0 (f : Nat → Option (List Int)) (w : Int) : xSc := fun n => if n < 8 ∧ (n : Int) ≠ w then f n else none
section OUT
variable {d : Nat} {ph : xH} {zs : List xV} {g : Nat} {Q : xR → Prop}
theorem s28 {o k : Nat} (hs : hSh zs ph) (ho : hTg o = 3) (hk : k < 5) (hQ : Q (.inl (some (.inl (hRd ph (o + 4) k))), ph, g)) : xTC d 28 [.inr (.inl (some o)), .inl (k : Int)] ph g Q := by
  have hz := hOc_sz ho
  refine tEn (ls := [some (.inr (.inl (some o))), some (.inl (k : Int))]) (fun k => by match k with | 0 => rfl | 1 => rfl | k + 2 => rfl) ?_
  refine tK (l := xk_28) rfl rfl (fun _ _ _ _ _ => rfl) ?_
  refine tIf_lt (l := xk_28) (pc' := 22) rfl rfl rfl (fun hc => ?_) (fun hc => ?_)
  · refine tK (l := xk_28) rfl rfl (fun _ _ _ _ _ => rfl) ?_
    refine tRt (l := xk_28) rfl rfl (fun _ _ _ _ _ => rfl) ?_
    first | exact hQ | (exfalso; omega)
  · refine tK (l := xk_28) rfl rfl (fun _ _ _ _ _ => rfl) ?_
    refine tK (l := xk_28) rfl rfl (fun _ _ _ _ _ => rfl) ?_
    refine tK (l := xk_28) rfl rfl (hGetR (o := some (o + 4)) hs rfl ho rfl (by decide) (by decide) (hrf_3_1 ho)) ?_
    refine tK (l := xk_28) rfl rfl (hAlen1 hs (htg_3_1 ho) (by decide) (by decide)) ?_
    refine tIc_ge (l := xk_28) (pc' := 22) rfl rfl rfl (fun hc => ?_) (fun hc => ?_)
    · refine tK (l := xk_28) rfl rfl (fun _ _ _ _ _ => rfl) ?_
      refine tK (l := xk_28) rfl rfl (hGetR (o := some (o + 4)) hs rfl ho rfl (by decide) (by decide) (hrf_3_1 ho)) ?_
      refine tK (l := xk_28) rfl rfl (fun _ _ _ _ _ => rfl) ?_
      first | refine tK (l := xk_28) rfl rfl (hIaldN hs (htg_3_1 ho) rfl (by omega)) ?_ | refine tK (l := xk_28) rfl rfl (hIald hs (htg_3_1 ho) (by omega) (by omega)) ?_
      refine tK (l := xk_28) rfl rfl (fun _ _ _ _ _ => rfl) ?_
      refine tRt (l := xk_28) rfl rfl (fun _ _ _ _ _ => rfl) ?_
      first | exact hQ | (exfalso; omega)
    · refine tK (l := xk_28) rfl rfl (fun _ _ _ _ _ => rfl) ?_
      refine tRt (l := xk_28) rfl rfl (fun _ _ _ _ _ => rfl) ?_
      first | exact hQ | (exfalso; omega)
theorem s30 {l : Nat} {x : Int} (hs : hSh zs ph) (hl : l < 5) (hQ : Q (.inl none, hUp ph 48 l x, g)) : xTC d 30 [.inr (.inl (some 44)), .inl (l : Int), .inl x] ph g Q := by
  have hz : hSz 48 = 5 := by decide
  refine tEn (ls := [some (.inr (.inl (some 44))), some (.inl (l : Int)), some (.inl x)]) (fun k => by match k with | 0 => rfl | 1 => rfl | 2 => rfl | k + 3 => rfl) ?_
  refine tK (l := xk_30) rfl rfl (fun _ _ _ _ _ => rfl) ?_
  refine tIf_lt (l := xk_30) (pc' := 20) rfl rfl rfl (fun hc => ?_) (fun hc => ?_)
  · refine tRt (l := xk_30) rfl rfl (fun _ _ _ _ _ => rfl) ?_
    first | exact hQ | (exfalso; omega)
  · refine tK (l := xk_30) rfl rfl (fun _ _ _ _ _ => rfl) ?_
    refine tK (l := xk_30) rfl rfl (fun _ _ _ _ _ => rfl) ?_
    refine tK (l := xk_30) rfl rfl (hGetR (o := some 48) hs rfl rfl rfl (by decide) (by decide) rfl) ?_
    refine tK (l := xk_30) rfl rfl (hAlen hs (by decide) (by decide)) ?_
    refine tIc_ge (l := xk_30) (pc' := 20) rfl rfl rfl (fun hc => ?_) (fun hc => ?_)
    · refine tK (l := xk_30) rfl rfl (fun _ _ _ _ _ => rfl) ?_
      refine tK (l := xk_30) rfl rfl (hGetR (o := some 48) hs rfl rfl rfl (by decide) (by decide) rfl) ?_
      refine tK (l := xk_30) rfl rfl (fun _ _ _ _ _ => rfl) ?_
      refine tK (l := xk_30) rfl rfl (fun _ _ _ _ _ => rfl) ?_
      first | refine tK (l := xk_30) rfl rfl (hIastN hs rfl rfl (by omega)) ?_ | refine tK (l := xk_30) rfl rfl (hIast hs rfl (by omega) (by omega)) ?_
      refine tRt (l := xk_30) rfl rfl (fun _ _ _ _ _ => rfl) ?_
      first | exact hQ | (exfalso; omega)
    · refine tRt (l := xk_30) rfl rfl (fun _ _ _ _ _ => rfl) ?_
      first | exact hQ | (exfalso; omega)
theorem s31z {l y x : Int} (hs : hSh zs ph) (h0 : hRd ph 44 3 ≠ 0) (hQ : Q (.inl none, ph, g)) : xTC d 31 [.inr (.inl (some 44)), .inl y, .inl l, .inl x] ph g Q := by
  refine tEn (ls := [some (.inr (.inl (some 44))), some (.inl y), some (.inl l), some (.inl x)]) (fun k => by match k with | 0 => rfl | 1 => rfl | 2 => rfl | 3 => rfl | k + 4 => rfl) ?_
  refine tK (l := xk_31) rfl rfl (fun _ _ _ _ _ => rfl) ?_
  refine tK (l := xk_31) rfl rfl (hGetI hs rfl rfl rfl (by decide) (by decide)) ?_
  refine tIf_ne (l := xk_31) (pc' := 25) rfl rfl rfl (fun hc => ?_) (fun hc => ?_)
  · exact absurd hc h0
  · refine tRt (l := xk_31) rfl rfl (fun _ _ _ _ _ => rfl) ?_
    exact hQ
theorem s31 {l : Nat} {y x : Int} (hs : hSh zs ph) (h0 : hRd ph 44 3 = 0) (hl : l < 5) (hQ : Q (.inl none, hUp (hUp (hUp ph 44 3 y) 48 l x) 44 2 ((l : Int) + 1), g)) : xTC (d + 1) 31 [.inr (.inl (some 44)), .inl y, .inl (l : Int), .inl x] ph g Q := by
  refine tEn (ls := [some (.inr (.inl (some 44))), some (.inl y), some (.inl (l : Int)), some (.inl x)]) (fun k => by match k with | 0 => rfl | 1 => rfl | 2 => rfl | 3 => rfl | k + 4 => rfl) ?_
  refine tK (l := xk_31) rfl rfl (fun _ _ _ _ _ => rfl) ?_
  refine tK (l := xk_31) rfl rfl (hGetI hs rfl rfl rfl (by decide) (by decide)) ?_
  refine tIf_ne (l := xk_31) (pc' := 25) rfl rfl rfl (fun hc => ?_) (fun hc => ?_)
  · refine tK (l := xk_31) rfl rfl (fun _ _ _ _ _ => rfl) ?_
    refine tK (l := xk_31) rfl rfl (fun _ _ _ _ _ => rfl) ?_
    refine tK (l := xk_31) rfl rfl (hPutV hs rfl rfl (by decide) (by decide) rfl) ?_
    refine tK (l := xk_31) rfl rfl (fun _ _ _ _ _ => rfl) ?_
    refine tK (l := xk_31) rfl rfl (fun _ _ _ _ _ => rfl) ?_
    refine tK (l := xk_31) rfl rfl (fun _ _ _ _ _ => rfl) ?_
    refine tCa (l := xk_31) rfl rfl (hInvV (c := 3) (hShI1 _ hs rfl rfl) rfl rfl rfl rfl rfl (Nat.le_of_ble_eq_true rfl) (Nat.le_of_ble_eq_true rfl)) ?_
    refine s30 (hShI1 _ hs rfl rfl) hl ?_
    refine tKn ?_
    refine tK (l := xk_31) rfl rfl (fun _ _ _ _ _ => rfl) ?_
    refine tK (l := xk_31) rfl rfl (fun _ _ _ _ _ => rfl) ?_
    refine tK (l := xk_31) rfl rfl (fun _ _ _ _ _ => rfl) ?_
    refine tK (l := xk_31) rfl rfl (hAdd ⟨by omega, by omega⟩) ?_
    refine tK (l := xk_31) rfl rfl (hPutV (hShI1 _ (hShI1 _ hs rfl rfl) (rfl : hTg 48 = 100) rfl) rfl rfl (by decide) (by decide) rfl) ?_
    refine tRt (l := xk_31) rfl rfl (fun _ _ _ _ _ => rfl) ?_
    exact hQ
  · exact absurd h0 hc
theorem s29 (hs : hSh zs ph) (hw : hTW ph 45) (hQ : ∀ ph2, hSh zs ph2 → hTW ph2 45 → hTo ph2 45 0 = some [] → (∀ k, 2 ≤ k → k ≤ 7 → hRd ph2 44 k = 0) → hFr [44, 46, 47] ph ph2 → Q (.inl none, ph2, g)) : xTC (d + 1) 29 [.inr (.inl (some 44))] ph g Q := by
  have hz := hRw53
  refine tEn (ls := [some (.inr (.inl (some 44)))]) (fun k => by match k with | 0 => rfl | k + 1 => rfl) ?_
  refine tK (l := xk_29) rfl rfl (fun _ _ _ _ _ => rfl) ?_
  refine tK (l := xk_29) rfl rfl (hGetR (o := some 45) hs rfl rfl rfl (by decide) (by decide) rfl) ?_
  refine tK (l := xk_29) rfl rfl (fun _ _ _ _ _ => rfl) ?_
  refine tCa (l := xk_29) rfl rfl (hInvV (c := 8) hs rfl rfl rfl rfl rfl (Nat.le_of_ble_eq_true rfl) (Nat.le_of_ble_eq_true rfl)) ?_
  refine a74 (r := 0) hs rfl hw (by omega) (fun ph1 t1 => ?_)
  refine tKn ?_
  refine tK (l := xk_29) rfl rfl (fun _ _ _ _ _ => rfl) ?_
  refine tK (l := xk_29) rfl rfl (fun _ _ _ _ _ => rfl) ?_
  refine tK (l := xk_29) rfl rfl (hPutV t1.sh rfl rfl (by decide) (by decide) rfl) ?_
  refine tK (l := xk_29) rfl rfl (fun _ _ _ _ _ => rfl) ?_
  refine tK (l := xk_29) rfl rfl (fun _ _ _ _ _ => rfl) ?_
  refine tK (l := xk_29) rfl rfl (hPutV (hShI1 _ t1.sh rfl rfl) rfl rfl (by decide) (by decide) rfl) ?_
  refine tK (l := xk_29) rfl rfl (fun _ _ _ _ _ => rfl) ?_
  refine tK (l := xk_29) rfl rfl (fun _ _ _ _ _ => rfl) ?_
  refine tK (l := xk_29) rfl rfl (hPutV (hShI1 _ (hShI1 _ t1.sh rfl rfl) rfl rfl) rfl rfl (by decide) (by decide) rfl) ?_
  refine tK (l := xk_29) rfl rfl (fun _ _ _ _ _ => rfl) ?_
  refine tK (l := xk_29) rfl rfl (fun _ _ _ _ _ => rfl) ?_
  refine tK (l := xk_29) rfl rfl (hPutV (hShI1 _ (hShI1 _ (hShI1 _ t1.sh rfl rfl) rfl rfl) rfl rfl) rfl rfl (by decide) (by decide) rfl) ?_
  refine tK (l := xk_29) rfl rfl (fun _ _ _ _ _ => rfl) ?_
  refine tK (l := xk_29) rfl rfl (fun _ _ _ _ _ => rfl) ?_
  refine tK (l := xk_29) rfl rfl (hPutV (hShI1 _ (hShI1 _ (hShI1 _ (hShI1 _ t1.sh rfl rfl) rfl rfl) rfl rfl) rfl rfl) rfl rfl (by decide) (by decide) rfl) ?_
  refine tK (l := xk_29) rfl rfl (fun _ _ _ _ _ => rfl) ?_
  refine tK (l := xk_29) rfl rfl (fun _ _ _ _ _ => rfl) ?_
  refine tK (l := xk_29) rfl rfl (hPutV (hShI1 _ (hShI1 _ (hShI1 _ (hShI1 _ (hShI1 _ t1.sh rfl rfl) rfl rfl) rfl rfl) rfl rfl) rfl rfl) rfl rfl (by decide) (by decide) rfl) ?_
  refine tRt (l := xk_29) rfl rfl (fun _ _ _ _ _ => rfl) ?_
  have u2 := t1.sh
  have v2 : hSh zs (hUp ph1 44 2 0) := hShI1 _ u2 rfl rfl
  have v3 : hSh zs (hUp (hUp ph1 44 2 0) 44 3 0) := hShI1 _ v2 rfl rfl
  have v4 : hSh zs (hUp (hUp (hUp ph1 44 2 0) 44 3 0) 44 4 0) := hShI1 _ v3 rfl rfl
  have v5 : hSh zs (hUp (hUp (hUp (hUp ph1 44 2 0) 44 3 0) 44 4 0) 44 5 0) := hShI1 _ v4 rfl rfl
  have v6 : hSh zs (hUp (hUp (hUp (hUp (hUp ph1 44 2 0) 44 3 0) 44 4 0) 44 5 0) 44 6 0) := hShI1 _ v5 rfl rfl
  have v7 : hSh zs (hUp (hUp (hUp (hUp (hUp (hUp ph1 44 2 0) 44 3 0) 44 4 0) 44 5 0) 44 6 0) 44 7 0) := hShI1 _ v6 rfl rfl
  have hf : hFr [44] ph1 (hUp (hUp (hUp (hUp (hUp (hUp ph1 44 2 0) 44 3 0) 44 4 0) 44 5 0) 44 6 0) 44 7 0) := (((((hUp_fr u2 rfl (by decide) (by decide)).trans (hUp_fr v2 rfl (by decide) (by decide))).trans (hUp_fr v3 rfl (by decide) (by decide))).trans (hUp_fr v4 rfl (by decide) (by decide))).trans (hUp_fr v5 rfl (by decide) (by decide))).trans (hUp_fr v6 rfl (by decide) (by decide))
  refine hQ _ v7 (hf.tw (by decide) t1.tw) (by rw [hf.to (by decide) (by decide)]; exact t1.row) (fun k h1 h2 => ?_) ((t1.fr (by decide) (by decide)).trans (hf.mono (by decide)))
  rw [hRd_up v6 rfl (by decide), hRd_up v5 rfl (by decide), hRd_up v4 rfl (by decide), hRd_up v3 rfl (by decide), hRd_up v2 rfl (by decide), hRd_up u2 rfl (by decide)]
  (repeat' split) <;> first | rfl | omega
theorem hTg50 {v : Nat} (hv : hTg v = 8) (hn : v ≠ 50) : v + 1 ∉ [49, 51, 52] ∧ v + 2 ∉ [49, 51, 52] := by
  obtain ⟨q1, q2, q3, q4⟩ := hTg_apart (t := 50) rfl hv (Ne.symm hn)
  have a1 := htg_8_1 hv
  have a2 := htg_8_2 hv
  refine ⟨fun h => ?_, fun h => ?_⟩
  · simp only [List.mem_cons, List.not_mem_nil, or_false] at h
    rcases h with h | h | h
    · rw [h] at a1; exact absurd a1 (by decide)
    · omega
    · omega
  · simp only [List.mem_cons, List.not_mem_nil, or_false] at h
    rcases h with h | h | h
    · rw [h] at a2; exact absurd a2 (by decide)
    · omega
    · omega
theorem s41 {v : Nat} {w : Int} (hs : hSh zs ph) (hw : hTW ph 50) (hv : hTg v = 8) (hvn : v ≠ 50) (hvw : hTW ph v) (hvr : hRw v = 8) (hvd : hWd v = 24) (hQ : ∀ ph2, hSC zs ph2 [sc0 (fun n => hTo ph v n) w] → hFr [49, 51, 52] ph ph2 → Q (.inl none, ph2, g)) : xTC (d + 3) 41 [.inr (.inl (some 49)), .inr (.inl (some v)), .inl w] ph g Q := by
  obtain ⟨m1, m2⟩ := hTg50 hv hvn
  have loop : ∀ (m i : Nat) (f : xSc) (phi : xH), i + m = 8 → hSC zs phi [f] → (∀ n, f n = if n < i ∧ (n : Int) ≠ w then hTo ph v n else none) → hFr [49, 51, 52] ph phi → xT (d + 3) 41 12 (xlo [some (.inr (.inl (some 49))), some (.inr (.inl (some v))), some (.inl w), some (.inl (i : Int))]) [] phi g Q := by
    intro m
    induction m with
    | zero =>
      intro i f phi him hS hf hfr
      have hs := hS.1
      have hi : i = 8 := by omega
      subst hi
      have e : f = sc0 (fun n => hTo ph v n) w := funext hf
      refine tK (l := xk_41) rfl rfl (fun _ _ _ _ _ => rfl) ?_
      refine tK (l := xk_41) rfl rfl (fun _ _ _ _ _ => rfl) ?_
      refine tIc_ge (l := xk_41) (pc' := 36) rfl rfl rfl (fun hc => ?_) (fun hc => ?_)
      · exfalso; omega
      · refine tRt (l := xk_41) rfl rfl (fun _ _ _ _ _ => rfl) ?_
        rw [e] at hS
        exact hQ phi hS hfr
    | succ m ih =>
      intro i f phi him hS hf hfr
      have hs := hS.1
      refine tK (l := xk_41) rfl rfl (fun _ _ _ _ _ => rfl) ?_
      refine tK (l := xk_41) rfl rfl (fun _ _ _ _ _ => rfl) ?_
      refine tIc_ge (l := xk_41) (pc' := 36) rfl rfl rfl (fun hc => ?_) (fun hc => ?_)
      · have hc15 := hc
        refine tK (l := xk_41) rfl rfl (fun _ _ _ _ _ => rfl) ?_
        refine tK (l := xk_41) rfl rfl (fun _ _ _ _ _ => rfl) ?_
        refine tIc_eq (l := xk_41) (pc' := 30) rfl rfl rfl (fun hc => ?_) (fun hc => ?_)
        · have hc20 := hc
          refine tSt (l := xk_41) rfl rfl (hIinc rfl (Nat.le_of_ble_eq_true rfl) ⟨by omega, by omega⟩) (Nat.le_of_ble_eq_true rfl) ?_
          refine tK (l := xk_41) rfl rfl (fun _ _ _ _ _ => rfl) ?_
          refine ih (i + 1) f phi (by omega) hS (fun n => ?_) hfr
          rw [hf n]
          by_cases e : n = i
          · rw [if_neg (by omega), if_neg (by omega)]
          · by_cases e2 : n < i
            · by_cases e3 : (n : Int) ≠ w
              · rw [if_pos ⟨e2, e3⟩, if_pos ⟨by omega, e3⟩]
              · rw [if_neg (fun h => e3 h.2), if_neg (fun h => e3 h.2)]
            · rw [if_neg (by omega), if_neg (by omega)]
        · have hc20 := hc
          refine tK (l := xk_41) rfl rfl (fun _ _ _ _ _ => rfl) ?_
          refine tK (l := xk_41) rfl rfl (fun _ _ _ _ _ => rfl) ?_
          refine tK (l := xk_41) rfl rfl (fun _ _ _ _ _ => rfl) ?_
          refine tK (l := xk_41) rfl rfl (fun _ _ _ _ _ => rfl) ?_
          refine tCa (l := xk_41) rfl rfl (hInvV (c := 5) hs rfl rfl rfl rfl rfl (Nat.le_of_ble_eq_true rfl) (Nat.le_of_ble_eq_true rfl)) ?_
          refine s44 (scs := []) (n := i) (q := i) hS (by omega) hv (hfr.tw m2 hvw) (by omega) (hfr.to m1 m2) (fun s hs9 => by have := hTo_len hvw (show i < hRw v by omega) hs9; omega) (fun ph2 q2 f2 r2 => ?_)
          refine tKn ?_
          refine tSt (l := xk_41) rfl rfl (hIinc rfl (Nat.le_of_ble_eq_true rfl) ⟨by omega, by omega⟩) (Nat.le_of_ble_eq_true rfl) ?_
          refine tK (l := xk_41) rfl rfl (fun _ _ _ _ _ => rfl) ?_
          refine ih (i + 1) _ ph2 (by omega) q2 (fun n => ?_) (hfr.trans (f2.mono (by decide)))
          unfold scU
          by_cases e : n = i
          · rw [if_pos e, if_pos (by omega), e]
          · rw [if_neg e, hf n]
            by_cases e2 : n < i
            · by_cases e3 : (n : Int) ≠ w
              · rw [if_pos ⟨e2, e3⟩, if_pos ⟨by omega, e3⟩]
              · rw [if_neg (fun h => e3 h.2), if_neg (fun h => e3 h.2)]
            · rw [if_neg (by omega), if_neg (by omega)]
      · have hc15 := hc
        exfalso; omega
  refine tEn (ls := [some (.inr (.inl (some 49))), some (.inr (.inl (some v))), some (.inl w), none]) (fun k => by match k with | 0 => rfl | 1 => rfl | 2 => rfl | 3 => rfl | k + 4 => rfl) ?_
  refine tK (l := xk_41) rfl rfl (fun _ _ _ _ _ => rfl) ?_
  refine tK (l := xk_41) rfl rfl (fun _ _ _ _ _ => rfl) ?_
  refine tK (l := xk_41) rfl rfl (hPutV hs rfl rfl (by decide) (by decide) rfl) ?_
  refine tK (l := xk_41) rfl rfl (fun _ _ _ _ _ => rfl) ?_
  refine tCa (l := xk_41) rfl rfl (hInvV (c := 5) (hShI1 _ hs rfl rfl) rfl rfl rfl rfl rfl (Nat.le_of_ble_eq_true rfl) (Nat.le_of_ble_eq_true rfl)) ?_
  have hf0 : hFr [49] ph (hUp ph 49 1 0) := hUp_fr hs rfl (by decide) (by decide)
  refine s42 (scs := []) ⟨(hShI1 _ hs rfl rfl), hf0.tw (by decide) hw, by rw [hRd_up hs rfl (by decide), if_pos ⟨rfl, rfl⟩]; rfl, by decide, trivial⟩ (by decide) (fun ph1 q1 f1 r1 => ?_)
  refine tKv ?_
  refine tK (l := xk_41) rfl rfl (fun _ _ _ _ _ => rfl) ?_
  refine tK (l := xk_41) rfl rfl (fun _ _ _ _ _ => rfl) ?_
  refine tSt (l := xk_41) rfl rfl (fun _ _ _ _ _ => rfl) (Nat.le_of_ble_eq_true rfl) ?_
  exact loop 8 0 _ ph1 rfl q1 (fun n => by rw [if_neg (by omega)]) ((hf0.mono (by decide)).trans f1)
theorem s33 {v : Nat} {w : Int} (hs : hSh zs ph) (hw50 : hTW ph 50) (hw53 : hTW ph 53) (hw45 : hTW ph 45) (hv : hTg v = 8) (hvn : v ≠ 50) (hv45 : v ≠ 45) (hvw : hTW ph v) (hvr : hRw v = 8) (hvd : hWd v = 24) (hQ : ∀ ph2, hRN zs ph2 ([sc0 (fun n => hTo ph v n) w], [], [], 0, 0, 0, 0) → hRd ph2 44 3 = 0 → hRd ph2 44 2 = 0 → hFr [43, 44, 46, 47, 49, 51, 52] ph ph2 → Q (.inl none, ph2, g)) : xTC (d + 4) 33 [.inr (.inl (some 43)), .inr (.inl (some v)), .inl w] ph g Q := by
  have n12 : v + 1 ∉ [44, 46, 47] ∧ v + 2 ∉ [44, 46, 47] := by
    obtain ⟨q1, q2, q3, q4⟩ := hTg_apart (t := 45) rfl hv (Ne.symm hv45)
    have a1 := htg_8_1 hv
    have a2 := htg_8_2 hv
    refine ⟨fun h => ?_, fun h => ?_⟩ <;> (simp only [List.mem_cons, List.not_mem_nil, or_false] at h; rcases h with h | h | h <;> first | omega | (rw [h] at a1; exact absurd a1 (by decide)) | (rw [h] at a2; exact absurd a2 (by decide)))
  obtain ⟨n1, n2⟩ := n12
  refine tEn (ls := [some (.inr (.inl (some 43))), some (.inr (.inl (some v))), some (.inl w)]) (fun k => by match k with | 0 => rfl | 1 => rfl | 2 => rfl | k + 3 => rfl) ?_
  refine tK (l := xk_33) rfl rfl (fun _ _ _ _ _ => rfl) ?_
  refine tK (l := xk_33) rfl rfl (hGetR (o := some 44) hs rfl rfl rfl (by decide) (by decide) rfl) ?_
  refine tCa (l := xk_33) rfl rfl (hInvV (c := 3) hs rfl rfl rfl rfl rfl (Nat.le_of_ble_eq_true rfl) (Nat.le_of_ble_eq_true rfl)) ?_
  refine s29 hs hw45 (fun ph1 hs1 hw1 ho1 hz1 hf1 => ?_)
  refine tKn ?_
  refine tK (l := xk_33) rfl rfl (fun _ _ _ _ _ => rfl) ?_
  refine tK (l := xk_33) rfl rfl (hGetR (o := some 49) hs1 rfl rfl rfl (by decide) (by decide) rfl) ?_
  refine tK (l := xk_33) rfl rfl (fun _ _ _ _ _ => rfl) ?_
  refine tK (l := xk_33) rfl rfl (fun _ _ _ _ _ => rfl) ?_
  refine tCa (l := xk_33) rfl rfl (hInvV (c := 5) hs1 rfl rfl rfl rfl rfl (Nat.le_of_ble_eq_true rfl) (Nat.le_of_ble_eq_true rfl)) ?_
  refine s41 hs1 (hf1.tw (by decide) hw50) hv hvn (hf1.tw n2 hvw) hvr hvd (fun ph2 q2 f2 => ?_)
  refine tKn ?_
  refine tK (l := xk_33) rfl rfl (fun _ _ _ _ _ => rfl) ?_
  refine tK (l := xk_33) rfl rfl (fun _ _ _ _ _ => rfl) ?_
  refine tK (l := xk_33) rfl rfl (hPutV q2.1 rfl rfl (by decide) (by decide) rfl) ?_
  refine tRt (l := xk_33) rfl rfl (fun _ _ _ _ _ => rfl) ?_
  have hf3 : hFr [43] ph2 (hUp ph2 43 3 0) := hUp_fr q2.1 rfl (by decide) (by decide)
  have hg : hFr [43, 49, 51, 52] ph1 (hUp ph2 43 3 0) := (f2.mono (by decide)).trans (hf3.mono (by decide))
  have hgg : hFr [43, 44, 46, 47, 49, 51, 52] ph (hUp ph2 43 3 0) := (hf1.mono (by decide)).trans (hg.mono (by decide))
  have e : (fun n => hTo ph1 v n) = (fun n => hTo ph v n) := funext (fun n => hf1.to n1 n2)
  rw [e] at q2
  refine hQ _ ⟨q2.fr (hShI1 _ q2.1 rfl rfl) hf3 (by decide) (by decide) (by decide), hgg.tw (by decide) hw53, hg.tw (by decide) hw1, by rw [hRd_up q2.1 rfl (by decide), if_pos ⟨rfl, rfl⟩]; rfl, Nat.zero_le _, trivial, by rw [hg.to (by decide) (by decide)]; exact ho1, ?_, Nat.zero_le _, ?_, ?_, ?_, rfl⟩ ?_ ?_ hgg
  · rw [hg.1 _ _ (by decide)]; exact hz1 4 (by decide) (by decide)
  · rw [hg.1 _ _ (by decide)]; exact hz1 5 (by decide) (by decide)
  · rw [hg.1 _ _ (by decide)]; exact hz1 6 (by decide) (by decide)
  · rw [hg.1 _ _ (by decide)]; exact hz1 7 (by decide) (by decide)
  · rw [hg.1 _ _ (by decide)]; exact hz1 3 (by decide) (by decide)
  · rw [hg.1 _ _ (by decide)]; exact hz1 2 (by decide) (by decide)
end OUT
