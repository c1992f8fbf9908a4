/-! ===== the model reads to the end ===== -/
def hMr (ph : xH) (t : List Int) : Prop := hRd ph 147 10 = ((pPs t).length : Int) ∧ hRd ph 147 11 = (pDp t : Int) ∧ hRd ph 147 12 = mkU (pPs t) 0 ∧ hRd ph 147 13 = mkG (pPs t) 0 ∧ hRd ph 147 14 = (mkL (pPs t) 0 : Int)
section MR2
variable {d : Nat} {ph : xH} {zs : List xV} {g : Nat} {Q : xR → Prop} {i : Nat} {c : Int}
theorem stM_0 {s : PSt} (h : s.1 ≤ 5) : 0 ≤ stM s ∧ (stM s = 0 ↔ s.1 = 0) := by
  unfold stM
  (repeat' split) <;> omega
theorem s153 {s : PSt} {t9 : List Int} (hs : hSh zs ph) (hI : rI ph s) (hin : pIn i s) (hp : pIv t9 i s) (hi : i < 60) (hb : 0 ≤ c ∧ c ≤ 65535) (hQ : ∀ ph2 s2, pRd i c s = some s2 → hSh zs ph2 → rI ph2 s2 → hFM [10, 11, 12, 13, 14, 15, 16] [] ph ph2 → Q (.inl (some (.inl (stM s2))), ph2, g)) (hN : ∀ ph2, pRd i c s = none → hSh zs ph2 → hFM [10, 11, 12, 13, 14, 15, 16] [] ph ph2 → Q (.inl (some (.inl (-1))), ph2, g)) : xTC (d + 2) 153 [.inr (.inl (some 147)), .inl (stM s), .inl c] ph g Q := by
  obtain ⟨rd, ps, op, mo⟩ := s
  have h5 := hin.2.2.2.1
  simp only at h5
  match rd, h5 with
  | 0, _ => exact s153_0 hs hI hin hi hb hQ hN
  | 1, _ => exact s153_1 hs hI hin hi hb hp hQ hN
  | 2, _ => exact s153_2 hs hI hin hi hb hp hQ hN
  | 4, _ => exact s153_4 hs hI hin hi hb hQ hN
  | 5, _ => exact s153_5 hs hI hin hi hb hQ hN
  | 3, _ =>
    obtain ⟨l, k, x, cd, nm, h1, h2, h3, h4⟩ := id hp
    have hk : 3 ≤ k ∧ k ≤ 7 := by rcases h4 with q | q | q | q | q | q <;> first | exact ⟨q.2.1, q.2.2.1⟩ | exact absurd q.1 (by decide)
    have hl : ps[ps.length - 1]? = some (k, x, cd, nm, l + 1) := by rw [show ps.length - 1 = l by omega]; exact h2
    have hu : ∀ p, ps[ps.length - 1]? = some p → p.1 = k := fun p hp => by rw [hl] at hp; cases hp; rfl
    obtain ⟨a, ea, -⟩ := lst h1 h2
    by_cases h34 : k ≤ 4
    · have e : stM (3, ps, op, mo) = 3 := by rw [ea, stM_3, if_pos (by exact h34)]
      rw [e]
      exact s153_3_3 hs hI hin hi hb hp (fun p hp => by rw [hu p hp]; exact h34) hQ hN
    · have e : stM (3, ps, op, mo) = 5 := by rw [ea, stM_3, if_neg (by exact h34)]
      rw [e]
      have h567 : k = 5 ∨ k = 6 ∨ k = 7 := by omega
      rcases h567 with rfl | rfl | rfl
      · exact s153_3_5 hs hI hin hi hb hp hu hQ hN
      · exact s153_3_6 hs hI hin hi hb hp hu hQ hN
      · exact s153_3_7 hs hI hin hi hb hp hu hQ hN
  | rd + 6, h5 => exact absurd h5 (by omega)
theorem s152 {fo : Nat} {t : List Int} (hs : hSh zs ph) (hsg : ∀ (i : Nat) (c : Int), t[i]? = some c → hRd ph 152 (fo + i) = c) (hl : t.length ≤ 60) (hfl : fo + t.length ≤ 160) (hch : ∀ c ∈ t, 0 ≤ c ∧ c ≤ 65535) (hQ : ∀ ph2, hSh zs ph2 → hFM [10, 11, 12, 13, 14, 15, 16, 17] [] ph ph2 → hRd ph2 147 17 = (if pWh t = true then 1 else 0) → (pWh t = true → hMr ph2 t) → Q (.inl (some (.inl ((pRes t).1 : Int))), ph2, g)) : xTC (d + 3) 152 [.inr (.inl (some 147)), .inl (fo : Int), .inl (t.length : Int)] ph g Q := by
  obtain ⟨y1, y2, y3, y4, y5, y6, y7, y8, y9⟩ := hSzO
  have loop : ∀ (m i : Nat) (s : PSt) (phi : xH), i + m = t.length → hSh zs phi → rI phi s → pIn i s → pIv t i s → hFM [10, 11, 12, 13, 14, 15, 16, 17] [] ph phi → pAll i (t.drop i) s = pRes t → xT (d + 3) 152 35 (xlo [some (.inr (.inl (some 147))), some (.inl (fo : Int)), some (.inl (t.length : Int)), some (.inl (stM s)), some (.inl (i : Int))]) [] phi g Q := by
    intro m
    induction m with
    | zero =>
      intro i s phi him hs hI hin hp hf hall
      have hi : i = t.length := by omega
      rw [List.drop_eq_nil_of_le (by omega)] at hall
      have hres : pRes t = (i, some s) := hall.symm
      rw [hres] at hQ
      have h5 := hin.2.2.2.1
      have hst := stM_0 h5
      have e15 := hI.2.1
      refine tK (l := xk_152) rfl rfl (fun _ _ _ _ _ => rfl) ?_
      refine tK (l := xk_152) rfl rfl (fun _ _ _ _ _ => rfl) ?_
      refine tIc_ge (l := xk_152) (pc' := 77) rfl rfl rfl (fun hc => ?_) (fun hc => ?_)
      · have hc38 := hc
        exfalso; omega
      · have hc38 := hc
        refine tK (l := xk_152) rfl rfl (fun _ _ _ _ _ => rfl) ?_
        refine tK (l := xk_152) rfl rfl (fun _ _ _ _ _ => rfl) ?_
        refine tIf_ne (l := xk_152) (pc' := 93) rfl rfl rfl (fun hc => ?_) (fun hc => ?_)
        · have hc79 := hc
          refine tK (l := xk_152) rfl rfl (fun _ _ _ _ _ => rfl) ?_
          refine tK (l := xk_152) rfl rfl (hGetI hs rfl rfl rfl (by decide) (by decide)) ?_
          rw [e15]
          refine tIf_ne (l := xk_152) (pc' := 93) rfl rfl rfl (fun hc => ?_) (fun hc => ?_)
          · have hc86 := hc
            refine tK (l := xk_152) rfl rfl (fun _ _ _ _ _ => rfl) ?_
            refine tK (l := xk_152) rfl rfl (fun _ _ _ _ _ => rfl) ?_
            refine tK (l := xk_152) rfl rfl (hPutV hs rfl rfl (by decide) (by decide) (by first | rfl | assumption | decide)) ?_
            refine tK (l := xk_152) rfl rfl (fun _ _ _ _ _ => rfl) ?_
            refine tRt (l := xk_152) rfl rfl (fun _ _ _ _ _ => rfl) ?_
            have h0 : s.1 = 0 := hst.2.mp hc79
            have hop : s.2.2.1 = [] := List.length_eq_zero_iff.mp (by have h9 : ((s.2.2.1.length : Nat) : Int) = 0 := hc86; omega)
            obtain ⟨rd, ps, op, mo⟩ := s
            simp only at h0 hop
            subst h0 hop
            have hw : pWh t = true := pWh_iff.mpr ⟨ps, mo, by rw [hres]⟩
            have ep : pPs t = ps := by unfold pPs; rw [hres]
            have ed : pDp t = if ps.length = 0 then 0 else mo + 1 := by unfold pDp; rw [hres]
            have f1 : hFM [17] [] phi (hUp phi 147 17 1) := hFM_f hs rfl (by decide) (by decide)
            obtain ⟨k10, k15, k11, -, k12, k13, k14, -⟩ := hI
            refine hQ _ (hShI1 _ hs rfl rfl) (hf.trans (f1.mono (by decide) (by decide))) (by rw [hRd_up hs rfl (by decide), if_pos ⟨rfl, rfl⟩, if_pos hw]) (fun _ => ⟨?_, ?_, ?_, ?_, ?_⟩)
            · rw [f1.fl (by decide), ep]; exact k10
            · rw [f1.fl (by decide), ed]; exact k11
            · rw [f1.fl (by decide), ep]; exact k12
            · rw [f1.fl (by decide), ep]; exact k13
            · rw [f1.fl (by decide), ep]; exact k14
          · have hc86 := hc
            refine tK (l := xk_152) rfl rfl (fun _ _ _ _ _ => rfl) ?_
            refine tK (l := xk_152) rfl rfl (hPutV hs rfl rfl (by decide) (by decide) (by first | rfl | assumption | decide)) ?_
            refine tK (l := xk_152) rfl rfl (fun _ _ _ _ _ => rfl) ?_
            refine tRt (l := xk_152) rfl rfl (fun _ _ _ _ _ => rfl) ?_
            have hw : ¬ pWh t = true := by
              intro hw
              obtain ⟨ps, mo, hw⟩ := pWh_iff.mp hw
              rw [hres] at hw
              cases hw
              exact hc86 rfl
            refine hQ _ (hShI1 _ hs rfl rfl) (hf.trans (hFM_f hs rfl (by decide) (by decide))) (by rw [hRd_up hs rfl (by decide), if_pos ⟨rfl, rfl⟩, if_neg hw]) (fun h => absurd h hw)
        · have hc79 := hc
          refine tK (l := xk_152) rfl rfl (fun _ _ _ _ _ => rfl) ?_
          refine tK (l := xk_152) rfl rfl (hPutV hs rfl rfl (by decide) (by decide) (by first | rfl | assumption | decide)) ?_
          refine tK (l := xk_152) rfl rfl (fun _ _ _ _ _ => rfl) ?_
          refine tRt (l := xk_152) rfl rfl (fun _ _ _ _ _ => rfl) ?_
          have hw : ¬ pWh t = true := by
            intro hw
            obtain ⟨ps, mo, hw⟩ := pWh_iff.mp hw
            rw [hres] at hw
            cases hw
            exact hc79 rfl
          refine hQ _ (hShI1 _ hs rfl rfl) (hf.trans (hFM_f hs rfl (by decide) (by decide))) (by rw [hRd_up hs rfl (by decide), if_pos ⟨rfl, rfl⟩, if_neg hw]) (fun h => absurd h hw)
    | succ m ih =>
      intro i s phi him hs hI hin hp hf hall
      have h5 := hin.2.2.2.1
      have hst := stM_0 h5
      obtain ⟨c, hc9⟩ : ∃ c, t[i]? = some c := ⟨_, List.getElem?_eq_getElem (by omega)⟩
      have hdr : t.drop i = c :: t.drop (i + 1) := by
        rw [List.drop_eq_getElem_cons (by omega)]
        rw [List.getElem?_eq_getElem (by omega)] at hc9
        rw [Option.some.inj hc9]
      rw [hdr] at hall
      have e52 : hRd phi 152 (fo + i) = c := by rw [hf.at (by decide)]; exact hsg i c hc9
      refine tK (l := xk_152) rfl rfl (fun _ _ _ _ _ => rfl) ?_
      refine tK (l := xk_152) rfl rfl (fun _ _ _ _ _ => rfl) ?_
      refine tIc_ge (l := xk_152) (pc' := 77) rfl rfl rfl (fun hc => ?_) (fun hc => ?_)
      · have hc38 := hc
        refine tK (l := xk_152) rfl rfl (fun _ _ _ _ _ => rfl) ?_
        refine tIf_lt (l := xk_152) (pc' := 77) rfl rfl rfl (fun hc => ?_) (fun hc => ?_)
        · have hc42 := hc
          exact absurd hc (by omega)
        · have hc42 := hc
          refine tK (l := xk_152) rfl rfl (fun _ _ _ _ _ => rfl) ?_
          refine tK (l := xk_152) rfl rfl (fun _ _ _ _ _ => rfl) ?_
          refine tK (l := xk_152) rfl rfl (fun _ _ _ _ _ => rfl) ?_
          refine tK (l := xk_152) rfl rfl (hGetR (o := some 152) hs rfl rfl rfl (by decide) (by decide) rfl) ?_
          refine tK (l := xk_152) rfl rfl (fun _ _ _ _ _ => rfl) ?_
          refine tK (l := xk_152) rfl rfl (fun _ _ _ _ _ => rfl) ?_
          refine tK (l := xk_152) rfl rfl (hAdd ⟨by omega, by omega⟩) ?_
          rw [show (fo : Int) + (i : Int) = ((fo + i : Nat) : Int) by omega]
          first | refine tK (l := xk_152) rfl rfl (hIaldN hs rfl rfl (by omega)) ?_ | refine tK (l := xk_152) rfl rfl (hIald hs rfl (by omega) (by omega)) ?_
          rw [e52]
          refine tCa (l := xk_152) rfl rfl (hInvV (c := 10) hs rfl rfl rfl rfl rfl (Nat.le_of_ble_eq_true rfl) (Nat.le_of_ble_eq_true rfl)) ?_
          refine s153 hs hI hin hp (by omega) (hch c (List.mem_of_getElem? hc9)) (fun ph2 s2 e2 hs2 hI2 f2 => ?_) (fun ph2 e2 hs2 f2 => ?_)
          · refine tKv ?_
            have hin2 := pRd_in hin e2
            have hst2 := stM_0 hin2.2.2.2.1
            refine tSt (l := xk_152) rfl rfl (fun _ _ _ _ _ => rfl) (Nat.le_of_ble_eq_true rfl) ?_
            refine tK (l := xk_152) rfl rfl (fun _ _ _ _ _ => rfl) ?_
            refine tK (l := xk_152) rfl rfl (fun _ _ _ _ _ => rfl) ?_
            refine tIf_lt (l := xk_152) (pc' := 70) rfl rfl rfl (fun hc => ?_) (fun hc => ?_)
            · have hc63 := hc
              exact absurd hc (by omega)
            · have hc63 := hc
              refine tK (l := xk_152) rfl rfl (fun _ _ _ _ _ => rfl) ?_
              refine tK (l := xk_152) rfl rfl (fun _ _ _ _ _ => rfl) ?_
              refine tK (l := xk_152) rfl rfl (hAdd ⟨by omega, by omega⟩) ?_
              refine tSt (l := xk_152) rfl rfl (fun _ _ _ _ _ => rfl) (Nat.le_of_ble_eq_true rfl) ?_
              refine tK (l := xk_152) rfl rfl (fun _ _ _ _ _ => rfl) ?_
              refine ih (i + 1) s2 ph2 (by omega) hs2 hI2 hin2 (pIv_rd hp hin hc9 e2) (hf.trans (f2.mono (by decide) (by decide))) ?_
              rw [← hall]
              simp only [pAll, e2]
          · refine tKv ?_
            have hres : pRes t = (i, none) := by rw [← hall]; simp only [pAll, e2]
            rw [hres] at hQ
            have hw : ¬ pWh t = true := by
              intro hw
              obtain ⟨ps, mo, hw⟩ := pWh_iff.mp hw
              rw [hres] at hw
              cases hw
            refine tSt (l := xk_152) rfl rfl (fun _ _ _ _ _ => rfl) (Nat.le_of_ble_eq_true rfl) ?_
            refine tK (l := xk_152) rfl rfl (fun _ _ _ _ _ => rfl) ?_
            refine tK (l := xk_152) rfl rfl (fun _ _ _ _ _ => rfl) ?_
            refine tIf_lt (l := xk_152) (pc' := 70) rfl rfl rfl (fun hc => ?_) (fun hc => ?_)
            · refine tK (l := xk_152) rfl rfl (fun _ _ _ _ _ => rfl) ?_
              refine tK (l := xk_152) rfl rfl (hAdd ⟨by omega, by omega⟩) ?_
              refine tSt (l := xk_152) rfl rfl (fun _ _ _ _ _ => rfl) (Nat.le_of_ble_eq_true rfl) ?_
              refine tK (l := xk_152) rfl rfl (fun _ _ _ _ _ => rfl) ?_
              refine tK (l := xk_152) rfl rfl (fun _ _ _ _ _ => rfl) ?_
              refine tK (l := xk_152) rfl rfl (fun _ _ _ _ _ => rfl) ?_
              refine tIc_ge (l := xk_152) (pc' := 77) rfl rfl rfl (fun hc => ?_) (fun hc => ?_)
              · refine tK (l := xk_152) rfl rfl (fun _ _ _ _ _ => rfl) ?_
                refine tIf_lt (l := xk_152) (pc' := 77) rfl rfl rfl (fun hc => ?_) (fun hc => ?_)
                · refine tK (l := xk_152) rfl rfl (fun _ _ _ _ _ => rfl) ?_
                  refine tK (l := xk_152) rfl rfl (fun _ _ _ _ _ => rfl) ?_
                  refine tIf_ne (l := xk_152) (pc' := 93) rfl rfl rfl (fun hc => ?_) (fun hc => ?_)
                  · exact absurd hc (by decide)
                  · refine tK (l := xk_152) rfl rfl (fun _ _ _ _ _ => rfl) ?_
                    refine tK (l := xk_152) rfl rfl (hPutV hs2 rfl rfl (by decide) (by decide) (by first | rfl | assumption | decide)) ?_
                    refine tK (l := xk_152) rfl rfl (fun _ _ _ _ _ => rfl) ?_
                    refine tRt (l := xk_152) rfl rfl (fun _ _ _ _ _ => rfl) ?_
                    refine hQ _ (hShI1 _ hs2 rfl rfl) ((hf.trans (f2.mono (by decide) (by decide))).trans (hFM_f hs2 rfl (by decide) (by decide))) (by rw [hRd_up hs2 rfl (by decide), if_pos ⟨rfl, rfl⟩, if_neg hw]) (fun h => absurd h hw)
                · exact absurd hc (by decide)
              · exfalso; omega
            · exact absurd hc (by decide)
      · have hc38 := hc
        exfalso; omega
  refine tEn (ls := [some (.inr (.inl (some 147))), some (.inl (fo : Int)), some (.inl (t.length : Int)), none, none]) (fun k => by match k with | 0 => rfl | 1 => rfl | 2 => rfl | 3 => rfl | 4 => rfl | k + 5 => rfl) ?_
  refine tK (l := xk_152) rfl rfl (fun _ _ _ _ _ => rfl) ?_
  refine tK (l := xk_152) rfl rfl (fun _ _ _ _ _ => rfl) ?_
  refine tK (l := xk_152) rfl rfl (hPutV hs rfl rfl (by decide) (by decide) rfl) ?_
  refine tK (l := xk_152) rfl rfl (fun _ _ _ _ _ => rfl) ?_
  refine tK (l := xk_152) rfl rfl (fun _ _ _ _ _ => rfl) ?_
  refine tK (l := xk_152) rfl rfl (hPutV (hShI1 _ hs rfl rfl) rfl rfl (by decide) (by decide) rfl) ?_
  refine tK (l := xk_152) rfl rfl (fun _ _ _ _ _ => rfl) ?_
  refine tK (l := xk_152) rfl rfl (fun _ _ _ _ _ => rfl) ?_
  refine tK (l := xk_152) rfl rfl (hPutV (hShI1 _ (hShI1 _ hs rfl rfl) rfl rfl) rfl rfl (by decide) (by decide) rfl) ?_
  refine tK (l := xk_152) rfl rfl (fun _ _ _ _ _ => rfl) ?_
  refine tK (l := xk_152) rfl rfl (fun _ _ _ _ _ => rfl) ?_
  refine tK (l := xk_152) rfl rfl (hPutV (hShI1 _ (hShI1 _ (hShI1 _ hs rfl rfl) rfl rfl) rfl rfl) rfl rfl (by decide) (by decide) rfl) ?_
  refine tK (l := xk_152) rfl rfl (fun _ _ _ _ _ => rfl) ?_
  refine tK (l := xk_152) rfl rfl (fun _ _ _ _ _ => rfl) ?_
  refine tK (l := xk_152) rfl rfl (hPutV (hShI1 _ (hShI1 _ (hShI1 _ (hShI1 _ hs rfl rfl) rfl rfl) rfl rfl) rfl rfl) rfl rfl (by decide) (by decide) rfl) ?_
  refine tK (l := xk_152) rfl rfl (fun _ _ _ _ _ => rfl) ?_
  refine tK (l := xk_152) rfl rfl (fun _ _ _ _ _ => rfl) ?_
  refine tK (l := xk_152) rfl rfl (hPutV (hShI1 _ (hShI1 _ (hShI1 _ (hShI1 _ (hShI1 _ hs rfl rfl) rfl rfl) rfl rfl) rfl rfl) rfl rfl) rfl rfl (by decide) (by decide) rfl) ?_
  refine tK (l := xk_152) rfl rfl (fun _ _ _ _ _ => rfl) ?_
  refine tSt (l := xk_152) rfl rfl (fun _ _ _ _ _ => rfl) (Nat.le_of_ble_eq_true rfl) ?_
  refine tK (l := xk_152) rfl rfl (fun _ _ _ _ _ => rfl) ?_
  refine tSt (l := xk_152) rfl rfl (fun _ _ _ _ _ => rfl) (Nat.le_of_ble_eq_true rfl) ?_
  have u1 : hSh zs (hUp ph 147 10 0) := hShI1 _ hs rfl rfl
  have u2 : hSh zs (hUp (hUp ph 147 10 0) 147 11 0) := hShI1 _ u1 rfl rfl
  have u3 : hSh zs (hUp (hUp (hUp ph 147 10 0) 147 11 0) 147 12 0) := hShI1 _ u2 rfl rfl
  have u4 : hSh zs (hUp (hUp (hUp (hUp ph 147 10 0) 147 11 0) 147 12 0) 147 13 0) := hShI1 _ u3 rfl rfl
  have u5 : hSh zs (hUp (hUp (hUp (hUp (hUp ph 147 10 0) 147 11 0) 147 12 0) 147 13 0) 147 14 0) := hShI1 _ u4 rfl rfl
  have u6 : hSh zs (hUp (hUp (hUp (hUp (hUp (hUp ph 147 10 0) 147 11 0) 147 12 0) 147 13 0) 147 14 0) 147 15 0) := hShI1 _ u5 rfl rfl
  have rd : ∀ b j, hRd (hUp (hUp (hUp (hUp (hUp (hUp ph 147 10 0) 147 11 0) 147 12 0) 147 13 0) 147 14 0) 147 15 0) b j = if b = 147 ∧ j = 15 then 0 else if b = 147 ∧ j = 14 then 0 else if b = 147 ∧ j = 13 then 0 else if b = 147 ∧ j = 12 then 0 else if b = 147 ∧ j = 11 then 0 else if b = 147 ∧ j = 10 then 0 else hRd ph b j := fun b j => by rw [hRd_up u5 (a := 147) (k := 15) (x := 0) rfl (by decide), hRd_up u4 (a := 147) (k := 14) (x := 0) rfl (by decide), hRd_up u3 (a := 147) (k := 13) (x := 0) rfl (by decide), hRd_up u2 (a := 147) (k := 12) (x := 0) rfl (by decide), hRd_up u1 (a := 147) (k := 11) (x := 0) rfl (by decide), hRd_up hs (a := 147) (k := 10) (x := 0) rfl (by decide)]
  exact loop t.length 0 (0, [], [], 0) _ (by omega) u6 ⟨by rw [rd]; rfl, by rw [rd]; rfl, by rw [rd]; rfl, fun _ => rfl, by rw [rd]; rfl, by rw [rd]; rfl, by rw [rd]; rfl, fun h => absurd h (by decide)⟩ pIn0 ⟨1, Sg_nil⟩ ((((((hFM_f hs rfl (by decide) (by decide)).trans (hFM_f u1 rfl (by decide) (by decide))).trans (hFM_f u2 rfl (by decide) (by decide))).trans (hFM_f u3 rfl (by decide) (by decide))).trans (hFM_f u4 rfl (by decide) (by decide))).trans (hFM_f u5 rfl (by decide) (by decide))) rfl
end MR2
