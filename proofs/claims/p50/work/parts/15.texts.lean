/-! ===== rows of texts ===== -/
def hTW (ph : xH) (t : Nat) : Prop := ∀ r, r < hRw t → -1 ≤ hRd ph (t + 2) r ∧ hRd ph (t + 2) r ≤ hWd t
def hCd (ph : xH) (t r k : Nat) : Int := hRd ph (t + 1) (r * hWd t + k)
def hTx (ph : xH) (t r : Nat) : List Int := (List.range (hRd ph (t + 2) r).toNat).map (fun k => hCd ph t r k)
def hTo (ph : xH) (t r : Nat) : Option (List Int) := if hRd ph (t + 2) r < 0 then none else some (hTx ph t r)
theorem hRW {t r : Nat} (h : r < hRw t) : r * hWd t + hWd t ≤ hRw t * hWd t := by
  have h1 := Nat.mul_le_mul_right (hWd t) h
  rw [Nat.succ_mul] at h1
  exact h1
theorem hRWI {t r : Nat} (ht : hTg t = 8) (h : r < hRw t) : 0 ≤ (r : Int) * (hWd t : Int) ∧ (r : Int) * (hWd t : Int) + hWd t ≤ (hSz (t + 1) : Int) ∧ (hSz (t + 1) : Int) ≤ 9840 := by
  have h1 := hRW h
  have h2 := hTx_sz ht
  refine ⟨Int.mul_nonneg (Int.natCast_nonneg _) (Int.natCast_nonneg _), ?_, by omega⟩
  rw [h2.1, ← Int.natCast_mul]
  omega
theorem hIx {r w k : Nat} : ((r : Int) * (w : Int) + (k : Int)).toNat = r * w + k := by
  have e : (r : Int) * (w : Int) + (k : Int) = ((r * w + k : Nat) : Int) := by push_cast; rfl
  rw [e]; rfl
section TXS
variable {d : Nat} {ph : xH} {zs : List xV} {g : Nat} {Q : xR → Prop} {t : Nat}
theorem s75 (hs : hSh zs ph) (ht : hTg t = 8) {r : Nat} (hr : r < hRw t) (hQ : Q (.inl (some (.inl (hRd ph (t + 2) r))), ph, g)) : xTC d 75 [.inr (.inl (some t)), .inl (r : Int)] ph g Q := by
  have hz := hTx_sz ht
  refine tEn (ls := [some (.inr (.inl (some t))), some (.inl (r : Int))]) (fun k => by match k with | 0 => rfl | 1 => rfl | k + 2 => rfl) ?_
  refine tK (l := xk_75) rfl rfl (fun _ _ _ _ _ => rfl) ?_
  refine tIf_lt (l := xk_75) (pc' := 13) rfl rfl rfl (fun hc => ?_) (fun hc => ?_)
  · refine tK (l := xk_75) rfl rfl (fun _ _ _ _ _ => rfl) ?_
    refine tK (l := xk_75) rfl rfl (fun _ _ _ _ _ => rfl) ?_
    refine tRt (l := xk_75) rfl rfl (fun _ _ _ _ _ => rfl) ?_
    exfalso; omega
  · refine tK (l := xk_75) rfl rfl (fun _ _ _ _ _ => rfl) ?_
    refine tK (l := xk_75) rfl rfl (fun _ _ _ _ _ => rfl) ?_
    refine tK (l := xk_75) rfl rfl (hGetR (o := some (t + 2)) hs rfl ht rfl (by decide) (by decide) (hrf_8_2 ht)) ?_
    refine tK (l := xk_75) rfl rfl (hAlen1 hs (htg_8_2 ht) (by decide) (by decide)) ?_
    refine tIc_lt (l := xk_75) (pc' := 17) rfl rfl rfl (fun hc => ?_) (fun hc => ?_)
    · refine tK (l := xk_75) rfl rfl (fun _ _ _ _ _ => rfl) ?_
      refine tK (l := xk_75) rfl rfl (hGetR (o := some (t + 2)) hs rfl ht rfl (by decide) (by decide) (hrf_8_2 ht)) ?_
      refine tK (l := xk_75) rfl rfl (fun _ _ _ _ _ => rfl) ?_
      first | refine tK (l := xk_75) rfl rfl (hIaldN hs (htg_8_2 ht) rfl (by omega)) ?_ | refine tK (l := xk_75) rfl rfl (hIald hs (htg_8_2 ht) (by omega) (by omega)) ?_
      refine tRt (l := xk_75) rfl rfl (fun _ _ _ _ _ => rfl) ?_
      exact hQ
    · refine tK (l := xk_75) rfl rfl (fun _ _ _ _ _ => rfl) ?_
      refine tK (l := xk_75) rfl rfl (fun _ _ _ _ _ => rfl) ?_
      refine tRt (l := xk_75) rfl rfl (fun _ _ _ _ _ => rfl) ?_
      exfalso; omega
theorem s75n (hs : hSh zs ph) (ht : hTg t = 8) (hQ : Q (.inl (some (.inl (-1))), ph, g)) : xTC d 75 [.inr (.inl (some t)), .inl (-1)] ph g Q := by
  have hz := hTx_sz ht
  refine tEn (ls := [some (.inr (.inl (some t))), some (.inl (-1))]) (fun k => by match k with | 0 => rfl | 1 => rfl | k + 2 => rfl) ?_
  refine tK (l := xk_75) rfl rfl (fun _ _ _ _ _ => rfl) ?_
  refine tIf_lt (l := xk_75) (pc' := 13) rfl rfl rfl (fun hc => ?_) (fun hc => ?_)
  · refine tK (l := xk_75) rfl rfl (fun _ _ _ _ _ => rfl) ?_
    refine tK (l := xk_75) rfl rfl (fun _ _ _ _ _ => rfl) ?_
    refine tRt (l := xk_75) rfl rfl (fun _ _ _ _ _ => rfl) ?_
    exact hQ
  · refine tK (l := xk_75) rfl rfl (fun _ _ _ _ _ => rfl) ?_
    refine tK (l := xk_75) rfl rfl (fun _ _ _ _ _ => rfl) ?_
    refine tK (l := xk_75) rfl rfl (hGetR (o := some (t + 2)) hs rfl ht rfl (by decide) (by decide) (hrf_8_2 ht)) ?_
    refine tK (l := xk_75) rfl rfl (hAlen1 hs (htg_8_2 ht) (by decide) (by decide)) ?_
    refine tIc_lt (l := xk_75) (pc' := 17) rfl rfl rfl (fun hc => ?_) (fun hc => ?_)
    · refine tK (l := xk_75) rfl rfl (fun _ _ _ _ _ => rfl) ?_
      refine tK (l := xk_75) rfl rfl (hGetR (o := some (t + 2)) hs rfl ht rfl (by decide) (by decide) (hrf_8_2 ht)) ?_
      refine tK (l := xk_75) rfl rfl (fun _ _ _ _ _ => rfl) ?_
      first | refine tK (l := xk_75) rfl rfl (hIaldN hs (htg_8_2 ht) rfl (by omega)) ?_ | refine tK (l := xk_75) rfl rfl (hIald hs (htg_8_2 ht) (by omega) (by omega)) ?_
      refine tRt (l := xk_75) rfl rfl (fun _ _ _ _ _ => rfl) ?_
      exfalso; omega
    · refine tK (l := xk_75) rfl rfl (fun _ _ _ _ _ => rfl) ?_
      refine tK (l := xk_75) rfl rfl (fun _ _ _ _ _ => rfl) ?_
      refine tRt (l := xk_75) rfl rfl (fun _ _ _ _ _ => rfl) ?_
      exfalso; omega
theorem s74 (hs : hSh zs ph) (ht : hTg t = 8) {r : Nat} (hr : r < hRw t) (hQ : Q (.inl none, hUp ph (t + 2) r 0, g)) : xTC d 74 [.inr (.inl (some t)), .inl (r : Int)] ph g Q := by
  have hz := hTx_sz ht
  refine tEn (ls := [some (.inr (.inl (some t))), some (.inl (r : Int))]) (fun k => by match k with | 0 => rfl | 1 => rfl | k + 2 => rfl) ?_
  refine tK (l := xk_74) rfl rfl (fun _ _ _ _ _ => rfl) ?_
  refine tIf_lt (l := xk_74) (pc' := 20) rfl rfl rfl (fun hc => ?_) (fun hc => ?_)
  · refine tRt (l := xk_74) rfl rfl (fun _ _ _ _ _ => rfl) ?_
    first | exact hQ | (exfalso; omega)
  · refine tK (l := xk_74) rfl rfl (fun _ _ _ _ _ => rfl) ?_
    refine tK (l := xk_74) rfl rfl (fun _ _ _ _ _ => rfl) ?_
    refine tK (l := xk_74) rfl rfl (hGetR (o := some (t + 2)) hs rfl ht rfl (by decide) (by decide) (hrf_8_2 ht)) ?_
    refine tK (l := xk_74) rfl rfl (hAlen1 hs (htg_8_2 ht) (by decide) (by decide)) ?_
    refine tIc_ge (l := xk_74) (pc' := 20) rfl rfl rfl (fun hc => ?_) (fun hc => ?_)
    · refine tK (l := xk_74) rfl rfl (fun _ _ _ _ _ => rfl) ?_
      refine tK (l := xk_74) rfl rfl (hGetR (o := some (t + 2)) hs rfl ht rfl (by decide) (by decide) (hrf_8_2 ht)) ?_
      refine tK (l := xk_74) rfl rfl (fun _ _ _ _ _ => rfl) ?_
      refine tK (l := xk_74) rfl rfl (fun _ _ _ _ _ => rfl) ?_
      first | refine tK (l := xk_74) rfl rfl (hIastN hs (htg_8_2 ht) rfl (by omega)) ?_ | refine tK (l := xk_74) rfl rfl (hIast hs (htg_8_2 ht) (by omega) (by omega)) ?_
      refine tRt (l := xk_74) rfl rfl (fun _ _ _ _ _ => rfl) ?_
      first | exact hQ | (exfalso; omega)
    · refine tRt (l := xk_74) rfl rfl (fun _ _ _ _ _ => rfl) ?_
      first | exact hQ | (exfalso; omega)
theorem s80 (hs : hSh zs ph) (ht : hTg t = 8) {r : Nat} (hr : r < hRw t) (hQ : Q (.inl none, hUp ph (t + 2) r (-1), g)) : xTC d 80 [.inr (.inl (some t)), .inl (r : Int)] ph g Q := by
  have hz := hTx_sz ht
  refine tEn (ls := [some (.inr (.inl (some t))), some (.inl (r : Int))]) (fun k => by match k with | 0 => rfl | 1 => rfl | k + 2 => rfl) ?_
  refine tK (l := xk_80) rfl rfl (fun _ _ _ _ _ => rfl) ?_
  refine tIf_lt (l := xk_80) (pc' := 20) rfl rfl rfl (fun hc => ?_) (fun hc => ?_)
  · refine tRt (l := xk_80) rfl rfl (fun _ _ _ _ _ => rfl) ?_
    first | exact hQ | (exfalso; omega)
  · refine tK (l := xk_80) rfl rfl (fun _ _ _ _ _ => rfl) ?_
    refine tK (l := xk_80) rfl rfl (fun _ _ _ _ _ => rfl) ?_
    refine tK (l := xk_80) rfl rfl (hGetR (o := some (t + 2)) hs rfl ht rfl (by decide) (by decide) (hrf_8_2 ht)) ?_
    refine tK (l := xk_80) rfl rfl (hAlen1 hs (htg_8_2 ht) (by decide) (by decide)) ?_
    refine tIc_ge (l := xk_80) (pc' := 20) rfl rfl rfl (fun hc => ?_) (fun hc => ?_)
    · refine tK (l := xk_80) rfl rfl (fun _ _ _ _ _ => rfl) ?_
      refine tK (l := xk_80) rfl rfl (hGetR (o := some (t + 2)) hs rfl ht rfl (by decide) (by decide) (hrf_8_2 ht)) ?_
      refine tK (l := xk_80) rfl rfl (fun _ _ _ _ _ => rfl) ?_
      refine tK (l := xk_80) rfl rfl (fun _ _ _ _ _ => rfl) ?_
      first | refine tK (l := xk_80) rfl rfl (hIastN hs (htg_8_2 ht) rfl (by omega)) ?_ | refine tK (l := xk_80) rfl rfl (hIast hs (htg_8_2 ht) (by omega) (by omega)) ?_
      refine tRt (l := xk_80) rfl rfl (fun _ _ _ _ _ => rfl) ?_
      first | exact hQ | (exfalso; omega)
    · refine tRt (l := xk_80) rfl rfl (fun _ _ _ _ _ => rfl) ?_
      first | exact hQ | (exfalso; omega)
theorem s76 (hs : hSh zs ph) (ht : hTg t = 8) (hw : hTW ph t) {r k : Nat} (hr : r < hRw t) (hk : (k : Int) < hRd ph (t + 2) r) (hQ : Q (.inl (some (.inl (hCd ph t r k))), ph, g)) : xTC d 76 [.inr (.inl (some t)), .inl (r : Int), .inl (k : Int)] ph g Q := by
  have hz := hTx_sz ht
  have hwr := hw r hr
  have hm := hRWI ht hr
  refine tEn (ls := [some (.inr (.inl (some t))), some (.inl (r : Int)), some (.inl (k : Int)), none]) (fun k => by match k with | 0 => rfl | 1 => rfl | 2 => rfl | 3 => rfl | k + 4 => rfl) ?_
  refine tK (l := xk_76) rfl rfl (fun _ _ _ _ _ => rfl) ?_
  refine tIf_lt (l := xk_76) (pc' := 27) rfl rfl rfl (fun hc => ?_) (fun hc => ?_)
  · refine tK (l := xk_76) rfl rfl (fun _ _ _ _ _ => rfl) ?_
    refine tRt (l := xk_76) rfl rfl (fun _ _ _ _ _ => rfl) ?_
    first | exact hQ | (exfalso; omega)
  · refine tK (l := xk_76) rfl rfl (fun _ _ _ _ _ => rfl) ?_
    refine tK (l := xk_76) rfl rfl (fun _ _ _ _ _ => rfl) ?_
    refine tK (l := xk_76) rfl rfl (hGetR (o := some (t + 2)) hs rfl ht rfl (by decide) (by decide) (hrf_8_2 ht)) ?_
    refine tK (l := xk_76) rfl rfl (hAlen1 hs (htg_8_2 ht) (by decide) (by decide)) ?_
    refine tIc_ge (l := xk_76) (pc' := 27) rfl rfl rfl (fun hc => ?_) (fun hc => ?_)
    · refine tK (l := xk_76) rfl rfl (fun _ _ _ _ _ => rfl) ?_
      refine tIf_lt (l := xk_76) (pc' := 27) rfl rfl rfl (fun hc => ?_) (fun hc => ?_)
      · refine tK (l := xk_76) rfl rfl (fun _ _ _ _ _ => rfl) ?_
        refine tRt (l := xk_76) rfl rfl (fun _ _ _ _ _ => rfl) ?_
        first | exact hQ | (exfalso; omega)
      · refine tK (l := xk_76) rfl rfl (fun _ _ _ _ _ => rfl) ?_
        refine tK (l := xk_76) rfl rfl (fun _ _ _ _ _ => rfl) ?_
        refine tK (l := xk_76) rfl rfl (hGetR (o := some (t + 2)) hs rfl ht rfl (by decide) (by decide) (hrf_8_2 ht)) ?_
        refine tK (l := xk_76) rfl rfl (fun _ _ _ _ _ => rfl) ?_
        first | refine tK (l := xk_76) rfl rfl (hIaldN hs (htg_8_2 ht) rfl (by omega)) ?_ | refine tK (l := xk_76) rfl rfl (hIald hs (htg_8_2 ht) (by omega) (by omega)) ?_
        refine tIc_lt (l := xk_76) (pc' := 29) rfl rfl rfl (fun hc => ?_) (fun hc => ?_)
        · refine tK (l := xk_76) rfl rfl (fun _ _ _ _ _ => rfl) ?_
          refine tK (l := xk_76) rfl rfl (fun _ _ _ _ _ => rfl) ?_
          refine tK (l := xk_76) rfl rfl (hGetC hs rfl ht rfl (by decide) (by decide) (hCs_8 ht)) ?_
          refine tK (l := xk_76) rfl rfl (hMul ⟨by omega, by omega⟩) ?_
          refine tK (l := xk_76) rfl rfl (fun _ _ _ _ _ => rfl) ?_
          refine tK (l := xk_76) rfl rfl (hAdd ⟨by omega, by omega⟩) ?_
          refine tSt (l := xk_76) rfl rfl (fun _ _ _ _ _ => rfl) (Nat.le_of_ble_eq_true rfl) ?_
          refine tK (l := xk_76) rfl rfl (fun _ _ _ _ _ => rfl) ?_
          refine tIf_lt (l := xk_76) (pc' := 60) rfl rfl rfl (fun hc => ?_) (fun hc => ?_)
          · refine tK (l := xk_76) rfl rfl (fun _ _ _ _ _ => rfl) ?_
            refine tRt (l := xk_76) rfl rfl (fun _ _ _ _ _ => rfl) ?_
            first | exact hQ | (exfalso; omega)
          · refine tK (l := xk_76) rfl rfl (fun _ _ _ _ _ => rfl) ?_
            refine tK (l := xk_76) rfl rfl (fun _ _ _ _ _ => rfl) ?_
            refine tK (l := xk_76) rfl rfl (hGetR (o := some (t + 1)) hs rfl ht rfl (by decide) (by decide) (hrf_8_1 ht)) ?_
            refine tK (l := xk_76) rfl rfl (hAlen1 hs (htg_8_1 ht) (by decide) (by decide)) ?_
            refine tIc_ge (l := xk_76) (pc' := 60) rfl rfl rfl (fun hc => ?_) (fun hc => ?_)
            · refine tK (l := xk_76) rfl rfl (fun _ _ _ _ _ => rfl) ?_
              refine tK (l := xk_76) rfl rfl (hGetR (o := some (t + 1)) hs rfl ht rfl (by decide) (by decide) (hrf_8_1 ht)) ?_
              refine tK (l := xk_76) rfl rfl (fun _ _ _ _ _ => rfl) ?_
              first | refine tK (l := xk_76) rfl rfl (hCaldN hs (htg_8_1 ht) rfl (by omega)) ?_ | refine tK (l := xk_76) rfl rfl (hCald hs (htg_8_1 ht) (by omega) (by omega)) ?_
              refine tK (l := xk_76) rfl rfl (fun _ _ _ _ _ => rfl) ?_
              refine tRt (l := xk_76) rfl rfl (fun _ _ _ _ _ => rfl) ?_
              first | exact hQ | (exfalso; omega)
            · refine tK (l := xk_76) rfl rfl (fun _ _ _ _ _ => rfl) ?_
              refine tRt (l := xk_76) rfl rfl (fun _ _ _ _ _ => rfl) ?_
              first | exact hQ | (exfalso; omega)
        · refine tK (l := xk_76) rfl rfl (fun _ _ _ _ _ => rfl) ?_
          refine tRt (l := xk_76) rfl rfl (fun _ _ _ _ _ => rfl) ?_
          first | exact hQ | (exfalso; omega)
    · refine tK (l := xk_76) rfl rfl (fun _ _ _ _ _ => rfl) ?_
      refine tRt (l := xk_76) rfl rfl (fun _ _ _ _ _ => rfl) ?_
      first | exact hQ | (exfalso; omega)
theorem s79 (hs : hSh zs ph) (ht : hTg t = 8) (hw : hTW ph t) {r : Nat} {x : Int} (hr : r < hRw t) (h0 : 0 ≤ hRd ph (t + 2) r) (hk : hRd ph (t + 2) r < hWd t) (hx : 0 ≤ x ∧ x ≤ 65535) (hQ : Q (.inl (some (.inl 1)), hUp (hUp ph (t + 1) (r * hWd t + (hRd ph (t + 2) r).toNat) x) (t + 2) r (hRd ph (t + 2) r + 1), g)) : xTC d 79 [.inr (.inl (some t)), .inl (r : Int), .inl x] ph g Q := by
  have hz := hTx_sz ht
  have hwr := hw r hr
  have hm := hRWI ht hr
  obtain ⟨n, hn⟩ := Int.eq_ofNat_of_zero_le h0
  rw [hn] at hk hQ
  refine tEn (ls := [some (.inr (.inl (some t))), some (.inl (r : Int)), some (.inl x), none, none]) (fun k => by match k with | 0 => rfl | 1 => rfl | 2 => rfl | 3 => rfl | 4 => rfl | k + 5 => rfl) ?_
  refine tK (l := xk_79) rfl rfl (fun _ _ _ _ _ => rfl) ?_
  refine tIf_lt (l := xk_79) (pc' := 13) rfl rfl rfl (fun hc => ?_) (fun hc => ?_)
  · refine tK (l := xk_79) rfl rfl (fun _ _ _ _ _ => rfl) ?_
    refine tRt (l := xk_79) rfl rfl (fun _ _ _ _ _ => rfl) ?_
    first | (exfalso; omega) | (rw [hn, hIx]; exact hQ)
  · refine tK (l := xk_79) rfl rfl (fun _ _ _ _ _ => rfl) ?_
    refine tK (l := xk_79) rfl rfl (fun _ _ _ _ _ => rfl) ?_
    refine tK (l := xk_79) rfl rfl (hGetR (o := some (t + 2)) hs rfl ht rfl (by decide) (by decide) (hrf_8_2 ht)) ?_
    refine tK (l := xk_79) rfl rfl (hAlen1 hs (htg_8_2 ht) (by decide) (by decide)) ?_
    refine tIc_lt (l := xk_79) (pc' := 15) rfl rfl rfl (fun hc => ?_) (fun hc => ?_)
    · refine tK (l := xk_79) rfl rfl (fun _ _ _ _ _ => rfl) ?_
      refine tK (l := xk_79) rfl rfl (hGetR (o := some (t + 2)) hs rfl ht rfl (by decide) (by decide) (hrf_8_2 ht)) ?_
      refine tK (l := xk_79) rfl rfl (fun _ _ _ _ _ => rfl) ?_
      first | refine tK (l := xk_79) rfl rfl (hIaldN hs (htg_8_2 ht) rfl (by omega)) ?_ | refine tK (l := xk_79) rfl rfl (hIald hs (htg_8_2 ht) (by omega) (by omega)) ?_
      refine tSt (l := xk_79) rfl rfl (fun _ _ _ _ _ => rfl) (Nat.le_of_ble_eq_true rfl) ?_
      refine tK (l := xk_79) rfl rfl (fun _ _ _ _ _ => rfl) ?_
      refine tK (l := xk_79) rfl rfl (fun _ _ _ _ _ => rfl) ?_
      refine tK (l := xk_79) rfl rfl (hGetC hs rfl ht rfl (by decide) (by decide) (hCs_8 ht)) ?_
      refine tK (l := xk_79) rfl rfl (hMul ⟨by omega, by omega⟩) ?_
      refine tK (l := xk_79) rfl rfl (fun _ _ _ _ _ => rfl) ?_
      refine tK (l := xk_79) rfl rfl (hAdd ⟨by omega, by omega⟩) ?_
      refine tSt (l := xk_79) rfl rfl (fun _ _ _ _ _ => rfl) (Nat.le_of_ble_eq_true rfl) ?_
      refine tK (l := xk_79) rfl rfl (fun _ _ _ _ _ => rfl) ?_
      refine tIf_lt (l := xk_79) (pc' := 59) rfl rfl rfl (fun hc => ?_) (fun hc => ?_)
      · refine tK (l := xk_79) rfl rfl (fun _ _ _ _ _ => rfl) ?_
        refine tRt (l := xk_79) rfl rfl (fun _ _ _ _ _ => rfl) ?_
        first | (exfalso; omega) | (rw [hn, hIx]; exact hQ)
      · refine tK (l := xk_79) rfl rfl (fun _ _ _ _ _ => rfl) ?_
        refine tK (l := xk_79) rfl rfl (fun _ _ _ _ _ => rfl) ?_
        refine tK (l := xk_79) rfl rfl (hGetC hs rfl ht rfl (by decide) (by decide) (hCs_8 ht)) ?_
        refine tIc_ge (l := xk_79) (pc' := 59) rfl rfl rfl (fun hc => ?_) (fun hc => ?_)
        · refine tK (l := xk_79) rfl rfl (fun _ _ _ _ _ => rfl) ?_
          refine tIf_lt (l := xk_79) (pc' := 59) rfl rfl rfl (fun hc => ?_) (fun hc => ?_)
          · refine tK (l := xk_79) rfl rfl (fun _ _ _ _ _ => rfl) ?_
            refine tRt (l := xk_79) rfl rfl (fun _ _ _ _ _ => rfl) ?_
            first | (exfalso; omega) | (rw [hn, hIx]; exact hQ)
          · refine tK (l := xk_79) rfl rfl (fun _ _ _ _ _ => rfl) ?_
            refine tK (l := xk_79) rfl rfl (fun _ _ _ _ _ => rfl) ?_
            refine tK (l := xk_79) rfl rfl (hGetR (o := some (t + 1)) hs rfl ht rfl (by decide) (by decide) (hrf_8_1 ht)) ?_
            refine tK (l := xk_79) rfl rfl (hAlen1 hs (htg_8_1 ht) (by decide) (by decide)) ?_
            refine tIc_lt (l := xk_79) (pc' := 61) rfl rfl rfl (fun hc => ?_) (fun hc => ?_)
            · refine tK (l := xk_79) rfl rfl (fun _ _ _ _ _ => rfl) ?_
              refine tK (l := xk_79) rfl rfl (hGetR (o := some (t + 1)) hs rfl ht rfl (by decide) (by decide) (hrf_8_1 ht)) ?_
              refine tK (l := xk_79) rfl rfl (fun _ _ _ _ _ => rfl) ?_
              refine tK (l := xk_79) rfl rfl (fun _ _ _ _ _ => rfl) ?_
              refine tK (l := xk_79) rfl rfl (hI2c ⟨by omega, by omega⟩) ?_
              first | refine tK (l := xk_79) rfl rfl (hCastN hs (htg_8_1 ht) rfl (by omega) ⟨by omega, by omega⟩) ?_ | refine tK (l := xk_79) rfl rfl (hCast hs (htg_8_1 ht) (by omega) (by omega) ⟨by omega, by omega⟩) ?_
              refine tK (l := xk_79) rfl rfl (fun _ _ _ _ _ => rfl) ?_
              refine tK (l := xk_79) rfl rfl (hGetR (o := some (t + 2)) (hShC1 _ hs (htg_8_1 ht) rfl ⟨by omega, by omega⟩) rfl ht rfl (by decide) (by decide) (hrf_8_2 ht)) ?_
              refine tK (l := xk_79) rfl rfl (fun _ _ _ _ _ => rfl) ?_
              refine tK (l := xk_79) rfl rfl (fun _ _ _ _ _ => rfl) ?_
              refine tK (l := xk_79) rfl rfl (fun _ _ _ _ _ => rfl) ?_
              refine tK (l := xk_79) rfl rfl (hAdd ⟨by omega, by omega⟩) ?_
              first | refine tK (l := xk_79) rfl rfl (hIastN (hShC1 _ hs (htg_8_1 ht) rfl ⟨by omega, by omega⟩) (htg_8_2 ht) rfl (by omega)) ?_ | refine tK (l := xk_79) rfl rfl (hIast (hShC1 _ hs (htg_8_1 ht) rfl ⟨by omega, by omega⟩) (htg_8_2 ht) (by omega) (by omega)) ?_
              refine tK (l := xk_79) rfl rfl (fun _ _ _ _ _ => rfl) ?_
              refine tRt (l := xk_79) rfl rfl (fun _ _ _ _ _ => rfl) ?_
              first | (exfalso; omega) | (rw [hn, hIx]; exact hQ)
            · refine tK (l := xk_79) rfl rfl (fun _ _ _ _ _ => rfl) ?_
              refine tRt (l := xk_79) rfl rfl (fun _ _ _ _ _ => rfl) ?_
              first | (exfalso; omega) | (rw [hn, hIx]; exact hQ)
        · refine tK (l := xk_79) rfl rfl (fun _ _ _ _ _ => rfl) ?_
          refine tRt (l := xk_79) rfl rfl (fun _ _ _ _ _ => rfl) ?_
          first | (exfalso; omega) | (rw [hn, hIx]; exact hQ)
    · refine tK (l := xk_79) rfl rfl (fun _ _ _ _ _ => rfl) ?_
      refine tRt (l := xk_79) rfl rfl (fun _ _ _ _ _ => rfl) ?_
      first | (exfalso; omega) | (rw [hn, hIx]; exact hQ)
end TXS
/-! ===== rows of texts, told by their texts ===== -/
/-- ph2 is ph but that the row r of the texts t has the text v -/
def hTs (zs : List xV) (ph ph2 : xH) (t r : Nat) (v : Option (List Int)) : Prop :=
  hSh zs ph2 ∧ (∀ a k, a ≠ t + 1 → a ≠ t + 2 → hRd ph2 a k = hRd ph a k) ∧ (∀ a k, hRl ph2 a k = hRl ph a k) ∧ (∀ a k, hRs ph2 a k = hRs ph a k) ∧ hTo ph2 t r = v ∧ (∀ j, j < hRw t → j ≠ r → hTo ph2 t j = hTo ph t j) ∧ hTW ph2 t
def hLo : Option (List Int) → Int
  | none => -1
  | some s => (s.length : Int)
theorem hTx_len {ph : xH} {t r : Nat} : (hTx ph t r).length = (hRd ph (t + 2) r).toNat := by simp [hTx]
theorem hTx_get {ph : xH} {t r k : Nat} (h : k < (hRd ph (t + 2) r).toNat) : (hTx ph t r)[k]? = some (hCd ph t r k) := by
  simp [hTx, h]
theorem hTo_none {ph : xH} {t r : Nat} (hw : hTW ph t) (hr : r < hRw t) : hTo ph t r = none ↔ hRd ph (t + 2) r = -1 := by
  have := hw r hr
  unfold hTo
  split
  · simp; omega
  · simp; omega
theorem hTo_some {ph : xH} {t r : Nat} {s : List Int} (h : hTo ph t r = some s) : hRd ph (t + 2) r = (s.length : Int) ∧ s = hTx ph t r := by
  unfold hTo at h
  split at h
  · cases h
  · cases h
    refine ⟨?_, rfl⟩
    rw [hTx_len]; omega
theorem hTo_lo {ph : xH} {t r : Nat} {v : Option (List Int)} (hw : hTW ph t) (hr : r < hRw t) (h : hTo ph t r = v) : hRd ph (t + 2) r = hLo v := by
  cases v with
  | none => exact (hTo_none hw hr).mp h
  | some s => exact (hTo_some h).1
theorem hTo_get {ph : xH} {t r k : Nat} {s : List Int} {x : Int} (h : hTo ph t r = some s) (hk : s[k]? = some x) : (k : Int) < hRd ph (t + 2) r ∧ hCd ph t r k = x := by
  obtain ⟨h1, h2⟩ := hTo_some h
  have hl : k < s.length := (List.getElem?_eq_some_iff.mp hk).1
  refine ⟨by omega, ?_⟩
  rw [h2, hTx_get (by omega)] at hk
  exact Option.some.inj hk
theorem hTo_len {ph : xH} {t r : Nat} {s : List Int} (hw : hTW ph t) (hr : r < hRw t) (h : hTo ph t r = some s) : s.length ≤ hWd t := by
  have h1 := (hTo_some h).1
  have := hw r hr
  omega
theorem hTo_ch {zs : List xV} {ph : xH} {t r : Nat} {s : List Int} (hs : hSh zs ph) (ht : hTg t = 8) (h : hTo ph t r = some s) : ∀ x ∈ s, 0 ≤ x ∧ x ≤ 65535 := by
  intro x hx
  obtain ⟨k, hk⟩ := List.getElem?_of_mem hx
  rw [← (hTo_get h hk).2]
  exact hRd_ch hs (htg_8_1 ht)
theorem hTo_eq {ph ph2 : xH} {t r : Nat} (h1 : ∀ k, hRd ph2 (t + 1) k = hRd ph (t + 1) k) (h2 : hRd ph2 (t + 2) r = hRd ph (t + 2) r) : hTo ph2 t r = hTo ph t r := by
  unfold hTo hTx hCd
  simp only [h1, h2]
theorem hTo_of {ph : xH} {t r : Nat} {s : List Int} (h1 : hRd ph (t + 2) r = (s.length : Int)) (h2 : ∀ k x, s[k]? = some x → hCd ph t r k = x) : hTo ph t r = some s := by
  unfold hTo
  rw [if_neg (by omega)]
  congr 1
  apply List.ext_getElem?
  intro k
  by_cases hk : k < s.length
  · rw [hTx_get (by omega), List.getElem?_eq_getElem hk, h2 k s[k] (List.getElem?_eq_getElem hk)]
  · rw [List.getElem?_eq_none (by rw [hTx_len]; omega), List.getElem?_eq_none (by omega)]
theorem hTg_apart {t u : Nat} (ht : hTg t = 8) (hu : hTg u = 8) (h : t ≠ u) : u + 1 ≠ t + 1 ∧ u + 1 ≠ t + 2 ∧ u + 2 ≠ t + 1 ∧ u + 2 ≠ t + 2 := by
  have a1 := htg_8_1 ht
  have a2 := htg_8_2 ht
  have b1 := htg_8_1 hu
  have b2 := htg_8_2 hu
  refine ⟨by omega, fun e => ?_, fun e => ?_, by omega⟩
  · rw [e] at b1; omega
  · rw [e] at b2; omega
theorem hTs.other {zs : List xV} {ph ph2 : xH} {t r u j : Nat} {v : Option (List Int)} (h : hTs zs ph ph2 t r v) (ht : hTg t = 8) (hu : hTg u = 8) (hn : u ≠ t) : hTo ph2 u j = hTo ph u j := by
  obtain ⟨q1, q2, q3, q4⟩ := hTg_apart ht hu (Ne.symm hn)
  exact hTo_eq (fun k => h.2.1 _ _ q1 q2) (h.2.1 _ _ q3 q4)
theorem hTs.otherW {zs : List xV} {ph ph2 : xH} {t r u : Nat} {v : Option (List Int)} (h : hTs zs ph ph2 t r v) (ht : hTg t = 8) (hu : hTg u = 8) (hw : hTW ph u) : hTW ph2 u := by
  by_cases hn : u = t
  · subst hn; exact h.2.2.2.2.2.2
  · obtain ⟨q1, q2, q3, q4⟩ := hTg_apart ht hu (Ne.symm hn)
    intro r hr
    rw [h.2.1 _ _ q3 q4]
    exact hw r hr
theorem hTs_of {zs : List xV} {ph ph2 : xH} {t r : Nat} {v : Option (List Int)} (hs2 : hSh zs ph2) (hw : hTW ph t) (hr : r < hRw t) (h1 : ∀ a k, a ≠ t + 1 → a ≠ t + 2 → hRd ph2 a k = hRd ph a k) (h2 : ∀ a k, hRl ph2 a k = hRl ph a k) (h3 : ∀ a k, hRs ph2 a k = hRs ph a k)
    (h4 : ∀ j, j ≠ r → hRd ph2 (t + 2) j = hRd ph (t + 2) j) (h5 : ∀ i, i < r * hWd t ∨ r * hWd t + hWd t ≤ i → hRd ph2 (t + 1) i = hRd ph (t + 1) i) (h6 : -1 ≤ hRd ph2 (t + 2) r ∧ hRd ph2 (t + 2) r ≤ hWd t) (h7 : hTo ph2 t r = v) : hTs zs ph ph2 t r v := by
  refine ⟨hs2, h1, h2, h3, h7, fun j hj hn => ?_, fun j hj => ?_⟩
  · have hlj := hw j hj
    unfold hTo hTx hCd
    rw [h4 j hn]
    split
    · rfl
    · congr 1
      apply List.map_congr_left
      intro k hk
      rw [List.mem_range] at hk
      apply h5
      rcases Nat.lt_or_gt_of_ne hn with h | h
      · have := Nat.mul_le_mul_right (hWd t) (show j + 1 ≤ r from h)
        rw [Nat.succ_mul] at this
        omega
      · have := Nat.mul_le_mul_right (hWd t) (show r + 1 ≤ j from h)
        rw [Nat.succ_mul] at this
        omega
  · by_cases hn : j = r
    · rw [hn]; exact h6
    · rw [h4 j hn]; exact hw j hj
theorem hTs_len {zs : List xV} {ph : xH} {t r : Nat} {x : Int} (hs : hSh zs ph) (ht : hTg t = 8) (hw : hTW ph t) (hr : r < hRw t) (hx : x = -1 ∨ x = 0) : hTs zs ph (hUp ph (t + 2) r x) t r (if x < 0 then none else some []) := by
  have h2 := htg_8_2 ht
  have hz := hTx_sz ht
  have hk : hKi (hTg (t + 2)) r = true := by rw [h2]; rfl
  have hrd := hRd_up (x := x) hs hk (by omega)
  have e : hRd (hUp ph (t + 2) r x) (t + 2) r = x := by rw [hrd, if_pos ⟨rfl, rfl⟩]
  refine hTs_of (hShI1 x hs h2 rfl) hw hr (fun a k _ ha => ?_) (fun a k => hRl_up hs hk a k) (fun a k => hRs_up hs hk a k) (fun j hj => ?_) (fun i _ => ?_) (by rw [e]; omega) ?_
  · rw [hrd, if_neg (fun q => ha q.1)]
  · rw [hrd, if_neg (fun q => hj q.2)]
  · rw [hrd, if_neg (by omega)]
  · unfold hTo hTx
    rw [e]
    rcases hx with rfl | rfl
    · rfl
    · rfl
section TXA
variable {d : Nat} {ph : xH} {zs : List xV} {g : Nat} {Q : xR → Prop} {t : Nat}
theorem a75 (hs : hSh zs ph) (ht : hTg t = 8) (hw : hTW ph t) {r : Nat} {v : Option (List Int)} (hr : r < hRw t) (hv : hTo ph t r = v) (hQ : Q (.inl (some (.inl (hLo v))), ph, g)) : xTC d 75 [.inr (.inl (some t)), .inl (r : Int)] ph g Q :=
  s75 hs ht hr (by rw [hTo_lo hw hr hv]; exact hQ)
theorem a76 (hs : hSh zs ph) (ht : hTg t = 8) (hw : hTW ph t) {r k : Nat} {s : List Int} {x : Int} (hr : r < hRw t) (hv : hTo ph t r = some s) (hk : s[k]? = some x) (hQ : Q (.inl (some (.inl x)), ph, g)) : xTC d 76 [.inr (.inl (some t)), .inl (r : Int), .inl (k : Int)] ph g Q := by
  obtain ⟨h1, h2⟩ := hTo_get hv hk
  exact s76 hs ht hw hr h1 (by rw [h2]; exact hQ)
theorem a74 (hs : hSh zs ph) (ht : hTg t = 8) (hw : hTW ph t) {r : Nat} (hr : r < hRw t) (hQ : ∀ ph2, hTs zs ph ph2 t r (some []) → Q (.inl none, ph2, g)) : xTC d 74 [.inr (.inl (some t)), .inl (r : Int)] ph g Q :=
  s74 hs ht hr (hQ _ (hTs_len hs ht hw hr (Or.inr rfl)))
theorem a80 (hs : hSh zs ph) (ht : hTg t = 8) (hw : hTW ph t) {r : Nat} (hr : r < hRw t) (hQ : ∀ ph2, hTs zs ph ph2 t r none → Q (.inl none, ph2, g)) : xTC d 80 [.inr (.inl (some t)), .inl (r : Int)] ph g Q :=
  s80 hs ht hr (hQ _ (hTs_len hs ht hw hr (Or.inl rfl)))
theorem a79 (hs : hSh zs ph) (ht : hTg t = 8) (hw : hTW ph t) {r : Nat} {s : List Int} {x : Int} (hr : r < hRw t) (hv : hTo ph t r = some s) (hl : s.length < hWd t) (hx : 0 ≤ x ∧ x ≤ 65535) (hQ : ∀ ph2, hTs zs ph ph2 t r (some (s ++ [x])) → Q (.inl (some (.inl 1)), ph2, g)) : xTC d 79 [.inr (.inl (some t)), .inl (r : Int), .inl x] ph g Q := by
  obtain ⟨h1, h2⟩ := hTo_some hv
  refine s79 hs ht hw hr (by omega) (by omega) hx (hQ _ ?_)
  have k1 := htg_8_1 ht
  have k2 := htg_8_2 ht
  have hz := hTx_sz ht
  have hm := hRW hr
  have e : (hRd ph (t + 2) r).toNat = s.length := by omega
  rw [e]
  have hs1 : hSh zs (hUp ph (t + 1) (r * hWd t + s.length) x) := hShC1 x hs k1 rfl hx
  have hk1 : hKi (hTg (t + 1)) (r * hWd t + s.length) = true := by rw [k1]; rfl
  have hk2 : hKi (hTg (t + 2)) r = true := by rw [k2]; rfl
  have rd1 := hRd_up (x := x) hs hk1 (by omega)
  have rd2 := hRd_up (x := hRd ph (t + 2) r + 1) hs1 hk2 (by omega)
  have rd : ∀ a k, hRd (hUp (hUp ph (t + 1) (r * hWd t + s.length) x) (t + 2) r (hRd ph (t + 2) r + 1)) a k = if a = t + 2 ∧ k = r then hRd ph (t + 2) r + 1 else if a = t + 1 ∧ k = r * hWd t + s.length then x else hRd ph a k := fun a k => by rw [rd2, rd1]
  have e2 : hRd (hUp (hUp ph (t + 1) (r * hWd t + s.length) x) (t + 2) r (hRd ph (t + 2) r + 1)) (t + 2) r = hRd ph (t + 2) r + 1 := by rw [rd, if_pos ⟨rfl, rfl⟩]
  refine hTs_of (hShI1 _ hs1 k2 rfl) hw hr (fun a k h1 h2 => ?_) (fun a k => by rw [hRl_up hs1 hk2, hRl_up hs hk1]) (fun a k => by rw [hRs_up hs1 hk2, hRs_up hs hk1]) (fun j hn => ?_) (fun i hi => ?_) (by rw [e2]; omega) ?_
  · rw [rd, if_neg (fun q => h2 q.1), if_neg (fun q => h1 q.1)]
  · rw [rd, if_neg (fun q => hn q.2), if_neg (by omega)]
  · rw [rd, if_neg (by omega), if_neg (by omega)]
  · refine hTo_of ?_ (fun k y hk => ?_)
    · rw [e2, h1]; simp
    · unfold hCd
      rw [rd, if_neg (by omega)]
      by_cases hk2 : k < s.length
      · rw [if_neg (by omega)]
        rw [List.getElem?_append_left hk2] at hk
        exact (hTo_get hv hk).2
      · rw [List.getElem?_append_right (by omega)] at hk
        have hk3 : k - s.length < 1 := (List.getElem?_eq_some_iff.mp hk).1
        rw [show k - s.length = 0 by omega] at hk
        rw [if_pos ⟨rfl, by omega⟩]
        exact Option.some.inj hk

theorem a79f (hs : hSh zs ph) (ht : hTg t = 8) (hw : hTW ph t) {r : Nat} {s : List Int} {x : Int} (hr : r < hRw t) (hv : hTo ph t r = some s) (hl : s.length = hWd t) (hQ : Q (.inl (some (.inl 0)), ph, g)) : xTC d 79 [.inr (.inl (some t)), .inl (r : Int), .inl x] ph g Q := by
  have hz := hTx_sz ht
  have hwr := hw r hr
  have hm := hRWI ht hr
  have hv1 := (hTo_some hv).1
  refine tEn (ls := [some (.inr (.inl (some t))), some (.inl (r : Int)), some (.inl x), none, none]) (fun k => by match k with | 0 => rfl | 1 => rfl | 2 => rfl | 3 => rfl | 4 => rfl | k + 5 => rfl) ?_
  refine tK (l := xk_79) rfl rfl (fun _ _ _ _ _ => rfl) ?_
  refine tIf_lt (l := xk_79) (pc' := 13) rfl rfl rfl (fun hc => ?_) (fun hc => ?_)
  · refine tK (l := xk_79) rfl rfl (fun _ _ _ _ _ => rfl) ?_
    refine tRt (l := xk_79) rfl rfl (fun _ _ _ _ _ => rfl) ?_
    first | exact hQ | (exfalso; omega)
  · refine tK (l := xk_79) rfl rfl (fun _ _ _ _ _ => rfl) ?_
    refine tK (l := xk_79) rfl rfl (fun _ _ _ _ _ => rfl) ?_
    refine tK (l := xk_79) rfl rfl (hGetR (o := some (t + 2)) hs rfl ht rfl (by decide) (by decide) (hrf_8_2 ht)) ?_
    refine tK (l := xk_79) rfl rfl (hAlen1 hs (htg_8_2 ht) (by decide) (by decide)) ?_
    refine tIc_lt (l := xk_79) (pc' := 15) rfl rfl rfl (fun hc => ?_) (fun hc => ?_)
    · refine tK (l := xk_79) rfl rfl (fun _ _ _ _ _ => rfl) ?_
      refine tK (l := xk_79) rfl rfl (hGetR (o := some (t + 2)) hs rfl ht rfl (by decide) (by decide) (hrf_8_2 ht)) ?_
      refine tK (l := xk_79) rfl rfl (fun _ _ _ _ _ => rfl) ?_
      first | refine tK (l := xk_79) rfl rfl (hIaldN hs (htg_8_2 ht) rfl (by omega)) ?_ | refine tK (l := xk_79) rfl rfl (hIald hs (htg_8_2 ht) (by omega) (by omega)) ?_
      refine tSt (l := xk_79) rfl rfl (fun _ _ _ _ _ => rfl) (Nat.le_of_ble_eq_true rfl) ?_
      refine tK (l := xk_79) rfl rfl (fun _ _ _ _ _ => rfl) ?_
      refine tK (l := xk_79) rfl rfl (fun _ _ _ _ _ => rfl) ?_
      refine tK (l := xk_79) rfl rfl (hGetC hs rfl ht rfl (by decide) (by decide) (hCs_8 ht)) ?_
      refine tK (l := xk_79) rfl rfl (hMul ⟨by omega, by omega⟩) ?_
      refine tK (l := xk_79) rfl rfl (fun _ _ _ _ _ => rfl) ?_
      refine tK (l := xk_79) rfl rfl (hAdd ⟨by omega, by omega⟩) ?_
      refine tSt (l := xk_79) rfl rfl (fun _ _ _ _ _ => rfl) (Nat.le_of_ble_eq_true rfl) ?_
      refine tK (l := xk_79) rfl rfl (fun _ _ _ _ _ => rfl) ?_
      refine tIf_lt (l := xk_79) (pc' := 59) rfl rfl rfl (fun hc => ?_) (fun hc => ?_)
      · refine tK (l := xk_79) rfl rfl (fun _ _ _ _ _ => rfl) ?_
        refine tRt (l := xk_79) rfl rfl (fun _ _ _ _ _ => rfl) ?_
        first | exact hQ | (exfalso; omega)
      · refine tK (l := xk_79) rfl rfl (fun _ _ _ _ _ => rfl) ?_
        refine tK (l := xk_79) rfl rfl (fun _ _ _ _ _ => rfl) ?_
        refine tK (l := xk_79) rfl rfl (hGetC hs rfl ht rfl (by decide) (by decide) (hCs_8 ht)) ?_
        refine tIc_ge (l := xk_79) (pc' := 59) rfl rfl rfl (fun hc => ?_) (fun hc => ?_)
        · refine tK (l := xk_79) rfl rfl (fun _ _ _ _ _ => rfl) ?_
          refine tIf_lt (l := xk_79) (pc' := 59) rfl rfl rfl (fun hc => ?_) (fun hc => ?_)
          · refine tK (l := xk_79) rfl rfl (fun _ _ _ _ _ => rfl) ?_
            refine tRt (l := xk_79) rfl rfl (fun _ _ _ _ _ => rfl) ?_
            first | exact hQ | (exfalso; omega)
          · refine tK (l := xk_79) rfl rfl (fun _ _ _ _ _ => rfl) ?_
            refine tK (l := xk_79) rfl rfl (fun _ _ _ _ _ => rfl) ?_
            refine tK (l := xk_79) rfl rfl (hGetR (o := some (t + 1)) hs rfl ht rfl (by decide) (by decide) (hrf_8_1 ht)) ?_
            refine tK (l := xk_79) rfl rfl (hAlen1 hs (htg_8_1 ht) (by decide) (by decide)) ?_
            refine tIc_lt (l := xk_79) (pc' := 61) rfl rfl rfl (fun hc => ?_) (fun hc => ?_)
            · refine tK (l := xk_79) rfl rfl (fun _ _ _ _ _ => rfl) ?_
              refine tK (l := xk_79) rfl rfl (hGetR (o := some (t + 1)) hs rfl ht rfl (by decide) (by decide) (hrf_8_1 ht)) ?_
              refine tK (l := xk_79) rfl rfl (fun _ _ _ _ _ => rfl) ?_
              refine tK (l := xk_79) rfl rfl (fun _ _ _ _ _ => rfl) ?_
              refine tK (l := xk_79) rfl rfl (hI2c ⟨by omega, by omega⟩) ?_
              first | refine tK (l := xk_79) rfl rfl (hCastN hs (htg_8_1 ht) rfl (by omega) ⟨by omega, by omega⟩) ?_ | refine tK (l := xk_79) rfl rfl (hCast hs (htg_8_1 ht) (by omega) (by omega) ⟨by omega, by omega⟩) ?_
              refine tK (l := xk_79) rfl rfl (fun _ _ _ _ _ => rfl) ?_
              refine tK (l := xk_79) rfl rfl (hGetR (o := some (t + 2)) (hShC1 _ hs (htg_8_1 ht) rfl ⟨by omega, by omega⟩) rfl ht rfl (by decide) (by decide) (hrf_8_2 ht)) ?_
              refine tK (l := xk_79) rfl rfl (fun _ _ _ _ _ => rfl) ?_
              refine tK (l := xk_79) rfl rfl (fun _ _ _ _ _ => rfl) ?_
              refine tK (l := xk_79) rfl rfl (fun _ _ _ _ _ => rfl) ?_
              refine tK (l := xk_79) rfl rfl (hAdd ⟨by omega, by omega⟩) ?_
              first | refine tK (l := xk_79) rfl rfl (hIastN (hShC1 _ hs (htg_8_1 ht) rfl ⟨by omega, by omega⟩) (htg_8_2 ht) rfl (by omega)) ?_ | refine tK (l := xk_79) rfl rfl (hIast (hShC1 _ hs (htg_8_1 ht) rfl ⟨by omega, by omega⟩) (htg_8_2 ht) (by omega) (by omega)) ?_
              refine tK (l := xk_79) rfl rfl (fun _ _ _ _ _ => rfl) ?_
              refine tRt (l := xk_79) rfl rfl (fun _ _ _ _ _ => rfl) ?_
              first | exact hQ | (exfalso; omega)
            · refine tK (l := xk_79) rfl rfl (fun _ _ _ _ _ => rfl) ?_
              refine tRt (l := xk_79) rfl rfl (fun _ _ _ _ _ => rfl) ?_
              first | exact hQ | (exfalso; omega)
        · refine tK (l := xk_79) rfl rfl (fun _ _ _ _ _ => rfl) ?_
          refine tRt (l := xk_79) rfl rfl (fun _ _ _ _ _ => rfl) ?_
          first | exact hQ | (exfalso; omega)
    · refine tK (l := xk_79) rfl rfl (fun _ _ _ _ _ => rfl) ?_
      refine tRt (l := xk_79) rfl rfl (fun _ _ _ _ _ => rfl) ?_
      first | exact hQ | (exfalso; omega)
end TXA
