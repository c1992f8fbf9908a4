/-! ===== the model's calls (4) ===== -/
section MC4
variable {d : Nat} {ph : xH} {zs : List xV} {g : Nat} {Q : xR → Prop} {c : KS}
theorem m172x (h : hMm zs ph c) {x : Int} (hx : ¬ (0 ≤ x ∧ x < 8)) (hQ : ∀ ph2, hMm zs ph2 c → hRd ph2 147 0 = 1 → hFd moP ph ph2 → Q (.inl (some (.inl 0)), ph2, g)) : xTC (d + 4) 172 [.inr (.inl (some 147)), .inl x] ph g Q := by
  have hs := h.1
  obtain ⟨w1, w2, w3, w4⟩ := hSzS
  refine tEn (ls := [some (.inr (.inl (some 147))), some (.inl x), none, none, none, none]) (fun k => by match k with | 0 => rfl | 1 => rfl | 2 => rfl | 3 => rfl | 4 => rfl | 5 => rfl | k + 6 => rfl) ?_
  refine tK (l := xk_172) rfl rfl (fun _ _ _ _ _ => rfl) ?_
  refine tK (l := xk_172) rfl rfl (fun _ _ _ _ _ => rfl) ?_
  refine tK (l := xk_172) rfl rfl (fun _ _ _ _ _ => rfl) ?_
  refine tCa (l := xk_172) rfl rfl (hInvV (c := 10) hs rfl rfl rfl rfl rfl (Nat.le_of_ble_eq_true rfl) (Nat.le_of_ble_eq_true rfl)) ?_
  refine s169x hs hx ?_
  refine tKv ?_
  refine tIf_eq (l := xk_172) (pc' := 17) rfl rfl rfl (fun hc => ?_) (fun hc => ?_)
  · exact absurd hc (by decide)
  · refine tK (l := xk_172) rfl rfl (fun _ _ _ _ _ => rfl) ?_
    refine tK (l := xk_172) rfl rfl (fun _ _ _ _ _ => rfl) ?_
    refine tCa (l := xk_172) rfl rfl (hInvV (c := 10) hs rfl rfl rfl rfl rfl (Nat.le_of_ble_eq_true rfl) (Nat.le_of_ble_eq_true rfl)) ?_
    refine s169x hs hx ?_
    refine tKv ?_
    refine tK (l := xk_172) rfl rfl (fun _ _ _ _ _ => rfl) ?_
    refine tCa (l := xk_172) rfl rfl (hInvV (c := 10) hs rfl rfl rfl rfl rfl (Nat.le_of_ble_eq_true rfl) (Nat.le_of_ble_eq_true rfl)) ?_
    refine s147n h (show (1 : Int) ≠ 0 by decide) (fun ph2 k2 e0 f2 => ?_)
    refine tKv ?_
    refine tIf_ne (l := xk_172) (pc' := 46) rfl rfl rfl (fun hc => ?_) (fun hc => ?_)
    · refine tK (l := xk_172) rfl rfl (fun _ _ _ _ _ => rfl) ?_
      refine tRt (l := xk_172) rfl rfl (fun _ _ _ _ _ => rfl) ?_
      exact hQ ph2 k2 e0 f2.mo
    · exact absurd rfl hc
theorem m172n (h : hMm zs ph c) {n : Nat} (hn : n < 8) (hv : c.2.1.1 n = none) (hQ : ∀ ph2, hMm zs ph2 c → hRd ph2 147 0 = 2 → hFd moP ph ph2 → Q (.inl (some (.inl 0)), ph2, g)) : xTC (d + 4) 172 [.inr (.inl (some 147)), .inl (n : Int)] ph g Q := by
  have hs := h.1
  obtain ⟨w1, w2, w3, w4⟩ := hSzS
  refine tEn (ls := [some (.inr (.inl (some 147))), some (.inl (n : Int)), none, none, none, none]) (fun k => by match k with | 0 => rfl | 1 => rfl | 2 => rfl | 3 => rfl | 4 => rfl | 5 => rfl | k + 6 => rfl) ?_
  refine tK (l := xk_172) rfl rfl (fun _ _ _ _ _ => rfl) ?_
  refine tK (l := xk_172) rfl rfl (fun _ _ _ _ _ => rfl) ?_
  refine tK (l := xk_172) rfl rfl (fun _ _ _ _ _ => rfl) ?_
  refine tCa (l := xk_172) rfl rfl (hInvV (c := 10) hs rfl rfl rfl rfl rfl (Nat.le_of_ble_eq_true rfl) (Nat.le_of_ble_eq_true rfl)) ?_
  refine s169n h hn hv ?_
  refine tKv ?_
  refine tIf_eq (l := xk_172) (pc' := 17) rfl rfl rfl (fun hc => ?_) (fun hc => ?_)
  · exact absurd hc (by decide)
  · refine tK (l := xk_172) rfl rfl (fun _ _ _ _ _ => rfl) ?_
    refine tK (l := xk_172) rfl rfl (fun _ _ _ _ _ => rfl) ?_
    refine tCa (l := xk_172) rfl rfl (hInvV (c := 10) hs rfl rfl rfl rfl rfl (Nat.le_of_ble_eq_true rfl) (Nat.le_of_ble_eq_true rfl)) ?_
    refine s169n h hn hv ?_
    refine tKv ?_
    refine tK (l := xk_172) rfl rfl (fun _ _ _ _ _ => rfl) ?_
    refine tCa (l := xk_172) rfl rfl (hInvV (c := 10) hs rfl rfl rfl rfl rfl (Nat.le_of_ble_eq_true rfl) (Nat.le_of_ble_eq_true rfl)) ?_
    refine s147n h (show (2 : Int) ≠ 0 by decide) (fun ph2 k2 e0 f2 => ?_)
    refine tKv ?_
    refine tIf_ne (l := xk_172) (pc' := 46) rfl rfl rfl (fun hc => ?_) (fun hc => ?_)
    · refine tK (l := xk_172) rfl rfl (fun _ _ _ _ _ => rfl) ?_
      refine tRt (l := xk_172) rfl rfl (fun _ _ _ _ _ => rfl) ?_
      exact hQ ph2 k2 e0 f2.mo
    · exact absurd rfl hc
theorem m172y (h : hMm zs ph c) {n : Nat} {v : List Int} (hn : n < 8) (hv : c.2.1.1 n = some v) (hv24 : v.length ≤ 24) (hf : 24 < (esc v).length) (hQ : ∀ ph2, hMm zs ph2 c → hRd ph2 147 0 = 2 → hFd moP ph ph2 → Q (.inl (some (.inl 0)), ph2, g)) : xTC (d + 4) 172 [.inr (.inl (some 147)), .inl (n : Int)] ph g Q := by
  have hs := h.1
  obtain ⟨w1, w2, w3, w4⟩ := hSzS
  have hne := nsp_esc v
  have hnl := nsp_le v
  refine tEn (ls := [some (.inr (.inl (some 147))), some (.inl (n : Int)), none, none, none, none]) (fun k => by match k with | 0 => rfl | 1 => rfl | 2 => rfl | 3 => rfl | 4 => rfl | 5 => rfl | k + 6 => rfl) ?_
  refine tK (l := xk_172) rfl rfl (fun _ _ _ _ _ => rfl) ?_
  refine tK (l := xk_172) rfl rfl (fun _ _ _ _ _ => rfl) ?_
  refine tK (l := xk_172) rfl rfl (fun _ _ _ _ _ => rfl) ?_
  refine tCa (l := xk_172) rfl rfl (hInvV (c := 10) hs rfl rfl rfl rfl rfl (Nat.le_of_ble_eq_true rfl) (Nat.le_of_ble_eq_true rfl)) ?_
  refine s169 h hn hv ?_
  refine tKv ?_
  refine tIf_eq (l := xk_172) (pc' := 17) rfl rfl rfl (fun hc => ?_) (fun hc => ?_)
  · refine tK (l := xk_172) rfl rfl (fun _ _ _ _ _ => rfl) ?_
    refine tK (l := xk_172) rfl rfl (fun _ _ _ _ _ => rfl) ?_
    refine tCa (l := xk_172) rfl rfl (hInvV (c := 10) hs rfl rfl rfl rfl rfl (Nat.le_of_ble_eq_true rfl) (Nat.le_of_ble_eq_true rfl)) ?_
    refine s165 h hn ?_
    refine tKv ?_
    rw [hv]
    simp only [hLo]
    refine tK (l := xk_172) rfl rfl (fun _ _ _ _ _ => rfl) ?_
    refine tK (l := xk_172) rfl rfl (fun _ _ _ _ _ => rfl) ?_
    refine tCa (l := xk_172) rfl rfl (hInvV (c := 10) hs rfl rfl rfl rfl rfl (Nat.le_of_ble_eq_true rfl) (Nat.le_of_ble_eq_true rfl)) ?_
    refine s173 h hn hv ?_
    refine tKv ?_
    refine tK (l := xk_172) rfl rfl (hAdd ⟨by omega, by omega⟩) ?_
    refine tK (l := xk_172) rfl rfl (fun _ _ _ _ _ => rfl) ?_
    refine tIc_le (l := xk_172) (pc' := 37) rfl rfl rfl (fun hc => ?_) (fun hc => ?_)
    · refine tK (l := xk_172) rfl rfl (fun _ _ _ _ _ => rfl) ?_
      refine tK (l := xk_172) rfl rfl (fun _ _ _ _ _ => rfl) ?_
      refine tCa (l := xk_172) rfl rfl (hInvV (c := 10) hs rfl rfl rfl rfl rfl (Nat.le_of_ble_eq_true rfl) (Nat.le_of_ble_eq_true rfl)) ?_
      refine s147n h (show (2 : Int) ≠ 0 by decide) (fun ph2 k2 e0 f2 => ?_)
      refine tKv ?_
      refine tIf_ne (l := xk_172) (pc' := 46) rfl rfl rfl (fun hc => ?_) (fun hc => ?_)
      · refine tK (l := xk_172) rfl rfl (fun _ _ _ _ _ => rfl) ?_
        refine tRt (l := xk_172) rfl rfl (fun _ _ _ _ _ => rfl) ?_
        exact hQ ph2 k2 e0 f2.mo
      · exact absurd rfl hc
    · exfalso; omega
  · exact absurd rfl hc
theorem m172 (h : hMm zs ph c) {n : Nat} {v : List Int} (hn : n < 8) (hv : c.2.1.1 n = some v) (hv24 : v.length ≤ 24) (hf : (esc v).length ≤ 24) (hQ : ∀ ph2, hMm zs ph2 (ndo c (setV c.2.1 n (some (esc v)))) → hRd ph2 147 0 = 0 → hFd moP ph ph2 → Q (.inl (some (.inl ((esc v).length : Int))), ph2, g)) : xTC (d + 4) 172 [.inr (.inl (some 147)), .inl (n : Int)] ph g Q := by
  have hs := h.1
  obtain ⟨w1, w2, w3, w4⟩ := hSzS
  have hne := nsp_esc v
  have hnl := nsp_le v
  refine tEn (ls := [some (.inr (.inl (some 147))), some (.inl (n : Int)), none, none, none, none]) (fun k => by match k with | 0 => rfl | 1 => rfl | 2 => rfl | 3 => rfl | 4 => rfl | 5 => rfl | k + 6 => rfl) ?_
  refine tK (l := xk_172) rfl rfl (fun _ _ _ _ _ => rfl) ?_
  refine tK (l := xk_172) rfl rfl (fun _ _ _ _ _ => rfl) ?_
  refine tK (l := xk_172) rfl rfl (fun _ _ _ _ _ => rfl) ?_
  refine tCa (l := xk_172) rfl rfl (hInvV (c := 10) hs rfl rfl rfl rfl rfl (Nat.le_of_ble_eq_true rfl) (Nat.le_of_ble_eq_true rfl)) ?_
  refine s169 h hn hv ?_
  refine tKv ?_
  refine tIf_eq (l := xk_172) (pc' := 17) rfl rfl rfl (fun hc => ?_) (fun hc => ?_)
  · refine tK (l := xk_172) rfl rfl (fun _ _ _ _ _ => rfl) ?_
    refine tK (l := xk_172) rfl rfl (fun _ _ _ _ _ => rfl) ?_
    refine tCa (l := xk_172) rfl rfl (hInvV (c := 10) hs rfl rfl rfl rfl rfl (Nat.le_of_ble_eq_true rfl) (Nat.le_of_ble_eq_true rfl)) ?_
    refine s165 h hn ?_
    refine tKv ?_
    rw [hv]
    simp only [hLo]
    refine tK (l := xk_172) rfl rfl (fun _ _ _ _ _ => rfl) ?_
    refine tK (l := xk_172) rfl rfl (fun _ _ _ _ _ => rfl) ?_
    refine tCa (l := xk_172) rfl rfl (hInvV (c := 10) hs rfl rfl rfl rfl rfl (Nat.le_of_ble_eq_true rfl) (Nat.le_of_ble_eq_true rfl)) ?_
    refine s173 h hn hv ?_
    refine tKv ?_
    refine tK (l := xk_172) rfl rfl (hAdd ⟨by omega, by omega⟩) ?_
    refine tK (l := xk_172) rfl rfl (fun _ _ _ _ _ => rfl) ?_
    refine tIc_le (l := xk_172) (pc' := 37) rfl rfl rfl (fun hc => ?_) (fun hc => ?_)
    · exfalso; omega
    · refine tK (l := xk_172) rfl rfl (fun _ _ _ _ _ => rfl) ?_
      refine tCa (l := xk_172) rfl rfl (hInvV (c := 10) hs rfl rfl rfl rfl rfl (Nat.le_of_ble_eq_true rfl) (Nat.le_of_ble_eq_true rfl)) ?_
      refine s147z h (fun ph2 k2 e0 f2 => ?_)
      refine tKv ?_
      refine tIf_ne (l := xk_172) (pc' := 46) rfl rfl rfl (fun hc => ?_) (fun hc => ?_)
      · exact absurd hc (by decide)
      · refine tK (l := xk_172) rfl rfl (fun _ _ _ _ _ => rfl) ?_
        refine tCa (l := xk_172) rfl rfl (hInvV (c := 10) k2.1 rfl rfl rfl rfl rfl (Nat.le_of_ble_eq_true rfl) (Nat.le_of_ble_eq_true rfl)) ?_
        refine s166 k2 (fun ph3 k3 f3 => ?_)
        refine tKn ?_
        have e03 : hRd ph3 147 0 = 0 := by rw [f3.fl (by decide)]; exact e0
        have fd3 : hFd moP ph ph3 := f2.mo.trans f3.mo
        have s3 := k3.1
        have e1 : hRd ph3 148 (25 * n) = (v.length : Int) := by have := (k3.vmv hn).1; rw [show (ndo c c.2.1).2.1.1 n = some v from hv] at this; exact this
        refine tK (l := xk_172) rfl rfl (fun _ _ _ _ _ => rfl) ?_
        refine tK (l := xk_172) rfl rfl (fun _ _ _ _ _ => rfl) ?_
        refine tK (l := xk_172) rfl rfl (fun _ _ _ _ _ => rfl) ?_
        refine tK (l := xk_172) rfl rfl (hMul ⟨by omega, by omega⟩) ?_
        refine tK (l := xk_172) rfl rfl (hAdd ⟨by omega, by omega⟩) ?_
        rw [show (0 : Int) + 25 * (n : Int) = ((25 * n : Nat) : Int) by omega]
        refine tSt (l := xk_172) rfl rfl (fun _ _ _ _ _ => rfl) (Nat.le_of_ble_eq_true rfl) ?_
        refine tK (l := xk_172) rfl rfl (fun _ _ _ _ _ => rfl) ?_
        refine tK (l := xk_172) rfl rfl (hGetR (o := some 148) k3.1 rfl rfl rfl (by decide) (by decide) rfl) ?_
        refine tK (l := xk_172) rfl rfl (fun _ _ _ _ _ => rfl) ?_
        first | refine tK (l := xk_172) rfl rfl (hIaldN k3.1 rfl rfl (by omega)) ?_ | refine tK (l := xk_172) rfl rfl (hIald k3.1 rfl (by omega) (by omega)) ?_
        rw [e1]
        refine tK (l := xk_172) rfl rfl (fun _ _ _ _ _ => rfl) ?_
        refine tK (l := xk_172) rfl rfl (fun _ _ _ _ _ => rfl) ?_
        refine tCa (l := xk_172) rfl rfl (hInvV (c := 10) k3.1 rfl rfl rfl rfl rfl (Nat.le_of_ble_eq_true rfl) (Nat.le_of_ble_eq_true rfl)) ?_
        refine s173 k3 hn hv ?_
        refine tKv ?_
        refine tK (l := xk_172) rfl rfl (hAdd ⟨by omega, by omega⟩) ?_
        refine tSt (l := xk_172) rfl rfl (fun _ _ _ _ _ => rfl) (Nat.le_of_ble_eq_true rfl) ?_
        refine tK (l := xk_172) rfl rfl (fun _ _ _ _ _ => rfl) ?_
        refine tK (l := xk_172) rfl rfl (hGetR (o := some 148) k3.1 rfl rfl rfl (by decide) (by decide) rfl) ?_
        refine tK (l := xk_172) rfl rfl (fun _ _ _ _ _ => rfl) ?_
        first | refine tK (l := xk_172) rfl rfl (hIaldN k3.1 rfl rfl (by omega)) ?_ | refine tK (l := xk_172) rfl rfl (hIald k3.1 rfl (by omega) (by omega)) ?_
        rw [e1]
        refine tSt (l := xk_172) rfl rfl (fun _ _ _ _ _ => rfl) (Nat.le_of_ble_eq_true rfl) ?_
        refine tK (l := xk_172) rfl rfl (fun _ _ _ _ _ => rfl) ?_
        refine tK (l := xk_172) rfl rfl (hGetR (o := some 148) k3.1 rfl rfl rfl (by decide) (by decide) rfl) ?_
        refine tK (l := xk_172) rfl rfl (fun _ _ _ _ _ => rfl) ?_
        refine tK (l := xk_172) rfl rfl (fun _ _ _ _ _ => rfl) ?_
        first | refine tK (l := xk_172) rfl rfl (hIastN k3.1 rfl rfl (by omega)) ?_ | refine tK (l := xk_172) rfl rfl (hIast k3.1 rfl (by omega) (by omega)) ?_
        have u1 : hSh zs (hUp ph3 148 (25 * n) ((v.length : Int) + (nsp v : Int))) := hShI1 _ s3 rfl rfl
        have r1 := hRd_up (x := ((v.length : Int) + (nsp v : Int))) s3 (show hKi (hTg 148) (25 * n) = true from rfl) (by omega)
        have f1 : hFM [] [148] ph3 (hUp ph3 148 (25 * n) ((v.length : Int) + (nsp v : Int))) := hFM_a s3 rfl (by omega) (by decide) (by decide)
        have old : ∀ (i : Nat) (x : Int), v[i]? = some x → hRd ph3 148 (25 * n + 1 + i) = x := fun i x hx => by have := ((k3.vmv hn).2 v hv).2 i x hx; exact this
        have loop : ∀ (k : Nat) (phi : xH) (o5 : Option xV), k ≤ v.length → hSh zs phi → hFM [] [148] ph3 phi → hRd phi 148 (25 * n) = ((v.length : Int) + (nsp v : Int)) → (∀ (i : Nat) (x : Int), i < k → v[i]? = some x → hRd phi 148 (25 * n + 1 + i) = x) → (∀ (i : Nat) (x : Int), (esc (v.drop k))[i]? = some x → hRd phi 148 (25 * n + 1 + ((esc (v.take k)).length + i)) = x) → (∀ j, j < 25 * n ∨ 25 * n + 24 < j → hRd phi 148 j = hRd ph3 148 j) → xT (d + 4) 172 85 (xlo [some (.inr (.inl (some 147))), some (.inl (n : Int)), some (.inl ((25 * n : Nat) : Int)), some (.inl ((esc (v.take k)).length : Int)), some (.inl (k : Int)), o5]) [] phi g Q := by
          intro k
          induction k with
          | zero =>
            intro phi o5 hk hs hf h0 hold hnew ho
            have key := k3.setv (v := some (esc v)) hs hn hf ⟨by rw [h0]; simp only [hLo]; rw [hne]; push_cast; rfl, fun s9 hs9 => by cases hs9; exact ⟨by omega, fun i x hx => by have := hnew i x hx; rw [List.take_zero, show (esc ([] : List Int)).length = 0 from rfl, Nat.zero_add] at this; exact this⟩⟩ ho
            refine tK (l := xk_172) rfl rfl (fun _ _ _ _ _ => rfl) ?_
            refine tIf_le (l := xk_172) (pc' := 141) rfl rfl rfl (fun hc => ?_) (fun hc => ?_)
            · exact absurd hc (by decide)
            · refine tK (l := xk_172) rfl rfl (fun _ _ _ _ _ => rfl) ?_
              refine tK (l := xk_172) rfl rfl (hGetR (o := some 148) hs rfl rfl rfl (by decide) (by decide) rfl) ?_
              refine tK (l := xk_172) rfl rfl (fun _ _ _ _ _ => rfl) ?_
              first | refine tK (l := xk_172) rfl rfl (hIaldN hs rfl rfl (by omega)) ?_ | refine tK (l := xk_172) rfl rfl (hIald hs rfl (by omega) (by omega)) ?_
              refine tRt (l := xk_172) rfl rfl (fun _ _ _ _ _ => rfl) ?_
              rw [h0]
              have hq := hQ _ key (by rw [hf.fl (by decide)]; exact e03) (fd3.trans hf.mo)
              rw [show ((esc v).length : Int) = ((v.length : Int) + (nsp v : Int)) by rw [hne]; push_cast; rfl] at hq
              exact hq
          | succ k ih =>
            intro phi o5 hk hs hf h0 hold hnew ho
            obtain ⟨x, hx⟩ : ∃ x, v[k]? = some x := ⟨_, List.getElem?_eq_getElem (by omega)⟩
            have htk : v.take (k + 1) = v.take k ++ [x] := by rw [List.take_add_one, hx]; rfl
            have hdk : v.drop k = x :: v.drop (k + 1) := by rw [List.drop_eq_getElem_cons (by omega)]; rw [List.getElem?_eq_getElem (by omega)] at hx; rw [Option.some.inj hx]
            have ek : hRd phi 148 (25 * n + (k + 1)) = x := by have := hold k x (by omega) hx; rw [show 25 * n + (k + 1) = 25 * n + 1 + k by omega]; exact this
            have hlk := (esc_len (v.take k)).2
            have hlk2 : (v.take k).length = k := by rw [List.length_take]; omega
            have htot : (esc (v.take (k + 1))).length + (esc (v.drop (k + 1))).length = (esc v).length := by rw [← List.length_append, ← esc_app, List.take_append_drop]
            cases hsp : spc x with
            | false =>
              have ht1 : (esc (v.take (k + 1))).length = (esc (v.take k)).length + 1 := by rw [htk, esc_app, List.length_append]; simp only [esc, hsp]; rfl
              have hd1 : esc (v.drop k) = x :: esc (v.drop (k + 1)) := by rw [hdk]; simp only [esc, hsp]; rfl
              rw [ht1] at hnew ⊢
              refine tK (l := xk_172) rfl rfl (fun _ _ _ _ _ => rfl) ?_
              refine tIf_le (l := xk_172) (pc' := 141) rfl rfl rfl (fun hc => ?_) (fun hc => ?_)
              · refine tK (l := xk_172) rfl rfl (fun _ _ _ _ _ => rfl) ?_
                refine tK (l := xk_172) rfl rfl (hGetR (o := some 148) hs rfl rfl rfl (by decide) (by decide) rfl) ?_
                refine tK (l := xk_172) rfl rfl (fun _ _ _ _ _ => rfl) ?_
                refine tK (l := xk_172) rfl rfl (fun _ _ _ _ _ => rfl) ?_
                refine tK (l := xk_172) rfl rfl (hAdd ⟨by omega, by omega⟩) ?_
                rw [show ((25 * n : Nat) : Int) + ((k + 1 : Nat) : Int) = ((25 * n + (k + 1) : Nat) : Int) by omega]
                first | refine tK (l := xk_172) rfl rfl (hIaldN hs rfl rfl (by omega)) ?_ | refine tK (l := xk_172) rfl rfl (hIald hs rfl (by omega) (by omega)) ?_
                rw [ek]
                refine tSt (l := xk_172) rfl rfl (fun _ _ _ _ _ => rfl) (Nat.le_of_ble_eq_true rfl) ?_
                refine tK (l := xk_172) rfl rfl (fun _ _ _ _ _ => rfl) ?_
                refine tK (l := xk_172) rfl rfl (hGetR (o := some 148) hs rfl rfl rfl (by decide) (by decide) rfl) ?_
                refine tK (l := xk_172) rfl rfl (fun _ _ _ _ _ => rfl) ?_
                refine tK (l := xk_172) rfl rfl (fun _ _ _ _ _ => rfl) ?_
                refine tK (l := xk_172) rfl rfl (hAdd ⟨by omega, by omega⟩) ?_
                rw [show ((25 * n : Nat) : Int) + (((esc (v.take k)).length + 1 : Nat) : Int) = ((25 * n + ((esc (v.take k)).length + 1) : Nat) : Int) by omega]
                refine tK (l := xk_172) rfl rfl (fun _ _ _ _ _ => rfl) ?_
                first | refine tK (l := xk_172) rfl rfl (hIastN hs rfl rfl (by omega)) ?_ | refine tK (l := xk_172) rfl rfl (hIast hs rfl (by omega) (by omega)) ?_
                refine tSt (l := xk_172) rfl rfl (hIinc rfl (Nat.le_of_ble_eq_true rfl) ⟨by omega, by omega⟩) (Nat.le_of_ble_eq_true rfl) ?_
                refine tK (l := xk_172) rfl rfl (fun _ _ _ _ _ => rfl) ?_
                refine tCa (l := xk_172) rfl rfl (hInvS rfl rfl rfl rfl (Nat.le_of_ble_eq_true rfl) (Nat.le_of_ble_eq_true rfl)) ?_
                refine s174 ?_
                refine tKv ?_
                rw [hsp]
                refine tIf_eq (l := xk_172) (pc' := 135) rfl rfl rfl (fun hc => ?_) (fun hc => ?_)
                · refine tSt (l := xk_172) rfl rfl (hIinc rfl (Nat.le_of_ble_eq_true rfl) ⟨by omega, by omega⟩) (Nat.le_of_ble_eq_true rfl) ?_
                  refine tK (l := xk_172) rfl rfl (fun _ _ _ _ _ => rfl) ?_
                  have q1 : hSh zs (hUp phi 148 (25 * n + ((esc (v.take k)).length + 1)) x) := hShI1 _ hs rfl rfl
                  have rd1 := hRd_up (x := x) hs (show hKi (hTg 148) (25 * n + ((esc (v.take k)).length + 1)) = true from rfl) (by omega)
                  have rd : ∀ j, hRd (hUp phi 148 (25 * n + ((esc (v.take k)).length + 1)) x) 148 j = if j = 25 * n + ((esc (v.take k)).length + 1) then x else hRd phi 148 j := fun j => by rw [rd1]; simp only [true_and]
                  have ff : hFM [] [148] phi (hUp phi 148 (25 * n + ((esc (v.take k)).length + 1)) x) := hFM_a hs rfl (by omega) (by decide) (by decide)
                  rw [show (((esc (v.take k)).length + 1 : Nat) : Int) + -1 = ((esc (v.take k)).length : Int) by omega, show ((k + 1 : Nat) : Int) + -1 = (k : Int) by omega]
                  refine ih (hUp phi 148 (25 * n + ((esc (v.take k)).length + 1)) x) _ (by omega) (hShI1 _ hs rfl rfl) (hf.trans ff) (by rw [rd, if_neg (by omega)]; exact h0) (fun i y hi hy => by rw [rd, if_neg (by omega)]; exact hold i y (by omega) hy) (fun i y hy => ?_) (fun j hj => by rw [rd, if_neg (by omega)]; exact ho j hj)
                  rw [hd1] at hy
                  match i, hy with
                  | 0, hy =>
                    simp only [List.getElem?_cons_zero, Option.some.injEq] at hy
                    rw [rd, if_pos (by omega), hy]
                  | i + 1, hy =>
                    simp only [List.getElem?_cons_succ] at hy
                    rw [rd, if_neg (by omega)]
                    have := hnew i y hy
                    rw [show 25 * n + 1 + ((esc (v.take k)).length + (i + 1)) = 25 * n + 1 + ((esc (v.take k)).length + 1 + i) by omega]
                    exact this
                · exact absurd rfl hc
              · exfalso; omega
            | true =>
              have ht1 : (esc (v.take (k + 1))).length = (esc (v.take k)).length + 2 := by rw [htk, esc_app, List.length_append]; simp only [esc, hsp]; rfl
              have hd1 : esc (v.drop k) = 126 :: x :: esc (v.drop (k + 1)) := by rw [hdk]; simp only [esc, hsp]; rfl
              rw [ht1] at hnew ⊢
              refine tK (l := xk_172) rfl rfl (fun _ _ _ _ _ => rfl) ?_
              refine tIf_le (l := xk_172) (pc' := 141) rfl rfl rfl (fun hc => ?_) (fun hc => ?_)
              · refine tK (l := xk_172) rfl rfl (fun _ _ _ _ _ => rfl) ?_
                refine tK (l := xk_172) rfl rfl (hGetR (o := some 148) hs rfl rfl rfl (by decide) (by decide) rfl) ?_
                refine tK (l := xk_172) rfl rfl (fun _ _ _ _ _ => rfl) ?_
                refine tK (l := xk_172) rfl rfl (fun _ _ _ _ _ => rfl) ?_
                refine tK (l := xk_172) rfl rfl (hAdd ⟨by omega, by omega⟩) ?_
                rw [show ((25 * n : Nat) : Int) + ((k + 1 : Nat) : Int) = ((25 * n + (k + 1) : Nat) : Int) by omega]
                first | refine tK (l := xk_172) rfl rfl (hIaldN hs rfl rfl (by omega)) ?_ | refine tK (l := xk_172) rfl rfl (hIald hs rfl (by omega) (by omega)) ?_
                rw [ek]
                refine tSt (l := xk_172) rfl rfl (fun _ _ _ _ _ => rfl) (Nat.le_of_ble_eq_true rfl) ?_
                refine tK (l := xk_172) rfl rfl (fun _ _ _ _ _ => rfl) ?_
                refine tK (l := xk_172) rfl rfl (hGetR (o := some 148) hs rfl rfl rfl (by decide) (by decide) rfl) ?_
                refine tK (l := xk_172) rfl rfl (fun _ _ _ _ _ => rfl) ?_
                refine tK (l := xk_172) rfl rfl (fun _ _ _ _ _ => rfl) ?_
                refine tK (l := xk_172) rfl rfl (hAdd ⟨by omega, by omega⟩) ?_
                rw [show ((25 * n : Nat) : Int) + (((esc (v.take k)).length + 2 : Nat) : Int) = ((25 * n + ((esc (v.take k)).length + 2) : Nat) : Int) by omega]
                refine tK (l := xk_172) rfl rfl (fun _ _ _ _ _ => rfl) ?_
                first | refine tK (l := xk_172) rfl rfl (hIastN hs rfl rfl (by omega)) ?_ | refine tK (l := xk_172) rfl rfl (hIast hs rfl (by omega) (by omega)) ?_
                refine tSt (l := xk_172) rfl rfl (hIinc rfl (Nat.le_of_ble_eq_true rfl) ⟨by omega, by omega⟩) (Nat.le_of_ble_eq_true rfl) ?_
                refine tK (l := xk_172) rfl rfl (fun _ _ _ _ _ => rfl) ?_
                refine tCa (l := xk_172) rfl rfl (hInvS rfl rfl rfl rfl (Nat.le_of_ble_eq_true rfl) (Nat.le_of_ble_eq_true rfl)) ?_
                refine s174 ?_
                refine tKv ?_
                rw [hsp]
                refine tIf_eq (l := xk_172) (pc' := 135) rfl rfl rfl (fun hc => ?_) (fun hc => ?_)
                · exact absurd hc (by decide)
                · refine tK (l := xk_172) rfl rfl (fun _ _ _ _ _ => rfl) ?_
                  refine tK (l := xk_172) rfl rfl (hGetR (o := some 148) (hShI1 _ hs rfl rfl) rfl rfl rfl (by decide) (by decide) rfl) ?_
                  refine tK (l := xk_172) rfl rfl (fun _ _ _ _ _ => rfl) ?_
                  refine tK (l := xk_172) rfl rfl (fun _ _ _ _ _ => rfl) ?_
                  refine tK (l := xk_172) rfl rfl (hAdd ⟨by omega, by omega⟩) ?_
                  rw [show ((25 * n : Nat) : Int) + ((((esc (v.take k)).length + 2 : Nat) : Int) + -1) = ((25 * n + ((esc (v.take k)).length + 1) : Nat) : Int) by omega]
                  refine tK (l := xk_172) rfl rfl (fun _ _ _ _ _ => rfl) ?_
                  first | refine tK (l := xk_172) rfl rfl (hIastN (hShI1 _ hs rfl rfl) rfl rfl (by omega)) ?_ | refine tK (l := xk_172) rfl rfl (hIast (hShI1 _ hs rfl rfl) rfl (by omega) (by omega)) ?_
                  refine tSt (l := xk_172) rfl rfl (hIinc rfl (Nat.le_of_ble_eq_true rfl) ⟨by omega, by omega⟩) (Nat.le_of_ble_eq_true rfl) ?_
                  refine tSt (l := xk_172) rfl rfl (hIinc rfl (Nat.le_of_ble_eq_true rfl) ⟨by omega, by omega⟩) (Nat.le_of_ble_eq_true rfl) ?_
                  refine tK (l := xk_172) rfl rfl (fun _ _ _ _ _ => rfl) ?_
                  have q1 : hSh zs (hUp phi 148 (25 * n + ((esc (v.take k)).length + 2)) x) := hShI1 _ hs rfl rfl
                  have rd1 := hRd_up (x := x) hs (show hKi (hTg 148) (25 * n + ((esc (v.take k)).length + 2)) = true from rfl) (by omega)
                  have rd2 := hRd_up (x := 126) q1 (show hKi (hTg 148) (25 * n + ((esc (v.take k)).length + 1)) = true from rfl) (by omega)
                  have rd : ∀ j, hRd (hUp (hUp phi 148 (25 * n + ((esc (v.take k)).length + 2)) x) 148 (25 * n + ((esc (v.take k)).length + 1)) 126) 148 j = if j = 25 * n + ((esc (v.take k)).length + 1) then 126 else if j = 25 * n + ((esc (v.take k)).length + 2) then x else hRd phi 148 j := fun j => by rw [rd2, rd1]; simp only [true_and]
                  have ff : hFM [] [148] phi (hUp (hUp phi 148 (25 * n + ((esc (v.take k)).length + 2)) x) 148 (25 * n + ((esc (v.take k)).length + 1)) 126) := (hFM_a hs rfl (by omega) (by decide) (by decide)).trans (hFM_a q1 rfl (by omega) (by decide) (by decide))
                  rw [show (((esc (v.take k)).length + 2 : Nat) : Int) + -1 + -1 = ((esc (v.take k)).length : Int) by omega, show ((k + 1 : Nat) : Int) + -1 = (k : Int) by omega]
                  refine ih (hUp (hUp phi 148 (25 * n + ((esc (v.take k)).length + 2)) x) 148 (25 * n + ((esc (v.take k)).length + 1)) 126) _ (by omega) (hShI1 _ (hShI1 _ hs rfl rfl) rfl rfl) (hf.trans ff) (by rw [rd, if_neg (by omega), if_neg (by omega)]; exact h0) (fun i y hi hy => by rw [rd, if_neg (by omega), if_neg (by omega)]; exact hold i y (by omega) hy) (fun i y hy => ?_) (fun j hj => by rw [rd, if_neg (by omega), if_neg (by omega)]; exact ho j hj)
                  rw [hd1] at hy
                  match i, hy with
                  | 0, hy =>
                    simp only [List.getElem?_cons_zero, Option.some.injEq] at hy
                    rw [rd, if_pos (by omega), hy]
                  | 1, hy =>
                    simp only [List.getElem?_cons_succ, List.getElem?_cons_zero, Option.some.injEq] at hy
                    rw [rd, if_neg (by omega), if_pos (by omega), hy]
                  | i + 2, hy =>
                    simp only [List.getElem?_cons_succ] at hy
                    rw [rd, if_neg (by omega), if_neg (by omega)]
                    have := hnew i y hy
                    rw [show 25 * n + 1 + ((esc (v.take k)).length + (i + 2)) = 25 * n + 1 + ((esc (v.take k)).length + 2 + i) by omega]
                    exact this
              · exfalso; omega
        have hst := loop v.length (hUp ph3 148 (25 * n) ((v.length : Int) + (nsp v : Int))) none (Nat.le_refl _) u1 f1 (by rw [r1, if_pos ⟨rfl, rfl⟩]) (fun i x hi hx => by rw [r1, if_neg (by omega)]; exact old i x hx) (fun i x hx => by rw [List.drop_length] at hx; simp [esc] at hx) (fun j hj => by rw [r1, if_neg (by omega)])
        rw [List.take_length, show ((esc v).length : Int) = ((v.length : Int) + (nsp v : Int)) by rw [hne]; push_cast; rfl] at hst
        exact hst
  · exact absurd rfl hc
theorem m221n (h : hMm zs ph c) (he : c.2.2.2 = []) (hQ : ∀ ph2, hMm zs ph2 c → hRd ph2 147 0 = 1 → hFd moP ph ph2 → Q (.inl (some (.inl 0)), ph2, g)) : xTC (d + 2) 221 [.inr (.inl (some 147))] ph g Q := by
  have hs := h.1
  obtain ⟨w1, w2, w3, w4⟩ := hSzS
  have e3 : hRd ph 147 3 = 0 := by rw [h.2.2.1.1, he]; rfl
  refine tEn (ls := [some (.inr (.inl (some 147))), none]) (fun k => by match k with | 0 => rfl | 1 => rfl | k + 2 => rfl) ?_
  refine tK (l := xk_221) rfl rfl (fun _ _ _ _ _ => rfl) ?_
  refine tK (l := xk_221) rfl rfl (fun _ _ _ _ _ => rfl) ?_
  refine tK (l := xk_221) rfl rfl (hGetI hs rfl rfl rfl (by decide) (by decide)) ?_
  rw [e3]
  refine tIf_le (l := xk_221) (pc' := 12) rfl rfl rfl (fun hc => ?_) (fun hc => ?_)
  · exact absurd hc (by decide)
  · refine tK (l := xk_221) rfl rfl (fun _ _ _ _ _ => rfl) ?_
    refine tCa (l := xk_221) rfl rfl (hInvV (c := 10) hs rfl rfl rfl rfl rfl (Nat.le_of_ble_eq_true rfl) (Nat.le_of_ble_eq_true rfl)) ?_
    refine s147n h (show (1 : Int) ≠ 0 by decide) (fun ph2 k2 e0 f2 => ?_)
    refine tKv ?_
    refine tIf_ne (l := xk_221) (pc' := 21) rfl rfl rfl (fun hc => ?_) (fun hc => ?_)
    · refine tK (l := xk_221) rfl rfl (fun _ _ _ _ _ => rfl) ?_
      refine tRt (l := xk_221) rfl rfl (fun _ _ _ _ _ => rfl) ?_
      exact hQ ph2 k2 e0 f2.mo
    · exact absurd rfl hc
theorem m221 (h : hMm zs ph c) {l : List SS} {st : SS} (he : c.2.2.2 = l ++ [st]) (hQ : ∀ ph2, hMm zs ph2 (c.1, st, c.2.2.1, l) → hRd ph2 147 0 = 0 → hFd moP ph ph2 → Q (.inl (some (.inl (l.length : Int))), ph2, g)) : xTC (d + 2) 221 [.inr (.inl (some 147))] ph g Q := by
  have hs := h.1
  obtain ⟨w1, w2, w3, w4⟩ := hSzS
  have e3 : hRd ph 147 3 = (l.length : Int) + 1 := by rw [h.2.2.1.1, he]; simp
  have hl5 : l.length < 6 := by have := h.2.2.1.2.1; rw [he] at this; simp at this; omega
  refine tEn (ls := [some (.inr (.inl (some 147))), none]) (fun k => by match k with | 0 => rfl | 1 => rfl | k + 2 => rfl) ?_
  refine tK (l := xk_221) rfl rfl (fun _ _ _ _ _ => rfl) ?_
  refine tK (l := xk_221) rfl rfl (fun _ _ _ _ _ => rfl) ?_
  refine tK (l := xk_221) rfl rfl (hGetI hs rfl rfl rfl (by decide) (by decide)) ?_
  rw [e3]
  refine tIf_le (l := xk_221) (pc' := 12) rfl rfl rfl (fun hc => ?_) (fun hc => ?_)
  · refine tK (l := xk_221) rfl rfl (fun _ _ _ _ _ => rfl) ?_
    refine tK (l := xk_221) rfl rfl (fun _ _ _ _ _ => rfl) ?_
    refine tCa (l := xk_221) rfl rfl (hInvV (c := 10) hs rfl rfl rfl rfl rfl (Nat.le_of_ble_eq_true rfl) (Nat.le_of_ble_eq_true rfl)) ?_
    refine s147z h (fun ph2 k2 e0 f2 => ?_)
    refine tKv ?_
    have e32 : hRd ph2 147 3 = (l.length : Int) + 1 := by rw [k2.2.2.1.1, he]; simp
    refine tIf_ne (l := xk_221) (pc' := 21) rfl rfl rfl (fun hc => ?_) (fun hc => ?_)
    · exact absurd hc (by decide)
    · refine tK (l := xk_221) rfl rfl (fun _ _ _ _ _ => rfl) ?_
      refine tK (l := xk_221) rfl rfl (fun _ _ _ _ _ => rfl) ?_
      refine tK (l := xk_221) rfl rfl (hGetI k2.1 rfl rfl rfl (by decide) (by decide)) ?_
      rw [e32]
      refine tK (l := xk_221) rfl rfl (fun _ _ _ _ _ => rfl) ?_
      refine tK (l := xk_221) rfl rfl (hSub ⟨by omega, by omega⟩) ?_
      rw [show (l.length : Int) + 1 - 1 = (l.length : Int) by omega]
      refine tK (l := xk_221) rfl rfl (hPutV k2.1 rfl rfl (by decide) (by decide) rfl) ?_
      refine tK (l := xk_221) rfl rfl (fun _ _ _ _ _ => rfl) ?_
      refine tSt (l := xk_221) rfl rfl (fun _ _ _ _ _ => rfl) (Nat.le_of_ble_eq_true rfl) ?_
      have s3 : hSh zs (hUp ph2 147 3 (l.length : Int)) := hShI1 _ k2.1 rfl rfl
      have f3 : hFM [3] [] ph2 (hUp ph2 147 3 (l.length : Int)) := hFM_f k2.1 rfl (by decide) (by decide)
      have e33 : hRd (hUp ph2 147 3 (l.length : Int)) 147 3 = (l.length : Int) := by rw [hRd_up k2.1 rfl (by decide), if_pos ⟨rfl, rfl⟩]
      have loop : ∀ (m i : Nat) (phi : xH), i + m = 416 → hSh zs phi → hFM [] [148] (hUp ph2 147 3 (l.length : Int)) phi → (∀ j, j < i → hRd phi 148 j = hRd ph2 149 (416 * l.length + j)) → xT (d + 2) 221 33 (xlo [some (.inr (.inl (some 147))), some (.inl (i : Int))]) [] phi g Q := by
        intro m
        induction m with
        | zero =>
          intro i phi him hs hf hnew
          have e34 : hRd phi 147 3 = (l.length : Int) := by rw [hf.fl (by decide)]; exact e33
          have fA : hFM [3] [148] ph2 phi := (f3.mono (by decide) (by decide)).trans (hf.mono (by decide) (by decide))
          obtain ⟨-, q1, ⟨q2, q3, q4⟩, ⟨q5, q6⟩, ⟨q7, q8, q9⟩⟩ := k2
          have hst := q4 l.length st (by rw [he]; simp)
          have key : hMm zs phi (c.1, st, c.2.2.1, l) := ⟨hs, hst.cp (fun j hj => by rw [Nat.zero_add]; exact hnew j (by omega)), ⟨e34, (show l.length ≤ 6 by omega), fun k s hk => (q4 k s (by rw [he, List.getElem?_append_left (List.getElem?_eq_some_iff.mp hk).1]; exact hk)).cp (fun j _ => fA.at (by decide) _)⟩, ⟨by rw [fA.fl (by decide)]; exact q5, fun s hs => (q6 s hs).cp (fun j _ => fA.at (by decide) _)⟩, ⟨by rw [fA.fl (by decide)]; exact q7, q8, fun i x hx => by rw [fA.at (by decide)]; exact q9 i x hx⟩⟩
          refine tK (l := xk_221) rfl rfl (fun _ _ _ _ _ => rfl) ?_
          refine tK (l := xk_221) rfl rfl (fun _ _ _ _ _ => rfl) ?_
          refine tIc_ge (l := xk_221) (pc' := 67) rfl rfl rfl (fun hc => ?_) (fun hc => ?_)
          · exfalso; omega
          · refine tK (l := xk_221) rfl rfl (fun _ _ _ _ _ => rfl) ?_
            refine tK (l := xk_221) rfl rfl (hGetI hs rfl rfl rfl (by decide) (by decide)) ?_
            refine tRt (l := xk_221) rfl rfl (fun _ _ _ _ _ => rfl) ?_
            rw [e34]
            exact hQ _ key (by rw [fA.fl (by decide)]; exact e0) (f2.mo.trans fA.mo)
        | succ m ih =>
          intro i phi him hs hf hnew
          have e34 : hRd phi 147 3 = (l.length : Int) := by rw [hf.fl (by decide)]; exact e33
          have e49 : hRd phi 149 (416 * l.length + i) = hRd ph2 149 (416 * l.length + i) := by rw [hf.at (by decide), f3.at (by decide)]
          refine tK (l := xk_221) rfl rfl (fun _ _ _ _ _ => rfl) ?_
          refine tK (l := xk_221) rfl rfl (fun _ _ _ _ _ => rfl) ?_
          refine tIc_ge (l := xk_221) (pc' := 67) rfl rfl rfl (fun hc => ?_) (fun hc => ?_)
          · refine tK (l := xk_221) rfl rfl (fun _ _ _ _ _ => rfl) ?_
            refine tK (l := xk_221) rfl rfl (hGetR (o := some 148) hs rfl rfl rfl (by decide) (by decide) rfl) ?_
            refine tK (l := xk_221) rfl rfl (fun _ _ _ _ _ => rfl) ?_
            refine tK (l := xk_221) rfl rfl (fun _ _ _ _ _ => rfl) ?_
            refine tK (l := xk_221) rfl rfl (hGetR (o := some 149) hs rfl rfl rfl (by decide) (by decide) rfl) ?_
            refine tK (l := xk_221) rfl rfl (fun _ _ _ _ _ => rfl) ?_
            refine tK (l := xk_221) rfl rfl (fun _ _ _ _ _ => rfl) ?_
            refine tK (l := xk_221) rfl rfl (hGetI hs rfl rfl rfl (by decide) (by decide)) ?_
            rw [e34]
            refine tK (l := xk_221) rfl rfl (hMul ⟨by omega, by omega⟩) ?_
            refine tK (l := xk_221) rfl rfl (fun _ _ _ _ _ => rfl) ?_
            refine tK (l := xk_221) rfl rfl (hAdd ⟨by omega, by omega⟩) ?_
            rw [show (416 : Int) * (l.length : Int) + (i : Int) = ((416 * l.length + i : Nat) : Int) by omega]
            first | refine tK (l := xk_221) rfl rfl (hIaldN hs rfl rfl (by omega)) ?_ | refine tK (l := xk_221) rfl rfl (hIald hs rfl (by omega) (by omega)) ?_
            rw [e49]
            first | refine tK (l := xk_221) rfl rfl (hIastN hs rfl rfl (by omega)) ?_ | refine tK (l := xk_221) rfl rfl (hIast hs rfl (by omega) (by omega)) ?_
            refine tSt (l := xk_221) rfl rfl (hIinc rfl (Nat.le_of_ble_eq_true rfl) ⟨by omega, by omega⟩) (Nat.le_of_ble_eq_true rfl) ?_
            refine tK (l := xk_221) rfl rfl (fun _ _ _ _ _ => rfl) ?_
            have rd := hRd_up (x := hRd ph2 149 (416 * l.length + i)) hs (show hKi (hTg 148) i = true from rfl) (by omega)
            refine ih (i + 1) _ (by omega) (hShI1 _ hs rfl rfl) (hf.trans (hFM_a hs rfl (by omega) (by decide) (by decide))) (fun j hj => ?_)
            rw [rd]
            by_cases e : j = i
            · rw [if_pos ⟨rfl, e⟩, e]
            · rw [if_neg (by omega)]; exact hnew j (by omega)
          · exfalso; omega
      exact loop 416 0 _ (by omega) s3 hFM.refl (fun j hj => absurd hj (by omega))
  · exfalso; omega
theorem m222 (h : hMm zs ph c) (hQ : ∀ ph2, hMm zs ph2 (c.1, c.2.1, some c.2.1, c.2.2.2) → hRd ph2 147 0 = 0 → hFd moP ph ph2 → Q (.inl (some (.inl (c.2.1.2.1.1.length : Int))), ph2, g)) : xTC (d + 2) 222 [.inr (.inl (some 147))] ph g Q := by
  have hs := h.1
  obtain ⟨w1, w2, w3, w4⟩ := hSzS
  obtain ⟨k1, k2, k3⟩ := h.thr (x := 0)
  refine tEn (ls := [some (.inr (.inl (some 147))), none]) (fun k => by match k with | 0 => rfl | 1 => rfl | k + 2 => rfl) ?_
  refine tK (l := xk_222) rfl rfl (fun _ _ _ _ _ => rfl) ?_
  refine tK (l := xk_222) rfl rfl (fun _ _ _ _ _ => rfl) ?_
  refine tK (l := xk_222) rfl rfl (hPutV hs rfl rfl (by decide) (by decide) rfl) ?_
  refine tK (l := xk_222) rfl rfl (fun _ _ _ _ _ => rfl) ?_
  refine tSt (l := xk_222) rfl rfl (fun _ _ _ _ _ => rfl) (Nat.le_of_ble_eq_true rfl) ?_
  have loop : ∀ (m i : Nat) (phi : xH), i + m = 416 → hSh zs phi → hFM [] [150] (hUp ph 147 0 0) phi → (∀ j, j < i → hRd phi 150 j = hRd ph 148 j) → xT (d + 2) 222 7 (xlo [some (.inr (.inl (some 147))), some (.inl (i : Int))]) [] phi g Q := by
    intro m
    induction m with
    | zero =>
      intro i phi him hs hf hnew
      have f5 : hFM [5] [] phi (hUp phi 147 5 1) := hFM_f hs rfl (by decide) (by decide)
      have fA : hFM [0, 5] [150] ph (hUp phi 147 5 1) := ((k3.mono (by decide) (by decide)).trans (hf.mono (by decide) (by decide))).trans (f5.mono (by decide) (by decide))
      obtain ⟨-, q1, ⟨q2, q3, q4⟩, ⟨q5, q6⟩, ⟨q7, q8, q9⟩⟩ := h
      have key : hMm zs (hUp phi 147 5 1) (c.1, c.2.1, some c.2.1, c.2.2.2) := ⟨hShI1 _ hs rfl rfl, q1.cp (fun j _ => fA.at (by decide) _), ⟨by rw [fA.fl (by decide)]; exact q2, q3, fun k s hk => (q4 k s hk).cp (fun j _ => fA.at (by decide) _)⟩, ⟨by rw [hRd_up hs rfl (by decide), if_pos ⟨rfl, rfl⟩]; rfl, fun s hs9 => by cases hs9; exact q1.cp (fun j hj => by rw [f5.at (by decide), Nat.zero_add]; exact hnew j (by omega))⟩, ⟨by rw [fA.fl (by decide)]; exact q7, q8, fun i x hx => by rw [fA.at (by decide)]; exact q9 i x hx⟩⟩
      have e20 : hRd (hUp phi 147 5 1) 148 200 = (c.2.1.2.1.1.length : Int) := by have := key.2.1.2.1.1; rw [Nat.zero_add] at this; exact this
      refine tK (l := xk_222) rfl rfl (fun _ _ _ _ _ => rfl) ?_
      refine tK (l := xk_222) rfl rfl (fun _ _ _ _ _ => rfl) ?_
      refine tIc_ge (l := xk_222) (pc' := 32) rfl rfl rfl (fun hc => ?_) (fun hc => ?_)
      · exfalso; omega
      · refine tK (l := xk_222) rfl rfl (fun _ _ _ _ _ => rfl) ?_
        refine tK (l := xk_222) rfl rfl (fun _ _ _ _ _ => rfl) ?_
        refine tK (l := xk_222) rfl rfl (hPutV hs rfl rfl (by decide) (by decide) (by first | rfl | assumption | decide)) ?_
        refine tK (l := xk_222) rfl rfl (fun _ _ _ _ _ => rfl) ?_
        refine tK (l := xk_222) rfl rfl (hGetR (o := some 148) (hShI1 _ hs rfl rfl) rfl rfl rfl (by decide) (by decide) rfl) ?_
        refine tK (l := xk_222) rfl rfl (fun _ _ _ _ _ => rfl) ?_
        first | refine tK (l := xk_222) rfl rfl (hIaldN (hShI1 _ hs rfl rfl) rfl rfl (by omega)) ?_ | refine tK (l := xk_222) rfl rfl (hIald (hShI1 _ hs rfl rfl) rfl (by omega) (by omega)) ?_
        refine tRt (l := xk_222) rfl rfl (fun _ _ _ _ _ => rfl) ?_
        have hq := hQ _ key (by rw [f5.fl (by decide), hf.fl (by decide)]; exact k2) fA.mo
        rw [← e20] at hq
        exact hq
    | succ m ih =>
      intro i phi him hs hf hnew
      have e48 : hRd phi 148 i = hRd ph 148 i := by rw [hf.at (by decide), k3.at (by decide)]
      refine tK (l := xk_222) rfl rfl (fun _ _ _ _ _ => rfl) ?_
      refine tK (l := xk_222) rfl rfl (fun _ _ _ _ _ => rfl) ?_
      refine tIc_ge (l := xk_222) (pc' := 32) rfl rfl rfl (fun hc => ?_) (fun hc => ?_)
      · refine tK (l := xk_222) rfl rfl (fun _ _ _ _ _ => rfl) ?_
        refine tK (l := xk_222) rfl rfl (hGetR (o := some 150) hs rfl rfl rfl (by decide) (by decide) rfl) ?_
        refine tK (l := xk_222) rfl rfl (fun _ _ _ _ _ => rfl) ?_
        refine tK (l := xk_222) rfl rfl (fun _ _ _ _ _ => rfl) ?_
        refine tK (l := xk_222) rfl rfl (hGetR (o := some 148) hs rfl rfl rfl (by decide) (by decide) rfl) ?_
        refine tK (l := xk_222) rfl rfl (fun _ _ _ _ _ => rfl) ?_
        first | refine tK (l := xk_222) rfl rfl (hIaldN hs rfl rfl (by omega)) ?_ | refine tK (l := xk_222) rfl rfl (hIald hs rfl (by omega) (by omega)) ?_
        rw [e48]
        first | refine tK (l := xk_222) rfl rfl (hIastN hs rfl rfl (by omega)) ?_ | refine tK (l := xk_222) rfl rfl (hIast hs rfl (by omega) (by omega)) ?_
        refine tSt (l := xk_222) rfl rfl (hIinc rfl (Nat.le_of_ble_eq_true rfl) ⟨by omega, by omega⟩) (Nat.le_of_ble_eq_true rfl) ?_
        refine tK (l := xk_222) rfl rfl (fun _ _ _ _ _ => rfl) ?_
        have rd := hRd_up (x := hRd ph 148 i) hs (show hKi (hTg 150) i = true from rfl) (by omega)
        refine ih (i + 1) _ (by omega) (hShI1 _ hs rfl rfl) (hf.trans (hFM_a hs rfl (by omega) (by decide) (by decide))) (fun j hj => ?_)
        rw [rd]
        by_cases e : j = i
        · rw [if_pos ⟨rfl, e⟩, e]
        · rw [if_neg (by omega)]; exact hnew j (by omega)
      · exfalso; omega
  exact loop 416 0 _ (by omega) k1.1 hFM.refl (fun j hj => absurd hj (by omega))
theorem m223n (h : hMm zs ph c) (he : c.2.2.1 = none) (hQ : ∀ ph2, hMm zs ph2 c → hRd ph2 147 0 = 1 → hFd moP ph ph2 → Q (.inl (some (.inl 0)), ph2, g)) : xTC (d + 2) 223 [.inr (.inl (some 147))] ph g Q := by
  have hs := h.1
  obtain ⟨w1, w2, w3, w4⟩ := hSzS
  have e5 : hRd ph 147 5 = 0 := by rw [h.2.2.2.1.1, he]; rfl
  refine tEn (ls := [some (.inr (.inl (some 147))), none]) (fun k => by match k with | 0 => rfl | 1 => rfl | k + 2 => rfl) ?_
  refine tK (l := xk_223) rfl rfl (fun _ _ _ _ _ => rfl) ?_
  refine tK (l := xk_223) rfl rfl (fun _ _ _ _ _ => rfl) ?_
  refine tK (l := xk_223) rfl rfl (hGetI hs rfl rfl rfl (by decide) (by decide)) ?_
  rw [e5]
  refine tIf_eq (l := xk_223) (pc' := 12) rfl rfl rfl (fun hc => ?_) (fun hc => ?_)
  · refine tK (l := xk_223) rfl rfl (fun _ _ _ _ _ => rfl) ?_
    refine tCa (l := xk_223) rfl rfl (hInvV (c := 10) hs rfl rfl rfl rfl rfl (Nat.le_of_ble_eq_true rfl) (Nat.le_of_ble_eq_true rfl)) ?_
    refine s147n h (show (1 : Int) ≠ 0 by decide) (fun ph2 k2 e0 f2 => ?_)
    refine tKv ?_
    refine tIf_ne (l := xk_223) (pc' := 21) rfl rfl rfl (fun hc => ?_) (fun hc => ?_)
    · refine tK (l := xk_223) rfl rfl (fun _ _ _ _ _ => rfl) ?_
      refine tRt (l := xk_223) rfl rfl (fun _ _ _ _ _ => rfl) ?_
      exact hQ ph2 k2 e0 f2.mo
    · exact absurd rfl hc
  · exact absurd rfl hc
theorem m223 (h : hMm zs ph c) {st : SS} (he : c.2.2.1 = some st) (hQ : ∀ ph2, hMm zs ph2 (ndo c st) → hRd ph2 147 0 = 0 → hFd moP ph ph2 → Q (.inl (some (.inl (st.2.1.1.length : Int))), ph2, g)) : xTC (d + 2) 223 [.inr (.inl (some 147))] ph g Q := by
  have hs := h.1
  obtain ⟨w1, w2, w3, w4⟩ := hSzS
  have e5 : hRd ph 147 5 = 1 := by rw [h.2.2.2.1.1, he]; rfl
  refine tEn (ls := [some (.inr (.inl (some 147))), none]) (fun k => by match k with | 0 => rfl | 1 => rfl | k + 2 => rfl) ?_
  refine tK (l := xk_223) rfl rfl (fun _ _ _ _ _ => rfl) ?_
  refine tK (l := xk_223) rfl rfl (fun _ _ _ _ _ => rfl) ?_
  refine tK (l := xk_223) rfl rfl (hGetI hs rfl rfl rfl (by decide) (by decide)) ?_
  rw [e5]
  refine tIf_eq (l := xk_223) (pc' := 12) rfl rfl rfl (fun hc => ?_) (fun hc => ?_)
  · exact absurd hc (by decide)
  · refine tK (l := xk_223) rfl rfl (fun _ _ _ _ _ => rfl) ?_
    refine tK (l := xk_223) rfl rfl (fun _ _ _ _ _ => rfl) ?_
    refine tCa (l := xk_223) rfl rfl (hInvV (c := 10) hs rfl rfl rfl rfl rfl (Nat.le_of_ble_eq_true rfl) (Nat.le_of_ble_eq_true rfl)) ?_
    refine s147z h (fun ph2 k2 e0 f2 => ?_)
    refine tKv ?_
    refine tIf_ne (l := xk_223) (pc' := 21) rfl rfl rfl (fun hc => ?_) (fun hc => ?_)
    · exact absurd hc (by decide)
    · refine tK (l := xk_223) rfl rfl (fun _ _ _ _ _ => rfl) ?_
      refine tCa (l := xk_223) rfl rfl (hInvV (c := 10) k2.1 rfl rfl rfl rfl rfl (Nat.le_of_ble_eq_true rfl) (Nat.le_of_ble_eq_true rfl)) ?_
      refine s166 k2 (fun ph3 k3 f3 => ?_)
      refine tKn ?_
      have e03 : hRd ph3 147 0 = 0 := by rw [f3.fl (by decide)]; exact e0
      have fd3 : hFd moP ph ph3 := f2.mo.trans f3.mo
      have s3 := k3.1
      refine tK (l := xk_223) rfl rfl (fun _ _ _ _ _ => rfl) ?_
      refine tSt (l := xk_223) rfl rfl (fun _ _ _ _ _ => rfl) (Nat.le_of_ble_eq_true rfl) ?_
      have loop : ∀ (m i : Nat) (phi : xH), i + m = 416 → hSh zs phi → hFM [] [148] ph3 phi → (∀ j, j < i → hRd phi 148 j = hRd ph3 150 j) → xT (d + 2) 223 27 (xlo [some (.inr (.inl (some 147))), some (.inl (i : Int))]) [] phi g Q := by
        intro m
        induction m with
        | zero =>
          intro i phi him hs hf hnew
          obtain ⟨-, q1, ⟨q2, q3, q4⟩, ⟨q5, q6⟩, ⟨q7, q8, q9⟩⟩ := k3
          have key : hMm zs phi (ndo c st) := ⟨hs, (q6 st he).cp (fun j hj => by rw [Nat.zero_add]; exact hnew j (by omega)), ⟨by rw [hf.fl (by decide)]; exact q2, q3, fun k s hk => (q4 k s hk).cp (fun j _ => hf.at (by decide) _)⟩, ⟨by rw [hf.fl (by decide)]; exact q5, fun s hs => (q6 s hs).cp (fun j _ => hf.at (by decide) _)⟩, ⟨by rw [hf.fl (by decide)]; exact q7, q8, fun i x hx => by rw [hf.at (by decide)]; exact q9 i x hx⟩⟩
          have e20 : hRd phi 148 200 = (st.2.1.1.length : Int) := by have := key.2.1.2.1.1; rw [Nat.zero_add] at this; exact this
          refine tK (l := xk_223) rfl rfl (fun _ _ _ _ _ => rfl) ?_
          refine tK (l := xk_223) rfl rfl (fun _ _ _ _ _ => rfl) ?_
          refine tIc_ge (l := xk_223) (pc' := 52) rfl rfl rfl (fun hc => ?_) (fun hc => ?_)
          · exfalso; omega
          · refine tK (l := xk_223) rfl rfl (fun _ _ _ _ _ => rfl) ?_
            refine tK (l := xk_223) rfl rfl (hGetR (o := some 148) hs rfl rfl rfl (by decide) (by decide) rfl) ?_
            refine tK (l := xk_223) rfl rfl (fun _ _ _ _ _ => rfl) ?_
            first | refine tK (l := xk_223) rfl rfl (hIaldN hs rfl rfl (by omega)) ?_ | refine tK (l := xk_223) rfl rfl (hIald hs rfl (by omega) (by omega)) ?_
            refine tRt (l := xk_223) rfl rfl (fun _ _ _ _ _ => rfl) ?_
            have hq := hQ _ key (by rw [hf.fl (by decide)]; exact e03) (fd3.trans hf.mo)
            rw [← e20] at hq
            exact hq
        | succ m ih =>
          intro i phi him hs hf hnew
          have e48 : hRd phi 150 i = hRd ph3 150 i := by rw [hf.at (by decide)]
          refine tK (l := xk_223) rfl rfl (fun _ _ _ _ _ => rfl) ?_
          refine tK (l := xk_223) rfl rfl (fun _ _ _ _ _ => rfl) ?_
          refine tIc_ge (l := xk_223) (pc' := 52) rfl rfl rfl (fun hc => ?_) (fun hc => ?_)
          · refine tK (l := xk_223) rfl rfl (fun _ _ _ _ _ => rfl) ?_
            refine tK (l := xk_223) rfl rfl (hGetR (o := some 148) hs rfl rfl rfl (by decide) (by decide) rfl) ?_
            refine tK (l := xk_223) rfl rfl (fun _ _ _ _ _ => rfl) ?_
            refine tK (l := xk_223) rfl rfl (fun _ _ _ _ _ => rfl) ?_
            refine tK (l := xk_223) rfl rfl (hGetR (o := some 150) hs rfl rfl rfl (by decide) (by decide) rfl) ?_
            refine tK (l := xk_223) rfl rfl (fun _ _ _ _ _ => rfl) ?_
            first | refine tK (l := xk_223) rfl rfl (hIaldN hs rfl rfl (by omega)) ?_ | refine tK (l := xk_223) rfl rfl (hIald hs rfl (by omega) (by omega)) ?_
            rw [e48]
            first | refine tK (l := xk_223) rfl rfl (hIastN hs rfl rfl (by omega)) ?_ | refine tK (l := xk_223) rfl rfl (hIast hs rfl (by omega) (by omega)) ?_
            refine tSt (l := xk_223) rfl rfl (hIinc rfl (Nat.le_of_ble_eq_true rfl) ⟨by omega, by omega⟩) (Nat.le_of_ble_eq_true rfl) ?_
            refine tK (l := xk_223) rfl rfl (fun _ _ _ _ _ => rfl) ?_
            have rd := hRd_up (x := hRd ph3 150 i) hs (show hKi (hTg 148) i = true from rfl) (by omega)
            refine ih (i + 1) _ (by omega) (hShI1 _ hs rfl rfl) (hf.trans (hFM_a hs rfl (by omega) (by decide) (by decide))) (fun j hj => ?_)
            rw [rd]
            by_cases e : j = i
            · rw [if_pos ⟨rfl, e⟩, e]
            · rw [if_neg (by omega)]; exact hnew j (by omega)
          · exfalso; omega
      exact loop 416 0 ph3 (by omega) s3 hFM.refl (fun j hj => absurd hj (by omega))
end MC4
