/-! ===== the model's calls (3) ===== -/
section MC3
variable {d : Nat} {ph : xH} {zs : List xV} {g : Nat} {Q : xR → Prop} {c : KS}
theorem hMm.vmv {n : Nat} (h : hMm zs ph c) (hn : n < 8) : hMv ph 148 (25 * n) (c.2.1.1 n) := by
  have := h.2.1.1 n hn
  rw [Nat.zero_add] at this
  exact this
theorem m163x (h : hMm zs ph c) {x y : Int} (hx : ¬ (0 ≤ x ∧ x < 8)) (hQ : ∀ ph2, hMm zs ph2 c → hRd ph2 147 0 = 1 → hFd moP ph ph2 → Q (.inl (some (.inl 0)), ph2, g)) : xTC (d + 3) 163 [.inr (.inl (some 147)), .inl x, .inl y] ph g Q := by
  have hs := h.1
  obtain ⟨w1, w2, w3, w4⟩ := hSzS
  refine tEn (ls := [some (.inr (.inl (some 147))), some (.inl x), some (.inl y), none]) (fun k => by match k with | 0 => rfl | 1 => rfl | 2 => rfl | 3 => rfl | k + 4 => rfl) ?_
  refine tK (l := xk_163) rfl rfl (fun _ _ _ _ _ => rfl) ?_
  refine tK (l := xk_163) rfl rfl (fun _ _ _ _ _ => rfl) ?_
  refine tCa (l := xk_163) rfl rfl (hInvS rfl rfl rfl rfl (Nat.le_of_ble_eq_true rfl) (Nat.le_of_ble_eq_true rfl)) ?_
  refine s164x hx ?_
  refine tKv ?_
  refine tIf_ne (l := xk_163) (pc' := 12) rfl rfl rfl (fun hc => ?_) (fun hc => ?_)
  · refine tK (l := xk_163) rfl rfl (fun _ _ _ _ _ => rfl) ?_
    refine tK (l := xk_163) rfl rfl (fun _ _ _ _ _ => rfl) ?_
    refine tCa (l := xk_163) rfl rfl (hInvV (c := 10) hs rfl rfl rfl rfl rfl (Nat.le_of_ble_eq_true rfl) (Nat.le_of_ble_eq_true rfl)) ?_
    refine s147n h (show (1 : Int) ≠ 0 by decide) (fun ph2 k2 e0 f2 => ?_)
    refine tKv ?_
    refine tIf_ne (l := xk_163) (pc' := 50) rfl rfl rfl (fun hc => ?_) (fun hc => ?_)
    · refine tK (l := xk_163) rfl rfl (fun _ _ _ _ _ => rfl) ?_
      refine tRt (l := xk_163) rfl rfl (fun _ _ _ _ _ => rfl) ?_
      exact hQ ph2 k2 e0 f2.mo
    · exact absurd rfl hc
  · exact absurd rfl hc
theorem m163y (h : hMm zs ph c) {n : Nat} {y : Int} (hn : n < 8) (hy : ¬ (33 ≤ y ∧ y ≤ 126)) (hQ : ∀ ph2, hMm zs ph2 c → hRd ph2 147 0 = 2 → hFd moP ph ph2 → Q (.inl (some (.inl 0)), ph2, g)) : xTC (d + 3) 163 [.inr (.inl (some 147)), .inl (n : Int), .inl y] ph g Q := by
  have hs := h.1
  obtain ⟨w1, w2, w3, w4⟩ := hSzS
  refine tEn (ls := [some (.inr (.inl (some 147))), some (.inl (n : Int)), some (.inl y), none]) (fun k => by match k with | 0 => rfl | 1 => rfl | 2 => rfl | 3 => rfl | k + 4 => rfl) ?_
  refine tK (l := xk_163) rfl rfl (fun _ _ _ _ _ => rfl) ?_
  refine tK (l := xk_163) rfl rfl (fun _ _ _ _ _ => rfl) ?_
  refine tCa (l := xk_163) rfl rfl (hInvS rfl rfl rfl rfl (Nat.le_of_ble_eq_true rfl) (Nat.le_of_ble_eq_true rfl)) ?_
  refine s164 hn ?_
  refine tKv ?_
  refine tIf_ne (l := xk_163) (pc' := 12) rfl rfl rfl (fun hc => ?_) (fun hc => ?_)
  · exact absurd hc (by decide)
  · refine tK (l := xk_163) rfl rfl (fun _ _ _ _ _ => rfl) ?_
    refine tK (l := xk_163) rfl rfl (fun _ _ _ _ _ => rfl) ?_
    refine tK (l := xk_163) rfl rfl (fun _ _ _ _ _ => rfl) ?_
    refine tCa (l := xk_163) rfl rfl (hInvS rfl rfl rfl rfl (Nat.le_of_ble_eq_true rfl) (Nat.le_of_ble_eq_true rfl)) ?_
    refine s146 ?_
    refine tKv ?_
    rw [if_neg hy]
    refine tIf_ne (l := xk_163) (pc' := 27) rfl rfl rfl (fun hc => ?_) (fun hc => ?_)
    · refine tK (l := xk_163) rfl rfl (fun _ _ _ _ _ => rfl) ?_
      refine tK (l := xk_163) rfl rfl (fun _ _ _ _ _ => rfl) ?_
      refine tCa (l := xk_163) rfl rfl (hInvV (c := 10) hs rfl rfl rfl rfl rfl (Nat.le_of_ble_eq_true rfl) (Nat.le_of_ble_eq_true rfl)) ?_
      refine s147n h (show (2 : Int) ≠ 0 by decide) (fun ph2 k2 e0 f2 => ?_)
      refine tKv ?_
      refine tIf_ne (l := xk_163) (pc' := 50) rfl rfl rfl (fun hc => ?_) (fun hc => ?_)
      · refine tK (l := xk_163) rfl rfl (fun _ _ _ _ _ => rfl) ?_
        refine tRt (l := xk_163) rfl rfl (fun _ _ _ _ _ => rfl) ?_
        exact hQ ph2 k2 e0 f2.mo
      · exact absurd rfl hc
    · exact absurd rfl hc
theorem m163n (h : hMm zs ph c) {n : Nat} {y : Int} {v : List Int} (hn : n < 8) (hy : 33 ≤ y ∧ y ≤ 126) (hv : c.2.1.1 n = some v) (hf : v.length = 24) (hQ : ∀ ph2, hMm zs ph2 c → hRd ph2 147 0 = 3 → hFd moP ph ph2 → Q (.inl (some (.inl 0)), ph2, g)) : xTC (d + 3) 163 [.inr (.inl (some 147)), .inl (n : Int), .inl y] ph g Q := by
  have hs := h.1
  obtain ⟨w1, w2, w3, w4⟩ := hSzS
  refine tEn (ls := [some (.inr (.inl (some 147))), some (.inl (n : Int)), some (.inl y), none]) (fun k => by match k with | 0 => rfl | 1 => rfl | 2 => rfl | 3 => rfl | k + 4 => rfl) ?_
  refine tK (l := xk_163) rfl rfl (fun _ _ _ _ _ => rfl) ?_
  refine tK (l := xk_163) rfl rfl (fun _ _ _ _ _ => rfl) ?_
  refine tCa (l := xk_163) rfl rfl (hInvS rfl rfl rfl rfl (Nat.le_of_ble_eq_true rfl) (Nat.le_of_ble_eq_true rfl)) ?_
  refine s164 hn ?_
  refine tKv ?_
  refine tIf_ne (l := xk_163) (pc' := 12) rfl rfl rfl (fun hc => ?_) (fun hc => ?_)
  · exact absurd hc (by decide)
  · refine tK (l := xk_163) rfl rfl (fun _ _ _ _ _ => rfl) ?_
    refine tK (l := xk_163) rfl rfl (fun _ _ _ _ _ => rfl) ?_
    refine tK (l := xk_163) rfl rfl (fun _ _ _ _ _ => rfl) ?_
    refine tCa (l := xk_163) rfl rfl (hInvS rfl rfl rfl rfl (Nat.le_of_ble_eq_true rfl) (Nat.le_of_ble_eq_true rfl)) ?_
    refine s146 ?_
    refine tKv ?_
    rw [if_pos hy]
    refine tIf_ne (l := xk_163) (pc' := 27) rfl rfl rfl (fun hc => ?_) (fun hc => ?_)
    · exact absurd hc (by decide)
    · refine tK (l := xk_163) rfl rfl (fun _ _ _ _ _ => rfl) ?_
      refine tK (l := xk_163) rfl rfl (fun _ _ _ _ _ => rfl) ?_
      refine tCa (l := xk_163) rfl rfl (hInvV (c := 10) hs rfl rfl rfl rfl rfl (Nat.le_of_ble_eq_true rfl) (Nat.le_of_ble_eq_true rfl)) ?_
      refine s165 h hn ?_
      refine tKv ?_
      rw [hv]
      simp only [hLo]
      refine tK (l := xk_163) rfl rfl (fun _ _ _ _ _ => rfl) ?_
      refine tIc_ne (l := xk_163) (pc' := 41) rfl rfl rfl (fun hc => ?_) (fun hc => ?_)
      · refine tK (l := xk_163) rfl rfl (fun _ _ _ _ _ => rfl) ?_
        refine tK (l := xk_163) rfl rfl (fun _ _ _ _ _ => rfl) ?_
        refine tCa (l := xk_163) rfl rfl (hInvV (c := 10) hs rfl rfl rfl rfl rfl (Nat.le_of_ble_eq_true rfl) (Nat.le_of_ble_eq_true rfl)) ?_
        refine s147n h (show (3 : Int) ≠ 0 by decide) (fun ph2 k2 e0 f2 => ?_)
        refine tKv ?_
        refine tIf_ne (l := xk_163) (pc' := 50) rfl rfl rfl (fun hc => ?_) (fun hc => ?_)
        · refine tK (l := xk_163) rfl rfl (fun _ _ _ _ _ => rfl) ?_
          refine tRt (l := xk_163) rfl rfl (fun _ _ _ _ _ => rfl) ?_
          exact hQ ph2 k2 e0 f2.mo
        · exact absurd rfl hc
      · exfalso; omega
theorem m163 (h : hMm zs ph c) {n : Nat} {y : Int} {v : List Int} (hn : n < 8) (hy : 33 ≤ y ∧ y ≤ 126) (hv : c.2.1.1 n = some v) (hf : v.length < 24) (hQ : ∀ ph2, hMm zs ph2 (ndo c (setV c.2.1 n (some (v ++ [y])))) → hRd ph2 147 0 = 0 → hFd moP ph ph2 → Q (.inl (some (.inl ((v ++ [y]).length : Int))), ph2, g)) : xTC (d + 3) 163 [.inr (.inl (some 147)), .inl (n : Int), .inl y] ph g Q := by
  have hs := h.1
  obtain ⟨w1, w2, w3, w4⟩ := hSzS
  refine tEn (ls := [some (.inr (.inl (some 147))), some (.inl (n : Int)), some (.inl y), none]) (fun k => by match k with | 0 => rfl | 1 => rfl | 2 => rfl | 3 => rfl | k + 4 => rfl) ?_
  refine tK (l := xk_163) rfl rfl (fun _ _ _ _ _ => rfl) ?_
  refine tK (l := xk_163) rfl rfl (fun _ _ _ _ _ => rfl) ?_
  refine tCa (l := xk_163) rfl rfl (hInvS rfl rfl rfl rfl (Nat.le_of_ble_eq_true rfl) (Nat.le_of_ble_eq_true rfl)) ?_
  refine s164 hn ?_
  refine tKv ?_
  refine tIf_ne (l := xk_163) (pc' := 12) rfl rfl rfl (fun hc => ?_) (fun hc => ?_)
  · exact absurd hc (by decide)
  · refine tK (l := xk_163) rfl rfl (fun _ _ _ _ _ => rfl) ?_
    refine tK (l := xk_163) rfl rfl (fun _ _ _ _ _ => rfl) ?_
    refine tK (l := xk_163) rfl rfl (fun _ _ _ _ _ => rfl) ?_
    refine tCa (l := xk_163) rfl rfl (hInvS rfl rfl rfl rfl (Nat.le_of_ble_eq_true rfl) (Nat.le_of_ble_eq_true rfl)) ?_
    refine s146 ?_
    refine tKv ?_
    rw [if_pos hy]
    refine tIf_ne (l := xk_163) (pc' := 27) rfl rfl rfl (fun hc => ?_) (fun hc => ?_)
    · exact absurd hc (by decide)
    · refine tK (l := xk_163) rfl rfl (fun _ _ _ _ _ => rfl) ?_
      refine tK (l := xk_163) rfl rfl (fun _ _ _ _ _ => rfl) ?_
      refine tCa (l := xk_163) rfl rfl (hInvV (c := 10) hs rfl rfl rfl rfl rfl (Nat.le_of_ble_eq_true rfl) (Nat.le_of_ble_eq_true rfl)) ?_
      refine s165 h hn ?_
      refine tKv ?_
      rw [hv]
      simp only [hLo]
      refine tK (l := xk_163) rfl rfl (fun _ _ _ _ _ => rfl) ?_
      refine tIc_ne (l := xk_163) (pc' := 41) rfl rfl rfl (fun hc => ?_) (fun hc => ?_)
      · exfalso; omega
      · refine tK (l := xk_163) rfl rfl (fun _ _ _ _ _ => rfl) ?_
        refine tCa (l := xk_163) rfl rfl (hInvV (c := 10) hs rfl rfl rfl rfl rfl (Nat.le_of_ble_eq_true rfl) (Nat.le_of_ble_eq_true rfl)) ?_
        refine s147z h (fun ph2 k2 e0 f2 => ?_)
        refine tKv ?_
        refine tIf_ne (l := xk_163) (pc' := 50) rfl rfl rfl (fun hc => ?_) (fun hc => ?_)
        · exact absurd hc (by decide)
        · refine tK (l := xk_163) rfl rfl (fun _ _ _ _ _ => rfl) ?_
          refine tCa (l := xk_163) rfl rfl (hInvV (c := 10) k2.1 rfl rfl rfl rfl rfl (Nat.le_of_ble_eq_true rfl) (Nat.le_of_ble_eq_true rfl)) ?_
          refine s166 k2 (fun ph3 k3 f3 => ?_)
          refine tKn ?_
          have e03 : hRd ph3 147 0 = 0 := by rw [f3.fl (by decide)]; exact e0
          have fd3 : hFd moP ph ph3 := f2.mo.trans f3.mo
          have s3 := k3.1
          refine tK (l := xk_163) rfl rfl (fun _ _ _ _ _ => rfl) ?_
          refine tK (l := xk_163) rfl rfl (fun _ _ _ _ _ => rfl) ?_
          refine tCa (l := xk_163) rfl rfl (hInvV (c := 10) k3.1 rfl rfl rfl rfl rfl (Nat.le_of_ble_eq_true rfl) (Nat.le_of_ble_eq_true rfl)) ?_
          refine s167 k3 hn hv ?_
          refine tKv ?_
          refine tIf_eq (l := xk_163) (pc' := 70) rfl rfl rfl (fun hc => ?_) (fun hc => ?_)
          · exact absurd hc (by decide)
          · refine tK (l := xk_163) rfl rfl (fun _ _ _ _ _ => rfl) ?_
            refine tK (l := xk_163) rfl rfl (fun _ _ _ _ _ => rfl) ?_
            refine tCa (l := xk_163) rfl rfl (hInvV (c := 10) k3.1 rfl rfl rfl rfl rfl (Nat.le_of_ble_eq_true rfl) (Nat.le_of_ble_eq_true rfl)) ?_
            refine s165 k3 hn ?_
            refine tKv ?_
            rw [show (ndo c c.2.1).2.1.1 n = some v from hv]
            simp only [hLo]
            refine tK (l := xk_163) rfl rfl (fun _ _ _ _ _ => rfl) ?_
            refine tSt (l := xk_163) rfl rfl (fun _ _ _ _ _ => rfl) (Nat.le_of_ble_eq_true rfl) ?_
            refine tK (l := xk_163) rfl rfl (fun _ _ _ _ _ => rfl) ?_
            refine tK (l := xk_163) rfl rfl (hGetR (o := some 148) k3.1 rfl rfl rfl (by decide) (by decide) rfl) ?_
            refine tK (l := xk_163) rfl rfl (fun _ _ _ _ _ => rfl) ?_
            refine tK (l := xk_163) rfl rfl (fun _ _ _ _ _ => rfl) ?_
            refine tK (l := xk_163) rfl rfl (fun _ _ _ _ _ => rfl) ?_
            refine tK (l := xk_163) rfl rfl (hMul ⟨by omega, by omega⟩) ?_
            refine tK (l := xk_163) rfl rfl (hAdd ⟨by omega, by omega⟩) ?_
            refine tK (l := xk_163) rfl rfl (fun _ _ _ _ _ => rfl) ?_
            refine tK (l := xk_163) rfl rfl (hAdd ⟨by omega, by omega⟩) ?_
            refine tK (l := xk_163) rfl rfl (fun _ _ _ _ _ => rfl) ?_
            refine tK (l := xk_163) rfl rfl (hAdd ⟨by omega, by omega⟩) ?_
            rw [show (0 : Int) + 25 * (n : Int) + 1 + (v.length : Int) = ((25 * n + 1 + v.length : Nat) : Int) by omega]
            refine tK (l := xk_163) rfl rfl (fun _ _ _ _ _ => rfl) ?_
            first | refine tK (l := xk_163) rfl rfl (hIastN k3.1 rfl rfl (by omega)) ?_ | refine tK (l := xk_163) rfl rfl (hIast k3.1 rfl (by omega) (by omega)) ?_
            refine tK (l := xk_163) rfl rfl (fun _ _ _ _ _ => rfl) ?_
            refine tK (l := xk_163) rfl rfl (hGetR (o := some 148) (hShI1 _ k3.1 rfl rfl) rfl rfl rfl (by decide) (by decide) rfl) ?_
            refine tK (l := xk_163) rfl rfl (fun _ _ _ _ _ => rfl) ?_
            refine tK (l := xk_163) rfl rfl (fun _ _ _ _ _ => rfl) ?_
            refine tK (l := xk_163) rfl rfl (fun _ _ _ _ _ => rfl) ?_
            refine tK (l := xk_163) rfl rfl (hMul ⟨by omega, by omega⟩) ?_
            refine tK (l := xk_163) rfl rfl (hAdd ⟨by omega, by omega⟩) ?_
            rw [show (0 : Int) + 25 * (n : Int) = ((25 * n : Nat) : Int) by omega]
            refine tK (l := xk_163) rfl rfl (fun _ _ _ _ _ => rfl) ?_
            refine tK (l := xk_163) rfl rfl (fun _ _ _ _ _ => rfl) ?_
            refine tK (l := xk_163) rfl rfl (hAdd ⟨by omega, by omega⟩) ?_
            first | refine tK (l := xk_163) rfl rfl (hIastN (hShI1 _ k3.1 rfl rfl) rfl rfl (by omega)) ?_ | refine tK (l := xk_163) rfl rfl (hIast (hShI1 _ k3.1 rfl rfl) rfl (by omega) (by omega)) ?_
            refine tK (l := xk_163) rfl rfl (fun _ _ _ _ _ => rfl) ?_
            refine tK (l := xk_163) rfl rfl (fun _ _ _ _ _ => rfl) ?_
            refine tK (l := xk_163) rfl rfl (hAdd ⟨by omega, by omega⟩) ?_
            refine tRt (l := xk_163) rfl rfl (fun _ _ _ _ _ => rfl) ?_
            have u1 : hSh zs (hUp ph3 148 (25 * n + 1 + v.length) y) := hShI1 _ s3 rfl rfl
            have r1 := hRd_up (x := y) s3 (show hKi (hTg 148) (25 * n + 1 + v.length) = true from rfl) (by omega)
            have r2 := hRd_up (x := (v.length : Int) + 1) u1 (show hKi (hTg 148) (25 * n) = true from rfl) (by omega)
            have f4 : hFM [] [148] ph3 (hUp (hUp ph3 148 (25 * n + 1 + v.length) y) 148 (25 * n) ((v.length : Int) + 1)) := (hFM_a s3 rfl (by omega) (by decide) (by decide)).trans (hFM_a u1 rfl (by omega) (by decide) (by decide))
            have hv3 : hMv (hUp (hUp ph3 148 (25 * n + 1 + v.length) y) 148 (25 * n) ((v.length : Int) + 1)) 148 (25 * n) (some (v ++ [y])) := by
              have old := (k3.vmv hn)
              rw [show (ndo c c.2.1).2.1.1 n = some v from hv] at old
              obtain ⟨o1, o2⟩ := old.2 v rfl
              refine ⟨by rw [r2, if_pos ⟨rfl, rfl⟩]; simp [hLo], fun s hs9 => ?_⟩
              cases hs9
              refine ⟨by simp; omega, fun i x hx => ?_⟩
              have hi9 := (List.getElem?_eq_some_iff.mp hx).1
              simp only [List.length_append, List.length_cons, List.length_nil] at hi9
              rw [r2, if_neg (by omega), r1]
              by_cases e : i < v.length
              · rw [List.getElem?_append_left e] at hx
                rw [if_neg (by omega)]
                exact o2 i x hx
              · rw [List.getElem?_append_right (by omega), show i - v.length = 0 by omega] at hx
                simp only [List.getElem?_cons_zero, Option.some.injEq] at hx
                rw [if_pos ⟨rfl, by omega⟩, hx]
            have key := k3.setv (hShI1 _ (hShI1 _ k3.1 rfl rfl) rfl rfl) hn f4 hv3 (fun j hj => by rw [r2, if_neg (by omega), r1, if_neg (by omega)])
            have hq := hQ _ key (by rw [f4.fl (by decide)]; exact e03) (fd3.trans f4.mo)
            rw [show ((v ++ [y]).length : Int) = (v.length : Int) + 1 by simp] at hq
            exact hq
theorem m163e (h : hMm zs ph c) {n : Nat} {y : Int} (hn : n < 8) (hy : 33 ≤ y ∧ y ≤ 126) (hv : c.2.1.1 n = none) (hQ : ∀ ph2, hMm zs ph2 (ndo c (setV c.2.1 n (some [y]))) → hRd ph2 147 0 = 0 → hFd moP ph ph2 → Q (.inl (some (.inl 1)), ph2, g)) : xTC (d + 3) 163 [.inr (.inl (some 147)), .inl (n : Int), .inl y] ph g Q := by
  have hs := h.1
  obtain ⟨w1, w2, w3, w4⟩ := hSzS
  refine tEn (ls := [some (.inr (.inl (some 147))), some (.inl (n : Int)), some (.inl y), none]) (fun k => by match k with | 0 => rfl | 1 => rfl | 2 => rfl | 3 => rfl | k + 4 => rfl) ?_
  refine tK (l := xk_163) rfl rfl (fun _ _ _ _ _ => rfl) ?_
  refine tK (l := xk_163) rfl rfl (fun _ _ _ _ _ => rfl) ?_
  refine tCa (l := xk_163) rfl rfl (hInvS rfl rfl rfl rfl (Nat.le_of_ble_eq_true rfl) (Nat.le_of_ble_eq_true rfl)) ?_
  refine s164 hn ?_
  refine tKv ?_
  refine tIf_ne (l := xk_163) (pc' := 12) rfl rfl rfl (fun hc => ?_) (fun hc => ?_)
  · exact absurd hc (by decide)
  · refine tK (l := xk_163) rfl rfl (fun _ _ _ _ _ => rfl) ?_
    refine tK (l := xk_163) rfl rfl (fun _ _ _ _ _ => rfl) ?_
    refine tK (l := xk_163) rfl rfl (fun _ _ _ _ _ => rfl) ?_
    refine tCa (l := xk_163) rfl rfl (hInvS rfl rfl rfl rfl (Nat.le_of_ble_eq_true rfl) (Nat.le_of_ble_eq_true rfl)) ?_
    refine s146 ?_
    refine tKv ?_
    rw [if_pos hy]
    refine tIf_ne (l := xk_163) (pc' := 27) rfl rfl rfl (fun hc => ?_) (fun hc => ?_)
    · exact absurd hc (by decide)
    · refine tK (l := xk_163) rfl rfl (fun _ _ _ _ _ => rfl) ?_
      refine tK (l := xk_163) rfl rfl (fun _ _ _ _ _ => rfl) ?_
      refine tCa (l := xk_163) rfl rfl (hInvV (c := 10) hs rfl rfl rfl rfl rfl (Nat.le_of_ble_eq_true rfl) (Nat.le_of_ble_eq_true rfl)) ?_
      refine s165 h hn ?_
      refine tKv ?_
      rw [hv]
      simp only [hLo]
      refine tK (l := xk_163) rfl rfl (fun _ _ _ _ _ => rfl) ?_
      refine tIc_ne (l := xk_163) (pc' := 41) rfl rfl rfl (fun hc => ?_) (fun hc => ?_)
      · exact absurd hc (by decide)
      · refine tK (l := xk_163) rfl rfl (fun _ _ _ _ _ => rfl) ?_
        refine tCa (l := xk_163) rfl rfl (hInvV (c := 10) hs rfl rfl rfl rfl rfl (Nat.le_of_ble_eq_true rfl) (Nat.le_of_ble_eq_true rfl)) ?_
        refine s147z h (fun ph2 k2 e0 f2 => ?_)
        refine tKv ?_
        refine tIf_ne (l := xk_163) (pc' := 50) rfl rfl rfl (fun hc => ?_) (fun hc => ?_)
        · exact absurd hc (by decide)
        · refine tK (l := xk_163) rfl rfl (fun _ _ _ _ _ => rfl) ?_
          refine tCa (l := xk_163) rfl rfl (hInvV (c := 10) k2.1 rfl rfl rfl rfl rfl (Nat.le_of_ble_eq_true rfl) (Nat.le_of_ble_eq_true rfl)) ?_
          refine s166 k2 (fun ph3 k3 f3 => ?_)
          refine tKn ?_
          have e03 : hRd ph3 147 0 = 0 := by rw [f3.fl (by decide)]; exact e0
          have fd3 : hFd moP ph ph3 := f2.mo.trans f3.mo
          have s3 := k3.1
          refine tK (l := xk_163) rfl rfl (fun _ _ _ _ _ => rfl) ?_
          refine tK (l := xk_163) rfl rfl (fun _ _ _ _ _ => rfl) ?_
          refine tCa (l := xk_163) rfl rfl (hInvV (c := 10) k3.1 rfl rfl rfl rfl rfl (Nat.le_of_ble_eq_true rfl) (Nat.le_of_ble_eq_true rfl)) ?_
          refine s167n k3 hn hv ?_
          refine tKv ?_
          refine tIf_eq (l := xk_163) (pc' := 70) rfl rfl rfl (fun hc => ?_) (fun hc => ?_)
          · refine tK (l := xk_163) rfl rfl (fun _ _ _ _ _ => rfl) ?_
            refine tSt (l := xk_163) rfl rfl (fun _ _ _ _ _ => rfl) (Nat.le_of_ble_eq_true rfl) ?_
            refine tK (l := xk_163) rfl rfl (fun _ _ _ _ _ => rfl) ?_
            refine tK (l := xk_163) rfl rfl (hGetR (o := some 148) k3.1 rfl rfl rfl (by decide) (by decide) rfl) ?_
            refine tK (l := xk_163) rfl rfl (fun _ _ _ _ _ => rfl) ?_
            refine tK (l := xk_163) rfl rfl (fun _ _ _ _ _ => rfl) ?_
            refine tK (l := xk_163) rfl rfl (fun _ _ _ _ _ => rfl) ?_
            refine tK (l := xk_163) rfl rfl (hMul ⟨by omega, by omega⟩) ?_
            refine tK (l := xk_163) rfl rfl (hAdd ⟨by omega, by omega⟩) ?_
            refine tK (l := xk_163) rfl rfl (fun _ _ _ _ _ => rfl) ?_
            refine tK (l := xk_163) rfl rfl (hAdd ⟨by omega, by omega⟩) ?_
            refine tK (l := xk_163) rfl rfl (fun _ _ _ _ _ => rfl) ?_
            refine tK (l := xk_163) rfl rfl (hAdd ⟨by omega, by omega⟩) ?_
            rw [show (0 : Int) + 25 * (n : Int) + 1 + (0 : Int) = ((25 * n + 1 + 0 : Nat) : Int) by omega]
            refine tK (l := xk_163) rfl rfl (fun _ _ _ _ _ => rfl) ?_
            first | refine tK (l := xk_163) rfl rfl (hIastN k3.1 rfl rfl (by omega)) ?_ | refine tK (l := xk_163) rfl rfl (hIast k3.1 rfl (by omega) (by omega)) ?_
            refine tK (l := xk_163) rfl rfl (fun _ _ _ _ _ => rfl) ?_
            refine tK (l := xk_163) rfl rfl (hGetR (o := some 148) (hShI1 _ k3.1 rfl rfl) rfl rfl rfl (by decide) (by decide) rfl) ?_
            refine tK (l := xk_163) rfl rfl (fun _ _ _ _ _ => rfl) ?_
            refine tK (l := xk_163) rfl rfl (fun _ _ _ _ _ => rfl) ?_
            refine tK (l := xk_163) rfl rfl (fun _ _ _ _ _ => rfl) ?_
            refine tK (l := xk_163) rfl rfl (hMul ⟨by omega, by omega⟩) ?_
            refine tK (l := xk_163) rfl rfl (hAdd ⟨by omega, by omega⟩) ?_
            rw [show (0 : Int) + 25 * (n : Int) = ((25 * n : Nat) : Int) by omega]
            refine tK (l := xk_163) rfl rfl (fun _ _ _ _ _ => rfl) ?_
            refine tK (l := xk_163) rfl rfl (fun _ _ _ _ _ => rfl) ?_
            refine tK (l := xk_163) rfl rfl (hAdd ⟨by omega, by omega⟩) ?_
            first | refine tK (l := xk_163) rfl rfl (hIastN (hShI1 _ k3.1 rfl rfl) rfl rfl (by omega)) ?_ | refine tK (l := xk_163) rfl rfl (hIast (hShI1 _ k3.1 rfl rfl) rfl (by omega) (by omega)) ?_
            refine tK (l := xk_163) rfl rfl (fun _ _ _ _ _ => rfl) ?_
            refine tK (l := xk_163) rfl rfl (fun _ _ _ _ _ => rfl) ?_
            refine tK (l := xk_163) rfl rfl (hAdd ⟨by omega, by omega⟩) ?_
            refine tRt (l := xk_163) rfl rfl (fun _ _ _ _ _ => rfl) ?_
            have u1 : hSh zs (hUp ph3 148 (25 * n + 1 + 0) y) := hShI1 _ s3 rfl rfl
            have r1 := hRd_up (x := y) s3 (show hKi (hTg 148) (25 * n + 1 + 0) = true from rfl) (by omega)
            have r2 := hRd_up (x := (0 : Int) + 1) u1 (show hKi (hTg 148) (25 * n) = true from rfl) (by omega)
            have f4 : hFM [] [148] ph3 (hUp (hUp ph3 148 (25 * n + 1 + 0) y) 148 (25 * n) ((0 : Int) + 1)) := (hFM_a s3 rfl (by omega) (by decide) (by decide)).trans (hFM_a u1 rfl (by omega) (by decide) (by decide))
            have hv3 : hMv (hUp (hUp ph3 148 (25 * n + 1 + 0) y) 148 (25 * n) ((0 : Int) + 1)) 148 (25 * n) (some [y]) := by
              refine ⟨by rw [r2, if_pos ⟨rfl, rfl⟩]; rfl, fun s hs9 => ?_⟩
              cases hs9
              refine ⟨by simp, fun i x hx => ?_⟩
              match i, hx with
              | 0, hx =>
                simp only [List.getElem?_cons_zero, Option.some.injEq] at hx
                rw [r2, if_neg (by omega), r1, if_pos ⟨rfl, rfl⟩, hx]
              | i + 1, hx => simp at hx
            have key := k3.setv (hShI1 _ (hShI1 _ k3.1 rfl rfl) rfl rfl) hn f4 hv3 (fun j hj => by rw [r2, if_neg (by omega), r1, if_neg (by omega)])
            have hq := hQ _ key (by rw [f4.fl (by decide)]; exact e03) (fd3.trans f4.mo)
            skip
            exact hq
          · exact absurd rfl hc
theorem m168x (h : hMm zs ph c) {x : Int} (hx : ¬ (0 ≤ x ∧ x < 8)) (hQ : ∀ ph2, hMm zs ph2 c → hRd ph2 147 0 = 1 → hFd moP ph ph2 → Q (.inl (some (.inl 0)), ph2, g)) : xTC (d + 3) 168 [.inr (.inl (some 147)), .inl x] ph g Q := by
  have hs := h.1
  obtain ⟨w1, w2, w3, w4⟩ := hSzS
  refine tEn (ls := [some (.inr (.inl (some 147))), some (.inl x), none]) (fun k => by match k with | 0 => rfl | 1 => rfl | 2 => rfl | k + 3 => rfl) ?_
  refine tK (l := xk_168) rfl rfl (fun _ _ _ _ _ => rfl) ?_
  refine tK (l := xk_168) rfl rfl (fun _ _ _ _ _ => rfl) ?_
  refine tK (l := xk_168) rfl rfl (fun _ _ _ _ _ => rfl) ?_
  refine tCa (l := xk_168) rfl rfl (hInvV (c := 10) hs rfl rfl rfl rfl rfl (Nat.le_of_ble_eq_true rfl) (Nat.le_of_ble_eq_true rfl)) ?_
  refine s169x hs hx ?_
  refine tKv ?_
  refine tCa (l := xk_168) rfl rfl (hInvV (c := 10) hs rfl rfl rfl rfl rfl (Nat.le_of_ble_eq_true rfl) (Nat.le_of_ble_eq_true rfl)) ?_
  refine s147n h (show (1 : Int) ≠ 0 by decide) (fun ph2 k2 e0 f2 => ?_)
  refine tKv ?_
  refine tIf_ne (l := xk_168) (pc' := 14) rfl rfl rfl (fun hc => ?_) (fun hc => ?_)
  · refine tK (l := xk_168) rfl rfl (fun _ _ _ _ _ => rfl) ?_
    refine tRt (l := xk_168) rfl rfl (fun _ _ _ _ _ => rfl) ?_
    exact hQ ph2 k2 e0 f2.mo
  · exact absurd rfl hc
theorem m168n (h : hMm zs ph c) {n : Nat} (hn : n < 8) (hv : c.2.1.1 n = none) (hQ : ∀ ph2, hMm zs ph2 c → hRd ph2 147 0 = 2 → hFd moP ph ph2 → Q (.inl (some (.inl 0)), ph2, g)) : xTC (d + 3) 168 [.inr (.inl (some 147)), .inl (n : Int)] ph g Q := by
  have hs := h.1
  obtain ⟨w1, w2, w3, w4⟩ := hSzS
  refine tEn (ls := [some (.inr (.inl (some 147))), some (.inl (n : Int)), none]) (fun k => by match k with | 0 => rfl | 1 => rfl | 2 => rfl | k + 3 => rfl) ?_
  refine tK (l := xk_168) rfl rfl (fun _ _ _ _ _ => rfl) ?_
  refine tK (l := xk_168) rfl rfl (fun _ _ _ _ _ => rfl) ?_
  refine tK (l := xk_168) rfl rfl (fun _ _ _ _ _ => rfl) ?_
  refine tCa (l := xk_168) rfl rfl (hInvV (c := 10) hs rfl rfl rfl rfl rfl (Nat.le_of_ble_eq_true rfl) (Nat.le_of_ble_eq_true rfl)) ?_
  refine s169n h hn hv ?_
  refine tKv ?_
  refine tCa (l := xk_168) rfl rfl (hInvV (c := 10) hs rfl rfl rfl rfl rfl (Nat.le_of_ble_eq_true rfl) (Nat.le_of_ble_eq_true rfl)) ?_
  refine s147n h (show (2 : Int) ≠ 0 by decide) (fun ph2 k2 e0 f2 => ?_)
  refine tKv ?_
  refine tIf_ne (l := xk_168) (pc' := 14) rfl rfl rfl (fun hc => ?_) (fun hc => ?_)
  · refine tK (l := xk_168) rfl rfl (fun _ _ _ _ _ => rfl) ?_
    refine tRt (l := xk_168) rfl rfl (fun _ _ _ _ _ => rfl) ?_
    exact hQ ph2 k2 e0 f2.mo
  · exact absurd rfl hc
theorem m168 (h : hMm zs ph c) {n : Nat} {v : List Int} (hn : n < 8) (hv : c.2.1.1 n = some v) (hQ : ∀ ph2, hMm zs ph2 (ndo c (setV c.2.1 n none)) → hRd ph2 147 0 = 0 → hFd moP ph ph2 → Q (.inl (some (.inl (v.length : Int))), ph2, g)) : xTC (d + 3) 168 [.inr (.inl (some 147)), .inl (n : Int)] ph g Q := by
  have hs := h.1
  obtain ⟨w1, w2, w3, w4⟩ := hSzS
  refine tEn (ls := [some (.inr (.inl (some 147))), some (.inl (n : Int)), none]) (fun k => by match k with | 0 => rfl | 1 => rfl | 2 => rfl | k + 3 => rfl) ?_
  refine tK (l := xk_168) rfl rfl (fun _ _ _ _ _ => rfl) ?_
  refine tK (l := xk_168) rfl rfl (fun _ _ _ _ _ => rfl) ?_
  refine tK (l := xk_168) rfl rfl (fun _ _ _ _ _ => rfl) ?_
  refine tCa (l := xk_168) rfl rfl (hInvV (c := 10) hs rfl rfl rfl rfl rfl (Nat.le_of_ble_eq_true rfl) (Nat.le_of_ble_eq_true rfl)) ?_
  refine s169 h hn hv ?_
  refine tKv ?_
  refine tCa (l := xk_168) rfl rfl (hInvV (c := 10) hs rfl rfl rfl rfl rfl (Nat.le_of_ble_eq_true rfl) (Nat.le_of_ble_eq_true rfl)) ?_
  refine s147z h (fun ph2 k2 e0 f2 => ?_)
  refine tKv ?_
  refine tIf_ne (l := xk_168) (pc' := 14) rfl rfl rfl (fun hc => ?_) (fun hc => ?_)
  · exact absurd hc (by decide)
  · refine tK (l := xk_168) rfl rfl (fun _ _ _ _ _ => rfl) ?_
    refine tCa (l := xk_168) rfl rfl (hInvV (c := 10) k2.1 rfl rfl rfl rfl rfl (Nat.le_of_ble_eq_true rfl) (Nat.le_of_ble_eq_true rfl)) ?_
    refine s166 k2 (fun ph3 k3 f3 => ?_)
    refine tKn ?_
    have e03 : hRd ph3 147 0 = 0 := by rw [f3.fl (by decide)]; exact e0
    have fd3 : hFd moP ph ph3 := f2.mo.trans f3.mo
    have s3 := k3.1
    refine tK (l := xk_168) rfl rfl (fun _ _ _ _ _ => rfl) ?_
    refine tK (l := xk_168) rfl rfl (fun _ _ _ _ _ => rfl) ?_
    refine tCa (l := xk_168) rfl rfl (hInvV (c := 10) k3.1 rfl rfl rfl rfl rfl (Nat.le_of_ble_eq_true rfl) (Nat.le_of_ble_eq_true rfl)) ?_
    refine s165 k3 hn ?_
    refine tKv ?_
    rw [show (ndo c c.2.1).2.1.1 n = some v from hv]
    simp only [hLo]
    refine tSt (l := xk_168) rfl rfl (fun _ _ _ _ _ => rfl) (Nat.le_of_ble_eq_true rfl) ?_
    refine tK (l := xk_168) rfl rfl (fun _ _ _ _ _ => rfl) ?_
    refine tK (l := xk_168) rfl rfl (hGetR (o := some 148) k3.1 rfl rfl rfl (by decide) (by decide) rfl) ?_
    refine tK (l := xk_168) rfl rfl (fun _ _ _ _ _ => rfl) ?_
    refine tK (l := xk_168) rfl rfl (fun _ _ _ _ _ => rfl) ?_
    refine tK (l := xk_168) rfl rfl (fun _ _ _ _ _ => rfl) ?_
    refine tK (l := xk_168) rfl rfl (hMul ⟨by omega, by omega⟩) ?_
    refine tK (l := xk_168) rfl rfl (hAdd ⟨by omega, by omega⟩) ?_
    rw [show (0 : Int) + 25 * (n : Int) = ((25 * n : Nat) : Int) by omega]
    refine tK (l := xk_168) rfl rfl (fun _ _ _ _ _ => rfl) ?_
    first | refine tK (l := xk_168) rfl rfl (hIastN k3.1 rfl rfl (by omega)) ?_ | refine tK (l := xk_168) rfl rfl (hIast k3.1 rfl (by omega) (by omega)) ?_
    refine tK (l := xk_168) rfl rfl (fun _ _ _ _ _ => rfl) ?_
    refine tRt (l := xk_168) rfl rfl (fun _ _ _ _ _ => rfl) ?_
    have r1 := hRd_up (x := (-1)) s3 (show hKi (hTg 148) (25 * n) = true from rfl) (by omega)
    have f4 : hFM [] [148] ph3 (hUp ph3 148 (25 * n) (-1)) := hFM_a s3 rfl (by omega) (by decide) (by decide)
    have key := k3.setv (v := none) (hShI1 _ s3 rfl rfl) hn f4 (⟨by rw [r1, if_pos ⟨rfl, rfl⟩]; rfl, fun s9 hs9 => by cases hs9⟩) (fun j hj => by rw [r1, if_neg (by omega)])
    exact hQ _ key (by rw [f4.fl (by decide)]; exact e03) (fd3.trans f4.mo)
theorem m170x (h : hMm zs ph c) {x : Int} (hx : ¬ (0 ≤ x ∧ x < 8)) (hQ : ∀ ph2, hMm zs ph2 c → hRd ph2 147 0 = 1 → hFd moP ph ph2 → Q (.inl (some (.inl 0)), ph2, g)) : xTC (d + 3) 170 [.inr (.inl (some 147)), .inl x] ph g Q := by
  have hs := h.1
  obtain ⟨w1, w2, w3, w4⟩ := hSzS
  refine tEn (ls := [some (.inr (.inl (some 147))), some (.inl x), none]) (fun k => by match k with | 0 => rfl | 1 => rfl | 2 => rfl | k + 3 => rfl) ?_
  refine tK (l := xk_170) rfl rfl (fun _ _ _ _ _ => rfl) ?_
  refine tK (l := xk_170) rfl rfl (fun _ _ _ _ _ => rfl) ?_
  refine tCa (l := xk_170) rfl rfl (hInvS rfl rfl rfl rfl (Nat.le_of_ble_eq_true rfl) (Nat.le_of_ble_eq_true rfl)) ?_
  refine s164x hx ?_
  refine tKv ?_
  refine tIf_eq (l := xk_170) (pc' := 12) rfl rfl rfl (fun hc => ?_) (fun hc => ?_)
  · refine tK (l := xk_170) rfl rfl (fun _ _ _ _ _ => rfl) ?_
    refine tCa (l := xk_170) rfl rfl (hInvV (c := 10) hs rfl rfl rfl rfl rfl (Nat.le_of_ble_eq_true rfl) (Nat.le_of_ble_eq_true rfl)) ?_
    refine s147n h (show (1 : Int) ≠ 0 by decide) (fun ph2 k2 e0 f2 => ?_)
    refine tKv ?_
    refine tIf_ne (l := xk_170) (pc' := 21) rfl rfl rfl (fun hc => ?_) (fun hc => ?_)
    · refine tK (l := xk_170) rfl rfl (fun _ _ _ _ _ => rfl) ?_
      refine tRt (l := xk_170) rfl rfl (fun _ _ _ _ _ => rfl) ?_
      exact hQ ph2 k2 e0 f2.mo
    · exact absurd rfl hc
  · exact absurd rfl hc
theorem m170 (h : hMm zs ph c) {n : Nat} {v : List Int} (hn : n < 8) (hv : c.2.1.1 n = some v) (hQ : ∀ ph2, hMm zs ph2 (ndo c (setV c.2.1 n (some []))) → hRd ph2 147 0 = 0 → hFd moP ph ph2 → Q (.inl (some (.inl (v.length : Int))), ph2, g)) : xTC (d + 3) 170 [.inr (.inl (some 147)), .inl (n : Int)] ph g Q := by
  have hs := h.1
  obtain ⟨w1, w2, w3, w4⟩ := hSzS
  refine tEn (ls := [some (.inr (.inl (some 147))), some (.inl (n : Int)), none]) (fun k => by match k with | 0 => rfl | 1 => rfl | 2 => rfl | k + 3 => rfl) ?_
  refine tK (l := xk_170) rfl rfl (fun _ _ _ _ _ => rfl) ?_
  refine tK (l := xk_170) rfl rfl (fun _ _ _ _ _ => rfl) ?_
  refine tCa (l := xk_170) rfl rfl (hInvS rfl rfl rfl rfl (Nat.le_of_ble_eq_true rfl) (Nat.le_of_ble_eq_true rfl)) ?_
  refine s164 hn ?_
  refine tKv ?_
  refine tIf_eq (l := xk_170) (pc' := 12) rfl rfl rfl (fun hc => ?_) (fun hc => ?_)
  · exact absurd hc (by decide)
  · refine tK (l := xk_170) rfl rfl (fun _ _ _ _ _ => rfl) ?_
    refine tK (l := xk_170) rfl rfl (fun _ _ _ _ _ => rfl) ?_
    refine tCa (l := xk_170) rfl rfl (hInvV (c := 10) hs rfl rfl rfl rfl rfl (Nat.le_of_ble_eq_true rfl) (Nat.le_of_ble_eq_true rfl)) ?_
    refine s147z h (fun ph2 k2 e0 f2 => ?_)
    refine tKv ?_
    refine tIf_ne (l := xk_170) (pc' := 21) rfl rfl rfl (fun hc => ?_) (fun hc => ?_)
    · exact absurd hc (by decide)
    · refine tK (l := xk_170) rfl rfl (fun _ _ _ _ _ => rfl) ?_
      refine tCa (l := xk_170) rfl rfl (hInvV (c := 10) k2.1 rfl rfl rfl rfl rfl (Nat.le_of_ble_eq_true rfl) (Nat.le_of_ble_eq_true rfl)) ?_
      refine s166 k2 (fun ph3 k3 f3 => ?_)
      refine tKn ?_
      have e03 : hRd ph3 147 0 = 0 := by rw [f3.fl (by decide)]; exact e0
      have fd3 : hFd moP ph ph3 := f2.mo.trans f3.mo
      have s3 := k3.1
      refine tK (l := xk_170) rfl rfl (fun _ _ _ _ _ => rfl) ?_
      refine tK (l := xk_170) rfl rfl (fun _ _ _ _ _ => rfl) ?_
      refine tCa (l := xk_170) rfl rfl (hInvV (c := 10) k3.1 rfl rfl rfl rfl rfl (Nat.le_of_ble_eq_true rfl) (Nat.le_of_ble_eq_true rfl)) ?_
      refine s167 k3 hn hv ?_
      refine tKv ?_
      refine tIf_eq (l := xk_170) (pc' := 41) rfl rfl rfl (fun hc => ?_) (fun hc => ?_)
      · exact absurd hc (by decide)
      · refine tK (l := xk_170) rfl rfl (fun _ _ _ _ _ => rfl) ?_
        refine tK (l := xk_170) rfl rfl (fun _ _ _ _ _ => rfl) ?_
        refine tCa (l := xk_170) rfl rfl (hInvV (c := 10) k3.1 rfl rfl rfl rfl rfl (Nat.le_of_ble_eq_true rfl) (Nat.le_of_ble_eq_true rfl)) ?_
        refine s165 k3 hn ?_
        refine tKv ?_
        rw [show (ndo c c.2.1).2.1.1 n = some v from hv]
        simp only [hLo]
        refine tK (l := xk_170) rfl rfl (fun _ _ _ _ _ => rfl) ?_
        refine tSt (l := xk_170) rfl rfl (fun _ _ _ _ _ => rfl) (Nat.le_of_ble_eq_true rfl) ?_
        refine tK (l := xk_170) rfl rfl (fun _ _ _ _ _ => rfl) ?_
        refine tK (l := xk_170) rfl rfl (hGetR (o := some 148) k3.1 rfl rfl rfl (by decide) (by decide) rfl) ?_
        refine tK (l := xk_170) rfl rfl (fun _ _ _ _ _ => rfl) ?_
        refine tK (l := xk_170) rfl rfl (fun _ _ _ _ _ => rfl) ?_
        refine tK (l := xk_170) rfl rfl (fun _ _ _ _ _ => rfl) ?_
        refine tK (l := xk_170) rfl rfl (hMul ⟨by omega, by omega⟩) ?_
        refine tK (l := xk_170) rfl rfl (hAdd ⟨by omega, by omega⟩) ?_
        rw [show (0 : Int) + 25 * (n : Int) = ((25 * n : Nat) : Int) by omega]
        refine tK (l := xk_170) rfl rfl (fun _ _ _ _ _ => rfl) ?_
        first | refine tK (l := xk_170) rfl rfl (hIastN k3.1 rfl rfl (by omega)) ?_ | refine tK (l := xk_170) rfl rfl (hIast k3.1 rfl (by omega) (by omega)) ?_
        refine tK (l := xk_170) rfl rfl (fun _ _ _ _ _ => rfl) ?_
        refine tRt (l := xk_170) rfl rfl (fun _ _ _ _ _ => rfl) ?_
        have r1 := hRd_up (x := 0) s3 (show hKi (hTg 148) (25 * n) = true from rfl) (by omega)
        have f4 : hFM [] [148] ph3 (hUp ph3 148 (25 * n) 0) := hFM_a s3 rfl (by omega) (by decide) (by decide)
        have key := k3.setv (v := (some [])) (hShI1 _ s3 rfl rfl) hn f4 (⟨by rw [r1, if_pos ⟨rfl, rfl⟩]; rfl, fun s9 hs9 => by cases hs9; exact ⟨Nat.zero_le _, fun i x hx => by simp at hx⟩⟩) (fun j hj => by rw [r1, if_neg (by omega)])
        exact hQ _ key (by rw [f4.fl (by decide)]; exact e03) (fd3.trans f4.mo)
theorem m170e (h : hMm zs ph c) {n : Nat} (hn : n < 8) (hv : c.2.1.1 n = none) (hQ : ∀ ph2, hMm zs ph2 (ndo c (setV c.2.1 n (some []))) → hRd ph2 147 0 = 0 → hFd moP ph ph2 → Q (.inl (some (.inl 0)), ph2, g)) : xTC (d + 3) 170 [.inr (.inl (some 147)), .inl (n : Int)] ph g Q := by
  have hs := h.1
  obtain ⟨w1, w2, w3, w4⟩ := hSzS
  refine tEn (ls := [some (.inr (.inl (some 147))), some (.inl (n : Int)), none]) (fun k => by match k with | 0 => rfl | 1 => rfl | 2 => rfl | k + 3 => rfl) ?_
  refine tK (l := xk_170) rfl rfl (fun _ _ _ _ _ => rfl) ?_
  refine tK (l := xk_170) rfl rfl (fun _ _ _ _ _ => rfl) ?_
  refine tCa (l := xk_170) rfl rfl (hInvS rfl rfl rfl rfl (Nat.le_of_ble_eq_true rfl) (Nat.le_of_ble_eq_true rfl)) ?_
  refine s164 hn ?_
  refine tKv ?_
  refine tIf_eq (l := xk_170) (pc' := 12) rfl rfl rfl (fun hc => ?_) (fun hc => ?_)
  · exact absurd hc (by decide)
  · refine tK (l := xk_170) rfl rfl (fun _ _ _ _ _ => rfl) ?_
    refine tK (l := xk_170) rfl rfl (fun _ _ _ _ _ => rfl) ?_
    refine tCa (l := xk_170) rfl rfl (hInvV (c := 10) hs rfl rfl rfl rfl rfl (Nat.le_of_ble_eq_true rfl) (Nat.le_of_ble_eq_true rfl)) ?_
    refine s147z h (fun ph2 k2 e0 f2 => ?_)
    refine tKv ?_
    refine tIf_ne (l := xk_170) (pc' := 21) rfl rfl rfl (fun hc => ?_) (fun hc => ?_)
    · exact absurd hc (by decide)
    · refine tK (l := xk_170) rfl rfl (fun _ _ _ _ _ => rfl) ?_
      refine tCa (l := xk_170) rfl rfl (hInvV (c := 10) k2.1 rfl rfl rfl rfl rfl (Nat.le_of_ble_eq_true rfl) (Nat.le_of_ble_eq_true rfl)) ?_
      refine s166 k2 (fun ph3 k3 f3 => ?_)
      refine tKn ?_
      have e03 : hRd ph3 147 0 = 0 := by rw [f3.fl (by decide)]; exact e0
      have fd3 : hFd moP ph ph3 := f2.mo.trans f3.mo
      have s3 := k3.1
      refine tK (l := xk_170) rfl rfl (fun _ _ _ _ _ => rfl) ?_
      refine tK (l := xk_170) rfl rfl (fun _ _ _ _ _ => rfl) ?_
      refine tCa (l := xk_170) rfl rfl (hInvV (c := 10) k3.1 rfl rfl rfl rfl rfl (Nat.le_of_ble_eq_true rfl) (Nat.le_of_ble_eq_true rfl)) ?_
      refine s167n k3 hn hv ?_
      refine tKv ?_
      refine tIf_eq (l := xk_170) (pc' := 41) rfl rfl rfl (fun hc => ?_) (fun hc => ?_)
      · refine tK (l := xk_170) rfl rfl (fun _ _ _ _ _ => rfl) ?_
        refine tSt (l := xk_170) rfl rfl (fun _ _ _ _ _ => rfl) (Nat.le_of_ble_eq_true rfl) ?_
        refine tK (l := xk_170) rfl rfl (fun _ _ _ _ _ => rfl) ?_
        refine tK (l := xk_170) rfl rfl (hGetR (o := some 148) k3.1 rfl rfl rfl (by decide) (by decide) rfl) ?_
        refine tK (l := xk_170) rfl rfl (fun _ _ _ _ _ => rfl) ?_
        refine tK (l := xk_170) rfl rfl (fun _ _ _ _ _ => rfl) ?_
        refine tK (l := xk_170) rfl rfl (fun _ _ _ _ _ => rfl) ?_
        refine tK (l := xk_170) rfl rfl (hMul ⟨by omega, by omega⟩) ?_
        refine tK (l := xk_170) rfl rfl (hAdd ⟨by omega, by omega⟩) ?_
        rw [show (0 : Int) + 25 * (n : Int) = ((25 * n : Nat) : Int) by omega]
        refine tK (l := xk_170) rfl rfl (fun _ _ _ _ _ => rfl) ?_
        first | refine tK (l := xk_170) rfl rfl (hIastN k3.1 rfl rfl (by omega)) ?_ | refine tK (l := xk_170) rfl rfl (hIast k3.1 rfl (by omega) (by omega)) ?_
        refine tK (l := xk_170) rfl rfl (fun _ _ _ _ _ => rfl) ?_
        refine tRt (l := xk_170) rfl rfl (fun _ _ _ _ _ => rfl) ?_
        have r1 := hRd_up (x := 0) s3 (show hKi (hTg 148) (25 * n) = true from rfl) (by omega)
        have f4 : hFM [] [148] ph3 (hUp ph3 148 (25 * n) 0) := hFM_a s3 rfl (by omega) (by decide) (by decide)
        have key := k3.setv (v := (some [])) (hShI1 _ s3 rfl rfl) hn f4 (⟨by rw [r1, if_pos ⟨rfl, rfl⟩]; rfl, fun s9 hs9 => by cases hs9; exact ⟨Nat.zero_le _, fun i x hx => by simp at hx⟩⟩) (fun j hj => by rw [r1, if_neg (by omega)])
        exact hQ _ key (by rw [f4.fl (by decide)]; exact e03) (fd3.trans f4.mo)
      · exact absurd rfl hc
theorem m171x (h : hMm zs ph c) {x y : Int} (hx : ¬ (0 ≤ x ∧ x < 8)) (hQ : ∀ ph2, hMm zs ph2 c → hRd ph2 147 0 = 1 → hFd moP ph ph2 → Q (.inl (some (.inl 0)), ph2, g)) : xTC (d + 3) 171 [.inr (.inl (some 147)), .inl x, .inl y] ph g Q := by
  have hs := h.1
  obtain ⟨w1, w2, w3, w4⟩ := hSzS
  refine tEn (ls := [some (.inr (.inl (some 147))), some (.inl x), some (.inl y), none]) (fun k => by match k with | 0 => rfl | 1 => rfl | 2 => rfl | 3 => rfl | k + 4 => rfl) ?_
  refine tK (l := xk_171) rfl rfl (fun _ _ _ _ _ => rfl) ?_
  refine tK (l := xk_171) rfl rfl (fun _ _ _ _ _ => rfl) ?_
  refine tCa (l := xk_171) rfl rfl (hInvS rfl rfl rfl rfl (Nat.le_of_ble_eq_true rfl) (Nat.le_of_ble_eq_true rfl)) ?_
  refine s164x hx ?_
  refine tKv ?_
  refine tIf_eq (l := xk_171) (pc' := 15) rfl rfl rfl (fun hc => ?_) (fun hc => ?_)
  · refine tK (l := xk_171) rfl rfl (fun _ _ _ _ _ => rfl) ?_
    refine tK (l := xk_171) rfl rfl (fun _ _ _ _ _ => rfl) ?_
    refine tCa (l := xk_171) rfl rfl (hInvV (c := 10) hs rfl rfl rfl rfl rfl (Nat.le_of_ble_eq_true rfl) (Nat.le_of_ble_eq_true rfl)) ?_
    refine s147n h (show (1 : Int) ≠ 0 by decide) (fun ph2 k2 e0 f2 => ?_)
    refine tKv ?_
    refine tIf_ne (l := xk_171) (pc' := 40) rfl rfl rfl (fun hc => ?_) (fun hc => ?_)
    · refine tK (l := xk_171) rfl rfl (fun _ _ _ _ _ => rfl) ?_
      refine tRt (l := xk_171) rfl rfl (fun _ _ _ _ _ => rfl) ?_
      exact hQ ph2 k2 e0 f2.mo
    · exact absurd rfl hc
  · exact absurd rfl hc
theorem m171y (h : hMm zs ph c) {n : Nat} {y : Int} (hn : n < 8) (hy : ¬ (0 ≤ y ∧ y < 8)) (hQ : ∀ ph2, hMm zs ph2 c → hRd ph2 147 0 = 1 → hFd moP ph ph2 → Q (.inl (some (.inl 0)), ph2, g)) : xTC (d + 3) 171 [.inr (.inl (some 147)), .inl (n : Int), .inl y] ph g Q := by
  have hs := h.1
  obtain ⟨w1, w2, w3, w4⟩ := hSzS
  refine tEn (ls := [some (.inr (.inl (some 147))), some (.inl (n : Int)), some (.inl y), none]) (fun k => by match k with | 0 => rfl | 1 => rfl | 2 => rfl | 3 => rfl | k + 4 => rfl) ?_
  refine tK (l := xk_171) rfl rfl (fun _ _ _ _ _ => rfl) ?_
  refine tK (l := xk_171) rfl rfl (fun _ _ _ _ _ => rfl) ?_
  refine tCa (l := xk_171) rfl rfl (hInvS rfl rfl rfl rfl (Nat.le_of_ble_eq_true rfl) (Nat.le_of_ble_eq_true rfl)) ?_
  refine s164 hn ?_
  refine tKv ?_
  refine tIf_eq (l := xk_171) (pc' := 15) rfl rfl rfl (fun hc => ?_) (fun hc => ?_)
  · exact absurd hc (by decide)
  · refine tK (l := xk_171) rfl rfl (fun _ _ _ _ _ => rfl) ?_
    refine tCa (l := xk_171) rfl rfl (hInvS rfl rfl rfl rfl (Nat.le_of_ble_eq_true rfl) (Nat.le_of_ble_eq_true rfl)) ?_
    refine s164x hy ?_
    refine tKv ?_
    refine tIf_ne (l := xk_171) (pc' := 19) rfl rfl rfl (fun hc => ?_) (fun hc => ?_)
    · refine tK (l := xk_171) rfl rfl (fun _ _ _ _ _ => rfl) ?_
      refine tK (l := xk_171) rfl rfl (fun _ _ _ _ _ => rfl) ?_
      refine tCa (l := xk_171) rfl rfl (hInvV (c := 10) hs rfl rfl rfl rfl rfl (Nat.le_of_ble_eq_true rfl) (Nat.le_of_ble_eq_true rfl)) ?_
      refine s147n h (show (1 : Int) ≠ 0 by decide) (fun ph2 k2 e0 f2 => ?_)
      refine tKv ?_
      refine tIf_ne (l := xk_171) (pc' := 40) rfl rfl rfl (fun hc => ?_) (fun hc => ?_)
      · refine tK (l := xk_171) rfl rfl (fun _ _ _ _ _ => rfl) ?_
        refine tRt (l := xk_171) rfl rfl (fun _ _ _ _ _ => rfl) ?_
        exact hQ ph2 k2 e0 f2.mo
      · exact absurd rfl hc
    · exact absurd rfl hc
theorem m171n (h : hMm zs ph c) {n k : Nat} (hn : n < 8) (hk : k < 8) (hv : c.2.1.1 k = none) (hQ : ∀ ph2, hMm zs ph2 c → hRd ph2 147 0 = 2 → hFd moP ph ph2 → Q (.inl (some (.inl 0)), ph2, g)) : xTC (d + 3) 171 [.inr (.inl (some 147)), .inl (n : Int), .inl (k : Int)] ph g Q := by
  have hs := h.1
  obtain ⟨w1, w2, w3, w4⟩ := hSzS
  refine tEn (ls := [some (.inr (.inl (some 147))), some (.inl (n : Int)), some (.inl (k : Int)), none]) (fun k => by match k with | 0 => rfl | 1 => rfl | 2 => rfl | 3 => rfl | k + 4 => rfl) ?_
  refine tK (l := xk_171) rfl rfl (fun _ _ _ _ _ => rfl) ?_
  refine tK (l := xk_171) rfl rfl (fun _ _ _ _ _ => rfl) ?_
  refine tCa (l := xk_171) rfl rfl (hInvS rfl rfl rfl rfl (Nat.le_of_ble_eq_true rfl) (Nat.le_of_ble_eq_true rfl)) ?_
  refine s164 hn ?_
  refine tKv ?_
  refine tIf_eq (l := xk_171) (pc' := 15) rfl rfl rfl (fun hc => ?_) (fun hc => ?_)
  · exact absurd hc (by decide)
  · refine tK (l := xk_171) rfl rfl (fun _ _ _ _ _ => rfl) ?_
    refine tCa (l := xk_171) rfl rfl (hInvS rfl rfl rfl rfl (Nat.le_of_ble_eq_true rfl) (Nat.le_of_ble_eq_true rfl)) ?_
    refine s164 hk ?_
    refine tKv ?_
    refine tIf_ne (l := xk_171) (pc' := 19) rfl rfl rfl (fun hc => ?_) (fun hc => ?_)
    · exact absurd hc (by decide)
    · refine tK (l := xk_171) rfl rfl (fun _ _ _ _ _ => rfl) ?_
      refine tK (l := xk_171) rfl rfl (fun _ _ _ _ _ => rfl) ?_
      refine tCa (l := xk_171) rfl rfl (hInvV (c := 10) hs rfl rfl rfl rfl rfl (Nat.le_of_ble_eq_true rfl) (Nat.le_of_ble_eq_true rfl)) ?_
      refine s167n h hk hv ?_
      refine tKv ?_
      refine tIf_eq (l := xk_171) (pc' := 31) rfl rfl rfl (fun hc => ?_) (fun hc => ?_)
      · refine tK (l := xk_171) rfl rfl (fun _ _ _ _ _ => rfl) ?_
        refine tCa (l := xk_171) rfl rfl (hInvV (c := 10) hs rfl rfl rfl rfl rfl (Nat.le_of_ble_eq_true rfl) (Nat.le_of_ble_eq_true rfl)) ?_
        refine s147n h (show (2 : Int) ≠ 0 by decide) (fun ph2 k2 e0 f2 => ?_)
        refine tKv ?_
        refine tIf_ne (l := xk_171) (pc' := 40) rfl rfl rfl (fun hc => ?_) (fun hc => ?_)
        · refine tK (l := xk_171) rfl rfl (fun _ _ _ _ _ => rfl) ?_
          refine tRt (l := xk_171) rfl rfl (fun _ _ _ _ _ => rfl) ?_
          exact hQ ph2 k2 e0 f2.mo
        · exact absurd rfl hc
      · exact absurd rfl hc
theorem hMv.congr {ph : xH} {a o : Nat} {v w : Option (List Int)} (h : hMv ph a o v) (e : v = w) : hMv ph a o w := e ▸ h
theorem m171 (h : hMm zs ph c) {n k : Nat} {v : List Int} (hn : n < 8) (hk : k < 8) (hv : c.2.1.1 k = some v) (hQ : ∀ ph2, hMm zs ph2 (ndo c (setV c.2.1 n (some v))) → hRd ph2 147 0 = 0 → hFd moP ph ph2 → Q (.inl (some (.inl (v.length : Int))), ph2, g)) : xTC (d + 3) 171 [.inr (.inl (some 147)), .inl (n : Int), .inl (k : Int)] ph g Q := by
  have hs := h.1
  obtain ⟨w1, w2, w3, w4⟩ := hSzS
  refine tEn (ls := [some (.inr (.inl (some 147))), some (.inl (n : Int)), some (.inl (k : Int)), none]) (fun k => by match k with | 0 => rfl | 1 => rfl | 2 => rfl | 3 => rfl | k + 4 => rfl) ?_
  refine tK (l := xk_171) rfl rfl (fun _ _ _ _ _ => rfl) ?_
  refine tK (l := xk_171) rfl rfl (fun _ _ _ _ _ => rfl) ?_
  refine tCa (l := xk_171) rfl rfl (hInvS rfl rfl rfl rfl (Nat.le_of_ble_eq_true rfl) (Nat.le_of_ble_eq_true rfl)) ?_
  refine s164 hn ?_
  refine tKv ?_
  refine tIf_eq (l := xk_171) (pc' := 15) rfl rfl rfl (fun hc => ?_) (fun hc => ?_)
  · exact absurd hc (by decide)
  · refine tK (l := xk_171) rfl rfl (fun _ _ _ _ _ => rfl) ?_
    refine tCa (l := xk_171) rfl rfl (hInvS rfl rfl rfl rfl (Nat.le_of_ble_eq_true rfl) (Nat.le_of_ble_eq_true rfl)) ?_
    refine s164 hk ?_
    refine tKv ?_
    refine tIf_ne (l := xk_171) (pc' := 19) rfl rfl rfl (fun hc => ?_) (fun hc => ?_)
    · exact absurd hc (by decide)
    · refine tK (l := xk_171) rfl rfl (fun _ _ _ _ _ => rfl) ?_
      refine tK (l := xk_171) rfl rfl (fun _ _ _ _ _ => rfl) ?_
      refine tCa (l := xk_171) rfl rfl (hInvV (c := 10) hs rfl rfl rfl rfl rfl (Nat.le_of_ble_eq_true rfl) (Nat.le_of_ble_eq_true rfl)) ?_
      refine s167 h hk hv ?_
      refine tKv ?_
      refine tIf_eq (l := xk_171) (pc' := 31) rfl rfl rfl (fun hc => ?_) (fun hc => ?_)
      · exact absurd hc (by decide)
      · refine tK (l := xk_171) rfl rfl (fun _ _ _ _ _ => rfl) ?_
        refine tK (l := xk_171) rfl rfl (fun _ _ _ _ _ => rfl) ?_
        refine tCa (l := xk_171) rfl rfl (hInvV (c := 10) hs rfl rfl rfl rfl rfl (Nat.le_of_ble_eq_true rfl) (Nat.le_of_ble_eq_true rfl)) ?_
        refine s147z h (fun ph2 k2 e0 f2 => ?_)
        refine tKv ?_
        refine tIf_ne (l := xk_171) (pc' := 40) rfl rfl rfl (fun hc => ?_) (fun hc => ?_)
        · exact absurd hc (by decide)
        · refine tK (l := xk_171) rfl rfl (fun _ _ _ _ _ => rfl) ?_
          refine tCa (l := xk_171) rfl rfl (hInvV (c := 10) k2.1 rfl rfl rfl rfl rfl (Nat.le_of_ble_eq_true rfl) (Nat.le_of_ble_eq_true rfl)) ?_
          refine s166 k2 (fun ph3 k3 f3 => ?_)
          refine tKn ?_
          have e03 : hRd ph3 147 0 = 0 := by rw [f3.fl (by decide)]; exact e0
          have fd3 : hFd moP ph ph3 := f2.mo.trans f3.mo
          have s3 := k3.1
          refine tK (l := xk_171) rfl rfl (fun _ _ _ _ _ => rfl) ?_
          refine tSt (l := xk_171) rfl rfl (fun _ _ _ _ _ => rfl) (Nat.le_of_ble_eq_true rfl) ?_
          have loop : ∀ (m i : Nat) (phi : xH), i + m = 25 → hSh zs phi → hFM [] [148] ph3 phi → (∀ j, j < 25 → hRd phi 148 (25 * k + j) = hRd ph3 148 (25 * k + j)) → (∀ j, j < i → hRd phi 148 (25 * n + j) = hRd ph3 148 (25 * k + j)) → (∀ j, j < 25 * n ∨ 25 * n + 24 < j → hRd phi 148 j = hRd ph3 148 j) → xT (d + 3) 171 46 (xlo [some (.inr (.inl (some 147))), some (.inl (n : Int)), some (.inl (k : Int)), some (.inl (i : Int))]) [] phi g Q := by
            intro m
            induction m with
            | zero =>
              intro i phi him hs hf hk0 hnew ho
              have key := k3.setv (v := some v) hs hn hf (((k3.vmv hk).cp (fun j hj => hnew j (by omega))).congr hv) ho
              refine tK (l := xk_171) rfl rfl (fun _ _ _ _ _ => rfl) ?_
              refine tK (l := xk_171) rfl rfl (fun _ _ _ _ _ => rfl) ?_
              refine tIc_ge (l := xk_171) (pc' := 84) rfl rfl rfl (fun hc => ?_) (fun hc => ?_)
              · exfalso; omega
              · refine tK (l := xk_171) rfl rfl (fun _ _ _ _ _ => rfl) ?_
                refine tK (l := xk_171) rfl rfl (fun _ _ _ _ _ => rfl) ?_
                refine tCa (l := xk_171) rfl rfl (hInvV (c := 10) hs rfl rfl rfl rfl rfl (Nat.le_of_ble_eq_true rfl) (Nat.le_of_ble_eq_true rfl)) ?_
                refine s165 key hn ?_
                refine tKv ?_
                rw [show (setV (ndo c c.2.1).2.1 n (some v)).1 n = some v by simp [setV]]
                simp only [hLo]
                refine tRt (l := xk_171) rfl rfl (fun _ _ _ _ _ => rfl) ?_
                exact hQ _ key (by rw [hf.fl (by decide)]; exact e03) (fd3.trans hf.mo)
            | succ m ih =>
              intro i phi him hs hf hk0 hnew ho
              have e9 := hk0 i (by omega)
              refine tK (l := xk_171) rfl rfl (fun _ _ _ _ _ => rfl) ?_
              refine tK (l := xk_171) rfl rfl (fun _ _ _ _ _ => rfl) ?_
              refine tIc_ge (l := xk_171) (pc' := 84) rfl rfl rfl (fun hc => ?_) (fun hc => ?_)
              · refine tK (l := xk_171) rfl rfl (fun _ _ _ _ _ => rfl) ?_
                refine tK (l := xk_171) rfl rfl (hGetR (o := some 148) hs rfl rfl rfl (by decide) (by decide) rfl) ?_
                refine tK (l := xk_171) rfl rfl (fun _ _ _ _ _ => rfl) ?_
                refine tK (l := xk_171) rfl rfl (fun _ _ _ _ _ => rfl) ?_
                refine tK (l := xk_171) rfl rfl (fun _ _ _ _ _ => rfl) ?_
                refine tK (l := xk_171) rfl rfl (hMul ⟨by omega, by omega⟩) ?_
                refine tK (l := xk_171) rfl rfl (hAdd ⟨by omega, by omega⟩) ?_
                refine tK (l := xk_171) rfl rfl (fun _ _ _ _ _ => rfl) ?_
                refine tK (l := xk_171) rfl rfl (hAdd ⟨by omega, by omega⟩) ?_
                rw [show (0 : Int) + 25 * (n : Int) + (i : Int) = ((25 * n + i : Nat) : Int) by omega]
                refine tK (l := xk_171) rfl rfl (fun _ _ _ _ _ => rfl) ?_
                refine tK (l := xk_171) rfl rfl (hGetR (o := some 148) hs rfl rfl rfl (by decide) (by decide) rfl) ?_
                refine tK (l := xk_171) rfl rfl (fun _ _ _ _ _ => rfl) ?_
                refine tK (l := xk_171) rfl rfl (fun _ _ _ _ _ => rfl) ?_
                refine tK (l := xk_171) rfl rfl (fun _ _ _ _ _ => rfl) ?_
                refine tK (l := xk_171) rfl rfl (hMul ⟨by omega, by omega⟩) ?_
                refine tK (l := xk_171) rfl rfl (hAdd ⟨by omega, by omega⟩) ?_
                refine tK (l := xk_171) rfl rfl (fun _ _ _ _ _ => rfl) ?_
                refine tK (l := xk_171) rfl rfl (hAdd ⟨by omega, by omega⟩) ?_
                rw [show (0 : Int) + 25 * (k : Int) + (i : Int) = ((25 * k + i : Nat) : Int) by omega]
                first | refine tK (l := xk_171) rfl rfl (hIaldN hs rfl rfl (by omega)) ?_ | refine tK (l := xk_171) rfl rfl (hIald hs rfl (by omega) (by omega)) ?_
                rw [e9]
                first | refine tK (l := xk_171) rfl rfl (hIastN hs rfl rfl (by omega)) ?_ | refine tK (l := xk_171) rfl rfl (hIast hs rfl (by omega) (by omega)) ?_
                refine tSt (l := xk_171) rfl rfl (hIinc rfl (Nat.le_of_ble_eq_true rfl) ⟨by omega, by omega⟩) (Nat.le_of_ble_eq_true rfl) ?_
                refine tK (l := xk_171) rfl rfl (fun _ _ _ _ _ => rfl) ?_
                have rd := hRd_up (x := hRd ph3 148 (25 * k + i)) hs (show hKi (hTg 148) (25 * n + i) = true from rfl) (by omega)
                refine ih (i + 1) _ (by omega) (hShI1 _ hs rfl rfl) (hf.trans (hFM_a hs rfl (by omega) (by decide) (by decide))) (fun j hj => ?_) (fun j hj => ?_) (fun j hj => by rw [rd, if_neg (by omega)]; exact ho j hj)
                · rw [rd]
                  by_cases e : 25 * k + j = 25 * n + i
                  · rw [if_pos ⟨rfl, e⟩, show k = n by omega, show j = i by omega]
                  · rw [if_neg (fun q => e q.2)]; exact hk0 j hj
                · rw [rd]
                  by_cases e : j = i
                  · rw [if_pos ⟨rfl, by rw [e]⟩, e]
                  · rw [if_neg (by omega)]; exact hnew j (by omega)
              · exfalso; omega
          exact loop 25 0 ph3 (by omega) s3 hFM.refl (fun _ _ => rfl) (fun j hj => absurd hj (by omega)) (fun _ _ => rfl)
theorem m175x (h : hMm zs ph c) {x : Int} (hx : ¬ (0 ≤ x ∧ x < 8)) (hQ : ∀ ph2, hMm zs ph2 c → hRd ph2 147 0 = 1 → hFd moP ph ph2 → Q (.inl (some (.inl 0)), ph2, g)) : xTC (d + 3) 175 [.inr (.inl (some 147)), .inl x] ph g Q := by
  have hs := h.1
  obtain ⟨w1, w2, w3, w4⟩ := hSzS
  refine tEn (ls := [some (.inr (.inl (some 147))), some (.inl x), none]) (fun k => by match k with | 0 => rfl | 1 => rfl | 2 => rfl | k + 3 => rfl) ?_
  refine tK (l := xk_175) rfl rfl (fun _ _ _ _ _ => rfl) ?_
  refine tK (l := xk_175) rfl rfl (fun _ _ _ _ _ => rfl) ?_
  refine tCa (l := xk_175) rfl rfl (hInvS rfl rfl rfl rfl (Nat.le_of_ble_eq_true rfl) (Nat.le_of_ble_eq_true rfl)) ?_
  refine s164x hx ?_
  refine tKv ?_
  refine tIf_ne (l := xk_175) (pc' := 12) rfl rfl rfl (fun hc => ?_) (fun hc => ?_)
  · refine tK (l := xk_175) rfl rfl (fun _ _ _ _ _ => rfl) ?_
    refine tK (l := xk_175) rfl rfl (fun _ _ _ _ _ => rfl) ?_
    refine tCa (l := xk_175) rfl rfl (hInvV (c := 10) hs rfl rfl rfl rfl rfl (Nat.le_of_ble_eq_true rfl) (Nat.le_of_ble_eq_true rfl)) ?_
    refine s147n h (show (1 : Int) ≠ 0 by decide) (fun ph2 k2 e0 f2 => ?_)
    refine tKv ?_
    refine tIf_ne (l := xk_175) (pc' := 38) rfl rfl rfl (fun hc => ?_) (fun hc => ?_)
    · refine tK (l := xk_175) rfl rfl (fun _ _ _ _ _ => rfl) ?_
      refine tRt (l := xk_175) rfl rfl (fun _ _ _ _ _ => rfl) ?_
      exact hQ ph2 k2 e0 f2.mo
    · exact absurd rfl hc
  · exact absurd rfl hc
theorem m175n (h : hMm zs ph c) {n : Nat} (hn : n < 8) (hf : 24 < c.2.1.2.1.1.length) (hQ : ∀ ph2, hMm zs ph2 c → hRd ph2 147 0 = 2 → hFd moP ph ph2 → Q (.inl (some (.inl 0)), ph2, g)) : xTC (d + 3) 175 [.inr (.inl (some 147)), .inl (n : Int)] ph g Q := by
  have hs := h.1
  obtain ⟨w1, w2, w3, w4⟩ := hSzS
  have e9 : hRd ph 148 200 = (c.2.1.2.1.1.length : Int) := by have := h.2.1.2.1.1; rw [Nat.zero_add] at this; exact this
  refine tEn (ls := [some (.inr (.inl (some 147))), some (.inl (n : Int)), none]) (fun k => by match k with | 0 => rfl | 1 => rfl | 2 => rfl | k + 3 => rfl) ?_
  refine tK (l := xk_175) rfl rfl (fun _ _ _ _ _ => rfl) ?_
  refine tK (l := xk_175) rfl rfl (fun _ _ _ _ _ => rfl) ?_
  refine tCa (l := xk_175) rfl rfl (hInvS rfl rfl rfl rfl (Nat.le_of_ble_eq_true rfl) (Nat.le_of_ble_eq_true rfl)) ?_
  refine s164 hn ?_
  refine tKv ?_
  refine tIf_ne (l := xk_175) (pc' := 12) rfl rfl rfl (fun hc => ?_) (fun hc => ?_)
  · exact absurd hc (by decide)
  · refine tK (l := xk_175) rfl rfl (fun _ _ _ _ _ => rfl) ?_
    refine tK (l := xk_175) rfl rfl (hGetR (o := some 148) hs rfl rfl rfl (by decide) (by decide) rfl) ?_
    refine tK (l := xk_175) rfl rfl (fun _ _ _ _ _ => rfl) ?_
    first | refine tK (l := xk_175) rfl rfl (hIaldN hs rfl rfl (by omega)) ?_ | refine tK (l := xk_175) rfl rfl (hIald hs rfl (by omega) (by omega)) ?_
    rw [show Int.toNat 200 = 200 from rfl, e9]
    refine tK (l := xk_175) rfl rfl (fun _ _ _ _ _ => rfl) ?_
    refine tIc_le (l := xk_175) (pc' := 29) rfl rfl rfl (fun hc => ?_) (fun hc => ?_)
    · refine tK (l := xk_175) rfl rfl (fun _ _ _ _ _ => rfl) ?_
      refine tK (l := xk_175) rfl rfl (fun _ _ _ _ _ => rfl) ?_
      refine tCa (l := xk_175) rfl rfl (hInvV (c := 10) hs rfl rfl rfl rfl rfl (Nat.le_of_ble_eq_true rfl) (Nat.le_of_ble_eq_true rfl)) ?_
      refine s147n h (show (2 : Int) ≠ 0 by decide) (fun ph2 k2 e0 f2 => ?_)
      refine tKv ?_
      refine tIf_ne (l := xk_175) (pc' := 38) rfl rfl rfl (fun hc => ?_) (fun hc => ?_)
      · refine tK (l := xk_175) rfl rfl (fun _ _ _ _ _ => rfl) ?_
        refine tRt (l := xk_175) rfl rfl (fun _ _ _ _ _ => rfl) ?_
        exact hQ ph2 k2 e0 f2.mo
      · exact absurd rfl hc
    · exfalso; omega
theorem m175 (h : hMm zs ph c) {n : Nat} (hn : n < 8) (hf24 : c.2.1.2.1.1.length ≤ 24) (hQ : ∀ ph2, hMm zs ph2 (ndo c (setV c.2.1 n (some c.2.1.2.1.1))) → hRd ph2 147 0 = 0 → hFd moP ph ph2 → Q (.inl (some (.inl (c.2.1.2.1.1.length : Int))), ph2, g)) : xTC (d + 3) 175 [.inr (.inl (some 147)), .inl (n : Int)] ph g Q := by
  have hs := h.1
  obtain ⟨w1, w2, w3, w4⟩ := hSzS
  have e9 : hRd ph 148 200 = (c.2.1.2.1.1.length : Int) := by have := h.2.1.2.1.1; rw [Nat.zero_add] at this; exact this
  refine tEn (ls := [some (.inr (.inl (some 147))), some (.inl (n : Int)), none]) (fun k => by match k with | 0 => rfl | 1 => rfl | 2 => rfl | k + 3 => rfl) ?_
  refine tK (l := xk_175) rfl rfl (fun _ _ _ _ _ => rfl) ?_
  refine tK (l := xk_175) rfl rfl (fun _ _ _ _ _ => rfl) ?_
  refine tCa (l := xk_175) rfl rfl (hInvS rfl rfl rfl rfl (Nat.le_of_ble_eq_true rfl) (Nat.le_of_ble_eq_true rfl)) ?_
  refine s164 hn ?_
  refine tKv ?_
  refine tIf_ne (l := xk_175) (pc' := 12) rfl rfl rfl (fun hc => ?_) (fun hc => ?_)
  · exact absurd hc (by decide)
  · refine tK (l := xk_175) rfl rfl (fun _ _ _ _ _ => rfl) ?_
    refine tK (l := xk_175) rfl rfl (hGetR (o := some 148) hs rfl rfl rfl (by decide) (by decide) rfl) ?_
    refine tK (l := xk_175) rfl rfl (fun _ _ _ _ _ => rfl) ?_
    first | refine tK (l := xk_175) rfl rfl (hIaldN hs rfl rfl (by omega)) ?_ | refine tK (l := xk_175) rfl rfl (hIald hs rfl (by omega) (by omega)) ?_
    rw [show Int.toNat 200 = 200 from rfl, e9]
    refine tK (l := xk_175) rfl rfl (fun _ _ _ _ _ => rfl) ?_
    refine tIc_le (l := xk_175) (pc' := 29) rfl rfl rfl (fun hc => ?_) (fun hc => ?_)
    · exfalso; omega
    · refine tK (l := xk_175) rfl rfl (fun _ _ _ _ _ => rfl) ?_
      refine tCa (l := xk_175) rfl rfl (hInvV (c := 10) hs rfl rfl rfl rfl rfl (Nat.le_of_ble_eq_true rfl) (Nat.le_of_ble_eq_true rfl)) ?_
      refine s147z h (fun ph2 k2 e0 f2 => ?_)
      refine tKv ?_
      refine tIf_ne (l := xk_175) (pc' := 38) rfl rfl rfl (fun hc => ?_) (fun hc => ?_)
      · exact absurd hc (by decide)
      · refine tK (l := xk_175) rfl rfl (fun _ _ _ _ _ => rfl) ?_
        refine tCa (l := xk_175) rfl rfl (hInvV (c := 10) k2.1 rfl rfl rfl rfl rfl (Nat.le_of_ble_eq_true rfl) (Nat.le_of_ble_eq_true rfl)) ?_
        refine s166 k2 (fun ph3 k3 f3 => ?_)
        refine tKn ?_
        have e03 : hRd ph3 147 0 = 0 := by rw [f3.fl (by decide)]; exact e0
        have fd3 : hFd moP ph ph3 := f2.mo.trans f3.mo
        have s3 := k3.1
        have e93 : hRd ph3 148 200 = (c.2.1.2.1.1.length : Int) := by have := k3.2.1.2.1.1; rw [Nat.zero_add] at this; exact this
        have ech : ∀ (i : Nat) (x : Int), c.2.1.2.1.1[i]? = some x → hRd ph3 148 (201 + i) = x := fun i x hx => by have := k3.2.1.2.1.2.2 i x hx; rw [Nat.zero_add] at this; exact this
        refine tK (l := xk_175) rfl rfl (fun _ _ _ _ _ => rfl) ?_
        refine tK (l := xk_175) rfl rfl (hGetR (o := some 148) k3.1 rfl rfl rfl (by decide) (by decide) rfl) ?_
        refine tK (l := xk_175) rfl rfl (fun _ _ _ _ _ => rfl) ?_
        refine tK (l := xk_175) rfl rfl (fun _ _ _ _ _ => rfl) ?_
        refine tK (l := xk_175) rfl rfl (fun _ _ _ _ _ => rfl) ?_
        refine tK (l := xk_175) rfl rfl (hMul ⟨by omega, by omega⟩) ?_
        refine tK (l := xk_175) rfl rfl (hAdd ⟨by omega, by omega⟩) ?_
        rw [show (0 : Int) + 25 * (n : Int) = ((25 * n : Nat) : Int) by omega]
        refine tK (l := xk_175) rfl rfl (fun _ _ _ _ _ => rfl) ?_
        refine tK (l := xk_175) rfl rfl (hGetR (o := some 148) k3.1 rfl rfl rfl (by decide) (by decide) rfl) ?_
        refine tK (l := xk_175) rfl rfl (fun _ _ _ _ _ => rfl) ?_
        first | refine tK (l := xk_175) rfl rfl (hIaldN k3.1 rfl rfl (by omega)) ?_ | refine tK (l := xk_175) rfl rfl (hIald k3.1 rfl (by omega) (by omega)) ?_
        rw [show Int.toNat 200 = 200 from rfl, e93]
        first | refine tK (l := xk_175) rfl rfl (hIastN k3.1 rfl rfl (by omega)) ?_ | refine tK (l := xk_175) rfl rfl (hIast k3.1 rfl (by omega) (by omega)) ?_
        refine tK (l := xk_175) rfl rfl (fun _ _ _ _ _ => rfl) ?_
        refine tSt (l := xk_175) rfl rfl (fun _ _ _ _ _ => rfl) (Nat.le_of_ble_eq_true rfl) ?_
        have u1 : hSh zs (hUp ph3 148 (25 * n) (c.2.1.2.1.1.length : Int)) := hShI1 _ s3 rfl rfl
        have r1 := hRd_up (x := (c.2.1.2.1.1.length : Int)) s3 (show hKi (hTg 148) (25 * n) = true from rfl) (by omega)
        have f1 : hFM [] [148] ph3 (hUp ph3 148 (25 * n) (c.2.1.2.1.1.length : Int)) := hFM_a s3 rfl (by omega) (by decide) (by decide)
        have loop : ∀ (m i : Nat) (phi : xH), i + m = c.2.1.2.1.1.length → hSh zs phi → hFM [] [148] ph3 phi → hRd phi 148 (25 * n) = (c.2.1.2.1.1.length : Int) → (∀ (j : Nat) (x : Int), j < i → c.2.1.2.1.1[j]? = some x → hRd phi 148 (25 * n + 1 + j) = x) → (∀ j, j < 25 * n ∨ 25 * n + 24 < j → hRd phi 148 j = hRd ph3 148 j) → xT (d + 3) 175 63 (xlo [some (.inr (.inl (some 147))), some (.inl (n : Int)), some (.inl (i : Int))]) [] phi g Q := by
          intro m
          induction m with
          | zero =>
            intro i phi him hs hf h0 hnew ho
            have e94 : hRd phi 148 200 = (c.2.1.2.1.1.length : Int) := by rw [ho 200 (by omega)]; exact e93
            have key := k3.setv (v := some c.2.1.2.1.1) hs hn hf ⟨h0, fun s9 hs9 => by cases hs9; exact ⟨hf24, fun j x hx => hnew j x (by have := (List.getElem?_eq_some_iff.mp hx).1; omega) hx⟩⟩ ho
            refine tK (l := xk_175) rfl rfl (fun _ _ _ _ _ => rfl) ?_
            refine tK (l := xk_175) rfl rfl (fun _ _ _ _ _ => rfl) ?_
            refine tK (l := xk_175) rfl rfl (hGetR (o := some 148) hs rfl rfl rfl (by decide) (by decide) rfl) ?_
            refine tK (l := xk_175) rfl rfl (fun _ _ _ _ _ => rfl) ?_
            first | refine tK (l := xk_175) rfl rfl (hIaldN hs rfl rfl (by omega)) ?_ | refine tK (l := xk_175) rfl rfl (hIald hs rfl (by omega) (by omega)) ?_
            rw [show Int.toNat 200 = 200 from rfl, e94]
            refine tIc_ge (l := xk_175) (pc' := 106) rfl rfl rfl (fun hc => ?_) (fun hc => ?_)
            · exfalso; omega
            · refine tK (l := xk_175) rfl rfl (fun _ _ _ _ _ => rfl) ?_
              refine tK (l := xk_175) rfl rfl (hGetR (o := some 148) hs rfl rfl rfl (by decide) (by decide) rfl) ?_
              refine tK (l := xk_175) rfl rfl (fun _ _ _ _ _ => rfl) ?_
              first | refine tK (l := xk_175) rfl rfl (hIaldN hs rfl rfl (by omega)) ?_ | refine tK (l := xk_175) rfl rfl (hIald hs rfl (by omega) (by omega)) ?_
              refine tRt (l := xk_175) rfl rfl (fun _ _ _ _ _ => rfl) ?_
              have hq := hQ _ key (by rw [hf.fl (by decide)]; exact e03) (fd3.trans hf.mo)
              rw [← e94] at hq
              exact hq
          | succ m ih =>
            intro i phi him hs hf h0 hnew ho
            have e94 : hRd phi 148 200 = (c.2.1.2.1.1.length : Int) := by rw [ho 200 (by omega)]; exact e93
            obtain ⟨x, hx⟩ : ∃ x, c.2.1.2.1.1[i]? = some x := ⟨_, List.getElem?_eq_getElem (by omega)⟩
            have e95 : hRd phi 148 (201 + i) = x := by rw [ho (201 + i) (by omega)]; exact ech i x hx
            refine tK (l := xk_175) rfl rfl (fun _ _ _ _ _ => rfl) ?_
            refine tK (l := xk_175) rfl rfl (fun _ _ _ _ _ => rfl) ?_
            refine tK (l := xk_175) rfl rfl (hGetR (o := some 148) hs rfl rfl rfl (by decide) (by decide) rfl) ?_
            refine tK (l := xk_175) rfl rfl (fun _ _ _ _ _ => rfl) ?_
            first | refine tK (l := xk_175) rfl rfl (hIaldN hs rfl rfl (by omega)) ?_ | refine tK (l := xk_175) rfl rfl (hIald hs rfl (by omega) (by omega)) ?_
            rw [show Int.toNat 200 = 200 from rfl, e94]
            refine tIc_ge (l := xk_175) (pc' := 106) rfl rfl rfl (fun hc => ?_) (fun hc => ?_)
            · refine tK (l := xk_175) rfl rfl (fun _ _ _ _ _ => rfl) ?_
              refine tK (l := xk_175) rfl rfl (hGetR (o := some 148) hs rfl rfl rfl (by decide) (by decide) rfl) ?_
              refine tK (l := xk_175) rfl rfl (fun _ _ _ _ _ => rfl) ?_
              refine tK (l := xk_175) rfl rfl (fun _ _ _ _ _ => rfl) ?_
              refine tK (l := xk_175) rfl rfl (fun _ _ _ _ _ => rfl) ?_
              refine tK (l := xk_175) rfl rfl (hMul ⟨by omega, by omega⟩) ?_
              refine tK (l := xk_175) rfl rfl (hAdd ⟨by omega, by omega⟩) ?_
              refine tK (l := xk_175) rfl rfl (fun _ _ _ _ _ => rfl) ?_
              refine tK (l := xk_175) rfl rfl (hAdd ⟨by omega, by omega⟩) ?_
              refine tK (l := xk_175) rfl rfl (fun _ _ _ _ _ => rfl) ?_
              refine tK (l := xk_175) rfl rfl (hAdd ⟨by omega, by omega⟩) ?_
              rw [show (0 : Int) + 25 * (n : Int) + 1 + (i : Int) = ((25 * n + 1 + i : Nat) : Int) by omega]
              refine tK (l := xk_175) rfl rfl (fun _ _ _ _ _ => rfl) ?_
              refine tK (l := xk_175) rfl rfl (hGetR (o := some 148) hs rfl rfl rfl (by decide) (by decide) rfl) ?_
              refine tK (l := xk_175) rfl rfl (fun _ _ _ _ _ => rfl) ?_
              refine tK (l := xk_175) rfl rfl (fun _ _ _ _ _ => rfl) ?_
              refine tK (l := xk_175) rfl rfl (hAdd ⟨by omega, by omega⟩) ?_
              rw [show (201 : Int) + (i : Int) = ((201 + i : Nat) : Int) by omega]
              first | refine tK (l := xk_175) rfl rfl (hIaldN hs rfl rfl (by omega)) ?_ | refine tK (l := xk_175) rfl rfl (hIald hs rfl (by omega) (by omega)) ?_
              rw [e95]
              first | refine tK (l := xk_175) rfl rfl (hIastN hs rfl rfl (by omega)) ?_ | refine tK (l := xk_175) rfl rfl (hIast hs rfl (by omega) (by omega)) ?_
              refine tSt (l := xk_175) rfl rfl (hIinc rfl (Nat.le_of_ble_eq_true rfl) ⟨by omega, by omega⟩) (Nat.le_of_ble_eq_true rfl) ?_
              refine tK (l := xk_175) rfl rfl (fun _ _ _ _ _ => rfl) ?_
              have rd := hRd_up (x := x) hs (show hKi (hTg 148) (25 * n + 1 + i) = true from rfl) (by omega)
              refine ih (i + 1) _ (by omega) (hShI1 _ hs rfl rfl) (hf.trans (hFM_a hs rfl (by omega) (by decide) (by decide))) (by rw [rd, if_neg (by omega)]; exact h0) (fun j x2 hj hx2 => ?_) (fun j hj => by rw [rd, if_neg (by omega)]; exact ho j hj)
              rw [rd]
              by_cases e : j = i
              · rw [if_pos ⟨rfl, by rw [e]⟩]; subst e; rw [hx] at hx2; exact Option.some.inj hx2
              · rw [if_neg (by omega)]; exact hnew j x2 (by omega) hx2
            · exfalso; omega
        exact loop c.2.1.2.1.1.length 0 _ (by omega) u1 f1 (by rw [r1, if_pos ⟨rfl, rfl⟩]) (fun j x hj => absurd hj (by omega)) (fun j hj => by rw [r1, if_neg (by omega)])
theorem m176x (h : hMm zs ph c) {x : Int} (hx : ¬ (0 ≤ x ∧ x < 8)) (hQ : ∀ ph2, hMm zs ph2 c → hRd ph2 147 0 = 1 → hFd moP ph ph2 → Q (.inl (some (.inl 0)), ph2, g)) : xTC (d + 3) 176 [.inr (.inl (some 147)), .inl x] ph g Q := by
  have hs := h.1
  obtain ⟨w1, w2, w3, w4⟩ := hSzS
  refine tEn (ls := [some (.inr (.inl (some 147))), some (.inl x), none]) (fun k => by match k with | 0 => rfl | 1 => rfl | 2 => rfl | k + 3 => rfl) ?_
  refine tK (l := xk_176) rfl rfl (fun _ _ _ _ _ => rfl) ?_
  refine tK (l := xk_176) rfl rfl (fun _ _ _ _ _ => rfl) ?_
  refine tCa (l := xk_176) rfl rfl (hInvS rfl rfl rfl rfl (Nat.le_of_ble_eq_true rfl) (Nat.le_of_ble_eq_true rfl)) ?_
  refine s164x hx ?_
  refine tKv ?_
  refine tIf_ne (l := xk_176) (pc' := 12) rfl rfl rfl (fun hc => ?_) (fun hc => ?_)
  · refine tK (l := xk_176) rfl rfl (fun _ _ _ _ _ => rfl) ?_
    refine tK (l := xk_176) rfl rfl (fun _ _ _ _ _ => rfl) ?_
    refine tCa (l := xk_176) rfl rfl (hInvV (c := 10) hs rfl rfl rfl rfl rfl (Nat.le_of_ble_eq_true rfl) (Nat.le_of_ble_eq_true rfl)) ?_
    refine s147n h (show (1 : Int) ≠ 0 by decide) (fun ph2 k2 e0 f2 => ?_)
    refine tKv ?_
    refine tIf_ne (l := xk_176) (pc' := 34) rfl rfl rfl (fun hc => ?_) (fun hc => ?_)
    · refine tK (l := xk_176) rfl rfl (fun _ _ _ _ _ => rfl) ?_
      refine tRt (l := xk_176) rfl rfl (fun _ _ _ _ _ => rfl) ?_
      exact hQ ph2 k2 e0 f2.mo
    · exact absurd rfl hc
  · exact absurd rfl hc
theorem m176n (h : hMm zs ph c) {n : Nat} (hn : n < 8) (hf : 24 < c.1.length) (hQ : ∀ ph2, hMm zs ph2 c → hRd ph2 147 0 = 2 → hFd moP ph ph2 → Q (.inl (some (.inl 0)), ph2, g)) : xTC (d + 3) 176 [.inr (.inl (some 147)), .inl (n : Int)] ph g Q := by
  have hs := h.1
  obtain ⟨w1, w2, w3, w4⟩ := hSzS
  have e9 : hRd ph 147 7 = (c.1.length : Int) := h.2.2.2.2.1
  refine tEn (ls := [some (.inr (.inl (some 147))), some (.inl (n : Int)), none]) (fun k => by match k with | 0 => rfl | 1 => rfl | 2 => rfl | k + 3 => rfl) ?_
  refine tK (l := xk_176) rfl rfl (fun _ _ _ _ _ => rfl) ?_
  refine tK (l := xk_176) rfl rfl (fun _ _ _ _ _ => rfl) ?_
  refine tCa (l := xk_176) rfl rfl (hInvS rfl rfl rfl rfl (Nat.le_of_ble_eq_true rfl) (Nat.le_of_ble_eq_true rfl)) ?_
  refine s164 hn ?_
  refine tKv ?_
  refine tIf_ne (l := xk_176) (pc' := 12) rfl rfl rfl (fun hc => ?_) (fun hc => ?_)
  · exact absurd hc (by decide)
  · refine tK (l := xk_176) rfl rfl (fun _ _ _ _ _ => rfl) ?_
    refine tK (l := xk_176) rfl rfl (hGetI hs rfl rfl rfl (by decide) (by decide)) ?_
    rw [e9]
    refine tK (l := xk_176) rfl rfl (fun _ _ _ _ _ => rfl) ?_
    refine tIc_le (l := xk_176) (pc' := 25) rfl rfl rfl (fun hc => ?_) (fun hc => ?_)
    · refine tK (l := xk_176) rfl rfl (fun _ _ _ _ _ => rfl) ?_
      refine tK (l := xk_176) rfl rfl (fun _ _ _ _ _ => rfl) ?_
      refine tCa (l := xk_176) rfl rfl (hInvV (c := 10) hs rfl rfl rfl rfl rfl (Nat.le_of_ble_eq_true rfl) (Nat.le_of_ble_eq_true rfl)) ?_
      refine s147n h (show (2 : Int) ≠ 0 by decide) (fun ph2 k2 e0 f2 => ?_)
      refine tKv ?_
      refine tIf_ne (l := xk_176) (pc' := 34) rfl rfl rfl (fun hc => ?_) (fun hc => ?_)
      · refine tK (l := xk_176) rfl rfl (fun _ _ _ _ _ => rfl) ?_
        refine tRt (l := xk_176) rfl rfl (fun _ _ _ _ _ => rfl) ?_
        exact hQ ph2 k2 e0 f2.mo
      · exact absurd rfl hc
    · exfalso; omega
theorem m176 (h : hMm zs ph c) {n : Nat} (hn : n < 8) (hf24 : c.1.length ≤ 24) (hQ : ∀ ph2, hMm zs ph2 (ndo c (setV c.2.1 n (some c.1))) → hRd ph2 147 0 = 0 → hFd moP ph ph2 → Q (.inl (some (.inl (c.1.length : Int))), ph2, g)) : xTC (d + 3) 176 [.inr (.inl (some 147)), .inl (n : Int)] ph g Q := by
  have hs := h.1
  obtain ⟨w1, w2, w3, w4⟩ := hSzS
  have e9 : hRd ph 147 7 = (c.1.length : Int) := h.2.2.2.2.1
  refine tEn (ls := [some (.inr (.inl (some 147))), some (.inl (n : Int)), none]) (fun k => by match k with | 0 => rfl | 1 => rfl | 2 => rfl | k + 3 => rfl) ?_
  refine tK (l := xk_176) rfl rfl (fun _ _ _ _ _ => rfl) ?_
  refine tK (l := xk_176) rfl rfl (fun _ _ _ _ _ => rfl) ?_
  refine tCa (l := xk_176) rfl rfl (hInvS rfl rfl rfl rfl (Nat.le_of_ble_eq_true rfl) (Nat.le_of_ble_eq_true rfl)) ?_
  refine s164 hn ?_
  refine tKv ?_
  refine tIf_ne (l := xk_176) (pc' := 12) rfl rfl rfl (fun hc => ?_) (fun hc => ?_)
  · exact absurd hc (by decide)
  · refine tK (l := xk_176) rfl rfl (fun _ _ _ _ _ => rfl) ?_
    refine tK (l := xk_176) rfl rfl (hGetI hs rfl rfl rfl (by decide) (by decide)) ?_
    rw [e9]
    refine tK (l := xk_176) rfl rfl (fun _ _ _ _ _ => rfl) ?_
    refine tIc_le (l := xk_176) (pc' := 25) rfl rfl rfl (fun hc => ?_) (fun hc => ?_)
    · exfalso; omega
    · refine tK (l := xk_176) rfl rfl (fun _ _ _ _ _ => rfl) ?_
      refine tCa (l := xk_176) rfl rfl (hInvV (c := 10) hs rfl rfl rfl rfl rfl (Nat.le_of_ble_eq_true rfl) (Nat.le_of_ble_eq_true rfl)) ?_
      refine s147z h (fun ph2 k2 e0 f2 => ?_)
      refine tKv ?_
      refine tIf_ne (l := xk_176) (pc' := 34) rfl rfl rfl (fun hc => ?_) (fun hc => ?_)
      · exact absurd hc (by decide)
      · refine tK (l := xk_176) rfl rfl (fun _ _ _ _ _ => rfl) ?_
        refine tCa (l := xk_176) rfl rfl (hInvV (c := 10) k2.1 rfl rfl rfl rfl rfl (Nat.le_of_ble_eq_true rfl) (Nat.le_of_ble_eq_true rfl)) ?_
        refine s166 k2 (fun ph3 k3 f3 => ?_)
        refine tKn ?_
        have e03 : hRd ph3 147 0 = 0 := by rw [f3.fl (by decide)]; exact e0
        have fd3 : hFd moP ph ph3 := f2.mo.trans f3.mo
        have s3 := k3.1
        have e93 : hRd ph3 147 7 = (c.1.length : Int) := k3.2.2.2.2.1
        have ech : ∀ (i : Nat) (x : Int), c.1[i]? = some x → hRd ph3 151 i = x := k3.2.2.2.2.2.2
        refine tK (l := xk_176) rfl rfl (fun _ _ _ _ _ => rfl) ?_
        refine tK (l := xk_176) rfl rfl (hGetR (o := some 148) k3.1 rfl rfl rfl (by decide) (by decide) rfl) ?_
        refine tK (l := xk_176) rfl rfl (fun _ _ _ _ _ => rfl) ?_
        refine tK (l := xk_176) rfl rfl (fun _ _ _ _ _ => rfl) ?_
        refine tK (l := xk_176) rfl rfl (fun _ _ _ _ _ => rfl) ?_
        refine tK (l := xk_176) rfl rfl (hMul ⟨by omega, by omega⟩) ?_
        refine tK (l := xk_176) rfl rfl (hAdd ⟨by omega, by omega⟩) ?_
        rw [show (0 : Int) + 25 * (n : Int) = ((25 * n : Nat) : Int) by omega]
        refine tK (l := xk_176) rfl rfl (fun _ _ _ _ _ => rfl) ?_
        refine tK (l := xk_176) rfl rfl (hGetI k3.1 rfl rfl rfl (by decide) (by decide)) ?_
        rw [e93]
        first | refine tK (l := xk_176) rfl rfl (hIastN k3.1 rfl rfl (by omega)) ?_ | refine tK (l := xk_176) rfl rfl (hIast k3.1 rfl (by omega) (by omega)) ?_
        refine tK (l := xk_176) rfl rfl (fun _ _ _ _ _ => rfl) ?_
        refine tSt (l := xk_176) rfl rfl (fun _ _ _ _ _ => rfl) (Nat.le_of_ble_eq_true rfl) ?_
        have u1 : hSh zs (hUp ph3 148 (25 * n) (c.1.length : Int)) := hShI1 _ s3 rfl rfl
        have r1 := hRd_up (x := (c.1.length : Int)) s3 (show hKi (hTg 148) (25 * n) = true from rfl) (by omega)
        have f1 : hFM [] [148] ph3 (hUp ph3 148 (25 * n) (c.1.length : Int)) := hFM_a s3 rfl (by omega) (by decide) (by decide)
        have loop : ∀ (m i : Nat) (phi : xH), i + m = c.1.length → hSh zs phi → hFM [] [148] ph3 phi → hRd phi 148 (25 * n) = (c.1.length : Int) → (∀ (j : Nat) (x : Int), j < i → c.1[j]? = some x → hRd phi 148 (25 * n + 1 + j) = x) → (∀ j, j < 25 * n ∨ 25 * n + 24 < j → hRd phi 148 j = hRd ph3 148 j) → xT (d + 3) 176 55 (xlo [some (.inr (.inl (some 147))), some (.inl (n : Int)), some (.inl (i : Int))]) [] phi g Q := by
          intro m
          induction m with
          | zero =>
            intro i phi him hs hf h0 hnew ho
            have e94 : hRd phi 147 7 = (c.1.length : Int) := by rw [hf.fl (by decide)]; exact e93
            have key := k3.setv (v := some c.1) hs hn hf ⟨h0, fun s9 hs9 => by cases hs9; exact ⟨hf24, fun j x hx => hnew j x (by have := (List.getElem?_eq_some_iff.mp hx).1; omega) hx⟩⟩ ho
            refine tK (l := xk_176) rfl rfl (fun _ _ _ _ _ => rfl) ?_
            refine tK (l := xk_176) rfl rfl (fun _ _ _ _ _ => rfl) ?_
            refine tK (l := xk_176) rfl rfl (hGetI hs rfl rfl rfl (by decide) (by decide)) ?_
            rw [e94]
            refine tIc_ge (l := xk_176) (pc' := 90) rfl rfl rfl (fun hc => ?_) (fun hc => ?_)
            · exfalso; omega
            · refine tK (l := xk_176) rfl rfl (fun _ _ _ _ _ => rfl) ?_
              refine tK (l := xk_176) rfl rfl (hGetI hs rfl rfl rfl (by decide) (by decide)) ?_
              refine tRt (l := xk_176) rfl rfl (fun _ _ _ _ _ => rfl) ?_
              have hq := hQ _ key (by rw [hf.fl (by decide)]; exact e03) (fd3.trans hf.mo)
              rw [← e94] at hq
              exact hq
          | succ m ih =>
            intro i phi him hs hf h0 hnew ho
            have e94 : hRd phi 147 7 = (c.1.length : Int) := by rw [hf.fl (by decide)]; exact e93
            obtain ⟨x, hx⟩ : ∃ x, c.1[i]? = some x := ⟨_, List.getElem?_eq_getElem (by omega)⟩
            have e95 : hRd phi 151 i = x := by rw [hf.at (by decide)]; exact ech i x hx
            refine tK (l := xk_176) rfl rfl (fun _ _ _ _ _ => rfl) ?_
            refine tK (l := xk_176) rfl rfl (fun _ _ _ _ _ => rfl) ?_
            refine tK (l := xk_176) rfl rfl (hGetI hs rfl rfl rfl (by decide) (by decide)) ?_
            rw [e94]
            refine tIc_ge (l := xk_176) (pc' := 90) rfl rfl rfl (fun hc => ?_) (fun hc => ?_)
            · refine tK (l := xk_176) rfl rfl (fun _ _ _ _ _ => rfl) ?_
              refine tK (l := xk_176) rfl rfl (hGetR (o := some 148) hs rfl rfl rfl (by decide) (by decide) rfl) ?_
              refine tK (l := xk_176) rfl rfl (fun _ _ _ _ _ => rfl) ?_
              refine tK (l := xk_176) rfl rfl (fun _ _ _ _ _ => rfl) ?_
              refine tK (l := xk_176) rfl rfl (fun _ _ _ _ _ => rfl) ?_
              refine tK (l := xk_176) rfl rfl (hMul ⟨by omega, by omega⟩) ?_
              refine tK (l := xk_176) rfl rfl (hAdd ⟨by omega, by omega⟩) ?_
              refine tK (l := xk_176) rfl rfl (fun _ _ _ _ _ => rfl) ?_
              refine tK (l := xk_176) rfl rfl (hAdd ⟨by omega, by omega⟩) ?_
              refine tK (l := xk_176) rfl rfl (fun _ _ _ _ _ => rfl) ?_
              refine tK (l := xk_176) rfl rfl (hAdd ⟨by omega, by omega⟩) ?_
              rw [show (0 : Int) + 25 * (n : Int) + 1 + (i : Int) = ((25 * n + 1 + i : Nat) : Int) by omega]
              refine tK (l := xk_176) rfl rfl (fun _ _ _ _ _ => rfl) ?_
              refine tK (l := xk_176) rfl rfl (hGetR (o := some 151) hs rfl rfl rfl (by decide) (by decide) rfl) ?_
              refine tK (l := xk_176) rfl rfl (fun _ _ _ _ _ => rfl) ?_
              first | refine tK (l := xk_176) rfl rfl (hIaldN hs rfl rfl (by omega)) ?_ | refine tK (l := xk_176) rfl rfl (hIald hs rfl (by omega) (by omega)) ?_
              rw [e95]
              first | refine tK (l := xk_176) rfl rfl (hIastN hs rfl rfl (by omega)) ?_ | refine tK (l := xk_176) rfl rfl (hIast hs rfl (by omega) (by omega)) ?_
              refine tSt (l := xk_176) rfl rfl (hIinc rfl (Nat.le_of_ble_eq_true rfl) ⟨by omega, by omega⟩) (Nat.le_of_ble_eq_true rfl) ?_
              refine tK (l := xk_176) rfl rfl (fun _ _ _ _ _ => rfl) ?_
              have rd := hRd_up (x := x) hs (show hKi (hTg 148) (25 * n + 1 + i) = true from rfl) (by omega)
              refine ih (i + 1) _ (by omega) (hShI1 _ hs rfl rfl) (hf.trans (hFM_a hs rfl (by omega) (by decide) (by decide))) (by rw [rd, if_neg (by omega)]; exact h0) (fun j x2 hj hx2 => ?_) (fun j hj => by rw [rd, if_neg (by omega)]; exact ho j hj)
              rw [rd]
              by_cases e : j = i
              · rw [if_pos ⟨rfl, by rw [e]⟩]; subst e; rw [hx] at hx2; exact Option.some.inj hx2
              · rw [if_neg (by omega)]; exact hnew j x2 (by omega) hx2
            · exfalso; omega
        exact loop c.1.length 0 _ (by omega) u1 f1 (by rw [r1, if_pos ⟨rfl, rfl⟩]) (fun j x hj => absurd hj (by omega)) (fun j hj => by rw [r1, if_neg (by omega)])
end MC3
