/-! ===== low, cell, signOf ===== -/
def lo (v n : Int) : Int := (Int32.ofInt v &&& Int32.ofInt 2147483647).toInt % n
theorem and31 (v : Int) : 0 ≤ (Int32.ofInt v &&& Int32.ofInt 2147483647).toInt := by
  have h : ((Int32.ofInt v).toBitVec &&& 2147483647#32).toNat < 2147483648 := by
    rw [BitVec.toNat_and]
    exact Nat.lt_of_le_of_lt Nat.and_le_right (by decide)
  show 0 ≤ ((Int32.ofInt v).toBitVec &&& (Int32.ofInt 2147483647).toBitVec).toInt
  rw [show (Int32.ofInt 2147483647).toBitVec = 2147483647#32 by decide, BitVec.toInt_eq_toNat_of_lt (by omega)]
  omega
theorem lo_in {v n : Int} (h : 0 < n) : 0 ≤ lo v n ∧ lo v n < n := ⟨Int.emod_nonneg _ (by omega), Int.emod_lt_of_pos _ h⟩
section SML
variable {zs : List xV} {R : xH} {s : KS × KS} {xo : Int} {d g B : Nat} {Q : xR → Prop}
theorem kLow {v n : Int} (hn : 0 < n) (hQ : Q (.inl (some (.inl (lo v n))), R, g)) : xTC d 100 [.inl v, .inl n] R g Q := by
  refine tEn (ls := [some (.inl v), some (.inl n)]) (fun k => by match k with | 0 => rfl | 1 => rfl | k + 2 => rfl) ?_
  refine tK (l := xk_100) rfl rfl (fun _ _ _ _ _ => rfl) ?_
  refine tK (l := xk_100) rfl rfl (fun _ _ _ _ _ => rfl) ?_
  refine tK (l := xk_100) rfl rfl (fun _ _ _ _ _ => rfl) ?_
  refine tK (l := xk_100) rfl rfl (fun _ _ _ _ _ => rfl) ?_
  refine tK (l := xk_100) rfl rfl (hRem ⟨and31 v, hn⟩) ?_
  refine tRt (l := xk_100) rfl rfl (fun _ _ _ _ _ => rfl) ?_
  exact hQ
theorem kCell {i : Nat} (hR : hPP zs R s xo) (hz : zs.length ≤ 260) (hzi : ∀ v ∈ zs, ∃ x : Int, v = .inl x ∧ xin x) (hi : i < 60) (hQ : ∀ x : Int, Q (.inl (some (.inl x)), R, g)) : xTC d 97 [.inr (.inl (some 0)), .inl (i : Int)] R g Q := by
  refine tEn (ls := [some (.inr (.inl (some 0))), some (.inl (i : Int))]) (fun k => by match k with | 0 => rfl | 1 => rfl | k + 2 => rfl) ?_
  have hm : 0 ≤ 7919 * ((i : Int) + 7) * ((i : Int) + 1117) ∧ 7919 * ((i : Int) + 7) * ((i : Int) + 1117) ≤ 2147483647 := by
    have h : ∀ i : Nat, i < 60 → 0 ≤ 7919 * ((i : Int) + 7) * ((i : Int) + 1117) ∧ 7919 * ((i : Int) + 7) * ((i : Int) + 1117) ≤ 2147483647 := by decide
    exact h i hi
  refine tK (l := xk_97) rfl rfl (fun _ _ _ _ _ => rfl) ?_
  refine tK (l := xk_97) rfl rfl (fun _ _ _ _ _ => rfl) ?_
  refine tK (l := xk_97) rfl rfl (kLen hR (by omega)) ?_
  refine tIc_ge (l := xk_97) (pc' := 12) rfl rfl rfl (fun hc => ?_) (fun hc => ?_)
  · skip
    have hlt : i < zs.length := by omega
    obtain ⟨x, hx, -⟩ := hzi _ (List.getElem_mem hlt)
    have hx2 : zs[i]? = some (.inl x) := by rw [List.getElem?_eq_getElem hlt, hx]
    refine tK (l := xk_97) rfl rfl (fun _ _ _ _ _ => rfl) ?_
    refine tK (l := xk_97) rfl rfl (fun _ _ _ _ _ => rfl) ?_
    refine tK (l := xk_97) rfl rfl (kScr hR hx2) ?_
    refine tK (l := xk_97) rfl rfl (fun _ _ _ _ _ => rfl) ?_
    refine tRt (l := xk_97) rfl rfl (fun _ _ _ _ _ => rfl) ?_
    exact hQ _
  · skip
    refine tK (l := xk_97) rfl rfl (fun _ _ _ _ _ => rfl) ?_
    refine tK (l := xk_97) rfl rfl (fun _ _ _ _ _ => rfl) ?_
    refine tK (l := xk_97) rfl rfl (fun _ _ _ _ _ => rfl) ?_
    refine tK (l := xk_97) rfl rfl (hAdd ⟨by omega, by omega⟩) ?_
    refine tK (l := xk_97) rfl rfl (hMul ⟨by omega, by omega⟩) ?_
    refine tK (l := xk_97) rfl rfl (fun _ _ _ _ _ => rfl) ?_
    refine tK (l := xk_97) rfl rfl (fun _ _ _ _ _ => rfl) ?_
    refine tK (l := xk_97) rfl rfl (hAdd ⟨by omega, by omega⟩) ?_
    refine tK (l := xk_97) rfl rfl (hMul ⟨by omega, hm.2⟩) ?_
    refine tRt (l := xk_97) rfl rfl (fun _ _ _ _ _ => rfl) ?_
    exact hQ _
theorem kSign (x : Int) : ∃ y : Int, ∀ (d : Nat) (R : xH) (g : Nat) (Q : xR → Prop), Q (.inl (some (.inl y)), R, g) → xTC (d + 1) 103 [.inl x] R g Q := by
  have hk := lo_in (v := x) (n := 13) (by decide)
  by_cases h0 : lo x 13 < 3
  · refine ⟨123, fun d R g Q hQ => ?_⟩
    refine tEn (ls := [some (.inl x), none]) (fun k => by match k with | 0 => rfl | 1 => rfl | k + 2 => rfl) ?_
    refine tK (l := xk_103) rfl rfl (fun _ _ _ _ _ => rfl) ?_
    refine tK (l := xk_103) rfl rfl (fun _ _ _ _ _ => rfl) ?_
    refine tCa (l := xk_103) rfl rfl (hInvS rfl rfl rfl rfl (Nat.le_of_ble_eq_true rfl) (Nat.le_of_ble_eq_true rfl)) ?_
    refine kLow (by decide) ?_
    refine tKv ?_
    refine tSt (l := xk_103) rfl rfl (fun _ _ _ _ _ => rfl) (Nat.le_of_ble_eq_true rfl) ?_
    refine tK (l := xk_103) rfl rfl (fun _ _ _ _ _ => rfl) ?_
    refine tK (l := xk_103) rfl rfl (fun _ _ _ _ _ => rfl) ?_
    refine tIc_ge (l := xk_103) (pc' := 17) rfl rfl rfl (fun hc => ?_) (fun hc => ?_)
    rotate_left
    · exfalso
      omega
    refine tK (l := xk_103) rfl rfl (fun _ _ _ _ _ => rfl) ?_
    refine tK (l := xk_103) rfl rfl (fun _ _ _ _ _ => rfl) ?_
    refine tRt (l := xk_103) rfl rfl (fun _ _ _ _ _ => rfl) ?_
    exact hQ
  · by_cases h1 : lo x 13 = 3
    · refine ⟨125, fun d R g Q hQ => ?_⟩
      refine tEn (ls := [some (.inl x), none]) (fun k => by match k with | 0 => rfl | 1 => rfl | k + 2 => rfl) ?_
      refine tK (l := xk_103) rfl rfl (fun _ _ _ _ _ => rfl) ?_
      refine tK (l := xk_103) rfl rfl (fun _ _ _ _ _ => rfl) ?_
      refine tCa (l := xk_103) rfl rfl (hInvS rfl rfl rfl rfl (Nat.le_of_ble_eq_true rfl) (Nat.le_of_ble_eq_true rfl)) ?_
      refine kLow (by decide) ?_
      refine tKv ?_
      refine tSt (l := xk_103) rfl rfl (fun _ _ _ _ _ => rfl) (Nat.le_of_ble_eq_true rfl) ?_
      refine tK (l := xk_103) rfl rfl (fun _ _ _ _ _ => rfl) ?_
      refine tK (l := xk_103) rfl rfl (fun _ _ _ _ _ => rfl) ?_
      refine tIc_ge (l := xk_103) (pc' := 17) rfl rfl rfl (fun hc => ?_) (fun hc => ?_)
      · exfalso
        omega
      refine tK (l := xk_103) rfl rfl (fun _ _ _ _ _ => rfl) ?_
      refine tK (l := xk_103) rfl rfl (fun _ _ _ _ _ => rfl) ?_
      refine tIc_ne (l := xk_103) (pc' := 27) rfl rfl rfl (fun hc => ?_) (fun hc => ?_)
      rotate_left
      · exfalso
        omega
      refine tK (l := xk_103) rfl rfl (fun _ _ _ _ _ => rfl) ?_
      refine tK (l := xk_103) rfl rfl (fun _ _ _ _ _ => rfl) ?_
      refine tRt (l := xk_103) rfl rfl (fun _ _ _ _ _ => rfl) ?_
      exact hQ
    · by_cases h2 : lo x 13 = 4
      · refine ⟨126, fun d R g Q hQ => ?_⟩
        refine tEn (ls := [some (.inl x), none]) (fun k => by match k with | 0 => rfl | 1 => rfl | k + 2 => rfl) ?_
        refine tK (l := xk_103) rfl rfl (fun _ _ _ _ _ => rfl) ?_
        refine tK (l := xk_103) rfl rfl (fun _ _ _ _ _ => rfl) ?_
        refine tCa (l := xk_103) rfl rfl (hInvS rfl rfl rfl rfl (Nat.le_of_ble_eq_true rfl) (Nat.le_of_ble_eq_true rfl)) ?_
        refine kLow (by decide) ?_
        refine tKv ?_
        refine tSt (l := xk_103) rfl rfl (fun _ _ _ _ _ => rfl) (Nat.le_of_ble_eq_true rfl) ?_
        refine tK (l := xk_103) rfl rfl (fun _ _ _ _ _ => rfl) ?_
        refine tK (l := xk_103) rfl rfl (fun _ _ _ _ _ => rfl) ?_
        refine tIc_ge (l := xk_103) (pc' := 17) rfl rfl rfl (fun hc => ?_) (fun hc => ?_)
        · exfalso
          omega
        refine tK (l := xk_103) rfl rfl (fun _ _ _ _ _ => rfl) ?_
        refine tK (l := xk_103) rfl rfl (fun _ _ _ _ _ => rfl) ?_
        refine tIc_ne (l := xk_103) (pc' := 27) rfl rfl rfl (fun hc => ?_) (fun hc => ?_)
        · exfalso
          omega
        refine tK (l := xk_103) rfl rfl (fun _ _ _ _ _ => rfl) ?_
        refine tK (l := xk_103) rfl rfl (fun _ _ _ _ _ => rfl) ?_
        refine tIc_ne (l := xk_103) (pc' := 37) rfl rfl rfl (fun hc => ?_) (fun hc => ?_)
        rotate_left
        · exfalso
          omega
        refine tK (l := xk_103) rfl rfl (fun _ _ _ _ _ => rfl) ?_
        refine tK (l := xk_103) rfl rfl (fun _ _ _ _ _ => rfl) ?_
        refine tRt (l := xk_103) rfl rfl (fun _ _ _ _ _ => rfl) ?_
        exact hQ
      · by_cases h3 : lo x 13 = 5
        · refine ⟨94, fun d R g Q hQ => ?_⟩
          refine tEn (ls := [some (.inl x), none]) (fun k => by match k with | 0 => rfl | 1 => rfl | k + 2 => rfl) ?_
          refine tK (l := xk_103) rfl rfl (fun _ _ _ _ _ => rfl) ?_
          refine tK (l := xk_103) rfl rfl (fun _ _ _ _ _ => rfl) ?_
          refine tCa (l := xk_103) rfl rfl (hInvS rfl rfl rfl rfl (Nat.le_of_ble_eq_true rfl) (Nat.le_of_ble_eq_true rfl)) ?_
          refine kLow (by decide) ?_
          refine tKv ?_
          refine tSt (l := xk_103) rfl rfl (fun _ _ _ _ _ => rfl) (Nat.le_of_ble_eq_true rfl) ?_
          refine tK (l := xk_103) rfl rfl (fun _ _ _ _ _ => rfl) ?_
          refine tK (l := xk_103) rfl rfl (fun _ _ _ _ _ => rfl) ?_
          refine tIc_ge (l := xk_103) (pc' := 17) rfl rfl rfl (fun hc => ?_) (fun hc => ?_)
          · exfalso
            omega
          refine tK (l := xk_103) rfl rfl (fun _ _ _ _ _ => rfl) ?_
          refine tK (l := xk_103) rfl rfl (fun _ _ _ _ _ => rfl) ?_
          refine tIc_ne (l := xk_103) (pc' := 27) rfl rfl rfl (fun hc => ?_) (fun hc => ?_)
          · exfalso
            omega
          refine tK (l := xk_103) rfl rfl (fun _ _ _ _ _ => rfl) ?_
          refine tK (l := xk_103) rfl rfl (fun _ _ _ _ _ => rfl) ?_
          refine tIc_ne (l := xk_103) (pc' := 37) rfl rfl rfl (fun hc => ?_) (fun hc => ?_)
          · exfalso
            omega
          refine tK (l := xk_103) rfl rfl (fun _ _ _ _ _ => rfl) ?_
          refine tK (l := xk_103) rfl rfl (fun _ _ _ _ _ => rfl) ?_
          refine tIc_ne (l := xk_103) (pc' := 47) rfl rfl rfl (fun hc => ?_) (fun hc => ?_)
          rotate_left
          · exfalso
            omega
          refine tK (l := xk_103) rfl rfl (fun _ _ _ _ _ => rfl) ?_
          refine tK (l := xk_103) rfl rfl (fun _ _ _ _ _ => rfl) ?_
          refine tRt (l := xk_103) rfl rfl (fun _ _ _ _ _ => rfl) ?_
          exact hQ
        · by_cases h4 : lo x 13 = 6
          · refine ⟨42, fun d R g Q hQ => ?_⟩
            refine tEn (ls := [some (.inl x), none]) (fun k => by match k with | 0 => rfl | 1 => rfl | k + 2 => rfl) ?_
            refine tK (l := xk_103) rfl rfl (fun _ _ _ _ _ => rfl) ?_
            refine tK (l := xk_103) rfl rfl (fun _ _ _ _ _ => rfl) ?_
            refine tCa (l := xk_103) rfl rfl (hInvS rfl rfl rfl rfl (Nat.le_of_ble_eq_true rfl) (Nat.le_of_ble_eq_true rfl)) ?_
            refine kLow (by decide) ?_
            refine tKv ?_
            refine tSt (l := xk_103) rfl rfl (fun _ _ _ _ _ => rfl) (Nat.le_of_ble_eq_true rfl) ?_
            refine tK (l := xk_103) rfl rfl (fun _ _ _ _ _ => rfl) ?_
            refine tK (l := xk_103) rfl rfl (fun _ _ _ _ _ => rfl) ?_
            refine tIc_ge (l := xk_103) (pc' := 17) rfl rfl rfl (fun hc => ?_) (fun hc => ?_)
            · exfalso
              omega
            refine tK (l := xk_103) rfl rfl (fun _ _ _ _ _ => rfl) ?_
            refine tK (l := xk_103) rfl rfl (fun _ _ _ _ _ => rfl) ?_
            refine tIc_ne (l := xk_103) (pc' := 27) rfl rfl rfl (fun hc => ?_) (fun hc => ?_)
            · exfalso
              omega
            refine tK (l := xk_103) rfl rfl (fun _ _ _ _ _ => rfl) ?_
            refine tK (l := xk_103) rfl rfl (fun _ _ _ _ _ => rfl) ?_
            refine tIc_ne (l := xk_103) (pc' := 37) rfl rfl rfl (fun hc => ?_) (fun hc => ?_)
            · exfalso
              omega
            refine tK (l := xk_103) rfl rfl (fun _ _ _ _ _ => rfl) ?_
            refine tK (l := xk_103) rfl rfl (fun _ _ _ _ _ => rfl) ?_
            refine tIc_ne (l := xk_103) (pc' := 47) rfl rfl rfl (fun hc => ?_) (fun hc => ?_)
            · exfalso
              omega
            refine tK (l := xk_103) rfl rfl (fun _ _ _ _ _ => rfl) ?_
            refine tK (l := xk_103) rfl rfl (fun _ _ _ _ _ => rfl) ?_
            refine tIc_ne (l := xk_103) (pc' := 58) rfl rfl rfl (fun hc => ?_) (fun hc => ?_)
            rotate_left
            · exfalso
              omega
            refine tK (l := xk_103) rfl rfl (fun _ _ _ _ _ => rfl) ?_
            refine tK (l := xk_103) rfl rfl (fun _ _ _ _ _ => rfl) ?_
            refine tRt (l := xk_103) rfl rfl (fun _ _ _ _ _ => rfl) ?_
            exact hQ
          · by_cases h5 : lo x 13 = 7
            · refine ⟨107, fun d R g Q hQ => ?_⟩
              refine tEn (ls := [some (.inl x), none]) (fun k => by match k with | 0 => rfl | 1 => rfl | k + 2 => rfl) ?_
              refine tK (l := xk_103) rfl rfl (fun _ _ _ _ _ => rfl) ?_
              refine tK (l := xk_103) rfl rfl (fun _ _ _ _ _ => rfl) ?_
              refine tCa (l := xk_103) rfl rfl (hInvS rfl rfl rfl rfl (Nat.le_of_ble_eq_true rfl) (Nat.le_of_ble_eq_true rfl)) ?_
              refine kLow (by decide) ?_
              refine tKv ?_
              refine tSt (l := xk_103) rfl rfl (fun _ _ _ _ _ => rfl) (Nat.le_of_ble_eq_true rfl) ?_
              refine tK (l := xk_103) rfl rfl (fun _ _ _ _ _ => rfl) ?_
              refine tK (l := xk_103) rfl rfl (fun _ _ _ _ _ => rfl) ?_
              refine tIc_ge (l := xk_103) (pc' := 17) rfl rfl rfl (fun hc => ?_) (fun hc => ?_)
              · exfalso
                omega
              refine tK (l := xk_103) rfl rfl (fun _ _ _ _ _ => rfl) ?_
              refine tK (l := xk_103) rfl rfl (fun _ _ _ _ _ => rfl) ?_
              refine tIc_ne (l := xk_103) (pc' := 27) rfl rfl rfl (fun hc => ?_) (fun hc => ?_)
              · exfalso
                omega
              refine tK (l := xk_103) rfl rfl (fun _ _ _ _ _ => rfl) ?_
              refine tK (l := xk_103) rfl rfl (fun _ _ _ _ _ => rfl) ?_
              refine tIc_ne (l := xk_103) (pc' := 37) rfl rfl rfl (fun hc => ?_) (fun hc => ?_)
              · exfalso
                omega
              refine tK (l := xk_103) rfl rfl (fun _ _ _ _ _ => rfl) ?_
              refine tK (l := xk_103) rfl rfl (fun _ _ _ _ _ => rfl) ?_
              refine tIc_ne (l := xk_103) (pc' := 47) rfl rfl rfl (fun hc => ?_) (fun hc => ?_)
              · exfalso
                omega
              refine tK (l := xk_103) rfl rfl (fun _ _ _ _ _ => rfl) ?_
              refine tK (l := xk_103) rfl rfl (fun _ _ _ _ _ => rfl) ?_
              refine tIc_ne (l := xk_103) (pc' := 58) rfl rfl rfl (fun hc => ?_) (fun hc => ?_)
              · exfalso
                omega
              refine tK (l := xk_103) rfl rfl (fun _ _ _ _ _ => rfl) ?_
              refine tK (l := xk_103) rfl rfl (fun _ _ _ _ _ => rfl) ?_
              refine tIc_ne (l := xk_103) (pc' := 69) rfl rfl rfl (fun hc => ?_) (fun hc => ?_)
              rotate_left
              · exfalso
                omega
              refine tK (l := xk_103) rfl rfl (fun _ _ _ _ _ => rfl) ?_
              refine tK (l := xk_103) rfl rfl (fun _ _ _ _ _ => rfl) ?_
              refine tRt (l := xk_103) rfl rfl (fun _ _ _ _ _ => rfl) ?_
              exact hQ
            · refine ⟨97 + lo x 13 - 8, fun d R g Q hQ => ?_⟩
              refine tEn (ls := [some (.inl x), none]) (fun k => by match k with | 0 => rfl | 1 => rfl | k + 2 => rfl) ?_
              refine tK (l := xk_103) rfl rfl (fun _ _ _ _ _ => rfl) ?_
              refine tK (l := xk_103) rfl rfl (fun _ _ _ _ _ => rfl) ?_
              refine tCa (l := xk_103) rfl rfl (hInvS rfl rfl rfl rfl (Nat.le_of_ble_eq_true rfl) (Nat.le_of_ble_eq_true rfl)) ?_
              refine kLow (by decide) ?_
              refine tKv ?_
              refine tSt (l := xk_103) rfl rfl (fun _ _ _ _ _ => rfl) (Nat.le_of_ble_eq_true rfl) ?_
              refine tK (l := xk_103) rfl rfl (fun _ _ _ _ _ => rfl) ?_
              refine tK (l := xk_103) rfl rfl (fun _ _ _ _ _ => rfl) ?_
              refine tIc_ge (l := xk_103) (pc' := 17) rfl rfl rfl (fun hc => ?_) (fun hc => ?_)
              · exfalso
                omega
              refine tK (l := xk_103) rfl rfl (fun _ _ _ _ _ => rfl) ?_
              refine tK (l := xk_103) rfl rfl (fun _ _ _ _ _ => rfl) ?_
              refine tIc_ne (l := xk_103) (pc' := 27) rfl rfl rfl (fun hc => ?_) (fun hc => ?_)
              · exfalso
                omega
              refine tK (l := xk_103) rfl rfl (fun _ _ _ _ _ => rfl) ?_
              refine tK (l := xk_103) rfl rfl (fun _ _ _ _ _ => rfl) ?_
              refine tIc_ne (l := xk_103) (pc' := 37) rfl rfl rfl (fun hc => ?_) (fun hc => ?_)
              · exfalso
                omega
              refine tK (l := xk_103) rfl rfl (fun _ _ _ _ _ => rfl) ?_
              refine tK (l := xk_103) rfl rfl (fun _ _ _ _ _ => rfl) ?_
              refine tIc_ne (l := xk_103) (pc' := 47) rfl rfl rfl (fun hc => ?_) (fun hc => ?_)
              · exfalso
                omega
              refine tK (l := xk_103) rfl rfl (fun _ _ _ _ _ => rfl) ?_
              refine tK (l := xk_103) rfl rfl (fun _ _ _ _ _ => rfl) ?_
              refine tIc_ne (l := xk_103) (pc' := 58) rfl rfl rfl (fun hc => ?_) (fun hc => ?_)
              · exfalso
                omega
              refine tK (l := xk_103) rfl rfl (fun _ _ _ _ _ => rfl) ?_
              refine tK (l := xk_103) rfl rfl (fun _ _ _ _ _ => rfl) ?_
              refine tIc_ne (l := xk_103) (pc' := 69) rfl rfl rfl (fun hc => ?_) (fun hc => ?_)
              · exfalso
                omega
              refine tK (l := xk_103) rfl rfl (fun _ _ _ _ _ => rfl) ?_
              refine tK (l := xk_103) rfl rfl (fun _ _ _ _ _ => rfl) ?_
              refine tK (l := xk_103) rfl rfl (hAdd ⟨by omega, by omega⟩) ?_
              refine tK (l := xk_103) rfl rfl (fun _ _ _ _ _ => rfl) ?_
              refine tK (l := xk_103) rfl rfl (hSub ⟨by omega, by omega⟩) ?_
              refine tRt (l := xk_103) rfl rfl (fun _ _ _ _ _ => rfl) ?_
              exact hQ
/-! ===== changes ===== -/
theorem kch_0 (b : Bool) {a y : Int} (hR : hPP zs R s xo) (ok : okK 1000 (gt2 b s)) (hQ : ∀ R2 res, CH (gt2 b s).1 (gt2 b s).2.1 a y 0 res → hPP zs R2 (pt2 b s (app (gt2 b s) res)) (ouR xo res) → Q (.inl (some (.inl (cdR res))), R2, g + exR res)) : xTC (d + 1225) 101 [.inr (.inl (some (ob b))), .inl 0, .inl a, .inl y, .inr (.inl (some 293))] R g Q := by
  refine tEn (ls := [some (.inr (.inl (some (ob b)))), some (.inl 0), some (.inl a), some (.inl y), some (.inr (.inl (some 293))), none]) (fun k => by match k with | 0 => rfl | 1 => rfl | 2 => rfl | 3 => rfl | 4 => rfl | 5 => rfl | k + 6 => rfl) ?_
  refine tK (l := xk_101) rfl rfl (fun _ _ _ _ _ => rfl) ?_
  refine tK (l := xk_101) rfl rfl (fun _ _ _ _ _ => rfl) ?_
  refine tK (l := xk_101) rfl rfl (fun _ _ _ _ _ => rfl) ?_
  refine tIf_ne (l := xk_101) (pc' := 16) rfl rfl rfl (fun hc => ?_) (fun hc => ?_)
  rotate_left
  · exfalso
    omega
  refine tK (l := xk_101) rfl rfl (fun _ _ _ _ _ => rfl) ?_
  refine tK (l := xk_101) rfl rfl (fun _ _ _ _ _ => rfl) ?_
  refine tK (l := xk_101) rfl rfl (fun _ _ _ _ _ => rfl) ?_
  refine tCa (l := xk_101) rfl rfl (kInvV hR rfl rfl rfl rfl (Nat.le_of_ble_eq_true rfl) (Nat.le_of_ble_eq_true rfl)) ?_
  by_cases ha : 0 ≤ a ∧ a < 8
  · obtain ⟨n, rfl⟩ : ∃ n : Nat, a = (n : Int) := ⟨a.toNat, by omega⟩
    have hn : n < 8 := by omega
    by_cases hy : 33 ≤ y ∧ y ≤ 126
    · cases hv : (gt2 b s).2.1.1 n with
      | none =>
        refine k128e b hn hy hv hR (fun R2 h2 => ?_)
        refine tKv ?_
        refine tK (l := xk_101) rfl rfl (fun _ _ _ _ _ => rfl) ?_
        refine tK (l := xk_101) rfl rfl (kPut h2 _) ?_
        refine tK (l := xk_101) rfl rfl (fun _ _ _ _ _ => rfl) ?_
        refine tK (l := xk_101) rfl rfl (fun _ _ _ _ _ => rfl) ?_
        refine tRt (l := xk_101) rfl rfl (fun _ _ _ _ _ => rfl) ?_
        exact hQ _ (.inr (setV (gt2 b s).2.1 n (some [y]), 1)) (Or.inl ⟨by decide, by simp only [chF, Int.toNat_natCast]; rw [if_neg (by omega), if_neg (by omega), hv]⟩) (kOut h2 _).2
      | some v =>
        by_cases hf : v.length = 24
        · refine k128n b hn hy hv hf hR (fun R2 h2 => ?_)
          refine tKh (pc' := 114) (k := 5) (by decide +kernel) ?_
          refine tK (l := xk_101) rfl rfl (fun _ _ _ _ _ => rfl) ?_
          refine tRt (l := xk_101) rfl rfl (fun _ _ _ _ _ => rfl) ?_
          exact hQ _ (.inl 3) (Or.inl ⟨by decide, by simp only [chF, Int.toNat_natCast]; rw [if_neg (by omega), if_neg (by omega), hv]; simp only; rw [if_pos hf]⟩) (by rw [show app (gt2 b s) (.inl 3) = gt2 b s from rfl, pt2_gt]; exact h2)
        · have hl := (ok.2.1.1 n hn v hv).2
          refine k128 b hn hy hv (by omega) hR (fun R2 h2 => ?_)
          refine tKv ?_
          refine tK (l := xk_101) rfl rfl (fun _ _ _ _ _ => rfl) ?_
          refine tK (l := xk_101) rfl rfl (kPut h2 _) ?_
          refine tK (l := xk_101) rfl rfl (fun _ _ _ _ _ => rfl) ?_
          refine tK (l := xk_101) rfl rfl (fun _ _ _ _ _ => rfl) ?_
          refine tRt (l := xk_101) rfl rfl (fun _ _ _ _ _ => rfl) ?_
          exact hQ _ (.inr (setV (gt2 b s).2.1 n (some (v ++ [y])), ((v ++ [y]).length : Int))) (Or.inl ⟨by decide, by simp only [chF, Int.toNat_natCast]; rw [if_neg (by omega), if_neg (by omega), hv]; simp only; rw [if_neg hf]⟩) (kOut h2 _).2
    · refine k128y b hn hy hR (fun R2 h2 => ?_)
      refine tKh (pc' := 110) (k := 5) (by decide +kernel) ?_
      refine tK (l := xk_101) rfl rfl (fun _ _ _ _ _ => rfl) ?_
      refine tRt (l := xk_101) rfl rfl (fun _ _ _ _ _ => rfl) ?_
      exact hQ _ (.inl 2) (Or.inl ⟨by decide, by simp only [chF, Int.toNat_natCast]; rw [if_neg (by omega), if_pos hy]⟩) (by rw [show app (gt2 b s) (.inl 2) = gt2 b s from rfl, pt2_gt]; exact h2)
  · refine k128x b ha hR (fun R2 h2 => ?_)
    refine tKh (pc' := 106) (k := 5) (by decide +kernel) ?_
    refine tK (l := xk_101) rfl rfl (fun _ _ _ _ _ => rfl) ?_
    refine tRt (l := xk_101) rfl rfl (fun _ _ _ _ _ => rfl) ?_
    exact hQ _ (.inl 1) (Or.inl ⟨by decide, by simp only [chF, Int.toNat_natCast]; rw [if_pos ha]⟩) (by rw [show app (gt2 b s) (.inl 1) = gt2 b s from rfl, pt2_gt]; exact h2)
theorem kch_1 (b : Bool) {a y : Int} (hR : hPP zs R s xo) (ok : okK 1000 (gt2 b s)) (hQ : ∀ R2 res, CH (gt2 b s).1 (gt2 b s).2.1 a y 1 res → hPP zs R2 (pt2 b s (app (gt2 b s) res)) (ouR xo res) → Q (.inl (some (.inl (cdR res))), R2, g + exR res)) : xTC (d + 1225) 101 [.inr (.inl (some (ob b))), .inl 1, .inl a, .inl y, .inr (.inl (some 293))] R g Q := by
  refine tEn (ls := [some (.inr (.inl (some (ob b)))), some (.inl 1), some (.inl a), some (.inl y), some (.inr (.inl (some 293))), none]) (fun k => by match k with | 0 => rfl | 1 => rfl | 2 => rfl | 3 => rfl | 4 => rfl | 5 => rfl | k + 6 => rfl) ?_
  refine tK (l := xk_101) rfl rfl (fun _ _ _ _ _ => rfl) ?_
  refine tK (l := xk_101) rfl rfl (fun _ _ _ _ _ => rfl) ?_
  refine tK (l := xk_101) rfl rfl (fun _ _ _ _ _ => rfl) ?_
  refine tIf_ne (l := xk_101) (pc' := 16) rfl rfl rfl (fun hc => ?_) (fun hc => ?_)
  · exfalso
    omega
  refine tK (l := xk_101) rfl rfl (fun _ _ _ _ _ => rfl) ?_
  refine tK (l := xk_101) rfl rfl (fun _ _ _ _ _ => rfl) ?_
  refine tIc_ne (l := xk_101) (pc' := 29) rfl rfl rfl (fun hc => ?_) (fun hc => ?_)
  rotate_left
  · exfalso
    omega
  refine tK (l := xk_101) rfl rfl (fun _ _ _ _ _ => rfl) ?_
  refine tK (l := xk_101) rfl rfl (fun _ _ _ _ _ => rfl) ?_
  refine tCa (l := xk_101) rfl rfl (kInvV hR rfl rfl rfl rfl (Nat.le_of_ble_eq_true rfl) (Nat.le_of_ble_eq_true rfl)) ?_
  by_cases ha : 0 ≤ a ∧ a < 8
  · obtain ⟨n, rfl⟩ : ∃ n : Nat, a = (n : Int) := ⟨a.toNat, by omega⟩
    have hn : n < 8 := by omega
    cases hv : (gt2 b s).2.1.1 n with
    | none =>
      refine k129n b hn hv hR (fun R2 h2 => ?_)
      refine tKh (pc' := 114) (k := 5) (by decide +kernel) ?_
      refine tK (l := xk_101) rfl rfl (fun _ _ _ _ _ => rfl) ?_
      refine tRt (l := xk_101) rfl rfl (fun _ _ _ _ _ => rfl) ?_
      exact hQ _ (.inl 3) (Or.inl ⟨by decide, by simp only [chF, Int.toNat_natCast]; rw [if_neg (by omega), hv]⟩) (by rw [show app (gt2 b s) (.inl 3) = gt2 b s from rfl, pt2_gt]; exact h2)
    | some v =>
      refine k129 b hn hv hR (fun R2 h2 => ?_)
      refine tKv ?_
      refine tK (l := xk_101) rfl rfl (fun _ _ _ _ _ => rfl) ?_
      refine tK (l := xk_101) rfl rfl (kPut h2 _) ?_
      refine tK (l := xk_101) rfl rfl (fun _ _ _ _ _ => rfl) ?_
      refine tK (l := xk_101) rfl rfl (fun _ _ _ _ _ => rfl) ?_
      refine tRt (l := xk_101) rfl rfl (fun _ _ _ _ _ => rfl) ?_
      exact hQ _ (.inr (setV (gt2 b s).2.1 n none, (v.length : Int))) (Or.inl ⟨by decide, by simp only [chF, Int.toNat_natCast]; rw [if_neg (by omega), hv]⟩) (kOut h2 _).2
  · refine k129x b ha hR (fun R2 h2 => ?_)
    refine tKh (pc' := 106) (k := 5) (by decide +kernel) ?_
    refine tK (l := xk_101) rfl rfl (fun _ _ _ _ _ => rfl) ?_
    refine tRt (l := xk_101) rfl rfl (fun _ _ _ _ _ => rfl) ?_
    exact hQ _ (.inl 1) (Or.inl ⟨by decide, by simp only [chF, Int.toNat_natCast]; rw [if_pos ha]⟩) (by rw [show app (gt2 b s) (.inl 1) = gt2 b s from rfl, pt2_gt]; exact h2)
theorem kch_2 (b : Bool) {a y : Int} (hR : hPP zs R s xo) (ok : okK 1000 (gt2 b s)) (hQ : ∀ R2 res, CH (gt2 b s).1 (gt2 b s).2.1 a y 2 res → hPP zs R2 (pt2 b s (app (gt2 b s) res)) (ouR xo res) → Q (.inl (some (.inl (cdR res))), R2, g + exR res)) : xTC (d + 1225) 101 [.inr (.inl (some (ob b))), .inl 2, .inl a, .inl y, .inr (.inl (some 293))] R g Q := by
  refine tEn (ls := [some (.inr (.inl (some (ob b)))), some (.inl 2), some (.inl a), some (.inl y), some (.inr (.inl (some 293))), none]) (fun k => by match k with | 0 => rfl | 1 => rfl | 2 => rfl | 3 => rfl | 4 => rfl | 5 => rfl | k + 6 => rfl) ?_
  refine tK (l := xk_101) rfl rfl (fun _ _ _ _ _ => rfl) ?_
  refine tK (l := xk_101) rfl rfl (fun _ _ _ _ _ => rfl) ?_
  refine tK (l := xk_101) rfl rfl (fun _ _ _ _ _ => rfl) ?_
  refine tIf_ne (l := xk_101) (pc' := 16) rfl rfl rfl (fun hc => ?_) (fun hc => ?_)
  · exfalso
    omega
  refine tK (l := xk_101) rfl rfl (fun _ _ _ _ _ => rfl) ?_
  refine tK (l := xk_101) rfl rfl (fun _ _ _ _ _ => rfl) ?_
  refine tIc_ne (l := xk_101) (pc' := 29) rfl rfl rfl (fun hc => ?_) (fun hc => ?_)
  · exfalso
    omega
  refine tK (l := xk_101) rfl rfl (fun _ _ _ _ _ => rfl) ?_
  refine tK (l := xk_101) rfl rfl (fun _ _ _ _ _ => rfl) ?_
  refine tIc_ne (l := xk_101) (pc' := 42) rfl rfl rfl (fun hc => ?_) (fun hc => ?_)
  rotate_left
  · exfalso
    omega
  refine tK (l := xk_101) rfl rfl (fun _ _ _ _ _ => rfl) ?_
  refine tK (l := xk_101) rfl rfl (fun _ _ _ _ _ => rfl) ?_
  refine tCa (l := xk_101) rfl rfl (kInvV hR rfl rfl rfl rfl (Nat.le_of_ble_eq_true rfl) (Nat.le_of_ble_eq_true rfl)) ?_
  by_cases ha : 0 ≤ a ∧ a < 8
  · obtain ⟨n, rfl⟩ : ∃ n : Nat, a = (n : Int) := ⟨a.toNat, by omega⟩
    have hn : n < 8 := by omega
    refine k130 b hn hR (fun R2 h2 => ?_)
    refine tKv ?_
    refine tK (l := xk_101) rfl rfl (fun _ _ _ _ _ => rfl) ?_
    refine tK (l := xk_101) rfl rfl (kPut h2 _) ?_
    refine tK (l := xk_101) rfl rfl (fun _ _ _ _ _ => rfl) ?_
    refine tK (l := xk_101) rfl rfl (fun _ _ _ _ _ => rfl) ?_
    refine tRt (l := xk_101) rfl rfl (fun _ _ _ _ _ => rfl) ?_
    exact hQ _ (.inr (setV (gt2 b s).2.1 n (some []), ((((gt2 b s).2.1.1 n).getD []).length : Int))) (Or.inl ⟨by decide, by simp only [chF, Int.toNat_natCast]; rw [if_neg (by omega)]⟩) (kOut h2 _).2
  · refine k130x b ha hR (fun R2 h2 => ?_)
    refine tKh (pc' := 106) (k := 5) (by decide +kernel) ?_
    refine tK (l := xk_101) rfl rfl (fun _ _ _ _ _ => rfl) ?_
    refine tRt (l := xk_101) rfl rfl (fun _ _ _ _ _ => rfl) ?_
    exact hQ _ (.inl 1) (Or.inl ⟨by decide, by simp only [chF, Int.toNat_natCast]; rw [if_pos ha]⟩) (by rw [show app (gt2 b s) (.inl 1) = gt2 b s from rfl, pt2_gt]; exact h2)
theorem kch_3 (b : Bool) {a y : Int} (hR : hPP zs R s xo) (ok : okK 1000 (gt2 b s)) (hQ : ∀ R2 res, CH (gt2 b s).1 (gt2 b s).2.1 a y 3 res → hPP zs R2 (pt2 b s (app (gt2 b s) res)) (ouR xo res) → Q (.inl (some (.inl (cdR res))), R2, g + exR res)) : xTC (d + 1225) 101 [.inr (.inl (some (ob b))), .inl 3, .inl a, .inl y, .inr (.inl (some 293))] R g Q := by
  refine tEn (ls := [some (.inr (.inl (some (ob b)))), some (.inl 3), some (.inl a), some (.inl y), some (.inr (.inl (some 293))), none]) (fun k => by match k with | 0 => rfl | 1 => rfl | 2 => rfl | 3 => rfl | 4 => rfl | 5 => rfl | k + 6 => rfl) ?_
  refine tK (l := xk_101) rfl rfl (fun _ _ _ _ _ => rfl) ?_
  refine tK (l := xk_101) rfl rfl (fun _ _ _ _ _ => rfl) ?_
  refine tK (l := xk_101) rfl rfl (fun _ _ _ _ _ => rfl) ?_
  refine tIf_ne (l := xk_101) (pc' := 16) rfl rfl rfl (fun hc => ?_) (fun hc => ?_)
  · exfalso
    omega
  refine tK (l := xk_101) rfl rfl (fun _ _ _ _ _ => rfl) ?_
  refine tK (l := xk_101) rfl rfl (fun _ _ _ _ _ => rfl) ?_
  refine tIc_ne (l := xk_101) (pc' := 29) rfl rfl rfl (fun hc => ?_) (fun hc => ?_)
  · exfalso
    omega
  refine tK (l := xk_101) rfl rfl (fun _ _ _ _ _ => rfl) ?_
  refine tK (l := xk_101) rfl rfl (fun _ _ _ _ _ => rfl) ?_
  refine tIc_ne (l := xk_101) (pc' := 42) rfl rfl rfl (fun hc => ?_) (fun hc => ?_)
  · exfalso
    omega
  refine tK (l := xk_101) rfl rfl (fun _ _ _ _ _ => rfl) ?_
  refine tK (l := xk_101) rfl rfl (fun _ _ _ _ _ => rfl) ?_
  refine tIc_ne (l := xk_101) (pc' := 56) rfl rfl rfl (fun hc => ?_) (fun hc => ?_)
  rotate_left
  · exfalso
    omega
  refine tK (l := xk_101) rfl rfl (fun _ _ _ _ _ => rfl) ?_
  refine tK (l := xk_101) rfl rfl (fun _ _ _ _ _ => rfl) ?_
  refine tK (l := xk_101) rfl rfl (fun _ _ _ _ _ => rfl) ?_
  refine tCa (l := xk_101) rfl rfl (kInvV hR rfl rfl rfl rfl (Nat.le_of_ble_eq_true rfl) (Nat.le_of_ble_eq_true rfl)) ?_
  by_cases ha : 0 ≤ a ∧ a < 8
  · obtain ⟨n, rfl⟩ : ∃ n : Nat, a = (n : Int) := ⟨a.toNat, by omega⟩
    have hn : n < 8 := by omega
    by_cases hy : 0 ≤ y ∧ y < 8
    · obtain ⟨m, rfl⟩ : ∃ m : Nat, y = (m : Int) := ⟨y.toNat, by omega⟩
      have hm : m < 8 := by omega
      cases hv : (gt2 b s).2.1.1 m with
      | none =>
        refine k131n b hn hm hv hR (fun R2 h2 => ?_)
        refine tKh (pc' := 114) (k := 5) (by decide +kernel) ?_
        refine tK (l := xk_101) rfl rfl (fun _ _ _ _ _ => rfl) ?_
        refine tRt (l := xk_101) rfl rfl (fun _ _ _ _ _ => rfl) ?_
        exact hQ _ (.inl 3) (Or.inl ⟨by decide, by simp only [chF, Int.toNat_natCast]; rw [if_neg (by omega), if_neg (by omega), hv]⟩) (by rw [show app (gt2 b s) (.inl 3) = gt2 b s from rfl, pt2_gt]; exact h2)
      | some v =>
        refine k131 b hn hm hv (ok.2.1.1 m hm v hv).2 hR (fun R2 h2 => ?_)
        refine tKv ?_
        refine tK (l := xk_101) rfl rfl (fun _ _ _ _ _ => rfl) ?_
        refine tK (l := xk_101) rfl rfl (kPut h2 _) ?_
        refine tK (l := xk_101) rfl rfl (fun _ _ _ _ _ => rfl) ?_
        refine tK (l := xk_101) rfl rfl (fun _ _ _ _ _ => rfl) ?_
        refine tRt (l := xk_101) rfl rfl (fun _ _ _ _ _ => rfl) ?_
        exact hQ _ (.inr (setV (gt2 b s).2.1 n (some v), (v.length : Int))) (Or.inl ⟨by decide, by simp only [chF, Int.toNat_natCast]; rw [if_neg (by omega), if_neg (by omega), hv]⟩) (kOut h2 _).2
    · refine k131y b hn hy hR (fun R2 h2 => ?_)
      refine tKh (pc' := 106) (k := 5) (by decide +kernel) ?_
      refine tK (l := xk_101) rfl rfl (fun _ _ _ _ _ => rfl) ?_
      refine tRt (l := xk_101) rfl rfl (fun _ _ _ _ _ => rfl) ?_
      exact hQ _ (.inl 1) (Or.inl ⟨by decide, by simp only [chF, Int.toNat_natCast]; rw [if_neg (by omega), if_pos hy]⟩) (by rw [show app (gt2 b s) (.inl 1) = gt2 b s from rfl, pt2_gt]; exact h2)
  · refine k131x b ha hR (fun R2 h2 => ?_)
    refine tKh (pc' := 106) (k := 5) (by decide +kernel) ?_
    refine tK (l := xk_101) rfl rfl (fun _ _ _ _ _ => rfl) ?_
    refine tRt (l := xk_101) rfl rfl (fun _ _ _ _ _ => rfl) ?_
    exact hQ _ (.inl 1) (Or.inl ⟨by decide, by simp only [chF, Int.toNat_natCast]; rw [if_pos ha]⟩) (by rw [show app (gt2 b s) (.inl 1) = gt2 b s from rfl, pt2_gt]; exact h2)
theorem kch_4 (b : Bool) {a y : Int} (hR : hPP zs R s xo) (ok : okK 1000 (gt2 b s)) (hQ : ∀ R2 res, CH (gt2 b s).1 (gt2 b s).2.1 a y 4 res → hPP zs R2 (pt2 b s (app (gt2 b s) res)) (ouR xo res) → Q (.inl (some (.inl (cdR res))), R2, g + exR res)) : xTC (d + 1225) 101 [.inr (.inl (some (ob b))), .inl 4, .inl a, .inl y, .inr (.inl (some 293))] R g Q := by
  refine tEn (ls := [some (.inr (.inl (some (ob b)))), some (.inl 4), some (.inl a), some (.inl y), some (.inr (.inl (some 293))), none]) (fun k => by match k with | 0 => rfl | 1 => rfl | 2 => rfl | 3 => rfl | 4 => rfl | 5 => rfl | k + 6 => rfl) ?_
  refine tK (l := xk_101) rfl rfl (fun _ _ _ _ _ => rfl) ?_
  refine tK (l := xk_101) rfl rfl (fun _ _ _ _ _ => rfl) ?_
  refine tK (l := xk_101) rfl rfl (fun _ _ _ _ _ => rfl) ?_
  refine tIf_ne (l := xk_101) (pc' := 16) rfl rfl rfl (fun hc => ?_) (fun hc => ?_)
  · exfalso
    omega
  refine tK (l := xk_101) rfl rfl (fun _ _ _ _ _ => rfl) ?_
  refine tK (l := xk_101) rfl rfl (fun _ _ _ _ _ => rfl) ?_
  refine tIc_ne (l := xk_101) (pc' := 29) rfl rfl rfl (fun hc => ?_) (fun hc => ?_)
  · exfalso
    omega
  refine tK (l := xk_101) rfl rfl (fun _ _ _ _ _ => rfl) ?_
  refine tK (l := xk_101) rfl rfl (fun _ _ _ _ _ => rfl) ?_
  refine tIc_ne (l := xk_101) (pc' := 42) rfl rfl rfl (fun hc => ?_) (fun hc => ?_)
  · exfalso
    omega
  refine tK (l := xk_101) rfl rfl (fun _ _ _ _ _ => rfl) ?_
  refine tK (l := xk_101) rfl rfl (fun _ _ _ _ _ => rfl) ?_
  refine tIc_ne (l := xk_101) (pc' := 56) rfl rfl rfl (fun hc => ?_) (fun hc => ?_)
  · exfalso
    omega
  refine tK (l := xk_101) rfl rfl (fun _ _ _ _ _ => rfl) ?_
  refine tK (l := xk_101) rfl rfl (fun _ _ _ _ _ => rfl) ?_
  refine tIc_ne (l := xk_101) (pc' := 69) rfl rfl rfl (fun hc => ?_) (fun hc => ?_)
  rotate_left
  · exfalso
    omega
  refine tK (l := xk_101) rfl rfl (fun _ _ _ _ _ => rfl) ?_
  refine tK (l := xk_101) rfl rfl (fun _ _ _ _ _ => rfl) ?_
  refine tCa (l := xk_101) rfl rfl (kInvV hR rfl rfl rfl rfl (Nat.le_of_ble_eq_true rfl) (Nat.le_of_ble_eq_true rfl)) ?_
  by_cases ha : 0 ≤ a ∧ a < 8
  · obtain ⟨n, rfl⟩ : ∃ n : Nat, a = (n : Int) := ⟨a.toNat, by omega⟩
    have hn : n < 8 := by omega
    cases hv : (gt2 b s).2.1.1 n with
    | none =>
      refine k132n b hn hv hR (fun R2 h2 => ?_)
      refine tKh (pc' := 114) (k := 5) (by decide +kernel) ?_
      refine tK (l := xk_101) rfl rfl (fun _ _ _ _ _ => rfl) ?_
      refine tRt (l := xk_101) rfl rfl (fun _ _ _ _ _ => rfl) ?_
      exact hQ _ (.inl 3) (Or.inl ⟨by decide, by simp only [chF, Int.toNat_natCast]; rw [if_neg (by omega), hv]⟩) (by rw [show app (gt2 b s) (.inl 3) = gt2 b s from rfl, pt2_gt]; exact h2)
    | some v =>
      have h24 := (ok.2.1.1 n hn v hv).2
      have hok := (ok.2.1.1 n hn v hv).1
      by_cases hf : 24 < (esc v).length
      · refine k132y b hn hv h24 hok hf hR (fun R2 h2 => ?_)
        refine tKh (pc' := 114) (k := 5) (by decide +kernel) ?_
        refine tK (l := xk_101) rfl rfl (fun _ _ _ _ _ => rfl) ?_
        refine tRt (l := xk_101) rfl rfl (fun _ _ _ _ _ => rfl) ?_
        exact hQ _ (.inl 3) (Or.inl ⟨by decide, by simp only [chF, Int.toNat_natCast]; rw [if_neg (by omega), hv]; simp only; rw [if_pos hf]⟩) (by rw [show app (gt2 b s) (.inl 3) = gt2 b s from rfl, pt2_gt]; exact h2)
      · refine k132 b hn hv h24 hok (by omega) hR (fun R2 h2 => ?_)
        refine tKv ?_
        refine tK (l := xk_101) rfl rfl (fun _ _ _ _ _ => rfl) ?_
        refine tK (l := xk_101) rfl rfl (kPut h2 _) ?_
        refine tK (l := xk_101) rfl rfl (fun _ _ _ _ _ => rfl) ?_
        refine tK (l := xk_101) rfl rfl (fun _ _ _ _ _ => rfl) ?_
        refine tRt (l := xk_101) rfl rfl (fun _ _ _ _ _ => rfl) ?_
        exact hQ _ (.inr (setV (gt2 b s).2.1 n (some (esc v)), ((esc v).length : Int))) (Or.inl ⟨by decide, by simp only [chF, Int.toNat_natCast]; rw [if_neg (by omega), hv]; simp only; rw [if_neg hf]⟩) (kOut h2 _).2
  · refine k132x b ha hR (fun R2 h2 => ?_)
    refine tKh (pc' := 106) (k := 5) (by decide +kernel) ?_
    refine tK (l := xk_101) rfl rfl (fun _ _ _ _ _ => rfl) ?_
    refine tRt (l := xk_101) rfl rfl (fun _ _ _ _ _ => rfl) ?_
    exact hQ _ (.inl 1) (Or.inl ⟨by decide, by simp only [chF, Int.toNat_natCast]; rw [if_pos ha]⟩) (by rw [show app (gt2 b s) (.inl 1) = gt2 b s from rfl, pt2_gt]; exact h2)
theorem kch_5 (b : Bool) {a y : Int} (hR : hPP zs R s xo) (ok : okK 1000 (gt2 b s)) (hQ : ∀ R2 res, CH (gt2 b s).1 (gt2 b s).2.1 a y 5 res → hPP zs R2 (pt2 b s (app (gt2 b s) res)) (ouR xo res) → Q (.inl (some (.inl (cdR res))), R2, g + exR res)) : xTC (d + 1225) 101 [.inr (.inl (some (ob b))), .inl 5, .inl a, .inl y, .inr (.inl (some 293))] R g Q := by
  refine tEn (ls := [some (.inr (.inl (some (ob b)))), some (.inl 5), some (.inl a), some (.inl y), some (.inr (.inl (some 293))), none]) (fun k => by match k with | 0 => rfl | 1 => rfl | 2 => rfl | 3 => rfl | 4 => rfl | 5 => rfl | k + 6 => rfl) ?_
  refine tK (l := xk_101) rfl rfl (fun _ _ _ _ _ => rfl) ?_
  refine tK (l := xk_101) rfl rfl (fun _ _ _ _ _ => rfl) ?_
  refine tK (l := xk_101) rfl rfl (fun _ _ _ _ _ => rfl) ?_
  refine tIf_ne (l := xk_101) (pc' := 16) rfl rfl rfl (fun hc => ?_) (fun hc => ?_)
  · exfalso
    omega
  refine tK (l := xk_101) rfl rfl (fun _ _ _ _ _ => rfl) ?_
  refine tK (l := xk_101) rfl rfl (fun _ _ _ _ _ => rfl) ?_
  refine tIc_ne (l := xk_101) (pc' := 29) rfl rfl rfl (fun hc => ?_) (fun hc => ?_)
  · exfalso
    omega
  refine tK (l := xk_101) rfl rfl (fun _ _ _ _ _ => rfl) ?_
  refine tK (l := xk_101) rfl rfl (fun _ _ _ _ _ => rfl) ?_
  refine tIc_ne (l := xk_101) (pc' := 42) rfl rfl rfl (fun hc => ?_) (fun hc => ?_)
  · exfalso
    omega
  refine tK (l := xk_101) rfl rfl (fun _ _ _ _ _ => rfl) ?_
  refine tK (l := xk_101) rfl rfl (fun _ _ _ _ _ => rfl) ?_
  refine tIc_ne (l := xk_101) (pc' := 56) rfl rfl rfl (fun hc => ?_) (fun hc => ?_)
  · exfalso
    omega
  refine tK (l := xk_101) rfl rfl (fun _ _ _ _ _ => rfl) ?_
  refine tK (l := xk_101) rfl rfl (fun _ _ _ _ _ => rfl) ?_
  refine tIc_ne (l := xk_101) (pc' := 69) rfl rfl rfl (fun hc => ?_) (fun hc => ?_)
  · exfalso
    omega
  refine tK (l := xk_101) rfl rfl (fun _ _ _ _ _ => rfl) ?_
  refine tK (l := xk_101) rfl rfl (fun _ _ _ _ _ => rfl) ?_
  refine tIc_ne (l := xk_101) (pc' := 82) rfl rfl rfl (fun hc => ?_) (fun hc => ?_)
  rotate_left
  · exfalso
    omega
  refine tK (l := xk_101) rfl rfl (fun _ _ _ _ _ => rfl) ?_
  refine tK (l := xk_101) rfl rfl (fun _ _ _ _ _ => rfl) ?_
  refine tCa (l := xk_101) rfl rfl (kInvV hR rfl rfl rfl rfl (Nat.le_of_ble_eq_true rfl) (Nat.le_of_ble_eq_true rfl)) ?_
  by_cases ha : 0 ≤ a ∧ a < 8
  · obtain ⟨n, rfl⟩ : ∃ n : Nat, a = (n : Int) := ⟨a.toNat, by omega⟩
    have hn : n < 8 := by omega
    by_cases hf : 24 < (gt2 b s).2.1.2.1.1.length
    · refine k133n b hn hf hR (fun R2 h2 => ?_)
      refine tKh (pc' := 114) (k := 5) (by decide +kernel) ?_
      refine tK (l := xk_101) rfl rfl (fun _ _ _ _ _ => rfl) ?_
      refine tRt (l := xk_101) rfl rfl (fun _ _ _ _ _ => rfl) ?_
      exact hQ _ (.inl 3) (Or.inl ⟨by decide, by simp only [chF, Int.toNat_natCast]; rw [if_neg (by omega), if_pos hf]⟩) (by rw [show app (gt2 b s) (.inl 3) = gt2 b s from rfl, pt2_gt]; exact h2)
    · refine k133 b hn (by omega) hR (fun R2 h2 => ?_)
      refine tKv ?_
      refine tK (l := xk_101) rfl rfl (fun _ _ _ _ _ => rfl) ?_
      refine tK (l := xk_101) rfl rfl (kPut h2 _) ?_
      refine tK (l := xk_101) rfl rfl (fun _ _ _ _ _ => rfl) ?_
      refine tK (l := xk_101) rfl rfl (fun _ _ _ _ _ => rfl) ?_
      refine tRt (l := xk_101) rfl rfl (fun _ _ _ _ _ => rfl) ?_
      exact hQ _ (.inr (setV (gt2 b s).2.1 n (some (gt2 b s).2.1.2.1.1), ((gt2 b s).2.1.2.1.1.length : Int))) (Or.inl ⟨by decide, by simp only [chF, Int.toNat_natCast]; rw [if_neg (by omega), if_neg hf]⟩) (kOut h2 _).2
  · refine k133x b ha hR (fun R2 h2 => ?_)
    refine tKh (pc' := 106) (k := 5) (by decide +kernel) ?_
    refine tK (l := xk_101) rfl rfl (fun _ _ _ _ _ => rfl) ?_
    refine tRt (l := xk_101) rfl rfl (fun _ _ _ _ _ => rfl) ?_
    exact hQ _ (.inl 1) (Or.inl ⟨by decide, by simp only [chF, Int.toNat_natCast]; rw [if_pos ha]⟩) (by rw [show app (gt2 b s) (.inl 1) = gt2 b s from rfl, pt2_gt]; exact h2)
theorem kch_6 (b : Bool) {a y : Int} (hR : hPP zs R s xo) (ok : okK 1000 (gt2 b s)) (hQ : ∀ R2 res, CH (gt2 b s).1 (gt2 b s).2.1 a y 6 res → hPP zs R2 (pt2 b s (app (gt2 b s) res)) (ouR xo res) → Q (.inl (some (.inl (cdR res))), R2, g + exR res)) : xTC (d + 1225) 101 [.inr (.inl (some (ob b))), .inl 6, .inl a, .inl y, .inr (.inl (some 293))] R g Q := by
  refine tEn (ls := [some (.inr (.inl (some (ob b)))), some (.inl 6), some (.inl a), some (.inl y), some (.inr (.inl (some 293))), none]) (fun k => by match k with | 0 => rfl | 1 => rfl | 2 => rfl | 3 => rfl | 4 => rfl | 5 => rfl | k + 6 => rfl) ?_
  refine tK (l := xk_101) rfl rfl (fun _ _ _ _ _ => rfl) ?_
  refine tK (l := xk_101) rfl rfl (fun _ _ _ _ _ => rfl) ?_
  refine tK (l := xk_101) rfl rfl (fun _ _ _ _ _ => rfl) ?_
  refine tIf_ne (l := xk_101) (pc' := 16) rfl rfl rfl (fun hc => ?_) (fun hc => ?_)
  · exfalso
    omega
  refine tK (l := xk_101) rfl rfl (fun _ _ _ _ _ => rfl) ?_
  refine tK (l := xk_101) rfl rfl (fun _ _ _ _ _ => rfl) ?_
  refine tIc_ne (l := xk_101) (pc' := 29) rfl rfl rfl (fun hc => ?_) (fun hc => ?_)
  · exfalso
    omega
  refine tK (l := xk_101) rfl rfl (fun _ _ _ _ _ => rfl) ?_
  refine tK (l := xk_101) rfl rfl (fun _ _ _ _ _ => rfl) ?_
  refine tIc_ne (l := xk_101) (pc' := 42) rfl rfl rfl (fun hc => ?_) (fun hc => ?_)
  · exfalso
    omega
  refine tK (l := xk_101) rfl rfl (fun _ _ _ _ _ => rfl) ?_
  refine tK (l := xk_101) rfl rfl (fun _ _ _ _ _ => rfl) ?_
  refine tIc_ne (l := xk_101) (pc' := 56) rfl rfl rfl (fun hc => ?_) (fun hc => ?_)
  · exfalso
    omega
  refine tK (l := xk_101) rfl rfl (fun _ _ _ _ _ => rfl) ?_
  refine tK (l := xk_101) rfl rfl (fun _ _ _ _ _ => rfl) ?_
  refine tIc_ne (l := xk_101) (pc' := 69) rfl rfl rfl (fun hc => ?_) (fun hc => ?_)
  · exfalso
    omega
  refine tK (l := xk_101) rfl rfl (fun _ _ _ _ _ => rfl) ?_
  refine tK (l := xk_101) rfl rfl (fun _ _ _ _ _ => rfl) ?_
  refine tIc_ne (l := xk_101) (pc' := 82) rfl rfl rfl (fun hc => ?_) (fun hc => ?_)
  · exfalso
    omega
  refine tK (l := xk_101) rfl rfl (fun _ _ _ _ _ => rfl) ?_
  refine tK (l := xk_101) rfl rfl (fun _ _ _ _ _ => rfl) ?_
  refine tIc_ne (l := xk_101) (pc' := 96) rfl rfl rfl (fun hc => ?_) (fun hc => ?_)
  rotate_left
  · exfalso
    omega
  refine tK (l := xk_101) rfl rfl (fun _ _ _ _ _ => rfl) ?_
  refine tK (l := xk_101) rfl rfl (fun _ _ _ _ _ => rfl) ?_
  refine tCa (l := xk_101) rfl rfl (kInvV hR rfl rfl rfl rfl (Nat.le_of_ble_eq_true rfl) (Nat.le_of_ble_eq_true rfl)) ?_
  by_cases ha : 0 ≤ a ∧ a < 8
  · obtain ⟨n, rfl⟩ : ∃ n : Nat, a = (n : Int) := ⟨a.toNat, by omega⟩
    have hn : n < 8 := by omega
    by_cases hf : 24 < (gt2 b s).1.length
    · refine k135n b hn hf hR (fun R2 h2 => ?_)
      refine tKh (pc' := 114) (k := 5) (by decide +kernel) ?_
      refine tK (l := xk_101) rfl rfl (fun _ _ _ _ _ => rfl) ?_
      refine tRt (l := xk_101) rfl rfl (fun _ _ _ _ _ => rfl) ?_
      exact hQ _ (.inl 3) (Or.inl ⟨by decide, by simp only [chF, Int.toNat_natCast]; rw [if_neg (by omega), if_pos hf]⟩) (by rw [show app (gt2 b s) (.inl 3) = gt2 b s from rfl, pt2_gt]; exact h2)
    · refine k135 b hn (by omega) hR (fun R2 h2 => ?_)
      refine tKv ?_
      refine tK (l := xk_101) rfl rfl (fun _ _ _ _ _ => rfl) ?_
      refine tK (l := xk_101) rfl rfl (kPut h2 _) ?_
      refine tK (l := xk_101) rfl rfl (fun _ _ _ _ _ => rfl) ?_
      refine tK (l := xk_101) rfl rfl (fun _ _ _ _ _ => rfl) ?_
      refine tRt (l := xk_101) rfl rfl (fun _ _ _ _ _ => rfl) ?_
      exact hQ _ (.inr (setV (gt2 b s).2.1 n (some (gt2 b s).1), ((gt2 b s).1.length : Int))) (Or.inl ⟨by decide, by simp only [chF, Int.toNat_natCast]; rw [if_neg (by omega), if_neg hf]⟩) (kOut h2 _).2
  · refine k135x b ha hR (fun R2 h2 => ?_)
    refine tKh (pc' := 106) (k := 5) (by decide +kernel) ?_
    refine tK (l := xk_101) rfl rfl (fun _ _ _ _ _ => rfl) ?_
    refine tRt (l := xk_101) rfl rfl (fun _ _ _ _ _ => rfl) ?_
    exact hQ _ (.inl 1) (Or.inl ⟨by decide, by simp only [chF, Int.toNat_natCast]; rw [if_pos ha]⟩) (by rw [show app (gt2 b s) (.inl 1) = gt2 b s from rfl, pt2_gt]; exact h2)
theorem kch_7 (b : Bool) {a y : Int} (hR : hPP zs R s xo) (ok : okK 1000 (gt2 b s)) (hex : pWh (gt2 b s).1 = true → ∃ D, Fin (gt2 b s).1 (gt2 b s).2.1.1 (-1) D) (hQ : ∀ R2 res, CH (gt2 b s).1 (gt2 b s).2.1 a y 7 res → hPP zs R2 (pt2 b s (app (gt2 b s) res)) (ouR xo res) → Q (.inl (some (.inl (cdR res))), R2, g + exR res)) : xTC (d + 1225) 101 [.inr (.inl (some (ob b))), .inl 7, .inl a, .inl y, .inr (.inl (some 293))] R g Q := by
  refine tEn (ls := [some (.inr (.inl (some (ob b)))), some (.inl 7), some (.inl a), some (.inl y), some (.inr (.inl (some 293))), none]) (fun k => by match k with | 0 => rfl | 1 => rfl | 2 => rfl | 3 => rfl | 4 => rfl | 5 => rfl | k + 6 => rfl) ?_
  refine tK (l := xk_101) rfl rfl (fun _ _ _ _ _ => rfl) ?_
  refine tK (l := xk_101) rfl rfl (fun _ _ _ _ _ => rfl) ?_
  refine tK (l := xk_101) rfl rfl (fun _ _ _ _ _ => rfl) ?_
  refine tIf_ne (l := xk_101) (pc' := 16) rfl rfl rfl (fun hc => ?_) (fun hc => ?_)
  · exfalso
    omega
  refine tK (l := xk_101) rfl rfl (fun _ _ _ _ _ => rfl) ?_
  refine tK (l := xk_101) rfl rfl (fun _ _ _ _ _ => rfl) ?_
  refine tIc_ne (l := xk_101) (pc' := 29) rfl rfl rfl (fun hc => ?_) (fun hc => ?_)
  · exfalso
    omega
  refine tK (l := xk_101) rfl rfl (fun _ _ _ _ _ => rfl) ?_
  refine tK (l := xk_101) rfl rfl (fun _ _ _ _ _ => rfl) ?_
  refine tIc_ne (l := xk_101) (pc' := 42) rfl rfl rfl (fun hc => ?_) (fun hc => ?_)
  · exfalso
    omega
  refine tK (l := xk_101) rfl rfl (fun _ _ _ _ _ => rfl) ?_
  refine tK (l := xk_101) rfl rfl (fun _ _ _ _ _ => rfl) ?_
  refine tIc_ne (l := xk_101) (pc' := 56) rfl rfl rfl (fun hc => ?_) (fun hc => ?_)
  · exfalso
    omega
  refine tK (l := xk_101) rfl rfl (fun _ _ _ _ _ => rfl) ?_
  refine tK (l := xk_101) rfl rfl (fun _ _ _ _ _ => rfl) ?_
  refine tIc_ne (l := xk_101) (pc' := 69) rfl rfl rfl (fun hc => ?_) (fun hc => ?_)
  · exfalso
    omega
  refine tK (l := xk_101) rfl rfl (fun _ _ _ _ _ => rfl) ?_
  refine tK (l := xk_101) rfl rfl (fun _ _ _ _ _ => rfl) ?_
  refine tIc_ne (l := xk_101) (pc' := 82) rfl rfl rfl (fun hc => ?_) (fun hc => ?_)
  · exfalso
    omega
  refine tK (l := xk_101) rfl rfl (fun _ _ _ _ _ => rfl) ?_
  refine tK (l := xk_101) rfl rfl (fun _ _ _ _ _ => rfl) ?_
  refine tIc_ne (l := xk_101) (pc' := 96) rfl rfl rfl (fun hc => ?_) (fun hc => ?_)
  · exfalso
    omega
  refine tK (l := xk_101) rfl rfl (fun _ _ _ _ _ => rfl) ?_
  refine tCa (l := xk_101) rfl rfl (kInvV hR rfl rfl rfl rfl (Nat.le_of_ble_eq_true rfl) (Nat.le_of_ble_eq_true rfl)) ?_
  cases hw : pWh (gt2 b s).1 with
  | false =>
    refine k138n b ok.1.2 hw hR (fun R2 h2 => ?_)
    refine tKh (pc' := 114) (k := 5) (by decide +kernel) ?_
    refine tK (l := xk_101) rfl rfl (fun _ _ _ _ _ => rfl) ?_
    refine tRt (l := xk_101) rfl rfl (fun _ _ _ _ _ => rfl) ?_
    exact hQ _ (.inl 3) (Or.inr (Or.inl ⟨rfl, hw, rfl⟩)) (by rw [show app (gt2 b s) (.inl 3) = gt2 b s from rfl, pt2_gt]; exact h2)
  | true =>
    obtain ⟨rn, fl, pr, e3, e4, e5, l1, l2, l3, l4, -⟩ := ok.2.1.2.2
    obtain ⟨D, hD⟩ := hex hw
    refine k138 b ok.1.2 ok.1.1 hw (by rw [e3]; omega) (by rw [e4]; omega) (by rw [e5]; omega) hD hR (fun R2 h2 => ?_)
    refine tKv ?_
    refine tK (l := xk_101) rfl rfl (kPut h2 _) ?_
    refine tK (l := xk_101) rfl rfl (fun _ _ _ _ _ => rfl) ?_
    refine tK (l := xk_101) rfl rfl (fun _ _ _ _ _ => rfl) ?_
    refine tRt (l := xk_101) rfl rfl (fun _ _ _ _ _ => rfl) ?_
    exact hQ _ (.inr (rnd (gt2 b s).2.1 (ocD D), ((ocD D).1.length : Int))) (Or.inr (Or.inr ⟨rfl, hw, D, hD, rfl⟩)) (kOut h2 _).2
/-! ===== without ===== -/
theorem kWo (b : Bool) {n : Nat} {D : Cf} (hn : n < 8) (hR : hPP zs R s xo) (ok : okK 1000 (gt2 b s)) (hw : pWh (gt2 b s).1 = true) (hD : Fin (gt2 b s).1 (gt2 b s).2.1.1 (n : Int) D) (hQ : ∀ R2, hPP zs R2 s xo → Q (.inl (some (.inl ((ocD D).1.length : Int))), R2, g)) : xTC (d + 1225) 102 [.inr (.inl (some (ob b))), .inl (n : Int)] R g Q := by
  refine tEn (ls := [some (.inr (.inl (some (ob b)))), some (.inl (n : Int)), none]) (fun k => by match k with | 0 => rfl | 1 => rfl | 2 => rfl | k + 3 => rfl) ?_
  refine tK (l := xk_102) rfl rfl (fun _ _ _ _ _ => rfl) ?_
  refine tK (l := xk_102) rfl rfl (fun _ _ _ _ _ => rfl) ?_
  refine tCa (l := xk_102) rfl rfl (kInvV hR rfl rfl rfl rfl (Nat.le_of_ble_eq_true rfl) (Nat.le_of_ble_eq_true rfl)) ?_
  refine k140 b ok.1.2 ok.1.1 hw hn hD hR (fun R2 h2 => ?_)
  refine tKv ?_
  refine tRt (l := xk_102) rfl rfl (fun _ _ _ _ _ => rfl) ?_
  exact hQ R2 h2
theorem kWon (b : Bool) {n : Nat} (hn : n < 8) (hR : hPP zs R s xo) (ok : okK 1000 (gt2 b s)) (hw : pWh (gt2 b s).1 = false) (hQ : ∀ R2, hPP zs R2 s xo → Q (.inl (some (.inl (-9))), R2, g + 1)) : xTC (d + 1225) 102 [.inr (.inl (some (ob b))), .inl (n : Int)] R g Q := by
  refine tEn (ls := [some (.inr (.inl (some (ob b)))), some (.inl (n : Int)), none]) (fun k => by match k with | 0 => rfl | 1 => rfl | 2 => rfl | k + 3 => rfl) ?_
  refine tK (l := xk_102) rfl rfl (fun _ _ _ _ _ => rfl) ?_
  refine tK (l := xk_102) rfl rfl (fun _ _ _ _ _ => rfl) ?_
  refine tCa (l := xk_102) rfl rfl (kInvV hR rfl rfl rfl rfl (Nat.le_of_ble_eq_true rfl) (Nat.le_of_ble_eq_true rfl)) ?_
  refine k140n b ok.1.2 hn hw hR (fun R2 h2 => ?_)
  refine tKh (pc' := 7) (k := 2) (by decide +kernel) ?_
  refine tK (l := xk_102) rfl rfl (fun _ _ _ _ _ => rfl) ?_
  refine tRt (l := xk_102) rfl rfl (fun _ _ _ _ _ => rfl) ?_
  exact hQ R2 h2
end SML
