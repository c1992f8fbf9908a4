/-! ===== shares and bits ===== -/
section DOP
variable {mi pc g : Nat} {lv : xL} {st : List xV} {ph : xH} {x y : UInt64}
theorem hDddiv (h : okD (FP.ddiv x y) = true) (K : Nat → xL → List xV → xH → Prop) (C : Nat → List xV → List xV → Prop) (Rt : Option xV → Prop) (Th : Nat → Prop) (z : Prop) : xop mi pc .ddiv lv (.inr (.inr (.inr y)) :: .inr (.inr (.inr x)) :: st) ph g K C Rt Th z = K (pc + 1) lv (.inr (.inr (.inr (FP.ddiv x y))) :: st) ph := by
  simp only [xop]
  rw [if_pos (of_decide_eq_true h)]
theorem hDdmul (h : okD (FP.dmul x y) = true) (K : Nat → xL → List xV → xH → Prop) (C : Nat → List xV → List xV → Prop) (Rt : Option xV → Prop) (Th : Nat → Prop) (z : Prop) : xop mi pc .dmul lv (.inr (.inr (.inr y)) :: .inr (.inr (.inr x)) :: st) ph g K C Rt Th z = K (pc + 1) lv (.inr (.inr (.inr (FP.dmul x y))) :: st) ph := by
  simp only [xop]
  rw [if_pos (of_decide_eq_true h)]
theorem hDdsub (h : okD (FP.dsub x y) = true) (K : Nat → xL → List xV → xH → Prop) (C : Nat → List xV → List xV → Prop) (Rt : Option xV → Prop) (Th : Nat → Prop) (z : Prop) : xop mi pc .dsub lv (.inr (.inr (.inr y)) :: .inr (.inr (.inr x)) :: st) ph g K C Rt Th z = K (pc + 1) lv (.inr (.inr (.inr (FP.dsub x y))) :: st) ph := by
  simp only [xop]
  rw [if_pos (of_decide_eq_true h)]
end DOP
def cm (x y : UInt64) : Int := (Op.cmpValue (FP.dcmp x y) .l).toInt
def shV (st : SS) : UInt64 := if st.2.1.1.length = 0 then 0 else FP.ddiv (FP.i2d (Int32.ofInt st.2.1.2.2.2.2.2.2)) (FP.i2d (Int32.ofInt (st.2.1.1.length : Int)))
def shP (s : UInt64) : Prop := cm s s = 0 ∧ (s = 0 ∨ (s ≠ 0 ∧ 0 < cm s 0 ∧ cm s 4611686018427387904 < 0 ∧ ∃ x e, btD 12 s 1023 = some (x, e) ∧ okD (FP.dsub x oneD) = true ∧ okD (FP.dmul (FP.dsub x oneD) 4841369599423283200) = true))
def bitD (s : UInt64) : Int64 := if s = 0 then 0 else match btD 12 s 1023 with
  | some (x, e) => (e <<< ((Int32.ofInt 52).toInt64 &&& 63)) + FP.d2l (FP.dmul (FP.dsub x oneD) 4841369599423283200)
  | none => 0
theorem cm_0 : cm 0 0 = 0 := by decide +kernel
theorem shV_ok {B : Nat} {st : SS} (h : okSS B st) : (0 < st.2.1.1.length → okD (FP.ddiv (FP.i2d (Int32.ofInt st.2.1.2.2.2.2.2.2)) (FP.i2d (Int32.ofInt (st.2.1.1.length : Int)))) = true) ∧ shP (shV st) := by
  obtain ⟨-, ⟨-, h2⟩, -, -, -, -, -, ⟨p, e, v, -, -, hv, hs⟩, -⟩ := h
  by_cases hl : st.2.1.1.length = 0
  · refine ⟨fun q => absurd hl (by omega), ?_⟩
    unfold shV
    rw [if_pos hl]
    exact ⟨cm_0, Or.inl rfl⟩
  · have hk := chk_ok (v := v) (l := st.2.1.1.length) (by omega) h2 (by omega)
    have es : shV st = shD v st.2.1.1.length := by unfold shV shD; rw [if_neg hl, hv]
    rw [es]
    unfold chk at hk
    simp only [Bool.and_eq_true, decide_eq_true_eq] at hk
    obtain ⟨⟨k1, k2⟩, k3⟩ := hk
    refine ⟨fun _ => by rw [hv]; exact k1, k2, ?_⟩
    by_cases h0 : shD v st.2.1.1.length = 0
    · exact Or.inl h0
    · refine Or.inr ⟨h0, ?_⟩
      split at k3
      · exact absurd (of_decide_eq_true k3) h0
      · rw [Bool.and_eq_true, Bool.and_eq_true, decide_eq_true_eq, decide_eq_true_eq] at k3
        obtain ⟨⟨k4, k5⟩, k6⟩ := k3
        refine ⟨k4, k5, ?_⟩
        cases hb : btD 12 (shD v st.2.1.1.length) 1023 with
        | none => rw [hb] at k6; cases k6
        | some r =>
          obtain ⟨x, e⟩ := r
          rw [hb] at k6
          rw [Bool.and_eq_true] at k6
          exact ⟨x, e, rfl, k6.1, k6.2⟩
section SHR
variable {d : Nat} {ph : xH} {zs : List xV} {g : Nat} {Q : xR → Prop} {c : KS} {h0 : Int64} {s : UInt64}
theorem c99 (h : hKl zs ph c) (hd : 0 < c.2.1.2.1.1.length → okD (FP.ddiv (FP.i2d (Int32.ofInt c.2.1.2.1.2.2.2.2.2.2)) (FP.i2d (Int32.ofInt (c.2.1.2.1.1.length : Int)))) = true) (hQ : Q (.inl (some (.inr (.inr (.inr (shV c.2.1))))), ph, g)) : xTC (d + 2) 99 [.inr (.inl (some 1))] ph g Q := by
  have hs := h.1
  unfold shV at hQ
  refine tEn (ls := [some (.inr (.inl (some 1))), none]) (fun k => by match k with | 0 => rfl | 1 => rfl | k + 2 => rfl) ?_
  refine tK (l := xk_99) rfl rfl (fun _ _ _ _ _ => rfl) ?_
  refine tCa (l := xk_99) rfl rfl (hInvV (c := 9) hs rfl rfl rfl rfl rfl (Nat.le_of_ble_eq_true rfl) (Nat.le_of_ble_eq_true rfl)) ?_
  refine c87 h ?_
  refine tKv ?_
  refine tSt (l := xk_99) rfl rfl (fun _ _ _ _ _ => rfl) (Nat.le_of_ble_eq_true rfl) ?_
  refine tK (l := xk_99) rfl rfl (fun _ _ _ _ _ => rfl) ?_
  refine tIf_le (l := xk_99) (pc' := 20) rfl rfl rfl (fun hc => ?_) (fun hc => ?_)
  · refine tK (l := xk_99) rfl rfl (fun _ _ _ _ _ => rfl) ?_
    refine tCa (l := xk_99) rfl rfl (hInvV (c := 9) hs rfl rfl rfl rfl rfl (Nat.le_of_ble_eq_true rfl) (Nat.le_of_ble_eq_true rfl)) ?_
    refine c93 h ?_
    refine tKv ?_
    refine tK (l := xk_99) rfl rfl (fun _ _ _ _ _ => rfl) ?_
    refine tK (l := xk_99) rfl rfl (fun _ _ _ _ _ => rfl) ?_
    refine tK (l := xk_99) rfl rfl (fun _ _ _ _ _ => rfl) ?_
    refine tK (l := xk_99) rfl rfl (hDddiv (hd (by omega))) ?_
    refine tK (l := xk_99) rfl rfl (fun _ _ _ _ _ => rfl) ?_
    refine tRt (l := xk_99) rfl rfl (fun _ _ _ _ _ => rfl) ?_
    rw [if_neg (by omega)] at hQ
    exact hQ
  · refine tK (l := xk_99) rfl rfl (fun _ _ _ _ _ => rfl) ?_
    refine tRt (l := xk_99) rfl rfl (fun _ _ _ _ _ => rfl) ?_
    rw [if_pos (by omega)] at hQ
    exact hQ
theorem s125 (hp : shP s) (hQ : Q (.inl (some (.inr (.inr (.inl (bitD s))))), ph, g)) : xTC d 125 [.inr (.inr (.inr s))] ph g Q := by
  refine tEn (ls := [some (.inr (.inr (.inr s))), none, none, none, none, none, none]) (fun k => by match k with | 0 => rfl | 1 => rfl | 2 => rfl | 3 => rfl | 4 => rfl | 5 => rfl | 6 => rfl | k + 7 => rfl) ?_
  rcases hp.2 with h0 | ⟨hne, hgt, hl2, x, e, hb, k1, k2⟩
  · subst h0
    refine tK (l := xk_125) rfl rfl (fun _ _ _ _ _ => rfl) ?_
    refine tK (l := xk_125) rfl rfl (fun _ _ _ _ _ => rfl) ?_
    refine tK (l := xk_125) rfl rfl (fun _ _ _ _ _ => rfl) ?_
    refine tIf_gt (l := xk_125) (pc' := 8) rfl rfl rfl (fun hc => ?_) (fun hc => ?_)
    · exact absurd (show (0 : Int) < cm 0 0 from hc) (by rw [cm_0]; decide)
    · refine tK (l := xk_125) rfl rfl (fun _ _ _ _ _ => rfl) ?_
      refine tRt (l := xk_125) rfl rfl (fun _ _ _ _ _ => rfl) ?_
      exact hQ
  · have hbd : bitD s = (e <<< ((Int32.ofInt 52).toInt64 &&& 63)) + FP.d2l (FP.dmul (FP.dsub x oneD) 4841369599423283200) := by unfold bitD; rw [if_neg hne, hb]
    rw [hbd] at hQ
    have loop : ∀ (n i : Nat) (y : UInt64) (f : Int64), i + n ≤ 64 → btD n y f = some (x, e) → xT d 125 18 (xlo [some (.inr (.inr (.inr s))), none, some (.inr (.inr (.inr y))), none, some (.inr (.inr (.inl f))), none, some (.inl (i : Int))]) [] ph g Q := by
      intro n
      induction n with
      | zero => intro i y f _ hb; cases hb
      | succ n ih =>
        intro i y f hi hb
        simp only [btD] at hb
        by_cases hlt : lt1 y = true
        · rw [if_pos hlt] at hb
          have hok : okD (dblD y) = true := by
            by_cases q : okD (dblD y) = true
            · exact q
            · rw [if_neg q] at hb; cases hb
          refine tK (l := xk_125) rfl rfl (fun _ _ _ _ _ => rfl) ?_
          refine tK (l := xk_125) rfl rfl (fun _ _ _ _ _ => rfl) ?_
          refine tIc_ge (l := xk_125) (pc' := 49) rfl rfl rfl (fun hc => ?_) (fun hc => ?_)
          · refine tK (l := xk_125) rfl rfl (fun _ _ _ _ _ => rfl) ?_
            refine tK (l := xk_125) rfl rfl (fun _ _ _ _ _ => rfl) ?_
            refine tK (l := xk_125) rfl rfl (fun _ _ _ _ _ => rfl) ?_
            refine tIf_ge (l := xk_125) (pc' := 49) rfl rfl rfl (fun hc => ?_) (fun hc => ?_)
            · refine tK (l := xk_125) rfl rfl (fun _ _ _ _ _ => rfl) ?_
              refine tK (l := xk_125) rfl rfl (fun _ _ _ _ _ => rfl) ?_
              refine tK (l := xk_125) rfl rfl (hDdmul (by assumption)) ?_
              refine tSt2 (l := xk_125) rfl rfl (fun _ _ _ _ _ => rfl) (Nat.le_of_ble_eq_true rfl) ?_
              refine tK (l := xk_125) rfl rfl (fun _ _ _ _ _ => rfl) ?_
              refine tK (l := xk_125) rfl rfl (fun _ _ _ _ _ => rfl) ?_
              refine tK (l := xk_125) rfl rfl (fun _ _ _ _ _ => rfl) ?_
              refine tSt2 (l := xk_125) rfl rfl (fun _ _ _ _ _ => rfl) (Nat.le_of_ble_eq_true rfl) ?_
              refine tSt (l := xk_125) rfl rfl (hIinc rfl (Nat.le_of_ble_eq_true rfl) ⟨by omega, by omega⟩) (Nat.le_of_ble_eq_true rfl) ?_
              refine tK (l := xk_125) rfl rfl (fun _ _ _ _ _ => rfl) ?_
              rw [if_pos hok] at hb
              exact ih (i + 1) (dblD y) (f - 1) (by omega) hb
            · exact absurd (of_decide_eq_true hlt) hc
          · exfalso; omega
        · rw [if_neg hlt] at hb
          cases hb
          refine tK (l := xk_125) rfl rfl (fun _ _ _ _ _ => rfl) ?_
          refine tK (l := xk_125) rfl rfl (fun _ _ _ _ _ => rfl) ?_
          refine tIc_ge (l := xk_125) (pc' := 49) rfl rfl rfl (fun hc => ?_) (fun hc => ?_)
          · refine tK (l := xk_125) rfl rfl (fun _ _ _ _ _ => rfl) ?_
            refine tK (l := xk_125) rfl rfl (fun _ _ _ _ _ => rfl) ?_
            refine tK (l := xk_125) rfl rfl (fun _ _ _ _ _ => rfl) ?_
            refine tIf_ge (l := xk_125) (pc' := 49) rfl rfl rfl (fun hc => ?_) (fun hc => ?_)
            · exact absurd (decide_eq_true hc) hlt
            · refine tK (l := xk_125) rfl rfl (fun _ _ _ _ _ => rfl) ?_
              refine tK (l := xk_125) rfl rfl (fun _ _ _ _ _ => rfl) ?_
              refine tK (l := xk_125) rfl rfl (fun _ _ _ _ _ => rfl) ?_
              refine tK (l := xk_125) rfl rfl (fun _ _ _ _ _ => rfl) ?_
              refine tK (l := xk_125) rfl rfl (fun _ _ _ _ _ => rfl) ?_
              refine tK (l := xk_125) rfl rfl (hDdsub (by assumption)) ?_
              refine tK (l := xk_125) rfl rfl (fun _ _ _ _ _ => rfl) ?_
              refine tK (l := xk_125) rfl rfl (hDdmul (by assumption)) ?_
              refine tK (l := xk_125) rfl rfl (fun _ _ _ _ _ => rfl) ?_
              refine tK (l := xk_125) rfl rfl (fun _ _ _ _ _ => rfl) ?_
              refine tRt (l := xk_125) rfl rfl (fun _ _ _ _ _ => rfl) ?_
              exact hQ
          · exfalso; omega
    refine tK (l := xk_125) rfl rfl (fun _ _ _ _ _ => rfl) ?_
    refine tK (l := xk_125) rfl rfl (fun _ _ _ _ _ => rfl) ?_
    refine tK (l := xk_125) rfl rfl (fun _ _ _ _ _ => rfl) ?_
    refine tIf_gt (l := xk_125) (pc' := 8) rfl rfl rfl (fun hc => ?_) (fun hc => ?_)
    · refine tK (l := xk_125) rfl rfl (fun _ _ _ _ _ => rfl) ?_
      refine tSt2 (l := xk_125) rfl rfl (fun _ _ _ _ _ => rfl) (Nat.le_of_ble_eq_true rfl) ?_
      refine tK (l := xk_125) rfl rfl (fun _ _ _ _ _ => rfl) ?_
      refine tSt2 (l := xk_125) rfl rfl (fun _ _ _ _ _ => rfl) (Nat.le_of_ble_eq_true rfl) ?_
      refine tK (l := xk_125) rfl rfl (fun _ _ _ _ _ => rfl) ?_
      refine tSt (l := xk_125) rfl rfl (fun _ _ _ _ _ => rfl) (Nat.le_of_ble_eq_true rfl) ?_
      exact loop 12 0 s 1023 (by decide) hb
    · exact absurd hgt hc
theorem s231 (hp : shP s) (hQ : Q (.inl (some (.inr (.inr (.inl (bitD s))))), ph, g)) : xTC d 231 [.inr (.inr (.inr s))] ph g Q := by
  refine tEn (ls := [some (.inr (.inr (.inr s))), none, none, none, none, none]) (fun k => by match k with | 0 => rfl | 1 => rfl | 2 => rfl | 3 => rfl | 4 => rfl | 5 => rfl | k + 6 => rfl) ?_
  rcases hp.2 with h0 | ⟨hne, hgt, hl2, x, e, hb, k1, k2⟩
  · subst h0
    refine tK (l := xk_231) rfl rfl (fun _ _ _ _ _ => rfl) ?_
    refine tK (l := xk_231) rfl rfl (fun _ _ _ _ _ => rfl) ?_
    refine tK (l := xk_231) rfl rfl (fun _ _ _ _ _ => rfl) ?_
    refine tIf_ne (l := xk_231) (pc' := 8) rfl rfl rfl (fun hc => ?_) (fun hc => ?_)
    · refine tK (l := xk_231) rfl rfl (fun _ _ _ _ _ => rfl) ?_
      refine tRt (l := xk_231) rfl rfl (fun _ _ _ _ _ => rfl) ?_
      exact hQ
    · exact absurd cm_0 hc
  · have hbd : bitD s = (e <<< ((Int32.ofInt 52).toInt64 &&& 63)) + FP.d2l (FP.dmul (FP.dsub x oneD) 4841369599423283200) := by unfold bitD; rw [if_neg hne, hb]
    rw [hbd] at hQ
    have loop : ∀ (n : Nat) (y : UInt64) (f : Int64), btD n y f = some (x, e) → xT d 231 38 (xlo [some (.inr (.inr (.inr s))), none, some (.inr (.inr (.inr y))), none, some (.inr (.inr (.inl f))), none]) [] ph g Q := by
      intro n
      induction n with
      | zero => intro y f hb; cases hb
      | succ n ih =>
        intro y f hb
        simp only [btD] at hb
        by_cases hlt : lt1 y = true
        · rw [if_pos hlt] at hb
          have hok : okD (dblD y) = true := by
            by_cases q : okD (dblD y) = true
            · exact q
            · rw [if_neg q] at hb; cases hb
          refine tK (l := xk_231) rfl rfl (fun _ _ _ _ _ => rfl) ?_
          refine tK (l := xk_231) rfl rfl (fun _ _ _ _ _ => rfl) ?_
          refine tK (l := xk_231) rfl rfl (fun _ _ _ _ _ => rfl) ?_
          refine tIf_ge (l := xk_231) (pc' := 59) rfl rfl rfl (fun hc => ?_) (fun hc => ?_)
          · refine tK (l := xk_231) rfl rfl (fun _ _ _ _ _ => rfl) ?_
            refine tK (l := xk_231) rfl rfl (fun _ _ _ _ _ => rfl) ?_
            refine tK (l := xk_231) rfl rfl (hDdmul (by assumption)) ?_
            refine tSt2 (l := xk_231) rfl rfl (fun _ _ _ _ _ => rfl) (Nat.le_of_ble_eq_true rfl) ?_
            refine tK (l := xk_231) rfl rfl (fun _ _ _ _ _ => rfl) ?_
            refine tK (l := xk_231) rfl rfl (fun _ _ _ _ _ => rfl) ?_
            refine tK (l := xk_231) rfl rfl (fun _ _ _ _ _ => rfl) ?_
            refine tSt2 (l := xk_231) rfl rfl (fun _ _ _ _ _ => rfl) (Nat.le_of_ble_eq_true rfl) ?_
            refine tK (l := xk_231) rfl rfl (fun _ _ _ _ _ => rfl) ?_
            rw [if_pos hok] at hb
            exact ih (dblD y) (f - 1) hb
          · exact absurd (of_decide_eq_true hlt) hc
        · rw [if_neg hlt] at hb
          cases hb
          refine tK (l := xk_231) rfl rfl (fun _ _ _ _ _ => rfl) ?_
          refine tK (l := xk_231) rfl rfl (fun _ _ _ _ _ => rfl) ?_
          refine tK (l := xk_231) rfl rfl (fun _ _ _ _ _ => rfl) ?_
          refine tIf_ge (l := xk_231) (pc' := 59) rfl rfl rfl (fun hc => ?_) (fun hc => ?_)
          · exact absurd (decide_eq_true hc) hlt
          · refine tK (l := xk_231) rfl rfl (fun _ _ _ _ _ => rfl) ?_
            refine tK (l := xk_231) rfl rfl (fun _ _ _ _ _ => rfl) ?_
            refine tK (l := xk_231) rfl rfl (fun _ _ _ _ _ => rfl) ?_
            refine tK (l := xk_231) rfl rfl (fun _ _ _ _ _ => rfl) ?_
            refine tK (l := xk_231) rfl rfl (fun _ _ _ _ _ => rfl) ?_
            refine tK (l := xk_231) rfl rfl (hDdsub (by assumption)) ?_
            refine tK (l := xk_231) rfl rfl (fun _ _ _ _ _ => rfl) ?_
            refine tK (l := xk_231) rfl rfl (hDdmul (by assumption)) ?_
            refine tK (l := xk_231) rfl rfl (fun _ _ _ _ _ => rfl) ?_
            refine tK (l := xk_231) rfl rfl (fun _ _ _ _ _ => rfl) ?_
            refine tRt (l := xk_231) rfl rfl (fun _ _ _ _ _ => rfl) ?_
            exact hQ
    refine tK (l := xk_231) rfl rfl (fun _ _ _ _ _ => rfl) ?_
    refine tK (l := xk_231) rfl rfl (fun _ _ _ _ _ => rfl) ?_
    refine tK (l := xk_231) rfl rfl (fun _ _ _ _ _ => rfl) ?_
    refine tIf_ne (l := xk_231) (pc' := 8) rfl rfl rfl (fun hc => ?_) (fun hc => ?_)
    · exact absurd (show cm s 0 = 0 from hc) (by omega)
    · refine tK (l := xk_231) rfl rfl (fun _ _ _ _ _ => rfl) ?_
      refine tSt2 (l := xk_231) rfl rfl (fun _ _ _ _ _ => rfl) (Nat.le_of_ble_eq_true rfl) ?_
      refine tK (l := xk_231) rfl rfl (fun _ _ _ _ _ => rfl) ?_
      refine tSt2 (l := xk_231) rfl rfl (fun _ _ _ _ _ => rfl) (Nat.le_of_ble_eq_true rfl) ?_
      refine tK (l := xk_231) rfl rfl (fun _ _ _ _ _ => rfl) ?_
      refine tK (l := xk_231) rfl rfl (fun _ _ _ _ _ => rfl) ?_
      refine tK (l := xk_231) rfl rfl (fun _ _ _ _ _ => rfl) ?_
      refine tIf_lt (l := xk_231) (pc' := 38) rfl rfl rfl (fun hc => ?_) (fun hc => ?_)
      · exact loop 12 s 1023 hb
      · exact absurd hl2 hc
end SHR
