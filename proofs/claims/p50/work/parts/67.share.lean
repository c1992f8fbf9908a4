/-! ===== the share ===== -/
section DOP
variable {mi pc g : Nat} {lv : xL} {st : List xV} {ph : xH} {x y : UInt64}
theorem hDddiv (h : okD (FP.ddiv x y) = true) (K : Nat → xL → List xV → xH → Prop) (C : Nat → List xV → List xV → Prop) (Rt : Option xV → Prop) (Th : Nat → Prop) (z : Prop) : xop mi pc .ddiv lv (.inr (.inr (.inr y)) :: .inr (.inr (.inr x)) :: st) ph g K C Rt Th z = K (pc + 1) lv (.inr (.inr (.inr (FP.ddiv x y))) :: st) ph := by
  simp only [xop]
  rw [if_pos (of_decide_eq_true h)]
theorem hDdmul (h : okD (FP.dmul x y) = true) (K : Nat → xL → List xV → xH → Prop) (C : Nat → List xV → List xV → Prop) (Rt : Option xV → Prop) (Th : Nat → Prop) (z : Prop) : xop mi pc .dmul lv (.inr (.inr (.inr y)) :: .inr (.inr (.inr x)) :: st) ph g K C Rt Th z = K (pc + 1) lv (.inr (.inr (.inr (FP.dmul x y))) :: st) ph := by
  simp only [xop]
  rw [if_pos (of_decide_eq_true h)]
theorem hDdsub (h : okD (FP.dsub x y) = true) (K : Nat → xL → List xV → xH → Prop) (C : Nat → List xV → List xV → Prop) (Rt : Option xV → Prop) (Th : Nat → Prop) (z : Prop) : xop mi pc .dsub lv (.inr (.inr (.inr y)) :: .inr (.inr (.inr x)) :: st) ph g K C Rt Th z = K (pc + 1) lv (.inr (.inr (.inr (FP.dsub x y))) :: st) ph := by
  simp only [xop]
  rw [if_pos (of_decide_eq_true h)]
end DOP
def cm (x y : UInt64) : Int := (Op.cmpValue (FP.dcmp x y) .l).toInt
def shV (st : SS) : UInt64 := if st.2.1.1.length = 0 then 0 else FP.ddiv (FP.i2d (Int32.ofInt st.2.1.2.2.2.2.2.2)) (FP.i2d (Int32.ofInt (st.2.1.1.length : Int)))
theorem cm_0 : cm 0 0 = 0 := by decide +kernel
section SHR
variable {d : Nat} {ph : xH} {zs : List xV} {g : Nat} {Q : xR → Prop} {c : KS} {h0 : Int64} {s : UInt64}
theorem c99 (h : hKl zs ph c) (hd : 0 < c.2.1.2.1.1.length → okD (FP.ddiv (FP.i2d (Int32.ofInt c.2.1.2.1.2.2.2.2.2.2)) (FP.i2d (Int32.ofInt (c.2.1.2.1.1.length : Int)))) = true) (hQ : Q (.inl (some (.inr (.inr (.inr (shV c.2.1))))), ph, g)) : xTC (d + 2) 99 [.inr (.inl (some 1))] ph g Q := by
  have hs := h.1
  unfold shV at hQ
  refine tEn (ls := [some (.inr (.inl (some 1))), none]) (fun k => by match k with | 0 => rfl | 1 => rfl | k + 2 => rfl) ?_
  refine tK (l := xk_99) rfl rfl (fun _ _ _ _ _ => rfl) ?_
  refine tCa (l := xk_99) rfl rfl (hInvV (c := 9) hs rfl rfl rfl rfl rfl (Nat.le_of_ble_eq_true rfl) (Nat.le_of_ble_eq_true rfl)) ?_
  refine c87 h ?_
  refine tKv ?_
  refine tSt (l := xk_99) rfl rfl (fun _ _ _ _ _ => rfl) (Nat.le_of_ble_eq_true rfl) ?_
  refine tK (l := xk_99) rfl rfl (fun _ _ _ _ _ => rfl) ?_
  refine tIf_le (l := xk_99) (pc' := 20) rfl rfl rfl (fun hc => ?_) (fun hc => ?_)
  · refine tK (l := xk_99) rfl rfl (fun _ _ _ _ _ => rfl) ?_
    refine tCa (l := xk_99) rfl rfl (hInvV (c := 9) hs rfl rfl rfl rfl rfl (Nat.le_of_ble_eq_true rfl) (Nat.le_of_ble_eq_true rfl)) ?_
    refine c93 h ?_
    refine tKv ?_
    refine tK (l := xk_99) rfl rfl (fun _ _ _ _ _ => rfl) ?_
    refine tK (l := xk_99) rfl rfl (fun _ _ _ _ _ => rfl) ?_
    refine tK (l := xk_99) rfl rfl (fun _ _ _ _ _ => rfl) ?_
    refine tK (l := xk_99) rfl rfl (hDddiv (hd (by omega))) ?_
    refine tK (l := xk_99) rfl rfl (fun _ _ _ _ _ => rfl) ?_
    refine tRt (l := xk_99) rfl rfl (fun _ _ _ _ _ => rfl) ?_
    rw [if_neg (by omega)] at hQ
    exact hQ
  · refine tK (l := xk_99) rfl rfl (fun _ _ _ _ _ => rfl) ?_
    refine tRt (l := xk_99) rfl rfl (fun _ _ _ _ _ => rfl) ?_
    rw [if_pos (by omega)] at hQ
    exact hQ
end SHR
theorem share_ok {st : SS} {v : Nat} (hv : st.2.1.2.2.2.2.2.2 = (v : Int)) (hl : st.2.1.1.length ≤ 200) (hvl : v ≤ st.2.1.1.length) : (0 < st.2.1.1.length → okD (FP.ddiv (FP.i2d (Int32.ofInt st.2.1.2.2.2.2.2.2)) (FP.i2d (Int32.ofInt (st.2.1.1.length : Int)))) = true) ∧ cm (shV st) (shV st) = 0 := by
  by_cases h0 : st.2.1.1.length = 0
  · refine ⟨fun q => absurd h0 (by omega), ?_⟩
    unfold shV
    rw [if_pos h0]
    exact cm_0
  · have hk := chk_ok (v := v) (l := st.2.1.1.length) (by omega) hl hvl
    have es : shV st = shD v st.2.1.1.length := by unfold shV shD; rw [if_neg h0, hv]
    unfold chk at hk
    simp only [Bool.and_eq_true, decide_eq_true_eq] at hk
    rw [es]
    exact ⟨fun _ => by rw [hv]; exact hk.1, hk.2⟩
theorem times1 {v : Nat} (h : v ≤ 200) : FP.dmul (FP.i2d (Int32.ofInt (v : Int))) FP.dconst1 = FP.i2d (Int32.ofInt (v : Int)) ∧ okD (FP.i2d (Int32.ofInt (v : Int))) = true := by
  have h1 := List.all_eq_true.mp chm_ok v (List.mem_range.mpr (by omega))
  unfold chm at h1
  simp only [Bool.and_eq_true, decide_eq_true_eq] at h1
  exact h1
theorem dc0 : FP.dconst0 = 0 := by decide +kernel
