/-! ===== how many turns ===== -/
theorem pvF_st (e : Bool) (k : Int) : ∀ (v : List Int) (s : RS), (pvF e k v s).1.2.2.2.1 = s.2.2.2.1 := by
  intro v
  induction v with
  | nil => intro s; rfl
  | cons c cs ih =>
    intro s
    have two : ∀ s1 : RS, s1.2.2.2.1 = s.2.2.2.1 → (match prF c k s1 with
        | (s2, 0) => pvF e k cs s2
        | q => q).1.2.2.2.1 = s.2.2.2.1 := by
      intro s1 h1
      have h2 := (prF_sc c k s1).2.1
      cases hp : prF c k s1 with | mk s2 r2 => ?_
      rw [hp] at h2
      cases r2 with
      | zero => exact (ih s2).trans (h2.trans h1)
      | succ r2 => exact h2.trans h1
    cases he : (e && spc c) with
    | false => rw [pvF_cons he]; exact two s rfl
    | true =>
      rw [pvF_conE he]
      have h2 := (prF_sc 126 k s).2.1
      cases hp : prF 126 k s with | mk s2 r2 => ?_
      rw [hp] at h2
      cases r2 with
      | zero => exact two s2 h2
      | succ r2 => exact h2
theorem oP_mu {fs fs2 : List Fm} {x y : Nat} {q : RS × Nat} {rs2 : RS} (h : RU fs2 rs2 = oP fs x y q) : rmC fs2 = rmC fs ∧ rs2.2.2.2.1 = q.1.2.2.2.1 := by
  unfold oP at h
  split at h
  · simp only [RU, Prod.mk.injEq] at h
    obtain ⟨rfl, rfl, -⟩ := h
    exact ⟨rmC_fsN, rfl⟩
  · rename_i hq
    simp only [RU, FL, Prod.mk.injEq] at h
    exact absurd h.2.2.1.symm hq
