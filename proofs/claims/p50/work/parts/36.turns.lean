/-! ===== how many turns ===== -/
theorem pvF_st (e : Bool) (k : Int) : ∀ (v : List Int) (s : RS), (pvF e k v s).1.2.2.2.1 = s.2.2.2.1 := by
  intro v
  induction v with
  | nil => intro s; rfl
  | cons c cs ih =>
    intro s
    have two : ∀ s1 : RS, s1.2.2.2.1 = s.2.2.2.1 → (match prF c k s1 with
        | (s2, 0) => pvF e k cs s2
        | q => q).1.2.2.2.1 = s.2.2.2.1 := by
      intro s1 h1
      have h2 := (prF_sc c k s1).2.1
      cases hp : prF c k s1 with | mk s2 r2 => ?_
      rw [hp] at h2
      cases r2 with
      | zero => exact (ih s2).trans (h2.trans h1)
      | succ r2 => exact h2.trans h1
    cases he : (e && spc c) with
    | false => rw [pvF_cons he]; exact two s rfl
    | true =>
      rw [pvF_conE he]
      have h2 := (prF_sc 126 k s).2.1
      cases hp : prF 126 k s with | mk s2 r2 => ?_
      rw [hp] at h2
      cases r2 with
      | zero => exact two s2 h2
      | succ r2 => exact h2
theorem oP_mu {fs fs2 : List Fm} {x y : Nat} {q : RS × Nat} {rs2 : RS} (h : RU fs2 rs2 = oP fs x y q) : rmC fs2 = rmC fs ∧ rs2.2.2.2.1 = q.1.2.2.2.1 := by
  unfold oP at h
  split at h
  · simp only [RU, Prod.mk.injEq] at h
    obtain ⟨rfl, rfl, -⟩ := h
    exact ⟨rmC_fsN, rfl⟩
  · rename_i hq
    simp only [RU, FL, Prod.mk.injEq] at h
    exact absurd h.2.2.1.symm hq
theorem Sto_mu {fs fs2 : List Fm} {rs rs2 : RS} (h : Sto (RU fs rs) (RU fs2 rs2)) : rmC fs2 + 1 + 25 * rs.2.2.2.1 ≤ rmC fs + 25 * rs2.2.2.2.1 := by
  have inj : ∀ {a b : List Fm} {u v : RS}, RU a u = RU b v → a = b ∧ u = v := fun h => by
    simp only [RU, Prod.mk.injEq] at h
    exact ⟨h.1, h.2.1⟩
  have nofl : ∀ {a b : List Fm} {u v : RS} {r x : Nat}, r ≠ 0 → RU a u = FL b v r x → False := fun hr h => by
    simp only [RU, FL, Prod.mk.injEq] at h
    exact hr h.2.2.1.symm
  rcases h with ⟨fs', rs', k, cd, nm, hc, hne, hsh, h⟩ | ⟨f, g, gs, rs', hc, h⟩
  · obtain ⟨rfl, rfl⟩ := inj hc
    rcases h with ⟨-, h⟩ | ⟨-, -, h⟩ | ⟨-, -, h⟩
    · exact (nofl (by decide) h).elim
    · have e0 : (ctS rs).2.2.2.1 = rs.2.2.2.1 + 1 := rfl
      rcases h with ⟨-, h⟩ | ⟨-, -, h⟩ | ⟨-, v, -, h⟩ | ⟨-, -, h⟩ | ⟨-, v, -, -, h⟩ | ⟨-, v, -, -, -, -, h⟩ | ⟨-, v, -, -, -, -, -, -, h⟩
      · have := oP_mu h
        rw [(prF_sc _ _ _).2.1, e0] at this
        omega
      · exact (nofl (by decide) h).elim
      · have := oP_mu h
        rw [pvF_st, e0] at this
        omega
      · exact (nofl (by decide) h).elim
      · exact (nofl (by decide) h).elim
      · simp only [RU, Prod.mk.injEq] at h
        exact absurd h.2.2.1 (by decide)
      · obtain ⟨rfl, rfl⟩ := inj h
        simp only [rmC, rmC_fsN, fmR, spS, ctS]
        simp
        omega
    · rcases h with ⟨-, -, h⟩ | ⟨-, n, ps, p, q, e, -, -, h⟩ | ⟨-, -, -, c, v, -, hv, h⟩ | ⟨-, -, -, h⟩ | ⟨-, -, -, h⟩
      · exact (nofl (by decide) h).elim
      · obtain ⟨rfl, rfl⟩ := inj h
        simp only [rmC_fsN, ctS]
        omega
      · obtain ⟨rfl, rfl⟩ := inj h
        simp only [rmC, rmC_fsN, fmR, spS, ctS, if_true, List.length_cons]
        omega
      · obtain ⟨rfl, rfl⟩ := inj h
        simp only [rmC, rmC_fsN, fmR, ctS]
        simp
        omega
      · obtain ⟨rfl, rfl⟩ := inj h
        simp only [rmC, rmC_fsN, fmR, opS, ctS]
        simp
        omega
  · obtain ⟨rfl, rfl⟩ := inj hc
    rcases h with ⟨h0, -, f0, sc, hr, h⟩ | ⟨h0, -, f0, sc, hr, ⟨c2, h1, h⟩ | ⟨h1, h⟩⟩ | ⟨h0, -, h⟩ | ⟨h0, -, -, f0, sc, s0, sg, hr, hr2, h⟩
    · obtain ⟨rfl, rfl⟩ := inj h
      simp only [rmC, fmR, h0]
      simp
      omega
    · obtain ⟨rfl, rfl⟩ := inj h
      have := (List.getElem?_eq_some_iff.mp h1).1
      simp only [rmC, fmR, h0, if_true]
      omega
    · obtain ⟨rfl, rfl⟩ := inj h
      simp only [rmC_fsN]
      simp only [rmC, fmR, h0, if_true]
      omega
    · obtain ⟨rfl, rfl⟩ := inj h
      simp only [rmC_fsN]
      simp only [rmC, fmR, h0]
      simp
      omega
    · obtain ⟨rfl, rfl⟩ := inj h
      simp only [rmC_fsN]
      simp only [rmC, fmR, h0]
      simp
      omega
