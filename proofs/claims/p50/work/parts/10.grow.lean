/-! ===== what is made stays made ===== -/
theorem xsl_set_le {ph : xH} {a : Nat} {c d : xC} (h : ph[a]? = some c) (hl : d.2.length = c.2.length) : ph.length ≤ (ph.set a d).length ∧ xsl ph ≤ xsl (ph.set a d) := ⟨by simp, Nat.le_of_eq (xsl_set h hl).symm⟩
theorem xsl_app_le (ph : xH) (c : xC) : ph.length ≤ (ph ++ [c]).length ∧ xsl ph ≤ xsl (ph ++ [c]) := ⟨by simp, by rw [xsl_app]; omega⟩
set_option maxHeartbeats 8000000 in
set_option maxRecDepth 100000 in
theorem xdir_grow {mi pc : Nat} {op : Instr} {lv : xL} {st : List xV} {ph : xH} {g : Nat} {q : Nat × xL × List xV × xH} (h : xdir mi pc op lv st ph g = .inl q) : ph.length ≤ q.2.2.2.length ∧ xsl ph ≤ xsl q.2.2.2 := by
  unfold xdir at h
  cases op <;> simp only [xop, xcmp] at h <;> (repeat' split at h) <;> first
    | (cases h; done)
    | (cases h; exact ⟨Nat.le_refl _, Nat.le_refl _⟩)
    | (cases h; exact xsl_app_le _ _)
    | (cases h; exact xsl_set_le (by assumption) (by simp))
theorem xr_grow : ∀ (n d mi pc : Nat) (lv : xL) (st : List xV) (ph : xH) (g : Nat) (r : xR), xr n d mi pc lv st ph g = some r → (ph.length ≤ r.2.1.length ∧ xsl ph ≤ xsl r.2.1) ∧ g ≤ r.2.2 := by
  intro n
  induction n with
  | zero => intro d mi pc lv st ph g r h; cases h
  | succ n ih =>
    intro d mi pc lv st ph g r h
    cases hf : xfetch mi pc with
    | none => rw [xr_none n d mi pc lv st ph g hf] at h; cases h
    | some op =>
      rw [xr_succ n d mi pc lv st ph g hf] at h
      cases hd : xdir mi pc op lv st ph g with
      | inl q =>
        rw [hd] at h
        have h1 := ih _ _ _ _ _ _ _ _ h
        have h2 := xdir_grow hd
        exact ⟨⟨Nat.le_trans h2.1 h1.1.1, Nat.le_trans h2.2 h1.1.2⟩, h1.2⟩
      | inr q =>
        cases q with
        | inl q =>
          rw [hd] at h
          simp only [xcase, xcont] at h
          cases d with
          | zero => cases h
          | succ d' =>
            simp only at h
            cases hc : xr n d' q.1 0 (xent q.2.1) [] ph g with
            | none => rw [hc] at h; cases h
            | some r1 =>
              have h2 := ih _ _ _ _ _ _ _ _ hc
              rw [hc] at h
              obtain ⟨o, ph1, g1⟩ := r1
              have tr : (ph1.length ≤ r.2.1.length ∧ xsl ph1 ≤ xsl r.2.1) ∧ g1 ≤ r.2.2 → (ph.length ≤ r.2.1.length ∧ xsl ph ≤ xsl r.2.1) ∧ g ≤ r.2.2 := fun h1 => ⟨⟨Nat.le_trans h2.1.1 h1.1.1, Nat.le_trans h2.1.2 h1.1.2⟩, Nat.le_trans h2.2 h1.2⟩
              cases o with
              | inl v => exact tr (ih _ _ _ _ _ _ _ _ h)
              | inr E =>
                simp only at h
                cases hh : xhan mi pc E with
                | none => rw [hh] at h; cases h; exact tr ⟨⟨Nat.le_refl _, Nat.le_refl _⟩, Nat.le_refl _⟩
                | some w => rw [hh] at h; exact tr (ih _ _ _ _ _ _ _ _ h)
        | inr q =>
          cases q with
          | inl v => rw [hd] at h; cases h; exact ⟨⟨Nat.le_refl _, Nat.le_refl _⟩, Nat.le_refl _⟩
          | inr q =>
            cases q with
            | inl E => rw [hd] at h; cases h; exact ⟨⟨Nat.le_refl _, Nat.le_refl _⟩, Nat.le_succ _⟩
            | inr u => rw [hd] at h; cases h
theorem xr_grow2 {n d mi pc : Nat} {lv : xL} {st : List xV} {ph : xH} {g : Nat} {r : xR} (h : xr n d mi pc lv st ph g = some r) : xcc ph g ≤ xcc r.2.1 r.2.2 ∧ xcs ph g ≤ xcs r.2.1 r.2.2 := by
  have h1 := xr_grow _ _ _ _ _ _ _ _ _ h
  unfold xcc xcs
  omega
