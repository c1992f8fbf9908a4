/-! ===== what the small machine owes: its law answers 1 on every script ===== -/
def xLaw : Prop := ∀ zs : List xV, (∀ v ∈ zs, ∃ x : Int, v = .inl x ∧ xin x) → zs.length ≤ 260 → ∃ (n : Nat) (ph : xH) (g : Nat), xr n 2000 147 0 (xent [.inr (.inl (some 0))]) [] [(200, zs)] 0 = some (.inl (some (.inl 1)), ph, g) ∧ ph.length + g ≤ 600173 ∧ xsl ph + 6 * g ≤ 7300668 + zs.length
theorem xlaw : xLaw := by
  intro zs hzi hz
  obtain ⟨n, ⟨v, ph9, g9⟩, hr, hv, ⟨hl, hs⟩, hg⟩ := law_run hzi hz
  simp only at hv hl hs hg
  subst hv
  refine ⟨n, ph9, g9, hr, ?_, ?_⟩
  · omega
  · omega
