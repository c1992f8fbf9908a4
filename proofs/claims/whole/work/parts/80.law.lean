/-! ===== what the small machine owes: its law answers 1 on every script ===== -/
def xLaw : Prop := ∀ zs : List xV, (∀ v ∈ zs, ∃ x : Int, v = .inl x ∧ xin x) → zs.length ≤ 1536 → ∃ (n : Nat) (ph : xH) (g : Nat), xr n 2000 261 0 (xent [.inr (.inl (some 0))]) [] [(200, zs)] 0 = some (.inl (some (.inl 1)), ph, g) ∧ ph.length + g ≤ 601025 ∧ xsl ph + 6 * g ≤ 7293034 + zs.length
theorem xlaw : xLaw := by
  intro zs hzi hz
  obtain ⟨n, ⟨v, ph9, g9⟩, hr, hv, hs, hg⟩ := law_run hzi hz
  simp only at hv hs hg
  subst hv
  refine ⟨n, ph9, g9, hr, ?_, ?_⟩
  · rw [hs.1]; omega
  · have := hSh_sl hs
    omega
