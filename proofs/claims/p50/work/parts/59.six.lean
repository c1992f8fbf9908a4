/-! ===== bounds ===== -/
theorem prF_6 (c k : Int) (s : RS) : (prF c k s).2 ≤ 6 := by
  obtain ⟨sc, sg, ou, st, pl, es, vl⟩ := s
  cases sg with
  | nil =>
    simp only [prF]
    split
    · exact (by decide : (2 : Nat) ≤ 6)
    · split
      · exact Nat.zero_le 6
      · split
        · exact Nat.zero_le 6
        · exact Nat.zero_le 6
  | cons t ts =>
    simp only [prF]
    split
    · exact Nat.le_refl 6
    · exact Nat.zero_le 6
theorem pvF_6 (e : Bool) (k : Int) : ∀ (v : List Int) (s : RS), (pvF e k v s).2 ≤ 6 := by
  intro v
  induction v with
  | nil => intro s; exact Nat.zero_le 6
  | cons c cs ih =>
    intro s
    simp only [pvF]
    have two : ∀ (s : RS), (match prF c k s with
        | (s2, 0) => pvF e k cs s2
        | q => q).2 ≤ 6 := by
      intro s
      have h := prF_6 c k s
      split
      · exact ih _
      · exact h
    split
    · have h := prF_6 126 k s
      split
      · exact two _
      · exact h
    · exact two s
theorem oP_6 {fs : List Fm} {x y : Nat} {q : RS × Nat} (h : q.2 ≤ 6) : (oP fs x y q).2.2.1 ≤ 6 := by
  unfold oP
  split
  · exact Nat.zero_le 6
  · exact h
theorem Sto_6 {c d : Cf} (h : Sto c d) : d.2.2.1 ≤ 6 := by
  rcases h with ⟨fs, rs, k, cd, nm, rfl, hne, hsh, h⟩ | ⟨f, g, gs, rs, rfl, h⟩
  · rcases h with ⟨-, rfl⟩ | ⟨-, -, h⟩ | ⟨-, -, h⟩
    · exact (by decide : (3 : Nat) ≤ 6)
    · rcases h with ⟨-, rfl⟩ | ⟨-, -, rfl⟩ | ⟨-, v, -, rfl⟩ | ⟨-, -, rfl⟩ | ⟨-, v, -, -, rfl⟩ | ⟨-, v, -, h5, -, -, rfl⟩ | ⟨-, v, -, h5, -, -, -, -, rfl⟩
      · exact oP_6 (prF_6 _ _ _)
      · exact (by decide : (1 : Nat) ≤ 6)
      · exact oP_6 (pvF_6 _ _ _ _)
      · exact (by decide : (1 : Nat) ≤ 6)
      · exact (by decide : (4 : Nat) ≤ 6)
      · exact (by decide : (5 : Nat) ≤ 6)
      · exact Nat.zero_le 6
    · rcases h with ⟨-, -, rfl⟩ | ⟨-, n, ps, p, q, e, -, -, rfl⟩ | ⟨-, -, -, c, v, -, -, rfl⟩ | ⟨-, -, -, rfl⟩ | ⟨-, -, -, rfl⟩
      · exact (by decide : (1 : Nat) ≤ 6)
      · exact Nat.zero_le 6
      · exact Nat.zero_le 6
      · exact Nat.zero_le 6
      · exact Nat.zero_le 6
  · rcases h with ⟨-, -, f0, sc, -, rfl⟩ | ⟨-, -, f0, sc, -, ⟨c2, -, rfl⟩ | ⟨-, rfl⟩⟩ | ⟨-, -, rfl⟩ | ⟨-, -, -, f0, sc, s0, sg, -, -, rfl⟩
    · exact Nat.zero_le 6
    · exact Nat.zero_le 6
    · exact Nat.zero_le 6
    · exact Nat.zero_le 6
    · exact Nat.zero_le 6
theorem Run_6 : ∀ {n : Nat} {c d : Cf}, Run n c d → c.2.2.1 ≤ 6 → d.2.2.1 ≤ 6 := by
  intro n
  induction n with
  | zero => intro c d h h6; cases h; exact h6
  | succ n ih =>
    intro c d ⟨e, h1, h2⟩ _
    exact ih h2 (Sto_6 h1)
