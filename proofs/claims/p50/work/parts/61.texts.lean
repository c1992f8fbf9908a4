/-! ===== what holds of a complete template ===== -/
def pK (s : PSt) : Prop := s.2.2.1.length + (if s.1 = 2 ∨ s.1 = 3 ∨ s.1 = 4 then 1 else 0) ≤ s.2.1.length ∧ (s.2.1.length = 0 → s.2.2.2 = 0) ∧ (s.2.1.length ≠ 0 → s.2.2.2 + 1 ≤ s.2.1.length)
theorem ite1_le {p : Prop} {d : Decidable p} : @ite Nat p d 1 0 ≤ 1 := by
  split
  · exact Nat.le_refl 1
  · exact Nat.zero_le 1
theorem pNm_K {nm : Int} {rd : Nat} {ps : List PP} {op : List Nat} {mo : Nat} {s2 : PSt} (h1 : op.length + 1 ≤ ps.length) (h3 : ps.length ≠ 0 → mo + 1 ≤ ps.length) (he : pNm nm (rd, ps, op, mo) = some s2) : pK s2 ∧ ps.length ≤ s2.2.1.length := by
  simp only [pNm] at he
  split at he
  · cases he
  · split at he
    · rename_i p hp
      cases he
      refine ⟨⟨?_, fun q => ?_, fun q => ?_⟩, by simp⟩
      · simp only [List.length_set]
        exact Nat.le_trans (Nat.add_le_add_left ite1_le _) (by omega)
      · simp only [List.length_set] at q
        omega
      · simp only [List.length_set]
        exact h3 (by omega)
    · cases he
theorem pRd_K {i : Nat} {c : Int} {s s2 : PSt} (h : pK s) (he : pRd i c s = some s2) : pK s2 ∧ s.2.1.length ≤ s2.2.1.length := by
  obtain ⟨rd, ps, op, mo⟩ := s
  obtain ⟨h1, h2, h3⟩ := h
  simp only at h1 h2 h3
  have last : ∀ rd9 : Nat, (if c = 125 then (match op with
      | [] => none
      | p :: os => some ((0, pSet ps p (fun q => (q.1, q.2.1, q.2.2.1, q.2.2.2.1, ps.length)), os, mo) : PSt))
    else some (if c = 126 then 1 else if c = 123 then 2 else 0, ps ++ [(if c = 126 then 1 else if c = 123 then 2 else 0, i, c, 0, ps.length + 1)], op, if mo < op.length then op.length else mo)) = some s2 → op.length ≤ ps.length → pK s2 ∧ ps.length ≤ s2.2.1.length := by
    intro _ he hop
    split at he
    · split at he
      · cases he
      · rename_i p os
        cases he
        refine ⟨⟨?_, fun q => ?_, fun q => ?_⟩, by simp only [pSet_len]; omega⟩
        · simp only [pSet_len]
          simp only [List.length_cons] at hop
          rw [if_neg (by omega)]
          omega
        · simp only [pSet_len] at q ⊢
          exact h2 q
        · simp only [pSet_len] at q ⊢
          exact h3 q
    · cases he
      refine ⟨⟨?_, fun q => ?_, fun q => ?_⟩, by simp⟩
      · simp only [List.length_append, List.length_cons, List.length_nil]
        exact Nat.le_trans (Nat.add_le_add_left ite1_le _) (by omega)
      · simp only [List.length_append, List.length_cons, List.length_nil] at q
        omega
      · simp only [List.length_append, List.length_cons, List.length_nil]
        by_cases z : ps.length = 0
        · have := h2 z
          split <;> omega
        · have := h3 z
          split <;> omega
  match rd, h1, he with
  | 0, h1, he => exact last 0 he (by simpa using h1)
  | 1, h1, he =>
    simp only [pRd] at he
    cases he
    refine ⟨⟨?_, fun q => ?_, fun q => ?_⟩, by simp only [pSet_len]; omega⟩
    · simp only [pSet_len]
      rw [if_neg (by omega)] at h1 ⊢
      exact h1
    · simp only [pSet_len] at q ⊢
      exact h2 q
    · simp only [pSet_len] at q ⊢
      exact h3 q
  | 2, h1, he =>
    simp only [pRd] at he
    rw [if_pos (by omega)] at h1
    split at he
    · exact pNm_K h1 h3 he
    · cases he
      refine ⟨⟨?_, fun q => ?_, fun q => ?_⟩, by simp only [pSet_len]; omega⟩
      · simp only [pSet_len]
        rw [if_pos (Or.inr (Or.inl trivial))]
        exact h1
      · simp only [pSet_len] at q ⊢
        exact h2 q
      · simp only [pSet_len] at q ⊢
        exact h3 q
  | 3, h1, he =>
    simp only [pRd] at he
    rw [if_pos (by omega)] at h1
    exact pNm_K h1 h3 he
  | 4, h1, he =>
    simp only [pRd] at he
    rw [if_pos (by omega)] at h1
    split at he
    · cases he
      refine ⟨⟨?_, h2, h3⟩, Nat.le_refl _⟩
      simp only [List.length_cons]
      rw [if_neg (by omega)]
      omega
    · cases he
  | 5, h1, he =>
    simp only [pRd] at he
    rw [if_neg (by omega)] at h1
    split at he
    · cases he
      refine ⟨⟨?_, h2, h3⟩, Nat.le_refl _⟩
      show op.length + (if (0 : Nat) = 2 ∨ (0 : Nat) = 3 ∨ (0 : Nat) = 4 then 1 else 0) ≤ ps.length
      rw [if_neg (by omega)]
      exact h1
    · cases he
  | k + 6, h1, he =>
    rw [if_neg (by omega)] at h1
    exact last (k + 6) he h1
theorem pAll_K : ∀ (l : List Int) (i : Nat) (s : PSt), pK s → ∀ j s2, pAll i l s = (j, some s2) → pK s2 ∧ s.2.1.length ≤ s2.2.1.length := by
  intro l
  induction l with
  | nil => intro i s h j s2 he; simp only [pAll] at he; cases he; exact ⟨h, Nat.le_refl _⟩
  | cons c cs ih =>
    intro i s h j s2 he
    simp only [pAll] at he
    cases hr : pRd i c s with
    | none => rw [hr] at he; cases he
    | some s1 =>
      rw [hr] at he
      obtain ⟨k1, k2⟩ := pRd_K h hr
      obtain ⟨k3, k4⟩ := ih _ _ k1 _ _ he
      exact ⟨k3, Nat.le_trans k2 k4⟩
theorem pK0 : pK (0, [], [], 0) := ⟨by decide, fun _ => rfl, fun q => absurd rfl q⟩
theorem whole_facts {t : List Int} (h : pWh t = true) : (pRes t).1 = t.length ∧ (pPs t).length ≤ t.length ∧ pDp t ≤ (pPs t).length ∧ ((pPs t).length = 0 ↔ t.length = 0) ∧ (pDp t = 0 ↔ t.length = 0) := by
  obtain ⟨ps, mo, hs⟩ := pWh_iff.mp h
  obtain ⟨e1, hin⟩ := pRes_some hs
  have ep : pPs t = ps := by unfold pPs; rw [hs]
  have ed : pDp t = if ps.length = 0 then 0 else mo + 1 := by unfold pDp; rw [hs]
  have hk := (pAll_K t 0 _ pK0 (pRes t).1 (0, ps, [], mo) (by rw [← hs]; rfl)).1
  have h0 : ps.length ≤ t.length := hin.1
  have hz : ps.length = 0 → t.length = 0 := by
    intro z
    cases t with
    | nil => rfl
    | cons c cs =>
      exfalso
      have hr : pRes (c :: cs) = pAll 0 (c :: cs) (0, [], [], 0) := rfl
      have e2 : pAll 0 (c :: cs) (0, [], [], 0) = ((pRes (c :: cs)).1, some (0, ps, [], mo)) := by rw [← hs]; rfl
      simp only [pAll] at e2
      cases hc : pRd 0 c (0, [], [], 0) with
      | none => rw [hc] at e2; exact absurd (congrArg Prod.snd e2) (by simp)
      | some s1 =>
        rw [hc] at e2
        have k1 := pRd_K pK0 hc
        have k2 := (pAll_K cs (0 + 1) s1 k1.1 _ _ e2).2
        have k3 : 1 ≤ s1.2.1.length := by
          have hc' : (if c = 125 then none else some ((if c = 126 then 1 else if c = 123 then 2 else 0, [(if c = 126 then 1 else if c = 123 then 2 else 0, 0, c, 0, 0 + 1)], [], if 0 < 0 then 0 else 0) : PSt)) = some s1 := hc
          split at hc'
          · cases hc'
          · cases hc'
            exact Nat.le_refl 1
        have k4 : s1.2.1.length ≤ ps.length := k2
        omega
  refine ⟨e1, by rw [ep]; exact h0, ?_, ?_, ?_⟩
  · rw [ed, ep]
    split
    · exact Nat.zero_le _
    · rename_i z
      exact hk.2.2 z
  · rw [ep]
    exact ⟨hz, fun q => by omega⟩
  · rw [ed]
    split
    · rename_i z
      exact ⟨fun _ => hz z, fun _ => rfl⟩
    · rename_i z
      exact ⟨fun q => absurd q (Nat.succ_ne_zero _), fun q => absurd (by omega : ps.length = 0) z⟩
theorem mkL_le : ∀ (ps : List PP) (m : Nat), mkL ps m ≤ m + ps.length := by
  intro ps
  induction ps with
  | nil => intro m; exact Nat.le_refl _
  | cons p ps ih =>
    intro m
    simp only [mkL, List.length_cons]
    split
    · have := ih (m + 1); omega
    · have := ih m; omega
/-! ===== names of parts ===== -/
theorem Sg_nm : ∀ {n : Nat} {t : List Int} {ps : List PP} {p q x y : Nat}, Sg n t ps p q x y → ∀ i, p ≤ i → i < q → ∃ r, ps[i]? = some r ∧ (r.1 ≤ 1 ∨ r.2.2.2.1 ≤ 9) := by
  intro n
  induction n with
  | zero => intro t ps p q x y h; exact absurd h (fun q => q)
  | succ n ih =>
    intro t ps p q x y h i hp hq
    rcases h with ⟨rfl, rfl⟩ | ⟨k, cd, nm, bh, h1, h2, h3, h4⟩
    · omega
    · by_cases e : i = p
      · subst e
        refine ⟨_, h1, ?_⟩
        show k ≤ 1 ∨ nm ≤ 9
        rcases h4 with ⟨w, h4, -, -⟩ | ⟨h4, -⟩
        · rcases h4 with ⟨h, -⟩ | ⟨h, -⟩ | ⟨-, -, -, ⟨c, -, -, hc⟩, -⟩ | ⟨-, -, -, -, ⟨c, -, hc⟩, -⟩
          · exact Or.inl (by omega)
          · exact Or.inl (by omega)
          · have := (nmF_le c).2
            exact Or.inr (by omega)
          · have := (nmF_le c).2
            exact Or.inr (by omega)
        · obtain ⟨-, -, -, ⟨c, -, hc⟩, -⟩ := h4
          have := (nmF_le c).2
          exact Or.inr (by omega)
      · rcases h4 with ⟨w, h4, rfl, h5⟩ | ⟨-, e2, h5, -, h6⟩
        · exact ih h5 i (by omega) hq
        · by_cases hb : i < bh
          · exact ih h5 i (by omega) hb
          · exact ih h6 i (by omega) hq
theorem whole_nm {t : List Int} (h : pWh t = true) : ∀ r ∈ pPs t, r.1 ≤ 1 ∨ r.2.2.2.1 ≤ 9 := by
  intro r hr
  obtain ⟨i, hi⟩ := List.getElem?_of_mem hr
  have hl := (List.getElem?_eq_some_iff.mp hi).1
  obtain ⟨r2, h2, h3⟩ := Sg_nm (pWh_sg h) i (Nat.zero_le _) hl
  rw [hi] at h2
  cases h2
  exact h3
