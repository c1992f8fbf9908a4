/-! ===== characters ===== -/
def oks (l : List Int) : Prop := ∀ c ∈ l, 0 ≤ c ∧ c ≤ 65535
def okR (rs : RS) : Prop := (∀ f ∈ rs.1, ∀ n v, f n = some v → oks v) ∧ (∀ s ∈ rs.2.1, oks s) ∧ oks rs.2.2.1
def okF (fs : List Fm) : Prop := ∀ f ∈ fs, oks f.2.2.2.2.2 ∧ f.2.2.2.2.2.length ≤ 60
def okC (c : Cf) : Prop := okF c.1 ∧ okR c.2.1
theorem oks_app {a : List Int} {c : Int} (h : oks a) (hc : 0 ≤ c ∧ c ≤ 65535) : oks (a ++ [c]) := by
  intro x hx
  rcases List.mem_append.mp hx with h1 | h1
  · exact h x h1
  · rw [List.mem_singleton.mp h1]; exact hc
theorem ok_lk : ∀ {scs : List xSc} {n : Nat} {v : List Int}, (∀ f ∈ scs, ∀ n v, f n = some v → oks v) → lk scs n = some v → oks v := by
  intro scs
  induction scs with
  | nil => intro n v _ h; cases h
  | cons f t ih =>
    intro n v h h2
    simp only [lk] at h2
    cases hf : f n with
    | some w => rw [hf] at h2; cases h2; exact h f List.mem_cons_self n _ hf
    | none => rw [hf] at h2; exact ih (fun f hf => h f (List.mem_cons_of_mem _ hf)) h2
theorem ok_cT {fs : List Fm} (h : okF fs) : oks (cT fs) := by
  induction fs with
  | nil => intro c hc; simp [cT] at hc
  | cons f fs ih =>
    simp only [cT]
    split
    · exact (h f List.mem_cons_self).1
    · exact ih (fun f hf => h f (List.mem_cons_of_mem _ hf))
theorem ok_fsN {fs : List Fm} {x : Nat} (h : okF fs) : okF (fsN fs x) := by
  cases fs with
  | nil => exact h
  | cons f fs =>
    intro g hg
    rcases List.mem_cons.mp hg with rfl | hg
    · exact h f List.mem_cons_self
    · exact h g (List.mem_cons_of_mem _ hg)
theorem ok_prF {c k : Int} {s : RS} (h : okR s) (hc : 0 ≤ c ∧ c ≤ 65535) : okR (prF c k s).1 := by
  obtain ⟨sc, stg, ou, st, pl, es, vl⟩ := s
  obtain ⟨h1, h2, h3⟩ := h
  cases stg with
  | nil =>
    simp only [prF]
    (repeat' split) <;> first | exact ⟨h1, h2, h3⟩ | exact ⟨h1, h2, oks_app h3 hc⟩
  | cons t ts =>
    simp only [prF]
    split
    · exact ⟨h1, h2, h3⟩
    · refine ⟨h1, fun s hs => ?_, h3⟩
      rcases List.mem_cons.mp hs with rfl | hs
      · exact oks_app (h2 t List.mem_cons_self) hc
      · exact h2 s (List.mem_cons_of_mem _ hs)
theorem ok_pvF (e : Bool) (k : Int) : ∀ (v : List Int) (s : RS), okR s → oks v → okR (pvF e k v s).1 := by
  intro v
  induction v with
  | nil => intro s h _; exact h
  | cons c cs ih =>
    intro s h hv
    have hc := hv c List.mem_cons_self
    have hcs : oks cs := fun x hx => hv x (List.mem_cons_of_mem _ hx)
    have two : ∀ s1 : RS, okR s1 → okR (match prF c k s1 with
        | (s2, 0) => pvF e k cs s2
        | q => q).1 := by
      intro s1 h1
      have h2 := ok_prF (k := k) h1 hc
      cases hp : prF c k s1 with | mk s2 r2 => ?_
      rw [hp] at h2
      cases r2 with
      | zero => exact ih s2 h2 hcs
      | succ r2 => exact h2
    cases he : (e && spc c) with
    | false => rw [pvF_cons he]; exact two s h
    | true =>
      rw [pvF_conE he]
      have h2 := ok_prF (c := 126) (k := k) h (by decide)
      cases hp : prF 126 k s with | mk s2 r2 => ?_
      rw [hp] at h2
      cases r2 with
      | zero => exact two s2 h2
      | succ r2 => exact h2
theorem ok_dg {p : Nat} (h : p ≤ 60) : oks (dg p) := by
  unfold dg
  split
  · intro c hc
    simp only [List.mem_cons, List.not_mem_nil, or_false] at hc
    omega
  · intro c hc
    simp only [List.mem_cons, List.not_mem_nil, or_false] at hc
    rcases hc with rfl | rfl <;> omega
theorem ok_psc {p : Nat} {c : Int} (h : p ≤ 60) (hc : 0 ≤ c ∧ c ≤ 65535) : ∀ n v, psc p c n = some v → oks v := by
  intro n v hv
  unfold psc at hv
  split at hv
  · cases hv; exact ok_dg h
  · split at hv
    · cases hv
      intro x hx
      rw [List.mem_singleton.mp hx]; exact hc
    · cases hv
theorem ok_push {scs : List xSc} {f : xSc} (h : ∀ f ∈ scs, ∀ n v, f n = some v → oks v) (hf : ∀ n v, f n = some v → oks v) : ∀ g ∈ f :: scs, ∀ n v, g n = some v → oks v := by
  intro g hg
  rcases List.mem_cons.mp hg with rfl | hg
  · exact hf
  · exact h g hg
theorem ok_oP {fs : List Fm} {x y : Nat} {q : RS × Nat} (hF : okF fs) (hq : okR q.1) : okC (oP fs x y q) := by
  unfold oP
  split
  · exact ⟨ok_fsN hF, hq⟩
  · exact ⟨hF, hq⟩
theorem ok_cons {f : Fm} {fs : List Fm} (h : okF fs) (h1 : oks f.2.2.2.2.2) (h2 : f.2.2.2.2.2.length ≤ 60) : okF (f :: fs) := by
  intro g hg
  rcases List.mem_cons.mp hg with rfl | hg
  · exact ⟨h1, h2⟩
  · exact h g hg
theorem Sto_ok {c d : Cf} (h : Sto c d) (hc : okC c) : okC d := by
  rcases h with ⟨fs, rs, k, cd, nm, rfl, hne, hsh, h⟩ | ⟨f, g, gs, rs, rfl, h⟩
  · obtain ⟨hF, hR⟩ := hc
    have hF : okF fs := hF
    have hR : okR rs := hR
    have hR2 : okR (ctS rs) := hR
    rcases h with ⟨-, rfl⟩ | ⟨-, ⟨w, hw⟩, h⟩ | ⟨-, -, h⟩
    · exact ⟨hF, hR⟩
    · rcases h with ⟨hk, rfl⟩ | ⟨-, -, rfl⟩ | ⟨-, v, hv, rfl⟩ | ⟨-, -, rfl⟩ | ⟨-, v, -, -, rfl⟩ | ⟨-, v, -, h5, -, -, rfl⟩ | ⟨-, v, hv, h5, -, h24, -, -, rfl⟩
      · refine ok_oP hF (ok_prF hR2 ?_)
        have hmem : cd ∈ cT fs := by
          rcases hw with q | q | q | q
          · exact List.mem_of_getElem? q.2.2.1
          · exact List.mem_of_getElem? q.2.2.2
          · omega
          · omega
        exact ok_cT hF cd hmem
      · exact ⟨hF, hR2⟩
      · exact ok_oP hF (ok_pvF _ _ _ _ hR2 (ok_lk hR2.1 hv))
      · exact ⟨hF, hR2⟩
      · exact ⟨hF, hR2⟩
      · exact ⟨hF, hR2⟩
      · exact ⟨ok_cons (ok_fsN hF) (ok_lk hR2.1 hv) (by simp only; omega), ok_push hR2.1 (fun n v h => by cases h), hR2.2⟩
    · have hnil : oks ([] : List Int) := fun c hc => by simp at hc
      rcases h with ⟨-, -, rfl⟩ | ⟨-, n, ps, p, q, e, -, -, rfl⟩ | ⟨-, -, -, c, v, hv, h23, rfl⟩ | ⟨-, -, -, rfl⟩ | ⟨-, -, -, rfl⟩
      · exact ⟨hF, hR2⟩
      · exact ⟨ok_fsN hF, hR2⟩
      · have hl := ok_lk hR2.1 hv
        exact ⟨ok_cons (ok_fsN hF) hl (by simp only [List.length_cons]; omega), ok_push hR2.1 (ok_psc (Nat.zero_le _) (hl c List.mem_cons_self)), hR2.2⟩
      · exact ⟨ok_cons (ok_fsN hF) hnil (Nat.zero_le _), hR2⟩
      · refine ⟨ok_cons (ok_fsN hF) hnil (Nat.zero_le _), hR2.1, fun s hs => ?_, hR2.2.2⟩
        rcases List.mem_cons.mp hs with rfl | hs
        · exact hnil
        · exact hR2.2.1 s hs
  · obtain ⟨hF, hR⟩ := hc
    have hF : okF (f :: g :: gs) := hF
    have hR : okR rs := hR
    have hf := hF f List.mem_cons_self
    have hF2 : okF (g :: gs) := fun q hq => hF q (List.mem_cons_of_mem _ hq)
    have pop : ∀ {f0 : xSc} {sc : List xSc}, rs.1 = f0 :: sc → ∀ f ∈ sc, ∀ n v, f n = some v → oks v := fun hr f hf => hR.1 f (by rw [hr]; exact List.mem_cons_of_mem _ hf)
    rcases h with ⟨-, -, f0, sc, hr, rfl⟩ | ⟨-, -, f0, sc, hr, ⟨c2, h1, rfl⟩ | ⟨-, rfl⟩⟩ | ⟨-, -, rfl⟩ | ⟨-, -, -, f0, sc, s0, sg, hr, hr2, rfl⟩
    · exact ⟨hF2, pop hr, hR.2⟩
    · have hl := (List.getElem?_eq_some_iff.mp h1).1
      exact ⟨ok_cons hF2 hf.1 hf.2, ok_push (pop hr) (ok_psc (by omega) (hf.1 c2 (List.mem_of_getElem? h1))), hR.2⟩
    · exact ⟨ok_fsN hF2, pop hr, hR.2⟩
    · exact ⟨ok_fsN hF2, hR⟩
    · have h0 : ∀ n v, f0 n = some v → oks v := hR.1 f0 (by rw [hr]; exact List.mem_cons_self)
      have hs0 : oks s0 := hR.2.1 s0 (by rw [hr2]; exact List.mem_cons_self)
      refine ⟨ok_fsN hF2, ok_push (pop hr) (fun n v hv => ?_), fun s hs => hR.2.1 s (by rw [hr2]; exact List.mem_cons_of_mem _ hs), hR.2.2⟩
      unfold scU at hv
      split at hv
      · cases hv; exact hs0
      · exact h0 n v hv
theorem Rn_ok {c d : Cf} (h : Rn c d) (hc : okC c) : okC d := by
  obtain ⟨n, h⟩ := h
  induction n generalizing c with
  | zero => cases h; exact hc
  | succ n ih =>
    obtain ⟨e, h1, h2⟩ := h
    exact ih (Sto_ok h1 hc) h2
