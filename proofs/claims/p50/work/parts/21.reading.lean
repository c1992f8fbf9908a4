/-! ===== templates read ===== -/
abbrev PP : Type := Nat × Nat × Int × Nat × Nat
abbrev PSt : Type := Nat × List PP × List Nat × Nat
def kdF (c : Int) : Nat := if c = 33 then 3 else if c = 42 then 5 else if c = 61 then 7 else if c = 63 then 6 else if c = 94 then 4 else 2
def pSet (l : List PP) (i : Nat) (f : PP → PP) : List PP := match l[i]? with
  | some p => l.set i (f p)
  | none => l
def pNm (nm : Int) : PSt → Option PSt
  | (_, ps, op, mo) => if nm = -1 then none else match ps[ps.length - 1]? with
    | some p => some (if p.1 = 5 ∨ p.1 = 6 ∨ p.1 = 7 then 4 else 5, ps.set (ps.length - 1) (p.1, p.2.1, p.2.2.1, nm.toNat, p.2.2.2.2), op, mo)
    | none => none
/-- the next character read -/
def pRd (i : Nat) (c : Int) : PSt → Option PSt
  | (1, ps, op, mo) => some (0, pSet ps (ps.length - 1) (fun p => (p.1, p.2.1, c, p.2.2.2)), op, mo)
  | (2, ps, op, mo) => if kdF c = 2 then pNm (nmF c) (2, ps, op, mo) else some (3, pSet ps (ps.length - 1) (fun p => (kdF c, p.2)), op, mo)
  | (3, ps, op, mo) => pNm (nmF c) (3, ps, op, mo)
  | (4, ps, op, mo) => if c = 58 then some (0, ps, (ps.length - 1) :: op, mo) else none
  | (5, ps, op, mo) => if c = 125 then some (0, ps, op, mo) else none
  | (_, ps, op, mo) => if c = 125 then (match op with
      | [] => none
      | p :: os => some (0, pSet ps p (fun q => (q.1, q.2.1, q.2.2.1, q.2.2.2.1, ps.length)), os, mo))
    else some (if c = 126 then 1 else if c = 123 then 2 else 0, ps ++ [(if c = 126 then 1 else if c = 123 then 2 else 0, i, c, 0, ps.length + 1)], op, if mo < op.length then op.length else mo)
def pAll : Nat → List Int → PSt → Nat × Option PSt
  | i, [], s => (i, some s)
  | i, c :: cs, s => match pRd i c s with
    | some s2 => pAll (i + 1) cs s2
    | none => (i, none)
def pRes (t : List Int) : Nat × Option PSt := pAll 0 t (0, [], [], 0)
def pWh (t : List Int) : Bool := match (pRes t).2 with
  | some (0, _, [], _) => true
  | _ => false
def pPs (t : List Int) : List PP := match (pRes t).2 with
  | some s => s.2.1
  | none => []
/-- what holds of a state behind i characters -/
def pIn (i : Nat) (s : PSt) : Prop := s.2.1.length ≤ i ∧ s.2.2.1.length ≤ i ∧ (∀ p ∈ s.2.2.1, p < s.2.1.length) ∧ s.1 ≤ 5 ∧ (s.1 ≠ 0 → 0 < s.2.1.length) ∧ s.2.2.2 ≤ i
theorem pSet_len {l : List PP} {i : Nat} {f : PP → PP} : (pSet l i f).length = l.length := by
  unfold pSet; split <;> simp
theorem pSet_get {l : List PP} {i j : Nat} {f : PP → PP} {q : PP} (h : (pSet l i f)[j]? = some q) : (j = i ∧ ∃ p, l[i]? = some p ∧ q = f p) ∨ (j ≠ i ∧ l[j]? = some q) := by
  unfold pSet at h
  cases hl : l[i]? with
  | none =>
    rw [hl] at h
    refine Or.inr ⟨?_, h⟩
    rintro rfl
    rw [hl] at h; cases h
  | some p =>
    rw [hl] at h
    simp only at h
    by_cases e : j = i
    · subst e
      have hlt := (List.getElem?_eq_some_iff.mp hl).1
      rw [List.getElem?_set_self hlt] at h
      exact Or.inl ⟨rfl, p, rfl, (Option.some.inj h).symm⟩
    · rw [List.getElem?_set_ne (Ne.symm e)] at h
      exact Or.inr ⟨e, h⟩
theorem pSet_eq {l : List PP} {i : Nat} {f : PP → PP} {p : PP} (h : l[i]? = some p) : pSet l i f = l.set i (f p) := by unfold pSet; rw [h]
theorem pNm_in {i : Nat} {nm : Int} {s s2 : PSt} (h : pIn i s) (h0 : 0 < s.2.1.length) (he : pNm nm s = some s2) : pIn (i + 1) s2 := by
  obtain ⟨rd, ps, op, mo⟩ := s
  obtain ⟨h1, h2, h3, h4, h5, h6⟩ := h
  simp only [pNm] at he
  split at he
  · cases he
  · split at he
    · cases he
      refine ⟨by simp at h1 ⊢; omega, by simp at h2 ⊢; omega, fun p hp => by simpa using h3 p hp, by simp only; split <;> omega, fun _ => by simpa using h0, by simp at h6 ⊢; omega⟩
    · cases he
theorem pRd_in {i : Nat} {c : Int} {s s2 : PSt} (h : pIn i s) (he : pRd i c s = some s2) : pIn (i + 1) s2 := by
  obtain ⟨rd, ps, op, mo⟩ := s
  have hh := h
  obtain ⟨h1, h2, h3, h4, h5, h6⟩ := h
  simp only at h1 h2 h3 h4 h5 h6
  unfold pRd at he
  split at he
  · rename_i e1
    simp only [Prod.mk.injEq] at e1
    obtain ⟨rfl, rfl, rfl, rfl⟩ := e1
    cases he
    exact ⟨by simp only [pSet_len]; omega, by simp only; omega, fun p hp => by simp only [pSet_len]; exact h3 p hp, Nat.zero_le _, fun q => absurd rfl q, by simp only; omega⟩
  · rename_i e1
    simp only [Prod.mk.injEq] at e1
    obtain ⟨rfl, rfl, rfl, rfl⟩ := e1
    split at he
    · exact pNm_in hh (h5 (by decide)) he
    · cases he
      exact ⟨by simp only [pSet_len]; omega, by simp only; omega, fun p hp => by simp only [pSet_len]; exact h3 p hp, by show 3 ≤ 5; omega, fun _ => by simp only [pSet_len]; exact h5 (by decide), by simp only; omega⟩
  · rename_i e1
    simp only [Prod.mk.injEq] at e1
    obtain ⟨rfl, rfl, rfl, rfl⟩ := e1
    exact pNm_in hh (h5 (by decide)) he
  · rename_i e1
    simp only [Prod.mk.injEq] at e1
    obtain ⟨rfl, rfl, rfl, rfl⟩ := e1
    split at he
    · cases he
      have h7 := h5 (by decide)
      refine ⟨by simp only; omega, by simp only [List.length_cons]; omega, fun p hp => ?_, Nat.zero_le _, fun q => absurd rfl q, by simp only; omega⟩
      rcases List.mem_cons.mp hp with e | e
      · simp only; omega
      · exact h3 p e
    · cases he
  · rename_i e1
    simp only [Prod.mk.injEq] at e1
    obtain ⟨rfl, rfl, rfl, rfl⟩ := e1
    split at he
    · cases he
      exact ⟨by simp only; omega, by simp only; omega, h3, Nat.zero_le _, fun q => absurd rfl q, by simp only; omega⟩
    · cases he
  · rename_i e1
    simp only [Prod.mk.injEq] at e1
    obtain ⟨-, rfl, rfl, rfl⟩ := e1
    split at he
    · split at he
      · cases he
      · cases he
        simp only [List.length_cons] at h2
        exact ⟨by simp only [pSet_len]; omega, by simp only; omega, fun p hp => by simp only [pSet_len]; exact h3 p (List.mem_cons_of_mem _ hp), Nat.zero_le _, fun q => absurd rfl q, by simp only; omega⟩
    · cases he
      refine ⟨by simp only [List.length_append, List.length_cons, List.length_nil]; omega, by simp only; omega, fun p hp => by simp only [List.length_append, List.length_cons, List.length_nil]; have := h3 p hp; omega, by simp only; (repeat' split) <;> omega, fun _ => by simp, by simp only; (repeat' split) <;> omega⟩
def tS (T : Nat) : List Nat := [T, T + 1, T + 2, T + 3, T + 4, T + 5, T + 6]
def hFk (T : Nat) (ph ph2 : xH) : Prop := hFr (tS T) ph ph2 ∧ ∀ k, 12 ≤ k → hRd ph2 T k = hRd ph T k
theorem hFk.refl {T : Nat} {ph : xH} : hFk T ph ph := ⟨hFr.refl, fun _ _ => rfl⟩
theorem hFk.trans {T : Nat} {a b c : xH} (h1 : hFk T a b) (h2 : hFk T b c) : hFk T a c := ⟨h1.1.trans h2.1, fun k hk => (h2.2 k hk).trans (h1.2 k hk)⟩
def hTpA (ph : xH) (T : Nat) (ps : List PP) : Prop := ∀ (i : Nat) (p : PP), ps[i]? = some p → hRd ph (T + 1) i = (p.1 : Int) ∧ hRd ph (T + 2) i = (p.2.1 : Int) ∧ hRd ph (T + 3) i = p.2.2.1 ∧ hRd ph (T + 5) i = (p.2.2.2.2 : Int)
def hTpN (ph : xH) (T : Nat) (ps : List PP) (rd : Nat) : Prop := ∀ (i : Nat) (p : PP), ps[i]? = some p → 2 ≤ p.1 → (i + 1 = ps.length → rd ≠ 2 ∧ rd ≠ 3) → hRd ph (T + 4) i = (p.2.2.2.1 : Int)
def hTpO (ph : xH) (T : Nat) : List Nat → Prop
  | [] => True
  | p :: os => hRd ph (T + 6) os.length = (p : Int) ∧ hTpO ph T os
def hTp (zs : List xV) (ph : xH) (T : Nat) (s : PSt) : Prop := hSh zs ph ∧ hRd ph T 8 = (s.2.1.length : Int) ∧ hRd ph T 9 = (s.2.2.1.length : Int) ∧ hRd ph T 10 = (s.2.2.2 : Int) ∧ hRd ph T 11 = (s.1 : Int) ∧ hTpA ph T s.2.1 ∧ hTpN ph T s.2.1 s.1 ∧ hTpO ph T s.2.2.1
theorem hTpO_eq {ph ph2 : xH} {T : Nat} : ∀ {l : List Nat}, (∀ r, r < l.length → hRd ph2 (T + 6) r = hRd ph (T + 6) r) → hTpO ph T l → hTpO ph2 T l := by
  intro l
  induction l with
  | nil => intro _ _; trivial
  | cons t ts ih =>
    intro h ⟨h1, h2⟩
    simp only [List.length_cons] at h
    exact ⟨by rw [h _ (by omega)]; exact h1, ih (fun r hr => h r (by omega)) h2⟩
section TPL
variable {d : Nat} {ph : xH} {zs : List xV} {g : Nat} {Q : xR → Prop} {T : Nat}
theorem s54 {n : Nat} {c : Int} (hs : hSh zs ph) (ht : hTg T = 7) (hn : hRd ph T 8 = (n : Int) + 1) (hn2 : n < 60) (hQ : Q (.inl none, hUp ph (T + 3) n c, g)) : xTC d 54 [.inr (.inl (some T)), .inl c] ph g Q := by
  have hz := hTp_sz ht
  have e9 : hRd ph T 8 - 1 = (n : Int) := by omega
  refine tEn (ls := [some (.inr (.inl (some T))), some (.inl c), none]) (fun k => by match k with | 0 => rfl | 1 => rfl | 2 => rfl | k + 3 => rfl) ?_
  refine tK (l := xk_54) rfl rfl (fun _ _ _ _ _ => rfl) ?_
  refine tK (l := xk_54) rfl rfl (hGetI hs rfl ht rfl (by decide) (by decide)) ?_
  refine tK (l := xk_54) rfl rfl (fun _ _ _ _ _ => rfl) ?_
  refine tK (l := xk_54) rfl rfl (hSub ⟨by (first | omega | (rw [hn]; omega)), by (first | omega | (rw [hn]; omega))⟩) ?_
  refine tSt (l := xk_54) rfl rfl (fun _ _ _ _ _ => rfl) (Nat.le_of_ble_eq_true rfl) ?_
  refine tK (l := xk_54) rfl rfl (fun _ _ _ _ _ => rfl) ?_
  rw [e9]
  refine tIf_lt (l := xk_54) (pc' := 27) rfl rfl rfl (fun hc => ?_) (fun hc => ?_)
  · refine tRt (l := xk_54) rfl rfl (fun _ _ _ _ _ => rfl) ?_
    first | exact hQ | (exfalso; omega)
  · refine tK (l := xk_54) rfl rfl (fun _ _ _ _ _ => rfl) ?_
    refine tK (l := xk_54) rfl rfl (fun _ _ _ _ _ => rfl) ?_
    refine tK (l := xk_54) rfl rfl (hGetR (o := some (T + 3)) hs rfl ht rfl (by decide) (by decide) (hrf_7_4 ht)) ?_
    refine tK (l := xk_54) rfl rfl (hAlen1 hs (htg_7_4 ht) (by decide) (by decide)) ?_
    refine tIc_ge (l := xk_54) (pc' := 27) rfl rfl rfl (fun hc => ?_) (fun hc => ?_)
    · refine tK (l := xk_54) rfl rfl (fun _ _ _ _ _ => rfl) ?_
      refine tK (l := xk_54) rfl rfl (hGetR (o := some (T + 3)) hs rfl ht rfl (by decide) (by decide) (hrf_7_4 ht)) ?_
      refine tK (l := xk_54) rfl rfl (fun _ _ _ _ _ => rfl) ?_
      refine tK (l := xk_54) rfl rfl (fun _ _ _ _ _ => rfl) ?_
      first | refine tK (l := xk_54) rfl rfl (hIastN hs (htg_7_4 ht) rfl (by (first | omega | (rw [hn]; omega)))) ?_ | refine tK (l := xk_54) rfl rfl (hIast hs (htg_7_4 ht) (by (first | omega | (rw [hn]; omega))) (by (first | omega | (rw [hn]; omega)))) ?_
      refine tRt (l := xk_54) rfl rfl (fun _ _ _ _ _ => rfl) ?_
      first | exact hQ | (exfalso; omega)
    · refine tRt (l := xk_54) rfl rfl (fun _ _ _ _ _ => rfl) ?_
      first | exact hQ | (exfalso; omega)
theorem lkd {c : Int} {ps : List (Int × Int)} {d9 : Int} (h : ∀ q ∈ ps, c ≠ q.1) : Op.lookupswitch.offset ps d9 c = d9 := by
  induction ps with
  | nil => rfl
  | cons q t ih =>
    obtain ⟨a, b⟩ := q
    have h1 := h (a, b) List.mem_cons_self
    simp only [Op.lookupswitch.offset_cons]
    first | rw [if_neg h1] | rw [if_neg (Ne.symm h1)]
    exact ih (fun q hq => h q (List.mem_cons_of_mem _ hq))
theorem s55 {c : Int} (hQ : Q (.inl (some (.inl (kdF c : Int))), ph, g)) : xTC d 55 [.inl c] ph g Q := by
  refine tEn (ls := [some (.inl c)]) (fun k => by match k with | 0 => rfl | k + 1 => rfl) ?_
  refine tK (l := xk_55) rfl rfl (fun _ _ _ _ _ => rfl) ?_
  by_cases h33 : c = 33
  · subst h33
    refine tK (l := xk_55) rfl rfl (fun _ _ _ _ _ => rfl) ?_
    refine tK (l := xk_55) rfl rfl (fun _ _ _ _ _ => rfl) ?_
    refine tRt (l := xk_55) rfl rfl (fun _ _ _ _ _ => rfl) ?_
    exact hQ
  by_cases h42 : c = 42
  · subst h42
    refine tK (l := xk_55) rfl rfl (fun _ _ _ _ _ => rfl) ?_
    refine tK (l := xk_55) rfl rfl (fun _ _ _ _ _ => rfl) ?_
    refine tRt (l := xk_55) rfl rfl (fun _ _ _ _ _ => rfl) ?_
    exact hQ
  by_cases h61 : c = 61
  · subst h61
    refine tK (l := xk_55) rfl rfl (fun _ _ _ _ _ => rfl) ?_
    refine tK (l := xk_55) rfl rfl (fun _ _ _ _ _ => rfl) ?_
    refine tRt (l := xk_55) rfl rfl (fun _ _ _ _ _ => rfl) ?_
    exact hQ
  by_cases h63 : c = 63
  · subst h63
    refine tK (l := xk_55) rfl rfl (fun _ _ _ _ _ => rfl) ?_
    refine tK (l := xk_55) rfl rfl (fun _ _ _ _ _ => rfl) ?_
    refine tRt (l := xk_55) rfl rfl (fun _ _ _ _ _ => rfl) ?_
    exact hQ
  by_cases h94 : c = 94
  · subst h94
    refine tK (l := xk_55) rfl rfl (fun _ _ _ _ _ => rfl) ?_
    refine tK (l := xk_55) rfl rfl (fun _ _ _ _ _ => rfl) ?_
    refine tRt (l := xk_55) rfl rfl (fun _ _ _ _ _ => rfl) ?_
    exact hQ
  have e : kdF c = 2 := by unfold kdF; rw [if_neg h33, if_neg h42, if_neg h61, if_neg h63, if_neg h94]
  rw [e] at hQ
  refine tK (l := xk_55) (pc' := 64) (lv' := xlo [some (.inl c)]) (st' := []) (ph' := ph) rfl rfl (fun K _ _ _ _ => ?_) ?_
  · show K (xpc 1 (Op.lookupswitch.offset [(33, 51), (42, 55), (61, 60), (63, 57), (94, 53)] 63 c)) _ _ _ = _
    rw [lkd (by intro q hq; simp only [List.mem_cons, List.not_mem_nil, or_false] at hq; rcases hq with rfl | rfl | rfl | rfl | rfl <;> assumption)]
    rfl
  refine tK (l := xk_55) rfl rfl (fun _ _ _ _ _ => rfl) ?_
  refine tRt (l := xk_55) rfl rfl (fun _ _ _ _ _ => rfl) ?_
  exact hQ
theorem s57 {n : Nat} {c : Int} (hs : hSh zs ph) (ht : hTg T = 7) (hn : hRd ph T 8 = (n : Int) + 1) (hn2 : n < 60) (hQ : Q (.inl (some (.inl 1)), hUp (hUp ph (T + 1) n c) T 11 3, g)) : xTC d 57 [.inr (.inl (some T)), .inl c] ph g Q := by
  have hz := hTp_sz ht
  have e9 : hRd ph T 8 - 1 = (n : Int) := by omega
  refine tEn (ls := [some (.inr (.inl (some T))), some (.inl c), none]) (fun k => by match k with | 0 => rfl | 1 => rfl | 2 => rfl | k + 3 => rfl) ?_
  refine tK (l := xk_57) rfl rfl (fun _ _ _ _ _ => rfl) ?_
  refine tK (l := xk_57) rfl rfl (hGetI hs rfl ht rfl (by decide) (by decide)) ?_
  refine tK (l := xk_57) rfl rfl (fun _ _ _ _ _ => rfl) ?_
  refine tK (l := xk_57) rfl rfl (hSub ⟨by (first | omega | (rw [hn]; omega)), by (first | omega | (rw [hn]; omega))⟩) ?_
  refine tSt (l := xk_57) rfl rfl (fun _ _ _ _ _ => rfl) (Nat.le_of_ble_eq_true rfl) ?_
  refine tK (l := xk_57) rfl rfl (fun _ _ _ _ _ => rfl) ?_
  rw [e9]
  refine tIf_lt (l := xk_57) (pc' := 20) rfl rfl rfl (fun hc => ?_) (fun hc => ?_)
  · refine tK (l := xk_57) rfl rfl (fun _ _ _ _ _ => rfl) ?_
    refine tRt (l := xk_57) rfl rfl (fun _ _ _ _ _ => rfl) ?_
    first | exact hQ | (exfalso; omega)
  · refine tK (l := xk_57) rfl rfl (fun _ _ _ _ _ => rfl) ?_
    refine tK (l := xk_57) rfl rfl (fun _ _ _ _ _ => rfl) ?_
    refine tK (l := xk_57) rfl rfl (hGetR (o := some (T + 1)) hs rfl ht rfl (by decide) (by decide) (hrf_7_2 ht)) ?_
    refine tK (l := xk_57) rfl rfl (hAlen1 hs (htg_7_2 ht) (by decide) (by decide)) ?_
    refine tIc_lt (l := xk_57) (pc' := 22) rfl rfl rfl (fun hc => ?_) (fun hc => ?_)
    · refine tK (l := xk_57) rfl rfl (fun _ _ _ _ _ => rfl) ?_
      refine tK (l := xk_57) rfl rfl (hGetR (o := some (T + 1)) hs rfl ht rfl (by decide) (by decide) (hrf_7_2 ht)) ?_
      refine tK (l := xk_57) rfl rfl (fun _ _ _ _ _ => rfl) ?_
      refine tK (l := xk_57) rfl rfl (fun _ _ _ _ _ => rfl) ?_
      first | refine tK (l := xk_57) rfl rfl (hIastN hs (htg_7_2 ht) rfl (by (first | omega | (rw [hn]; omega)))) ?_ | refine tK (l := xk_57) rfl rfl (hIast hs (htg_7_2 ht) (by (first | omega | (rw [hn]; omega))) (by (first | omega | (rw [hn]; omega)))) ?_
      refine tK (l := xk_57) rfl rfl (fun _ _ _ _ _ => rfl) ?_
      refine tK (l := xk_57) rfl rfl (fun _ _ _ _ _ => rfl) ?_
      refine tK (l := xk_57) rfl rfl (hPutV (hShI1 _ hs (htg_7_2 ht) rfl) rfl ht (by decide) (by decide) rfl) ?_
      refine tK (l := xk_57) rfl rfl (fun _ _ _ _ _ => rfl) ?_
      refine tRt (l := xk_57) rfl rfl (fun _ _ _ _ _ => rfl) ?_
      first | exact hQ | (exfalso; omega)
    · refine tK (l := xk_57) rfl rfl (fun _ _ _ _ _ => rfl) ?_
      refine tRt (l := xk_57) rfl rfl (fun _ _ _ _ _ => rfl) ?_
      first | exact hQ | (exfalso; omega)
theorem app_get {l : List PP} {p q : PP} {j : Nat} (h : (l ++ [p])[j]? = some q) : (j < l.length ∧ l[j]? = some q) ∨ (j = l.length ∧ q = p) := by
  by_cases e : j < l.length
  · rw [List.getElem?_append_left e] at h
    exact Or.inl ⟨e, h⟩
  · rw [List.getElem?_append_right (by omega)] at h
    have h2 := (List.getElem?_eq_some_iff.mp h).1
    simp only [List.length_cons, List.length_nil] at h2
    have e2 : j - l.length = 0 := by omega
    rw [e2] at h
    exact Or.inr ⟨by omega, (Option.some.inj h).symm⟩
variable {ps : List PP} {op : List Nat} {mo i : Nat}
theorem s56 {n k : Nat} {nm : Int} (h : hTp zs ph T (k, ps, op, mo)) (ht : hTg T = 7) (hn : ps.length = n + 1) (hn2 : n < 60) (hnm : -1 ≤ nm) (hQ : ∀ ph2 s2, pNm nm (k, ps, op, mo) = some s2 → hTp zs ph2 T s2 → hFk T ph ph2 → Q (.inl (some (.inl 1)), ph2, g)) (hN : pNm nm (k, ps, op, mo) = none → Q (.inl (some (.inl 0)), ph, g)) : xTC d 56 [.inr (.inl (some T)), .inl nm] ph g Q := by
  have e9 : hRd ph T 8 - 1 = (n : Int) := by rw [h.2.1]; simp only; omega
  obtain ⟨hs, h8, h9, h10, h11, hA, hM, hO⟩ := h
  simp only at h8 h9 h10 h11 hA hM hO
  have hz := hTp_sz ht
  have tg1 := htg_7_2 ht
  have tg5 := htg_7_5 ht
  have ki1 : hKi (hTg T) 11 = true := by rw [ht]; rfl
  have ki2 : hKi (hTg (T + 4)) n = true := by rw [tg5]; rfl
  have sz1 : 11 < hSz T := by rw [hSz_c ht (by decide)]; decide
  have e8 : hRd ph T 8 = (n : Int) + 1 := by rw [h8, hn]; omega
  have hpg : ∃ p, ps[n]? = some p := ⟨_, List.getElem?_eq_getElem (by omega)⟩
  obtain ⟨p, hp⟩ := hpg
  obtain ⟨a1, a2, a3, a5⟩ := hA n p hp
  have em : ps.length - 1 = n := by omega
  have u1 : hSh zs (hUp ph (T + 4) n nm) := hShI1 _ hs tg5 rfl
  have b1 : hRd (hUp ph (T + 4) n nm) (T + 1) n = (p.1 : Int) := by rw [hRd_up hs ki2 (by omega), if_neg (by omega), a1]
  have fin : ∀ v : Nat, (if p.1 = 5 ∨ p.1 = 6 ∨ p.1 = 7 then 4 else 5) = v → nm ≠ -1 → Q (.inl (some (.inl 1)), hUp (hUp ph (T + 4) n nm) T 11 (v : Int), g) := by
    intro v hv hm
    have u2 : hSh zs (hUp (hUp ph (T + 4) n nm) T 11 (v : Int)) := hShI1 _ u1 ht rfl
    have rd : ∀ b j, hRd (hUp (hUp ph (T + 4) n nm) T 11 (v : Int)) b j = if b = T ∧ j = 11 then (v : Int) else if b = T + 4 ∧ j = n then nm else hRd ph b j := fun b j => by rw [hRd_up u1 ki1 sz1, hRd_up hs ki2 (by omega)]
    have fr : hFk T ph (hUp (hUp ph (T + 4) n nm) T 11 (v : Int)) := ⟨(hUp_fr hs ki2 (by omega) (by simp [tS])).trans (hUp_fr u1 ki1 sz1 (by simp [tS])), fun k hk => by rw [rd, if_neg (by omega), if_neg (by omega)]⟩
    refine hQ _ (v, ps.set n (p.1, p.2.1, p.2.2.1, nm.toNat, p.2.2.2.2), op, mo) ?_ ⟨u2, ?_, ?_, ?_, ?_, fun j q hq => ?_, fun j q hq hk hl => ?_, hTpO_eq (fun r _ => ?_) hO⟩ fr
    · simp only [pNm, if_neg hm, em, hp, hv]
    · rw [rd, if_neg (by omega), if_neg (by omega), h8]; simp
    · rw [rd, if_neg (by omega), if_neg (by omega), h9]
    · rw [rd, if_neg (by omega), if_neg (by omega), h10]
    · rw [rd, if_pos ⟨rfl, rfl⟩]
    · have hq2 : (pSet ps n (fun p => (p.1, p.2.1, p.2.2.1, nm.toNat, p.2.2.2.2)))[j]? = some q := by rw [pSet_eq hp]; exact hq
      rw [rd, rd, rd, rd, if_neg (by omega), if_neg (by omega), if_neg (by omega), if_neg (by omega), if_neg (by omega), if_neg (by omega), if_neg (by omega), if_neg (by omega)]
      rcases pSet_get hq2 with ⟨rfl, p2, hp2, rfl⟩ | ⟨hne, hp2⟩
      · exact hA _ p2 hp2
      · exact hA _ q hp2
    · have hq2 : (pSet ps n (fun p => (p.1, p.2.1, p.2.2.1, nm.toNat, p.2.2.2.2)))[j]? = some q := by rw [pSet_eq hp]; exact hq
      rcases pSet_get hq2 with ⟨rfl, p2, hp2, rfl⟩ | ⟨hne, hp2⟩
      · rw [rd, if_neg (by omega), if_pos ⟨rfl, rfl⟩]; simp only; omega
      · rw [rd, if_neg (by omega), if_neg (by omega)]; refine hM j q hp2 hk (fun e => ?_)
        have := (List.getElem?_eq_some_iff.mp hp2).1; omega
    · rw [rd, if_neg (by omega), if_neg (by omega)]
  refine tEn (ls := [some (.inr (.inl (some T))), some (.inl nm), none, none, none]) (fun k => by match k with | 0 => rfl | 1 => rfl | 2 => rfl | 3 => rfl | 4 => rfl | k + 5 => rfl) ?_
  refine tK (l := xk_56) rfl rfl (fun _ _ _ _ _ => rfl) ?_
  refine tK (l := xk_56) rfl rfl (hGetI hs rfl ht rfl (by decide) (by decide)) ?_
  refine tK (l := xk_56) rfl rfl (fun _ _ _ _ _ => rfl) ?_
  refine tK (l := xk_56) rfl rfl (hSub ⟨by omega, by omega⟩) ?_
  refine tSt (l := xk_56) rfl rfl (fun _ _ _ _ _ => rfl) (Nat.le_of_ble_eq_true rfl) ?_
  rw [e9]
  refine tK (l := xk_56) rfl rfl (fun _ _ _ _ _ => rfl) ?_
  refine tK (l := xk_56) rfl rfl (fun _ _ _ _ _ => rfl) ?_
  refine tIc_eq (l := xk_56) (pc' := 34) rfl rfl rfl (fun hc => ?_) (fun hc => ?_)
  · have hc9 := hc
    refine tK (l := xk_56) rfl rfl (fun _ _ _ _ _ => rfl) ?_
    refine tRt (l := xk_56) rfl rfl (fun _ _ _ _ _ => rfl) ?_
    exact hN (by simp only [pNm, if_pos hc9])
  · have hc9 := hc
    refine tK (l := xk_56) rfl rfl (fun _ _ _ _ _ => rfl) ?_
    refine tIf_lt (l := xk_56) (pc' := 34) rfl rfl rfl (fun hc => ?_) (fun hc => ?_)
    · have hc13 := hc
      exfalso; omega
    · have hc13 := hc
      refine tK (l := xk_56) rfl rfl (fun _ _ _ _ _ => rfl) ?_
      refine tK (l := xk_56) rfl rfl (fun _ _ _ _ _ => rfl) ?_
      refine tK (l := xk_56) rfl rfl (hGetR (o := some (T + 4)) hs rfl ht rfl (by decide) (by decide) (hrf_7_5 ht)) ?_
      refine tK (l := xk_56) rfl rfl (hAlen1 hs (htg_7_5 ht) (by decide) (by decide)) ?_
      refine tIc_ge (l := xk_56) (pc' := 34) rfl rfl rfl (fun hc => ?_) (fun hc => ?_)
      · have hc22 := hc
        refine tK (l := xk_56) rfl rfl (fun _ _ _ _ _ => rfl) ?_
        refine tK (l := xk_56) rfl rfl (fun _ _ _ _ _ => rfl) ?_
        refine tK (l := xk_56) rfl rfl (hGetR (o := some (T + 1)) hs rfl ht rfl (by decide) (by decide) (hrf_7_2 ht)) ?_
        refine tK (l := xk_56) rfl rfl (hAlen1 hs (htg_7_2 ht) (by decide) (by decide)) ?_
        refine tIc_lt (l := xk_56) (pc' := 36) rfl rfl rfl (fun hc => ?_) (fun hc => ?_)
        · have hc31 := hc
          refine tK (l := xk_56) rfl rfl (fun _ _ _ _ _ => rfl) ?_
          refine tK (l := xk_56) rfl rfl (hGetR (o := some (T + 4)) hs rfl ht rfl (by decide) (by decide) (hrf_7_5 ht)) ?_
          refine tK (l := xk_56) rfl rfl (fun _ _ _ _ _ => rfl) ?_
          refine tK (l := xk_56) rfl rfl (fun _ _ _ _ _ => rfl) ?_
          first | refine tK (l := xk_56) rfl rfl (hIastN hs (htg_7_5 ht) rfl (by omega)) ?_ | refine tK (l := xk_56) rfl rfl (hIast hs (htg_7_5 ht) (by omega) (by omega)) ?_
          refine tK (l := xk_56) rfl rfl (fun _ _ _ _ _ => rfl) ?_
          refine tK (l := xk_56) rfl rfl (hGetR (o := some (T + 1)) (hShI1 _ hs (htg_7_5 ht) rfl) rfl ht rfl (by decide) (by decide) (hrf_7_2 ht)) ?_
          refine tK (l := xk_56) rfl rfl (fun _ _ _ _ _ => rfl) ?_
          first | refine tK (l := xk_56) rfl rfl (hIaldN (hShI1 _ hs (htg_7_5 ht) rfl) (htg_7_2 ht) rfl (by omega)) ?_ | refine tK (l := xk_56) rfl rfl (hIald (hShI1 _ hs (htg_7_5 ht) rfl) (htg_7_2 ht) (by omega) (by omega)) ?_
          refine tSt (l := xk_56) rfl rfl (fun _ _ _ _ _ => rfl) (Nat.le_of_ble_eq_true rfl) ?_
          refine tK (l := xk_56) rfl rfl (fun _ _ _ _ _ => rfl) ?_
          refine tK (l := xk_56) rfl rfl (fun _ _ _ _ _ => rfl) ?_
          refine tIc_eq (l := xk_56) (pc' := 67) rfl rfl rfl (fun hc => ?_) (fun hc => ?_)
          · have hc52 := hc
            refine tK (l := xk_56) rfl rfl (fun _ _ _ _ _ => rfl) ?_
            refine tK (l := xk_56) rfl rfl (fun _ _ _ _ _ => rfl) ?_
            refine tSt (l := xk_56) rfl rfl (fun _ _ _ _ _ => rfl) (Nat.le_of_ble_eq_true rfl) ?_
            refine tK (l := xk_56) rfl rfl (fun _ _ _ _ _ => rfl) ?_
            refine tK (l := xk_56) rfl rfl (fun _ _ _ _ _ => rfl) ?_
            refine tIf_eq (l := xk_56) (pc' := 84) rfl rfl rfl (fun hc => ?_) (fun hc => ?_)
            · have hc77 := hc
              exact absurd hc (by decide)
            · have hc77 := hc
              refine tK (l := xk_56) rfl rfl (fun _ _ _ _ _ => rfl) ?_
              refine tK (l := xk_56) rfl rfl (fun _ _ _ _ _ => rfl) ?_
              refine tK (l := xk_56) rfl rfl (hPutV (hShI1 _ hs (htg_7_5 ht) rfl) rfl ht (by decide) (by decide) rfl) ?_
              refine tK (l := xk_56) rfl rfl (fun _ _ _ _ _ => rfl) ?_
              refine tRt (l := xk_56) rfl rfl (fun _ _ _ _ _ => rfl) ?_
              have w5 : hRd (hUp ph (T + 4) n nm) (T + 1) n = 5 := hc52
              exact fin 4 (by rw [if_pos (by omega)]) hc9
          · have hc52 := hc
            refine tK (l := xk_56) rfl rfl (fun _ _ _ _ _ => rfl) ?_
            refine tK (l := xk_56) rfl rfl (fun _ _ _ _ _ => rfl) ?_
            refine tIc_eq (l := xk_56) (pc' := 67) rfl rfl rfl (fun hc => ?_) (fun hc => ?_)
            · have hc58 := hc
              refine tK (l := xk_56) rfl rfl (fun _ _ _ _ _ => rfl) ?_
              refine tK (l := xk_56) rfl rfl (fun _ _ _ _ _ => rfl) ?_
              refine tSt (l := xk_56) rfl rfl (fun _ _ _ _ _ => rfl) (Nat.le_of_ble_eq_true rfl) ?_
              refine tK (l := xk_56) rfl rfl (fun _ _ _ _ _ => rfl) ?_
              refine tK (l := xk_56) rfl rfl (fun _ _ _ _ _ => rfl) ?_
              refine tIf_eq (l := xk_56) (pc' := 84) rfl rfl rfl (fun hc => ?_) (fun hc => ?_)
              · have hc77 := hc
                exact absurd hc (by decide)
              · have hc77 := hc
                refine tK (l := xk_56) rfl rfl (fun _ _ _ _ _ => rfl) ?_
                refine tK (l := xk_56) rfl rfl (fun _ _ _ _ _ => rfl) ?_
                refine tK (l := xk_56) rfl rfl (hPutV (hShI1 _ hs (htg_7_5 ht) rfl) rfl ht (by decide) (by decide) rfl) ?_
                refine tK (l := xk_56) rfl rfl (fun _ _ _ _ _ => rfl) ?_
                refine tRt (l := xk_56) rfl rfl (fun _ _ _ _ _ => rfl) ?_
                have w5 : ¬ hRd (hUp ph (T + 4) n nm) (T + 1) n = 5 := hc52
                have w6 : hRd (hUp ph (T + 4) n nm) (T + 1) n = 6 := hc58
                exact fin 4 (by rw [if_pos (by omega)]) hc9
            · have hc58 := hc
              refine tK (l := xk_56) rfl rfl (fun _ _ _ _ _ => rfl) ?_
              refine tK (l := xk_56) rfl rfl (fun _ _ _ _ _ => rfl) ?_
              refine tIc_ne (l := xk_56) (pc' := 71) rfl rfl rfl (fun hc => ?_) (fun hc => ?_)
              · have hc64 := hc
                refine tK (l := xk_56) rfl rfl (fun _ _ _ _ _ => rfl) ?_
                refine tK (l := xk_56) rfl rfl (fun _ _ _ _ _ => rfl) ?_
                refine tSt (l := xk_56) rfl rfl (fun _ _ _ _ _ => rfl) (Nat.le_of_ble_eq_true rfl) ?_
                refine tK (l := xk_56) rfl rfl (fun _ _ _ _ _ => rfl) ?_
                refine tK (l := xk_56) rfl rfl (fun _ _ _ _ _ => rfl) ?_
                refine tIf_eq (l := xk_56) (pc' := 84) rfl rfl rfl (fun hc => ?_) (fun hc => ?_)
                · have hc77 := hc
                  exact absurd hc (by decide)
                · have hc77 := hc
                  refine tK (l := xk_56) rfl rfl (fun _ _ _ _ _ => rfl) ?_
                  refine tK (l := xk_56) rfl rfl (fun _ _ _ _ _ => rfl) ?_
                  refine tK (l := xk_56) rfl rfl (hPutV (hShI1 _ hs (htg_7_5 ht) rfl) rfl ht (by decide) (by decide) rfl) ?_
                  refine tK (l := xk_56) rfl rfl (fun _ _ _ _ _ => rfl) ?_
                  refine tRt (l := xk_56) rfl rfl (fun _ _ _ _ _ => rfl) ?_
                  have w5 : ¬ hRd (hUp ph (T + 4) n nm) (T + 1) n = 5 := hc52
                  have w6 : ¬ hRd (hUp ph (T + 4) n nm) (T + 1) n = 6 := hc58
                  have w7 : hRd (hUp ph (T + 4) n nm) (T + 1) n = 7 := hc64
                  exact fin 4 (by rw [if_pos (by omega)]) hc9
              · have hc64 := hc
                refine tK (l := xk_56) rfl rfl (fun _ _ _ _ _ => rfl) ?_
                refine tSt (l := xk_56) rfl rfl (fun _ _ _ _ _ => rfl) (Nat.le_of_ble_eq_true rfl) ?_
                refine tK (l := xk_56) rfl rfl (fun _ _ _ _ _ => rfl) ?_
                refine tK (l := xk_56) rfl rfl (fun _ _ _ _ _ => rfl) ?_
                refine tIf_eq (l := xk_56) (pc' := 84) rfl rfl rfl (fun hc => ?_) (fun hc => ?_)
                · have hc77 := hc
                  refine tK (l := xk_56) rfl rfl (fun _ _ _ _ _ => rfl) ?_
                  refine tK (l := xk_56) rfl rfl (hPutV (hShI1 _ hs (htg_7_5 ht) rfl) rfl ht (by decide) (by decide) rfl) ?_
                  refine tK (l := xk_56) rfl rfl (fun _ _ _ _ _ => rfl) ?_
                  refine tRt (l := xk_56) rfl rfl (fun _ _ _ _ _ => rfl) ?_
                  have w5 : ¬ hRd (hUp ph (T + 4) n nm) (T + 1) n = 5 := hc52
                  have w6 : ¬ hRd (hUp ph (T + 4) n nm) (T + 1) n = 6 := hc58
                  have w7 : ¬ hRd (hUp ph (T + 4) n nm) (T + 1) n = 7 := hc64
                  exact fin 5 (by rw [if_neg (by omega)]) hc9
                · have hc77 := hc
                  exact absurd hc (by decide)
        · have hc31 := hc
          exfalso; omega
      · have hc22 := hc
        exfalso; omega
theorem s58 {n : Nat} (h : hTp zs ph T (4, ps, op, mo)) (ht : hTg T = 7) (hn : ps.length = n + 1) (hn2 : n < 60) (ho : op.length < 60) (hQ : ∀ ph2, hTp zs ph2 T (0, ps, n :: op, mo) → hFk T ph ph2 → Q (.inl (some (.inl 1)), ph2, g)) : xTC d 58 [.inr (.inl (some T))] ph g Q := by
  obtain ⟨hs, h8, h9, h10, h11, hA, hM, hO⟩ := h
  simp only at h8 h9 h10 h11 hA hM hO
  have hz := hTp_sz ht
  have tg1 := htg_7_2 ht
  have tg2 := htg_7_3 ht
  have tg3 := htg_7_4 ht
  have tg4 := htg_7_5 ht
  have tg5 := htg_7_6 ht
  have tg6 := htg_7_7 ht
  have fin : ∀ x y : Int, x = (n : Int) → y = (op.length : Int) + 1 → Q (.inl (some (.inl 1)), (hUp (hUp (hUp ph (T + 6) op.length x) T 9 y) T 11 0), g) := by
    intro x y hx hy
    have u1 : hSh zs (hUp ph (T + 6) op.length x) := hShI1 _ hs tg6 rfl
    have u2 : hSh zs (hUp (hUp ph (T + 6) op.length x) T 9 y) := hShI1 _ u1 ht rfl
    have u3 : hSh zs (hUp (hUp (hUp ph (T + 6) op.length x) T 9 y) T 11 0) := hShI1 _ u2 ht rfl
    have rd : ∀ b j, hRd (hUp (hUp (hUp ph (T + 6) op.length x) T 9 y) T 11 0) b j = if b = T ∧ j = 11 then 0 else if b = T ∧ j = 9 then y else if b = (T + 6) ∧ j = op.length then x else hRd ph b j := fun b j => by rw [hRd_up u2 (a := T) (k := 11) (x := 0) (by rw [ht]; rfl) (by rw [hSz_c ht (by decide)]; decide), hRd_up u1 (a := T) (k := 9) (x := y) (by rw [ht]; rfl) (by rw [hSz_c ht (by decide)]; decide), hRd_up hs (a := (T + 6)) (k := op.length) (x := x) (by rw [tg6]; rfl) (by omega)]
    have fr : hFk T ph (hUp (hUp (hUp ph (T + 6) op.length x) T 9 y) T 11 0) := ⟨((hUp_fr (S := (tS T)) (a := (T + 6)) (k := op.length) (x := x) hs (by rw [tg6]; rfl) (by omega) (by simp [tS])).trans (hUp_fr (S := (tS T)) (a := T) (k := 9) (x := y) u1 (by rw [ht]; rfl) (by rw [hSz_c ht (by decide)]; decide) (by simp [tS]))).trans (hUp_fr (S := (tS T)) (a := T) (k := 11) (x := 0) u2 (by rw [ht]; rfl) (by rw [hSz_c ht (by decide)]; decide) (by simp [tS])), fun k hk => by rw [rd, if_neg (by omega), if_neg (by omega), if_neg (by omega)]⟩
    refine hQ _ ⟨u3, ?_, ?_, ?_, ?_, fun j q hq => ?_, fun j q hq hk hl => ?_, ?_, ?_⟩ fr
    · rw [rd, if_neg (by omega), if_neg (by omega), if_neg (by omega), h8]
    · rw [rd, if_neg (by omega), if_pos ⟨rfl, rfl⟩, hy]; simp
    · rw [rd, if_neg (by omega), if_neg (by omega), if_neg (by omega), h10]
    · rw [rd, if_pos ⟨rfl, rfl⟩]; rfl
    · rw [rd, rd, rd, rd]; simp only [if_neg (show ¬ (T + 1 = T ∧ j = 11) by omega), if_neg (show ¬ (T + 2 = T ∧ j = 11) by omega), if_neg (show ¬ (T + 3 = T ∧ j = 11) by omega), if_neg (show ¬ (T + 5 = T ∧ j = 11) by omega), if_neg (show ¬ (T + 1 = T ∧ j = 9) by omega), if_neg (show ¬ (T + 2 = T ∧ j = 9) by omega), if_neg (show ¬ (T + 3 = T ∧ j = 9) by omega), if_neg (show ¬ (T + 5 = T ∧ j = 9) by omega), if_neg (show ¬ (T + 1 = T + 6 ∧ j = op.length) by omega), if_neg (show ¬ (T + 2 = T + 6 ∧ j = op.length) by omega), if_neg (show ¬ (T + 3 = T + 6 ∧ j = op.length) by omega), if_neg (show ¬ (T + 5 = T + 6 ∧ j = op.length) by omega)]; exact hA j q hq
    · rw [rd, if_neg (by omega), if_neg (by omega), if_neg (by omega)]; exact hM j q hq hk (fun _ => ⟨by omega, by omega⟩)
    · rw [rd, if_neg (by omega), if_neg (by omega), if_pos ⟨rfl, rfl⟩]; exact hx
    · refine hTpO_eq (fun r hr => ?_) hO
      rw [rd, if_neg (by omega), if_neg (by omega), if_neg (by omega)]
  have e9 : hRd ph T 8 - 1 = (n : Int) := by omega
  have b9 : hRd (hUp ph (T + 6) op.length (n : Int)) T 9 = (op.length : Int) := by rw [hRd_up hs (by rw [tg6]; rfl) (by omega), if_neg (by omega), h9]
  refine tEn (ls := [some (.inr (.inl (some T)))]) (fun k => by match k with | 0 => rfl | k + 1 => rfl) ?_
  refine tK (l := xk_58) rfl rfl (fun _ _ _ _ _ => rfl) ?_
  refine tK (l := xk_58) rfl rfl (hGetI hs rfl ht rfl (by decide) (by decide)) ?_
  refine tIf_lt (l := xk_58) (pc' := 19) rfl rfl rfl (fun hc => ?_) (fun hc => ?_)
  · exfalso; omega
  · refine tK (l := xk_58) rfl rfl (fun _ _ _ _ _ => rfl) ?_
    refine tK (l := xk_58) rfl rfl (hGetI hs rfl ht rfl (by decide) (by decide)) ?_
    refine tK (l := xk_58) rfl rfl (fun _ _ _ _ _ => rfl) ?_
    refine tK (l := xk_58) rfl rfl (hGetR (o := some (T + 6)) hs rfl ht rfl (by decide) (by decide) (hrf_7_7 ht)) ?_
    refine tK (l := xk_58) rfl rfl (hAlen1 hs (htg_7_7 ht) (by decide) (by decide)) ?_
    refine tIc_lt (l := xk_58) (pc' := 21) rfl rfl rfl (fun hc => ?_) (fun hc => ?_)
    · refine tK (l := xk_58) rfl rfl (fun _ _ _ _ _ => rfl) ?_
      refine tK (l := xk_58) rfl rfl (hGetR (o := some (T + 6)) hs rfl ht rfl (by decide) (by decide) (hrf_7_7 ht)) ?_
      refine tK (l := xk_58) rfl rfl (fun _ _ _ _ _ => rfl) ?_
      refine tK (l := xk_58) rfl rfl (hGetI hs rfl ht rfl (by decide) (by decide)) ?_
      rw [h9]
      refine tK (l := xk_58) rfl rfl (fun _ _ _ _ _ => rfl) ?_
      refine tK (l := xk_58) rfl rfl (hGetI hs rfl ht rfl (by decide) (by decide)) ?_
      refine tK (l := xk_58) rfl rfl (fun _ _ _ _ _ => rfl) ?_
      refine tK (l := xk_58) rfl rfl (hSub ⟨by omega, by omega⟩) ?_
      rw [e9]
      first | refine tK (l := xk_58) rfl rfl (hIastN hs (htg_7_7 ht) rfl (by omega)) ?_ | refine tK (l := xk_58) rfl rfl (hIast hs (htg_7_7 ht) (by omega) (by omega)) ?_
      refine tK (l := xk_58) rfl rfl (fun _ _ _ _ _ => rfl) ?_
      refine tK (l := xk_58) rfl rfl (fun _ _ _ _ _ => rfl) ?_
      refine tK (l := xk_58) rfl rfl (hGetI (hShI1 _ hs (htg_7_7 ht) rfl) rfl ht rfl (by decide) (by decide)) ?_
      rw [b9]
      refine tK (l := xk_58) rfl rfl (fun _ _ _ _ _ => rfl) ?_
      refine tK (l := xk_58) rfl rfl (hAdd ⟨by omega, by omega⟩) ?_
      refine tK (l := xk_58) rfl rfl (hPutV (hShI1 _ hs (htg_7_7 ht) rfl) rfl ht (by decide) (by decide) rfl) ?_
      refine tK (l := xk_58) rfl rfl (fun _ _ _ _ _ => rfl) ?_
      refine tK (l := xk_58) rfl rfl (fun _ _ _ _ _ => rfl) ?_
      refine tK (l := xk_58) rfl rfl (hPutV (hShI1 _ (hShI1 _ hs (htg_7_7 ht) rfl) ht rfl) rfl ht (by decide) (by decide) rfl) ?_
      refine tK (l := xk_58) rfl rfl (fun _ _ _ _ _ => rfl) ?_
      refine tRt (l := xk_58) rfl rfl (fun _ _ _ _ _ => rfl) ?_
      exact fin _ _ rfl rfl
    · exfalso; omega
theorem s59n (h : hTp zs ph T (0, ps, [], mo)) (ht : hTg T = 7) (hQ : Q (.inl (some (.inl 0)), ph, g)) : xTC d 59 [.inr (.inl (some T))] ph g Q := by
  obtain ⟨hs, h8, h9, h10, h11, hA, hM, hO⟩ := h
  simp only at h8 h9 h10 h11 hA hM hO
  have hz := hTp_sz ht
  have tg1 := htg_7_2 ht
  have tg2 := htg_7_3 ht
  have tg3 := htg_7_4 ht
  have tg4 := htg_7_5 ht
  have tg5 := htg_7_6 ht
  have tg6 := htg_7_7 ht
  have e0 : hRd ph T 9 - 1 = -1 := by rw [h9]; rfl
  refine tEn (ls := [some (.inr (.inl (some T))), none, none]) (fun k => by match k with | 0 => rfl | 1 => rfl | 2 => rfl | k + 3 => rfl) ?_
  refine tK (l := xk_59) rfl rfl (fun _ _ _ _ _ => rfl) ?_
  refine tK (l := xk_59) rfl rfl (hGetI hs rfl ht rfl (by decide) (by decide)) ?_
  refine tK (l := xk_59) rfl rfl (fun _ _ _ _ _ => rfl) ?_
  refine tK (l := xk_59) rfl rfl (hSub ⟨by omega, by omega⟩) ?_
  refine tSt (l := xk_59) rfl rfl (fun _ _ _ _ _ => rfl) (Nat.le_of_ble_eq_true rfl) ?_
  rw [e0]
  refine tK (l := xk_59) rfl rfl (fun _ _ _ _ _ => rfl) ?_
  refine tIf_lt (l := xk_59) (pc' := 20) rfl rfl rfl (fun hc => ?_) (fun hc => ?_)
  · refine tK (l := xk_59) rfl rfl (fun _ _ _ _ _ => rfl) ?_
    refine tRt (l := xk_59) rfl rfl (fun _ _ _ _ _ => rfl) ?_
    exact hQ
  · exact absurd (show ((-1 : Int) < 0) by decide) hc
theorem s59 {p : Nat} {os : List Nat} (h : hTp zs ph T (0, ps, p :: os, mo)) (ht : hTg T = 7) (hp : p < ps.length) (hn2 : ps.length ≤ 60) (ho : os.length < 60) (hQ : ∀ ph2, hTp zs ph2 T (0, pSet ps p (fun q => (q.1, q.2.1, q.2.2.1, q.2.2.2.1, ps.length)), os, mo) → hFk T ph ph2 → Q (.inl (some (.inl 1)), ph2, g)) : xTC d 59 [.inr (.inl (some T))] ph g Q := by
  obtain ⟨hs, h8, h9, h10, h11, hA, hM, hO⟩ := h
  simp only at h8 h9 h10 h11 hA hM hO
  have hz := hTp_sz ht
  have tg1 := htg_7_2 ht
  have tg2 := htg_7_3 ht
  have tg3 := htg_7_4 ht
  have tg4 := htg_7_5 ht
  have tg5 := htg_7_6 ht
  have tg6 := htg_7_7 ht
  have hpg : ∃ q, ps[p]? = some q := ⟨_, List.getElem?_eq_getElem (by omega)⟩
  obtain ⟨q0, hq0⟩ := hpg
  have fin : ∀ x y : Int, x = (os.length : Int) → y = (ps.length : Int) → Q (.inl (some (.inl 1)), (hUp (hUp ph T 9 x) (T + 5) p y), g) := by
    intro x y hx hy
    have u1 : hSh zs (hUp ph T 9 x) := hShI1 _ hs ht rfl
    have u2 : hSh zs (hUp (hUp ph T 9 x) (T + 5) p y) := hShI1 _ u1 tg5 rfl
    have rd : ∀ b j, hRd (hUp (hUp ph T 9 x) (T + 5) p y) b j = if b = (T + 5) ∧ j = p then y else if b = T ∧ j = 9 then x else hRd ph b j := fun b j => by rw [hRd_up u1 (a := (T + 5)) (k := p) (x := y) (by rw [tg5]; rfl) (by omega), hRd_up hs (a := T) (k := 9) (x := x) (by rw [ht]; rfl) (by rw [hSz_c ht (by decide)]; decide)]
    have fr : hFk T ph (hUp (hUp ph T 9 x) (T + 5) p y) := ⟨(hUp_fr (S := (tS T)) (a := T) (k := 9) (x := x) hs (by rw [ht]; rfl) (by rw [hSz_c ht (by decide)]; decide) (by simp [tS])).trans (hUp_fr (S := (tS T)) (a := (T + 5)) (k := p) (x := y) u1 (by rw [tg5]; rfl) (by omega) (by simp [tS])), fun k hk => by rw [rd, if_neg (by omega), if_neg (by omega)]⟩
    refine hQ _ ⟨u2, ?_, ?_, ?_, ?_, fun j q hq => ?_, fun j q hq hk hl => ?_, ?_⟩ fr
    · rw [rd, if_neg (by omega), if_neg (by omega), h8]; simp only [pSet_len]
    · rw [rd, if_neg (by omega), if_pos ⟨rfl, rfl⟩, hx]
    · rw [rd, if_neg (by omega), if_neg (by omega), h10]
    · rw [rd, if_neg (by omega), if_neg (by omega), h11]
    · rcases pSet_get hq with ⟨rfl, q2, hq2, rfl⟩ | ⟨hne, hq2⟩
      · obtain ⟨a1, a2, a3, a5⟩ := hA _ q2 hq2
        refine ⟨by rw [rd, if_neg (by omega), if_neg (by omega), a1], by rw [rd, if_neg (by omega), if_neg (by omega), a2], by rw [rd, if_neg (by omega), if_neg (by omega), a3], by rw [rd, if_pos ⟨rfl, rfl⟩, hy]⟩
      · obtain ⟨a1, a2, a3, a5⟩ := hA _ q hq2
        refine ⟨by rw [rd, if_neg (by omega), if_neg (by omega), a1], by rw [rd, if_neg (by omega), if_neg (by omega), a2], by rw [rd, if_neg (by omega), if_neg (by omega), a3], by rw [rd, if_neg (by omega), if_neg (by omega), a5]⟩
    · rw [rd, if_neg (by omega), if_neg (by omega)]
      simp only [pSet_len] at hl
      rcases pSet_get hq with ⟨rfl, q2, hq2, rfl⟩ | ⟨hne, hq2⟩
      · exact hM _ q2 hq2 hk (fun _ => ⟨by omega, by omega⟩)
      · exact hM _ q hq2 hk (fun _ => ⟨by omega, by omega⟩)
    · refine hTpO_eq (fun r hr => ?_) hO.2
      rw [rd, if_neg (by omega), if_neg (by omega)]
  have e0 : hRd ph T 9 - 1 = (os.length : Int) := by rw [h9]; simp
  have b8 : hRd (hUp ph T 9 (os.length : Int)) T 8 = (ps.length : Int) := by rw [hRd_up hs (by rw [ht]; rfl) (by rw [hSz_c ht (by decide)]; decide), if_neg (by omega), h8]
  refine tEn (ls := [some (.inr (.inl (some T))), none, none]) (fun k => by match k with | 0 => rfl | 1 => rfl | 2 => rfl | k + 3 => rfl) ?_
  refine tK (l := xk_59) rfl rfl (fun _ _ _ _ _ => rfl) ?_
  refine tK (l := xk_59) rfl rfl (hGetI hs rfl ht rfl (by decide) (by decide)) ?_
  refine tK (l := xk_59) rfl rfl (fun _ _ _ _ _ => rfl) ?_
  refine tK (l := xk_59) rfl rfl (hSub ⟨by omega, by omega⟩) ?_
  refine tSt (l := xk_59) rfl rfl (fun _ _ _ _ _ => rfl) (Nat.le_of_ble_eq_true rfl) ?_
  rw [e0]
  refine tK (l := xk_59) rfl rfl (fun _ _ _ _ _ => rfl) ?_
  refine tIf_lt (l := xk_59) (pc' := 20) rfl rfl rfl (fun hc => ?_) (fun hc => ?_)
  · exfalso
    omega
  · refine tK (l := xk_59) rfl rfl (fun _ _ _ _ _ => rfl) ?_
    refine tK (l := xk_59) rfl rfl (fun _ _ _ _ _ => rfl) ?_
    refine tK (l := xk_59) rfl rfl (hGetR (o := some (T + 6)) hs rfl ht rfl (by decide) (by decide) (hrf_7_7 ht)) ?_
    refine tK (l := xk_59) rfl rfl (hAlen1 hs (htg_7_7 ht) (by decide) (by decide)) ?_
    refine tIc_lt (l := xk_59) (pc' := 22) rfl rfl rfl (fun hc => ?_) (fun hc => ?_)
    · refine tK (l := xk_59) rfl rfl (fun _ _ _ _ _ => rfl) ?_
      refine tK (l := xk_59) rfl rfl (hGetR (o := some (T + 6)) hs rfl ht rfl (by decide) (by decide) (hrf_7_7 ht)) ?_
      refine tK (l := xk_59) rfl rfl (fun _ _ _ _ _ => rfl) ?_
      first | refine tK (l := xk_59) rfl rfl (hIaldN hs (htg_7_7 ht) rfl (by omega)) ?_ | refine tK (l := xk_59) rfl rfl (hIald hs (htg_7_7 ht) (by omega) (by omega)) ?_
      refine tSt (l := xk_59) rfl rfl (fun _ _ _ _ _ => rfl) (Nat.le_of_ble_eq_true rfl) ?_
      rw [hO.1]
      refine tK (l := xk_59) rfl rfl (fun _ _ _ _ _ => rfl) ?_
      refine tK (l := xk_59) rfl rfl (fun _ _ _ _ _ => rfl) ?_
      refine tK (l := xk_59) rfl rfl (hPutV hs rfl ht (by decide) (by decide) rfl) ?_
      refine tK (l := xk_59) rfl rfl (fun _ _ _ _ _ => rfl) ?_
      refine tIf_lt (l := xk_59) (pc' := 47) rfl rfl rfl (fun hc => ?_) (fun hc => ?_)
      · exfalso
        omega
      · refine tK (l := xk_59) rfl rfl (fun _ _ _ _ _ => rfl) ?_
        refine tK (l := xk_59) rfl rfl (fun _ _ _ _ _ => rfl) ?_
        refine tK (l := xk_59) rfl rfl (hGetR (o := some (T + 5)) (hShI1 _ hs ht rfl) rfl ht rfl (by decide) (by decide) (hrf_7_6 ht)) ?_
        refine tK (l := xk_59) rfl rfl (hAlen1 (hShI1 _ hs ht rfl) (htg_7_6 ht) (by decide) (by decide)) ?_
        refine tIc_lt (l := xk_59) (pc' := 49) rfl rfl rfl (fun hc => ?_) (fun hc => ?_)
        · refine tK (l := xk_59) rfl rfl (fun _ _ _ _ _ => rfl) ?_
          refine tK (l := xk_59) rfl rfl (hGetR (o := some (T + 5)) (hShI1 _ hs ht rfl) rfl ht rfl (by decide) (by decide) (hrf_7_6 ht)) ?_
          refine tK (l := xk_59) rfl rfl (fun _ _ _ _ _ => rfl) ?_
          refine tK (l := xk_59) rfl rfl (fun _ _ _ _ _ => rfl) ?_
          refine tK (l := xk_59) rfl rfl (hGetI (hShI1 _ hs ht rfl) rfl ht rfl (by decide) (by decide)) ?_
          rw [b8]
          first | refine tK (l := xk_59) rfl rfl (hIastN (hShI1 _ hs ht rfl) (htg_7_6 ht) rfl (by omega)) ?_ | refine tK (l := xk_59) rfl rfl (hIast (hShI1 _ hs ht rfl) (htg_7_6 ht) (by omega) (by omega)) ?_
          refine tK (l := xk_59) rfl rfl (fun _ _ _ _ _ => rfl) ?_
          refine tRt (l := xk_59) rfl rfl (fun _ _ _ _ _ => rfl) ?_
          exact fin _ _ rfl rfl
        · exfalso
          omega
    · exfalso
      omega
theorem s60 {c : Int} (h : hTp zs ph T (0, ps, op, mo)) (ht : hTg T = 7) (hn : ps.length < 60) (hmo : mo ≤ 60) (hol : op.length ≤ 60) (h125 : c ≠ 125) (hQ : ∀ ph2 s2, pRd i c (0, ps, op, mo) = some s2 → hTp zs ph2 T s2 → hFk T ph ph2 → Q (.inl (some (.inl 1)), ph2, g)) : xTC d 60 [.inr (.inl (some T)), .inl (i : Int), .inl c] ph g Q := by
  obtain ⟨hs, h8, h9, h10, h11, hA, hM, hO⟩ := h
  simp only at h8 h9 h10 h11 hA hM hO
  have hz := hTp_sz ht
  have tg1 := htg_7_2 ht
  have tg2 := htg_7_3 ht
  have tg3 := htg_7_4 ht
  have tg4 := htg_7_5 ht
  have tg5 := htg_7_6 ht
  have tg6 := htg_7_7 ht
  have f0 : (¬ c = 126 ∧ ¬ c = 123) → ∀ x y z : Int, x = (ps.length : Int) + 1 → y = (ps.length : Int) + 1 → z = ((if mo < op.length then op.length else mo : Nat) : Int) → Q (.inl (some (.inl 1)), (hUp (hUp (hUp (hUp (hUp (hUp ph T 8 x) (T + 1) ps.length 0) (T + 2) ps.length (i : Int)) (T + 3) ps.length c) (T + 5) ps.length y) T 10 z), g) := by
    intro hcc x y z hx hy hz9
    have u1 : hSh zs (hUp ph T 8 x) := hShI1 _ hs ht rfl
    have u2 : hSh zs (hUp (hUp ph T 8 x) (T + 1) ps.length 0) := hShI1 _ u1 tg1 rfl
    have u3 : hSh zs (hUp (hUp (hUp ph T 8 x) (T + 1) ps.length 0) (T + 2) ps.length (i : Int)) := hShI1 _ u2 tg2 rfl
    have u4 : hSh zs (hUp (hUp (hUp (hUp ph T 8 x) (T + 1) ps.length 0) (T + 2) ps.length (i : Int)) (T + 3) ps.length c) := hShI1 _ u3 tg3 rfl
    have u5 : hSh zs (hUp (hUp (hUp (hUp (hUp ph T 8 x) (T + 1) ps.length 0) (T + 2) ps.length (i : Int)) (T + 3) ps.length c) (T + 5) ps.length y) := hShI1 _ u4 tg5 rfl
    have u6 : hSh zs (hUp (hUp (hUp (hUp (hUp (hUp ph T 8 x) (T + 1) ps.length 0) (T + 2) ps.length (i : Int)) (T + 3) ps.length c) (T + 5) ps.length y) T 10 z) := hShI1 _ u5 ht rfl
    have rd : ∀ b j, hRd (hUp (hUp (hUp (hUp (hUp (hUp ph T 8 x) (T + 1) ps.length 0) (T + 2) ps.length (i : Int)) (T + 3) ps.length c) (T + 5) ps.length y) T 10 z) b j = if b = T ∧ j = 10 then z else if b = (T + 5) ∧ j = ps.length then y else if b = (T + 3) ∧ j = ps.length then c else if b = (T + 2) ∧ j = ps.length then (i : Int) else if b = (T + 1) ∧ j = ps.length then 0 else if b = T ∧ j = 8 then x else hRd ph b j := fun b j => by rw [hRd_up u5 (a := T) (k := 10) (x := z) (by rw [ht]; rfl) (by rw [hSz_c ht (by decide)]; decide), hRd_up u4 (a := (T + 5)) (k := ps.length) (x := y) (by rw [tg5]; rfl) (by omega), hRd_up u3 (a := (T + 3)) (k := ps.length) (x := c) (by rw [tg3]; rfl) (by omega), hRd_up u2 (a := (T + 2)) (k := ps.length) (x := (i : Int)) (by rw [tg2]; rfl) (by omega), hRd_up u1 (a := (T + 1)) (k := ps.length) (x := 0) (by rw [tg1]; rfl) (by omega), hRd_up hs (a := T) (k := 8) (x := x) (by rw [ht]; rfl) (by rw [hSz_c ht (by decide)]; decide)]
    have fr : hFk T ph (hUp (hUp (hUp (hUp (hUp (hUp ph T 8 x) (T + 1) ps.length 0) (T + 2) ps.length (i : Int)) (T + 3) ps.length c) (T + 5) ps.length y) T 10 z) := ⟨(((((hUp_fr (S := (tS T)) (a := T) (k := 8) (x := x) hs (by rw [ht]; rfl) (by rw [hSz_c ht (by decide)]; decide) (by simp [tS])).trans (hUp_fr (S := (tS T)) (a := (T + 1)) (k := ps.length) (x := 0) u1 (by rw [tg1]; rfl) (by omega) (by simp [tS]))).trans (hUp_fr (S := (tS T)) (a := (T + 2)) (k := ps.length) (x := (i : Int)) u2 (by rw [tg2]; rfl) (by omega) (by simp [tS]))).trans (hUp_fr (S := (tS T)) (a := (T + 3)) (k := ps.length) (x := c) u3 (by rw [tg3]; rfl) (by omega) (by simp [tS]))).trans (hUp_fr (S := (tS T)) (a := (T + 5)) (k := ps.length) (x := y) u4 (by rw [tg5]; rfl) (by omega) (by simp [tS]))).trans (hUp_fr (S := (tS T)) (a := T) (k := 10) (x := z) u5 (by rw [ht]; rfl) (by rw [hSz_c ht (by decide)]; decide) (by simp [tS])), fun k hk => by rw [rd, if_neg (by omega), if_neg (by omega), if_neg (by omega), if_neg (by omega), if_neg (by omega), if_neg (by omega)]⟩
    refine hQ _ (0, ps ++ [(0, i, c, 0, ps.length + 1)], op, if mo < op.length then op.length else mo) ?_ ⟨u6, ?_, ?_, ?_, ?_, fun j q hq => ?_, fun j q hq hk hl => ?_, ?_⟩ fr
    · show (if c = 125 then _ else _) = _
      rw [if_neg h125]
      simp only [if_neg hcc.1, if_neg hcc.2]
    · rw [rd, if_neg (by omega), if_neg (by omega), if_neg (by omega), if_neg (by omega), if_neg (by omega), if_pos ⟨rfl, rfl⟩, hx]; simp
    · rw [rd, if_neg (by omega), if_neg (by omega), if_neg (by omega), if_neg (by omega), if_neg (by omega), if_neg (by omega), h9]
    · rw [rd, if_pos ⟨rfl, rfl⟩, hz9]
    · rw [rd, if_neg (by omega), if_neg (by omega), if_neg (by omega), if_neg (by omega), if_neg (by omega), if_neg (by omega), h11]
    · rcases app_get hq with ⟨hj, hq2⟩ | ⟨rfl, rfl⟩
      · obtain ⟨a1, a2, a3, a5⟩ := hA j q hq2
        exact ⟨by rw [rd, if_neg (by omega), if_neg (by omega), if_neg (by omega), if_neg (by omega), if_neg (by omega), if_neg (by omega), a1], by rw [rd, if_neg (by omega), if_neg (by omega), if_neg (by omega), if_neg (by omega), if_neg (by omega), if_neg (by omega), a2], by rw [rd, if_neg (by omega), if_neg (by omega), if_neg (by omega), if_neg (by omega), if_neg (by omega), if_neg (by omega), a3], by rw [rd, if_neg (by omega), if_neg (by omega), if_neg (by omega), if_neg (by omega), if_neg (by omega), if_neg (by omega), a5]⟩
      · exact ⟨by rw [rd, if_neg (by omega), if_neg (by omega), if_neg (by omega), if_neg (by omega), if_pos ⟨rfl, rfl⟩]; rfl, by rw [rd, if_neg (by omega), if_neg (by omega), if_neg (by omega), if_pos ⟨rfl, rfl⟩], by rw [rd, if_neg (by omega), if_neg (by omega), if_pos ⟨rfl, rfl⟩], by rw [rd, if_neg (by omega), if_pos ⟨rfl, rfl⟩, hy]; simp⟩
    · rcases app_get hq with ⟨hj, hq2⟩ | ⟨rfl, rfl⟩
      · rw [rd, if_neg (by omega), if_neg (by omega), if_neg (by omega), if_neg (by omega), if_neg (by omega), if_neg (by omega)]; exact hM j q hq2 hk (fun _ => ⟨by omega, by omega⟩)
      · exact absurd (show 2 ≤ 0 from hk) (by decide)
    · refine hTpO_eq (fun r _ => ?_) hO
      rw [rd, if_neg (by omega), if_neg (by omega), if_neg (by omega), if_neg (by omega), if_neg (by omega), if_neg (by omega)]
  have f1 : (c = 126) → ∀ x y z : Int, x = (ps.length : Int) + 1 → y = (ps.length : Int) + 1 → z = ((if mo < op.length then op.length else mo : Nat) : Int) → Q (.inl (some (.inl 1)), (hUp (hUp (hUp (hUp (hUp (hUp (hUp (hUp ph T 8 x) (T + 1) ps.length 0) (T + 2) ps.length (i : Int)) (T + 3) ps.length c) (T + 5) ps.length y) T 10 z) (T + 1) ps.length 1) T 11 1), g) := by
    intro hcc x y z hx hy hz9
    have u1 : hSh zs (hUp ph T 8 x) := hShI1 _ hs ht rfl
    have u2 : hSh zs (hUp (hUp ph T 8 x) (T + 1) ps.length 0) := hShI1 _ u1 tg1 rfl
    have u3 : hSh zs (hUp (hUp (hUp ph T 8 x) (T + 1) ps.length 0) (T + 2) ps.length (i : Int)) := hShI1 _ u2 tg2 rfl
    have u4 : hSh zs (hUp (hUp (hUp (hUp ph T 8 x) (T + 1) ps.length 0) (T + 2) ps.length (i : Int)) (T + 3) ps.length c) := hShI1 _ u3 tg3 rfl
    have u5 : hSh zs (hUp (hUp (hUp (hUp (hUp ph T 8 x) (T + 1) ps.length 0) (T + 2) ps.length (i : Int)) (T + 3) ps.length c) (T + 5) ps.length y) := hShI1 _ u4 tg5 rfl
    have u6 : hSh zs (hUp (hUp (hUp (hUp (hUp (hUp ph T 8 x) (T + 1) ps.length 0) (T + 2) ps.length (i : Int)) (T + 3) ps.length c) (T + 5) ps.length y) T 10 z) := hShI1 _ u5 ht rfl
    have u7 : hSh zs (hUp (hUp (hUp (hUp (hUp (hUp (hUp ph T 8 x) (T + 1) ps.length 0) (T + 2) ps.length (i : Int)) (T + 3) ps.length c) (T + 5) ps.length y) T 10 z) (T + 1) ps.length 1) := hShI1 _ u6 tg1 rfl
    have u8 : hSh zs (hUp (hUp (hUp (hUp (hUp (hUp (hUp (hUp ph T 8 x) (T + 1) ps.length 0) (T + 2) ps.length (i : Int)) (T + 3) ps.length c) (T + 5) ps.length y) T 10 z) (T + 1) ps.length 1) T 11 1) := hShI1 _ u7 ht rfl
    have rd : ∀ b j, hRd (hUp (hUp (hUp (hUp (hUp (hUp (hUp (hUp ph T 8 x) (T + 1) ps.length 0) (T + 2) ps.length (i : Int)) (T + 3) ps.length c) (T + 5) ps.length y) T 10 z) (T + 1) ps.length 1) T 11 1) b j = if b = T ∧ j = 11 then 1 else if b = (T + 1) ∧ j = ps.length then 1 else if b = T ∧ j = 10 then z else if b = (T + 5) ∧ j = ps.length then y else if b = (T + 3) ∧ j = ps.length then c else if b = (T + 2) ∧ j = ps.length then (i : Int) else if b = (T + 1) ∧ j = ps.length then 0 else if b = T ∧ j = 8 then x else hRd ph b j := fun b j => by rw [hRd_up u7 (a := T) (k := 11) (x := 1) (by rw [ht]; rfl) (by rw [hSz_c ht (by decide)]; decide), hRd_up u6 (a := (T + 1)) (k := ps.length) (x := 1) (by rw [tg1]; rfl) (by omega), hRd_up u5 (a := T) (k := 10) (x := z) (by rw [ht]; rfl) (by rw [hSz_c ht (by decide)]; decide), hRd_up u4 (a := (T + 5)) (k := ps.length) (x := y) (by rw [tg5]; rfl) (by omega), hRd_up u3 (a := (T + 3)) (k := ps.length) (x := c) (by rw [tg3]; rfl) (by omega), hRd_up u2 (a := (T + 2)) (k := ps.length) (x := (i : Int)) (by rw [tg2]; rfl) (by omega), hRd_up u1 (a := (T + 1)) (k := ps.length) (x := 0) (by rw [tg1]; rfl) (by omega), hRd_up hs (a := T) (k := 8) (x := x) (by rw [ht]; rfl) (by rw [hSz_c ht (by decide)]; decide)]
    have fr : hFk T ph (hUp (hUp (hUp (hUp (hUp (hUp (hUp (hUp ph T 8 x) (T + 1) ps.length 0) (T + 2) ps.length (i : Int)) (T + 3) ps.length c) (T + 5) ps.length y) T 10 z) (T + 1) ps.length 1) T 11 1) := ⟨(((((((hUp_fr (S := (tS T)) (a := T) (k := 8) (x := x) hs (by rw [ht]; rfl) (by rw [hSz_c ht (by decide)]; decide) (by simp [tS])).trans (hUp_fr (S := (tS T)) (a := (T + 1)) (k := ps.length) (x := 0) u1 (by rw [tg1]; rfl) (by omega) (by simp [tS]))).trans (hUp_fr (S := (tS T)) (a := (T + 2)) (k := ps.length) (x := (i : Int)) u2 (by rw [tg2]; rfl) (by omega) (by simp [tS]))).trans (hUp_fr (S := (tS T)) (a := (T + 3)) (k := ps.length) (x := c) u3 (by rw [tg3]; rfl) (by omega) (by simp [tS]))).trans (hUp_fr (S := (tS T)) (a := (T + 5)) (k := ps.length) (x := y) u4 (by rw [tg5]; rfl) (by omega) (by simp [tS]))).trans (hUp_fr (S := (tS T)) (a := T) (k := 10) (x := z) u5 (by rw [ht]; rfl) (by rw [hSz_c ht (by decide)]; decide) (by simp [tS]))).trans (hUp_fr (S := (tS T)) (a := (T + 1)) (k := ps.length) (x := 1) u6 (by rw [tg1]; rfl) (by omega) (by simp [tS]))).trans (hUp_fr (S := (tS T)) (a := T) (k := 11) (x := 1) u7 (by rw [ht]; rfl) (by rw [hSz_c ht (by decide)]; decide) (by simp [tS])), fun k hk => by rw [rd, if_neg (by omega), if_neg (by omega), if_neg (by omega), if_neg (by omega), if_neg (by omega), if_neg (by omega), if_neg (by omega), if_neg (by omega)]⟩
    refine hQ _ (1, ps ++ [(1, i, c, 0, ps.length + 1)], op, if mo < op.length then op.length else mo) ?_ ⟨u8, ?_, ?_, ?_, ?_, fun j q hq => ?_, fun j q hq hk hl => ?_, ?_⟩ fr
    · show (if c = 125 then _ else _) = _
      rw [if_neg h125]
      simp only [if_pos hcc]
    · rw [rd, if_neg (by omega), if_neg (by omega), if_neg (by omega), if_neg (by omega), if_neg (by omega), if_neg (by omega), if_neg (by omega), if_pos ⟨rfl, rfl⟩, hx]; simp
    · rw [rd, if_neg (by omega), if_neg (by omega), if_neg (by omega), if_neg (by omega), if_neg (by omega), if_neg (by omega), if_neg (by omega), if_neg (by omega), h9]
    · rw [rd, if_neg (by omega), if_neg (by omega), if_pos ⟨rfl, rfl⟩, hz9]
    · rw [rd, if_pos ⟨rfl, rfl⟩]; rfl
    · rcases app_get hq with ⟨hj, hq2⟩ | ⟨rfl, rfl⟩
      · obtain ⟨a1, a2, a3, a5⟩ := hA j q hq2
        exact ⟨by rw [rd, if_neg (by omega), if_neg (by omega), if_neg (by omega), if_neg (by omega), if_neg (by omega), if_neg (by omega), if_neg (by omega), if_neg (by omega), a1], by rw [rd, if_neg (by omega), if_neg (by omega), if_neg (by omega), if_neg (by omega), if_neg (by omega), if_neg (by omega), if_neg (by omega), if_neg (by omega), a2], by rw [rd, if_neg (by omega), if_neg (by omega), if_neg (by omega), if_neg (by omega), if_neg (by omega), if_neg (by omega), if_neg (by omega), if_neg (by omega), a3], by rw [rd, if_neg (by omega), if_neg (by omega), if_neg (by omega), if_neg (by omega), if_neg (by omega), if_neg (by omega), if_neg (by omega), if_neg (by omega), a5]⟩
      · exact ⟨by rw [rd, if_neg (by omega), if_pos ⟨rfl, rfl⟩]; rfl, by rw [rd, if_neg (by omega), if_neg (by omega), if_neg (by omega), if_neg (by omega), if_neg (by omega), if_pos ⟨rfl, rfl⟩], by rw [rd, if_neg (by omega), if_neg (by omega), if_neg (by omega), if_neg (by omega), if_pos ⟨rfl, rfl⟩], by rw [rd, if_neg (by omega), if_neg (by omega), if_neg (by omega), if_pos ⟨rfl, rfl⟩, hy]; simp⟩
    · rcases app_get hq with ⟨hj, hq2⟩ | ⟨rfl, rfl⟩
      · rw [rd, if_neg (by omega), if_neg (by omega), if_neg (by omega), if_neg (by omega), if_neg (by omega), if_neg (by omega), if_neg (by omega), if_neg (by omega)]; exact hM j q hq2 hk (fun _ => ⟨by omega, by omega⟩)
      · exact absurd (show 2 ≤ 1 from hk) (by decide)
    · refine hTpO_eq (fun r _ => ?_) hO
      rw [rd, if_neg (by omega), if_neg (by omega), if_neg (by omega), if_neg (by omega), if_neg (by omega), if_neg (by omega), if_neg (by omega), if_neg (by omega)]
  have f2 : (¬ c = 126 ∧ c = 123) → ∀ x y z : Int, x = (ps.length : Int) + 1 → y = (ps.length : Int) + 1 → z = ((if mo < op.length then op.length else mo : Nat) : Int) → Q (.inl (some (.inl 1)), (hUp (hUp (hUp (hUp (hUp (hUp (hUp (hUp ph T 8 x) (T + 1) ps.length 0) (T + 2) ps.length (i : Int)) (T + 3) ps.length c) (T + 5) ps.length y) T 10 z) (T + 1) ps.length 2) T 11 2), g) := by
    intro hcc x y z hx hy hz9
    have u1 : hSh zs (hUp ph T 8 x) := hShI1 _ hs ht rfl
    have u2 : hSh zs (hUp (hUp ph T 8 x) (T + 1) ps.length 0) := hShI1 _ u1 tg1 rfl
    have u3 : hSh zs (hUp (hUp (hUp ph T 8 x) (T + 1) ps.length 0) (T + 2) ps.length (i : Int)) := hShI1 _ u2 tg2 rfl
    have u4 : hSh zs (hUp (hUp (hUp (hUp ph T 8 x) (T + 1) ps.length 0) (T + 2) ps.length (i : Int)) (T + 3) ps.length c) := hShI1 _ u3 tg3 rfl
    have u5 : hSh zs (hUp (hUp (hUp (hUp (hUp ph T 8 x) (T + 1) ps.length 0) (T + 2) ps.length (i : Int)) (T + 3) ps.length c) (T + 5) ps.length y) := hShI1 _ u4 tg5 rfl
    have u6 : hSh zs (hUp (hUp (hUp (hUp (hUp (hUp ph T 8 x) (T + 1) ps.length 0) (T + 2) ps.length (i : Int)) (T + 3) ps.length c) (T + 5) ps.length y) T 10 z) := hShI1 _ u5 ht rfl
    have u7 : hSh zs (hUp (hUp (hUp (hUp (hUp (hUp (hUp ph T 8 x) (T + 1) ps.length 0) (T + 2) ps.length (i : Int)) (T + 3) ps.length c) (T + 5) ps.length y) T 10 z) (T + 1) ps.length 2) := hShI1 _ u6 tg1 rfl
    have u8 : hSh zs (hUp (hUp (hUp (hUp (hUp (hUp (hUp (hUp ph T 8 x) (T + 1) ps.length 0) (T + 2) ps.length (i : Int)) (T + 3) ps.length c) (T + 5) ps.length y) T 10 z) (T + 1) ps.length 2) T 11 2) := hShI1 _ u7 ht rfl
    have rd : ∀ b j, hRd (hUp (hUp (hUp (hUp (hUp (hUp (hUp (hUp ph T 8 x) (T + 1) ps.length 0) (T + 2) ps.length (i : Int)) (T + 3) ps.length c) (T + 5) ps.length y) T 10 z) (T + 1) ps.length 2) T 11 2) b j = if b = T ∧ j = 11 then 2 else if b = (T + 1) ∧ j = ps.length then 2 else if b = T ∧ j = 10 then z else if b = (T + 5) ∧ j = ps.length then y else if b = (T + 3) ∧ j = ps.length then c else if b = (T + 2) ∧ j = ps.length then (i : Int) else if b = (T + 1) ∧ j = ps.length then 0 else if b = T ∧ j = 8 then x else hRd ph b j := fun b j => by rw [hRd_up u7 (a := T) (k := 11) (x := 2) (by rw [ht]; rfl) (by rw [hSz_c ht (by decide)]; decide), hRd_up u6 (a := (T + 1)) (k := ps.length) (x := 2) (by rw [tg1]; rfl) (by omega), hRd_up u5 (a := T) (k := 10) (x := z) (by rw [ht]; rfl) (by rw [hSz_c ht (by decide)]; decide), hRd_up u4 (a := (T + 5)) (k := ps.length) (x := y) (by rw [tg5]; rfl) (by omega), hRd_up u3 (a := (T + 3)) (k := ps.length) (x := c) (by rw [tg3]; rfl) (by omega), hRd_up u2 (a := (T + 2)) (k := ps.length) (x := (i : Int)) (by rw [tg2]; rfl) (by omega), hRd_up u1 (a := (T + 1)) (k := ps.length) (x := 0) (by rw [tg1]; rfl) (by omega), hRd_up hs (a := T) (k := 8) (x := x) (by rw [ht]; rfl) (by rw [hSz_c ht (by decide)]; decide)]
    have fr : hFk T ph (hUp (hUp (hUp (hUp (hUp (hUp (hUp (hUp ph T 8 x) (T + 1) ps.length 0) (T + 2) ps.length (i : Int)) (T + 3) ps.length c) (T + 5) ps.length y) T 10 z) (T + 1) ps.length 2) T 11 2) := ⟨(((((((hUp_fr (S := (tS T)) (a := T) (k := 8) (x := x) hs (by rw [ht]; rfl) (by rw [hSz_c ht (by decide)]; decide) (by simp [tS])).trans (hUp_fr (S := (tS T)) (a := (T + 1)) (k := ps.length) (x := 0) u1 (by rw [tg1]; rfl) (by omega) (by simp [tS]))).trans (hUp_fr (S := (tS T)) (a := (T + 2)) (k := ps.length) (x := (i : Int)) u2 (by rw [tg2]; rfl) (by omega) (by simp [tS]))).trans (hUp_fr (S := (tS T)) (a := (T + 3)) (k := ps.length) (x := c) u3 (by rw [tg3]; rfl) (by omega) (by simp [tS]))).trans (hUp_fr (S := (tS T)) (a := (T + 5)) (k := ps.length) (x := y) u4 (by rw [tg5]; rfl) (by omega) (by simp [tS]))).trans (hUp_fr (S := (tS T)) (a := T) (k := 10) (x := z) u5 (by rw [ht]; rfl) (by rw [hSz_c ht (by decide)]; decide) (by simp [tS]))).trans (hUp_fr (S := (tS T)) (a := (T + 1)) (k := ps.length) (x := 2) u6 (by rw [tg1]; rfl) (by omega) (by simp [tS]))).trans (hUp_fr (S := (tS T)) (a := T) (k := 11) (x := 2) u7 (by rw [ht]; rfl) (by rw [hSz_c ht (by decide)]; decide) (by simp [tS])), fun k hk => by rw [rd, if_neg (by omega), if_neg (by omega), if_neg (by omega), if_neg (by omega), if_neg (by omega), if_neg (by omega), if_neg (by omega), if_neg (by omega)]⟩
    refine hQ _ (2, ps ++ [(2, i, c, 0, ps.length + 1)], op, if mo < op.length then op.length else mo) ?_ ⟨u8, ?_, ?_, ?_, ?_, fun j q hq => ?_, fun j q hq hk hl => ?_, ?_⟩ fr
    · show (if c = 125 then _ else _) = _
      rw [if_neg h125]
      simp only [if_neg hcc.1, if_pos hcc.2]
    · rw [rd, if_neg (by omega), if_neg (by omega), if_neg (by omega), if_neg (by omega), if_neg (by omega), if_neg (by omega), if_neg (by omega), if_pos ⟨rfl, rfl⟩, hx]; simp
    · rw [rd, if_neg (by omega), if_neg (by omega), if_neg (by omega), if_neg (by omega), if_neg (by omega), if_neg (by omega), if_neg (by omega), if_neg (by omega), h9]
    · rw [rd, if_neg (by omega), if_neg (by omega), if_pos ⟨rfl, rfl⟩, hz9]
    · rw [rd, if_pos ⟨rfl, rfl⟩]; rfl
    · rcases app_get hq with ⟨hj, hq2⟩ | ⟨rfl, rfl⟩
      · obtain ⟨a1, a2, a3, a5⟩ := hA j q hq2
        exact ⟨by rw [rd, if_neg (by omega), if_neg (by omega), if_neg (by omega), if_neg (by omega), if_neg (by omega), if_neg (by omega), if_neg (by omega), if_neg (by omega), a1], by rw [rd, if_neg (by omega), if_neg (by omega), if_neg (by omega), if_neg (by omega), if_neg (by omega), if_neg (by omega), if_neg (by omega), if_neg (by omega), a2], by rw [rd, if_neg (by omega), if_neg (by omega), if_neg (by omega), if_neg (by omega), if_neg (by omega), if_neg (by omega), if_neg (by omega), if_neg (by omega), a3], by rw [rd, if_neg (by omega), if_neg (by omega), if_neg (by omega), if_neg (by omega), if_neg (by omega), if_neg (by omega), if_neg (by omega), if_neg (by omega), a5]⟩
      · exact ⟨by rw [rd, if_neg (by omega), if_pos ⟨rfl, rfl⟩]; rfl, by rw [rd, if_neg (by omega), if_neg (by omega), if_neg (by omega), if_neg (by omega), if_neg (by omega), if_pos ⟨rfl, rfl⟩], by rw [rd, if_neg (by omega), if_neg (by omega), if_neg (by omega), if_neg (by omega), if_pos ⟨rfl, rfl⟩], by rw [rd, if_neg (by omega), if_neg (by omega), if_neg (by omega), if_pos ⟨rfl, rfl⟩, hy]; simp⟩
    · rcases app_get hq with ⟨hj, hq2⟩ | ⟨rfl, rfl⟩
      · rw [rd, if_neg (by omega), if_neg (by omega), if_neg (by omega), if_neg (by omega), if_neg (by omega), if_neg (by omega), if_neg (by omega), if_neg (by omega)]; exact hM j q hq2 hk (fun _ => ⟨by omega, by omega⟩)
      · exact absurd rfl (hl (by simp)).1
    · refine hTpO_eq (fun r _ => ?_) hO
      rw [rd, if_neg (by omega), if_neg (by omega), if_neg (by omega), if_neg (by omega), if_neg (by omega), if_neg (by omega), if_neg (by omega), if_neg (by omega)]
  have w1 : hSh zs (hUp ph T 8 ((ps.length : Int) + 1)) := hShI1 _ hs ht rfl
  have w2 : hSh zs (hUp (hUp ph T 8 ((ps.length : Int) + 1)) (T + 1) ps.length 0) := hShI1 _ w1 tg1 rfl
  have w3 : hSh zs (hUp (hUp (hUp ph T 8 ((ps.length : Int) + 1)) (T + 1) ps.length 0) (T + 2) ps.length (i : Int)) := hShI1 _ w2 tg2 rfl
  have w4 : hSh zs (hUp (hUp (hUp (hUp ph T 8 ((ps.length : Int) + 1)) (T + 1) ps.length 0) (T + 2) ps.length (i : Int)) (T + 3) ps.length c) := hShI1 _ w3 tg3 rfl
  have w5 : hSh zs (hUp (hUp (hUp (hUp (hUp ph T 8 ((ps.length : Int) + 1)) (T + 1) ps.length 0) (T + 2) ps.length (i : Int)) (T + 3) ps.length c) (T + 5) ps.length ((ps.length : Int) + 1)) := hShI1 _ w4 tg5 rfl
  have y0 : hRd (hUp (hUp (hUp (hUp ph T 8 ((ps.length : Int) + 1)) (T + 1) ps.length 0) (T + 2) ps.length (i : Int)) (T + 3) ps.length c) T 8 = (ps.length : Int) + 1 := by rw [hRd_up w3 (a := (T + 3)) (k := ps.length) (x := c) (by rw [tg3]; rfl) (by omega), hRd_up w2 (a := (T + 2)) (k := ps.length) (x := (i : Int)) (by rw [tg2]; rfl) (by omega), hRd_up w1 (a := (T + 1)) (k := ps.length) (x := 0) (by rw [tg1]; rfl) (by omega), hRd_up hs (a := T) (k := 8) (x := ((ps.length : Int) + 1)) (by rw [ht]; rfl) (by rw [hSz_c ht (by decide)]; decide), if_neg (by omega), if_neg (by omega), if_neg (by omega), if_pos ⟨rfl, rfl⟩]
  have v10 : hRd (hUp (hUp (hUp (hUp (hUp ph T 8 ((ps.length : Int) + 1)) (T + 1) ps.length 0) (T + 2) ps.length (i : Int)) (T + 3) ps.length c) (T + 5) ps.length ((ps.length : Int) + 1)) T 10 = (mo : Int) := by rw [hRd_up w4 (a := (T + 5)) (k := ps.length) (x := ((ps.length : Int) + 1)) (by rw [tg5]; rfl) (by omega), hRd_up w3 (a := (T + 3)) (k := ps.length) (x := c) (by rw [tg3]; rfl) (by omega), hRd_up w2 (a := (T + 2)) (k := ps.length) (x := (i : Int)) (by rw [tg2]; rfl) (by omega), hRd_up w1 (a := (T + 1)) (k := ps.length) (x := 0) (by rw [tg1]; rfl) (by omega), hRd_up hs (a := T) (k := 8) (x := ((ps.length : Int) + 1)) (by rw [ht]; rfl) (by rw [hSz_c ht (by decide)]; decide), if_neg (by omega), if_neg (by omega), if_neg (by omega), if_neg (by omega), if_neg (by omega), h10]
  have v9 : hRd (hUp (hUp (hUp (hUp (hUp ph T 8 ((ps.length : Int) + 1)) (T + 1) ps.length 0) (T + 2) ps.length (i : Int)) (T + 3) ps.length c) (T + 5) ps.length ((ps.length : Int) + 1)) T 9 = (op.length : Int) := by rw [hRd_up w4 (a := (T + 5)) (k := ps.length) (x := ((ps.length : Int) + 1)) (by rw [tg5]; rfl) (by omega), hRd_up w3 (a := (T + 3)) (k := ps.length) (x := c) (by rw [tg3]; rfl) (by omega), hRd_up w2 (a := (T + 2)) (k := ps.length) (x := (i : Int)) (by rw [tg2]; rfl) (by omega), hRd_up w1 (a := (T + 1)) (k := ps.length) (x := 0) (by rw [tg1]; rfl) (by omega), hRd_up hs (a := T) (k := 8) (x := ((ps.length : Int) + 1)) (by rw [ht]; rfl) (by rw [hSz_c ht (by decide)]; decide), if_neg (by omega), if_neg (by omega), if_neg (by omega), if_neg (by omega), if_neg (by omega), h9]
  refine tEn (ls := [some (.inr (.inl (some T))), some (.inl (i : Int)), some (.inl c), none]) (fun k => by match k with | 0 => rfl | 1 => rfl | 2 => rfl | 3 => rfl | k + 4 => rfl) ?_
  refine tK (l := xk_60) rfl rfl (fun _ _ _ _ _ => rfl) ?_
  refine tK (l := xk_60) rfl rfl (hGetI hs rfl ht rfl (by decide) (by decide)) ?_
  rw [h8]
  refine tSt (l := xk_60) rfl rfl (fun _ _ _ _ _ => rfl) (Nat.le_of_ble_eq_true rfl) ?_
  refine tK (l := xk_60) rfl rfl (fun _ _ _ _ _ => rfl) ?_
  refine tIf_lt (l := xk_60) (pc' := 45) rfl rfl rfl (fun hc => ?_) (fun hc => ?_)
  · have hc6 := hc
    exfalso; omega
  · have hc6 := hc
    refine tK (l := xk_60) rfl rfl (fun _ _ _ _ _ => rfl) ?_
    refine tK (l := xk_60) rfl rfl (fun _ _ _ _ _ => rfl) ?_
    refine tK (l := xk_60) rfl rfl (hGetR (o := some (T + 1)) hs rfl ht rfl (by decide) (by decide) (hrf_7_2 ht)) ?_
    refine tK (l := xk_60) rfl rfl (hAlen1 hs (htg_7_2 ht) (by decide) (by decide)) ?_
    refine tIc_ge (l := xk_60) (pc' := 45) rfl rfl rfl (fun hc => ?_) (fun hc => ?_)
    · have hc15 := hc
      refine tK (l := xk_60) rfl rfl (fun _ _ _ _ _ => rfl) ?_
      refine tK (l := xk_60) rfl rfl (fun _ _ _ _ _ => rfl) ?_
      refine tK (l := xk_60) rfl rfl (hGetR (o := some (T + 2)) hs rfl ht rfl (by decide) (by decide) (hrf_7_3 ht)) ?_
      refine tK (l := xk_60) rfl rfl (hAlen1 hs (htg_7_3 ht) (by decide) (by decide)) ?_
      refine tIc_ge (l := xk_60) (pc' := 45) rfl rfl rfl (fun hc => ?_) (fun hc => ?_)
      · have hc24 := hc
        refine tK (l := xk_60) rfl rfl (fun _ _ _ _ _ => rfl) ?_
        refine tK (l := xk_60) rfl rfl (fun _ _ _ _ _ => rfl) ?_
        refine tK (l := xk_60) rfl rfl (hGetR (o := some (T + 3)) hs rfl ht rfl (by decide) (by decide) (hrf_7_4 ht)) ?_
        refine tK (l := xk_60) rfl rfl (hAlen1 hs (htg_7_4 ht) (by decide) (by decide)) ?_
        refine tIc_ge (l := xk_60) (pc' := 45) rfl rfl rfl (fun hc => ?_) (fun hc => ?_)
        · have hc33 := hc
          refine tK (l := xk_60) rfl rfl (fun _ _ _ _ _ => rfl) ?_
          refine tK (l := xk_60) rfl rfl (fun _ _ _ _ _ => rfl) ?_
          refine tK (l := xk_60) rfl rfl (hGetR (o := some (T + 5)) hs rfl ht rfl (by decide) (by decide) (hrf_7_6 ht)) ?_
          refine tK (l := xk_60) rfl rfl (hAlen1 hs (htg_7_6 ht) (by decide) (by decide)) ?_
          refine tIc_lt (l := xk_60) (pc' := 47) rfl rfl rfl (fun hc => ?_) (fun hc => ?_)
          · have hc42 := hc
            refine tK (l := xk_60) rfl rfl (fun _ _ _ _ _ => rfl) ?_
            refine tK (l := xk_60) rfl rfl (fun _ _ _ _ _ => rfl) ?_
            refine tK (l := xk_60) rfl rfl (hGetI hs rfl ht rfl (by decide) (by decide)) ?_
            rw [h8]
            refine tK (l := xk_60) rfl rfl (fun _ _ _ _ _ => rfl) ?_
            refine tK (l := xk_60) rfl rfl (hAdd ⟨by omega, by omega⟩) ?_
            refine tK (l := xk_60) rfl rfl (hPutV hs rfl ht (by decide) (by decide) rfl) ?_
            refine tK (l := xk_60) rfl rfl (fun _ _ _ _ _ => rfl) ?_
            refine tK (l := xk_60) rfl rfl (hGetR (o := some (T + 1)) (hShI1 _ hs ht rfl) rfl ht rfl (by decide) (by decide) (hrf_7_2 ht)) ?_
            refine tK (l := xk_60) rfl rfl (fun _ _ _ _ _ => rfl) ?_
            refine tK (l := xk_60) rfl rfl (fun _ _ _ _ _ => rfl) ?_
            first | refine tK (l := xk_60) rfl rfl (hIastN (hShI1 _ hs ht rfl) (htg_7_2 ht) rfl (by omega)) ?_ | refine tK (l := xk_60) rfl rfl (hIast (hShI1 _ hs ht rfl) (htg_7_2 ht) (by omega) (by omega)) ?_
            refine tK (l := xk_60) rfl rfl (fun _ _ _ _ _ => rfl) ?_
            refine tK (l := xk_60) rfl rfl (hGetR (o := some (T + 2)) (hShI1 _ (hShI1 _ hs ht rfl) (htg_7_2 ht) rfl) rfl ht rfl (by decide) (by decide) (hrf_7_3 ht)) ?_
            refine tK (l := xk_60) rfl rfl (fun _ _ _ _ _ => rfl) ?_
            refine tK (l := xk_60) rfl rfl (fun _ _ _ _ _ => rfl) ?_
            first | refine tK (l := xk_60) rfl rfl (hIastN (hShI1 _ (hShI1 _ hs ht rfl) (htg_7_2 ht) rfl) (htg_7_3 ht) rfl (by omega)) ?_ | refine tK (l := xk_60) rfl rfl (hIast (hShI1 _ (hShI1 _ hs ht rfl) (htg_7_2 ht) rfl) (htg_7_3 ht) (by omega) (by omega)) ?_
            refine tK (l := xk_60) rfl rfl (fun _ _ _ _ _ => rfl) ?_
            refine tK (l := xk_60) rfl rfl (hGetR (o := some (T + 3)) (hShI1 _ (hShI1 _ (hShI1 _ hs ht rfl) (htg_7_2 ht) rfl) (htg_7_3 ht) rfl) rfl ht rfl (by decide) (by decide) (hrf_7_4 ht)) ?_
            refine tK (l := xk_60) rfl rfl (fun _ _ _ _ _ => rfl) ?_
            refine tK (l := xk_60) rfl rfl (fun _ _ _ _ _ => rfl) ?_
            first | refine tK (l := xk_60) rfl rfl (hIastN (hShI1 _ (hShI1 _ (hShI1 _ hs ht rfl) (htg_7_2 ht) rfl) (htg_7_3 ht) rfl) (htg_7_4 ht) rfl (by omega)) ?_ | refine tK (l := xk_60) rfl rfl (hIast (hShI1 _ (hShI1 _ (hShI1 _ hs ht rfl) (htg_7_2 ht) rfl) (htg_7_3 ht) rfl) (htg_7_4 ht) (by omega) (by omega)) ?_
            refine tK (l := xk_60) rfl rfl (fun _ _ _ _ _ => rfl) ?_
            refine tK (l := xk_60) rfl rfl (hGetR (o := some (T + 5)) (hShI1 _ (hShI1 _ (hShI1 _ (hShI1 _ hs ht rfl) (htg_7_2 ht) rfl) (htg_7_3 ht) rfl) (htg_7_4 ht) rfl) rfl ht rfl (by decide) (by decide) (hrf_7_6 ht)) ?_
            refine tK (l := xk_60) rfl rfl (fun _ _ _ _ _ => rfl) ?_
            refine tK (l := xk_60) rfl rfl (fun _ _ _ _ _ => rfl) ?_
            refine tK (l := xk_60) rfl rfl (hGetI (hShI1 _ (hShI1 _ (hShI1 _ (hShI1 _ hs ht rfl) (htg_7_2 ht) rfl) (htg_7_3 ht) rfl) (htg_7_4 ht) rfl) rfl ht rfl (by decide) (by decide)) ?_
            rw [y0]
            first | refine tK (l := xk_60) rfl rfl (hIastN (hShI1 _ (hShI1 _ (hShI1 _ (hShI1 _ hs ht rfl) (htg_7_2 ht) rfl) (htg_7_3 ht) rfl) (htg_7_4 ht) rfl) (htg_7_6 ht) rfl (by omega)) ?_ | refine tK (l := xk_60) rfl rfl (hIast (hShI1 _ (hShI1 _ (hShI1 _ (hShI1 _ hs ht rfl) (htg_7_2 ht) rfl) (htg_7_3 ht) rfl) (htg_7_4 ht) rfl) (htg_7_6 ht) (by omega) (by omega)) ?_
            refine tK (l := xk_60) rfl rfl (fun _ _ _ _ _ => rfl) ?_
            refine tK (l := xk_60) rfl rfl (fun _ _ _ _ _ => rfl) ?_
            refine tK (l := xk_60) rfl rfl (hGetI (hShI1 _ (hShI1 _ (hShI1 _ (hShI1 _ (hShI1 _ hs ht rfl) (htg_7_2 ht) rfl) (htg_7_3 ht) rfl) (htg_7_4 ht) rfl) (htg_7_6 ht) rfl) rfl ht rfl (by decide) (by decide)) ?_
            rw [v10]
            refine tK (l := xk_60) rfl rfl (fun _ _ _ _ _ => rfl) ?_
            refine tK (l := xk_60) rfl rfl (hGetI (hShI1 _ (hShI1 _ (hShI1 _ (hShI1 _ (hShI1 _ hs ht rfl) (htg_7_2 ht) rfl) (htg_7_3 ht) rfl) (htg_7_4 ht) rfl) (htg_7_6 ht) rfl) rfl ht rfl (by decide) (by decide)) ?_
            rw [v9]
            refine tK (l := xk_60) rfl rfl (fun _ _ _ _ _ => rfl) ?_
            refine tK (l := xk_60) rfl rfl (hPutV (hShI1 _ (hShI1 _ (hShI1 _ (hShI1 _ (hShI1 _ hs ht rfl) (htg_7_2 ht) rfl) (htg_7_3 ht) rfl) (htg_7_4 ht) rfl) (htg_7_6 ht) rfl) rfl ht (by decide) (by decide) rfl) ?_
            refine tK (l := xk_60) rfl rfl (fun _ _ _ _ _ => rfl) ?_
            refine tK (l := xk_60) rfl rfl (fun _ _ _ _ _ => rfl) ?_
            refine tIc_ne (l := xk_60) (pc' := 124) rfl rfl rfl (fun hc => ?_) (fun hc => ?_)
            · have hc106 := hc
              refine tK (l := xk_60) rfl rfl (fun _ _ _ _ _ => rfl) ?_
              refine tK (l := xk_60) rfl rfl (hGetR (o := some (T + 1)) (hShI1 _ (hShI1 _ (hShI1 _ (hShI1 _ (hShI1 _ (hShI1 _ hs ht rfl) (htg_7_2 ht) rfl) (htg_7_3 ht) rfl) (htg_7_4 ht) rfl) (htg_7_6 ht) rfl) ht rfl) rfl ht rfl (by decide) (by decide) (hrf_7_2 ht)) ?_
              refine tK (l := xk_60) rfl rfl (fun _ _ _ _ _ => rfl) ?_
              refine tK (l := xk_60) rfl rfl (fun _ _ _ _ _ => rfl) ?_
              first | refine tK (l := xk_60) rfl rfl (hIastN (hShI1 _ (hShI1 _ (hShI1 _ (hShI1 _ (hShI1 _ (hShI1 _ hs ht rfl) (htg_7_2 ht) rfl) (htg_7_3 ht) rfl) (htg_7_4 ht) rfl) (htg_7_6 ht) rfl) ht rfl) (htg_7_2 ht) rfl (by omega)) ?_ | refine tK (l := xk_60) rfl rfl (hIast (hShI1 _ (hShI1 _ (hShI1 _ (hShI1 _ (hShI1 _ (hShI1 _ hs ht rfl) (htg_7_2 ht) rfl) (htg_7_3 ht) rfl) (htg_7_4 ht) rfl) (htg_7_6 ht) rfl) ht rfl) (htg_7_2 ht) (by omega) (by omega)) ?_
              refine tK (l := xk_60) rfl rfl (fun _ _ _ _ _ => rfl) ?_
              refine tK (l := xk_60) rfl rfl (fun _ _ _ _ _ => rfl) ?_
              refine tK (l := xk_60) rfl rfl (hPutV (hShI1 _ (hShI1 _ (hShI1 _ (hShI1 _ (hShI1 _ (hShI1 _ (hShI1 _ hs ht rfl) (htg_7_2 ht) rfl) (htg_7_3 ht) rfl) (htg_7_4 ht) rfl) (htg_7_6 ht) rfl) ht rfl) (htg_7_2 ht) rfl) rfl ht (by decide) (by decide) rfl) ?_
              refine tK (l := xk_60) rfl rfl (fun _ _ _ _ _ => rfl) ?_
              refine tK (l := xk_60) rfl rfl (fun _ _ _ _ _ => rfl) ?_
              refine tRt (l := xk_60) rfl rfl (fun _ _ _ _ _ => rfl) ?_
              exact f1 hc106 _ _ _ rfl rfl (by (try simp only [Int.max_def]); (repeat' split) <;> omega)
            · have hc106 := hc
              refine tK (l := xk_60) rfl rfl (fun _ _ _ _ _ => rfl) ?_
              refine tK (l := xk_60) rfl rfl (fun _ _ _ _ _ => rfl) ?_
              refine tIc_ne (l := xk_60) (pc' := 142) rfl rfl rfl (fun hc => ?_) (fun hc => ?_)
              · have hc127 := hc
                refine tK (l := xk_60) rfl rfl (fun _ _ _ _ _ => rfl) ?_
                refine tK (l := xk_60) rfl rfl (hGetR (o := some (T + 1)) (hShI1 _ (hShI1 _ (hShI1 _ (hShI1 _ (hShI1 _ (hShI1 _ hs ht rfl) (htg_7_2 ht) rfl) (htg_7_3 ht) rfl) (htg_7_4 ht) rfl) (htg_7_6 ht) rfl) ht rfl) rfl ht rfl (by decide) (by decide) (hrf_7_2 ht)) ?_
                refine tK (l := xk_60) rfl rfl (fun _ _ _ _ _ => rfl) ?_
                refine tK (l := xk_60) rfl rfl (fun _ _ _ _ _ => rfl) ?_
                first | refine tK (l := xk_60) rfl rfl (hIastN (hShI1 _ (hShI1 _ (hShI1 _ (hShI1 _ (hShI1 _ (hShI1 _ hs ht rfl) (htg_7_2 ht) rfl) (htg_7_3 ht) rfl) (htg_7_4 ht) rfl) (htg_7_6 ht) rfl) ht rfl) (htg_7_2 ht) rfl (by omega)) ?_ | refine tK (l := xk_60) rfl rfl (hIast (hShI1 _ (hShI1 _ (hShI1 _ (hShI1 _ (hShI1 _ (hShI1 _ hs ht rfl) (htg_7_2 ht) rfl) (htg_7_3 ht) rfl) (htg_7_4 ht) rfl) (htg_7_6 ht) rfl) ht rfl) (htg_7_2 ht) (by omega) (by omega)) ?_
                refine tK (l := xk_60) rfl rfl (fun _ _ _ _ _ => rfl) ?_
                refine tK (l := xk_60) rfl rfl (fun _ _ _ _ _ => rfl) ?_
                refine tK (l := xk_60) rfl rfl (hPutV (hShI1 _ (hShI1 _ (hShI1 _ (hShI1 _ (hShI1 _ (hShI1 _ (hShI1 _ hs ht rfl) (htg_7_2 ht) rfl) (htg_7_3 ht) rfl) (htg_7_4 ht) rfl) (htg_7_6 ht) rfl) ht rfl) (htg_7_2 ht) rfl) rfl ht (by decide) (by decide) rfl) ?_
                refine tK (l := xk_60) rfl rfl (fun _ _ _ _ _ => rfl) ?_
                refine tRt (l := xk_60) rfl rfl (fun _ _ _ _ _ => rfl) ?_
                exact f2 ⟨hc106, hc127⟩ _ _ _ rfl rfl (by (try simp only [Int.max_def]); (repeat' split) <;> omega)
              · have hc127 := hc
                refine tK (l := xk_60) rfl rfl (fun _ _ _ _ _ => rfl) ?_
                refine tRt (l := xk_60) rfl rfl (fun _ _ _ _ _ => rfl) ?_
                exact f0 ⟨hc106, hc127⟩ _ _ _ rfl rfl (by (try simp only [Int.max_def]); (repeat' split) <;> omega)
          · have hc42 := hc
            exfalso; omega
        · have hc33 := hc
          exfalso; omega
      · have hc24 := hc
        exfalso; omega
    · have hc15 := hc
      exfalso; omega
end TPL
