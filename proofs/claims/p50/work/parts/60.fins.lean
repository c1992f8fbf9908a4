/-! ===== what holds of a rendering's end ===== -/
theorem pRes_le (t : List Int) : (pRes t).1 ≤ t.length := by
  cases h : (pRes t).2 with
  | none => exact Nat.le_of_lt (pRes_none h)
  | some s => exact Nat.le_of_eq (pRes_some h).1
def jR (rs : RS) : Prop := rs.2.2.1.length ≤ 200 ∧ rs.2.2.2.1 ≤ 200 ∧ rs.2.2.2.2.1 + rs.2.2.2.2.2.1 + rs.2.2.2.2.2.2 = rs.2.2.1.length ∧ rs.2.2.2.2.1 + rs.2.2.2.2.2.1 ≤ rs.2.2.2.1
def jQ (q : RS × Nat) : Prop := jR q.1 ∧ (q.2 = 0 ∨ (q.2 = 2 ∧ q.1.2.2.1.length = 200) ∨ q.2 = 6)
theorem prF_j {c k : Int} {rs : RS} (h : jR rs) (hk : k = 0 ∨ k = 1 → rs.2.2.2.2.1 + rs.2.2.2.2.2.1 + 1 ≤ rs.2.2.2.1) : jQ (prF c k rs) := by
  obtain ⟨sc, sg, ou, st, pl, es, vl⟩ := rs
  obtain ⟨h1, h2, h3, h4⟩ := h
  simp only at h1 h2 h3 h4 hk
  cases sg with
  | nil =>
    simp only [prF]
    by_cases e : ou.length = 200
    · rw [if_pos e]
      exact ⟨⟨h1, h2, h3, h4⟩, Or.inr (Or.inl ⟨rfl, e⟩)⟩
    · rw [if_neg e]
      have hl : (ou ++ [c]).length = ou.length + 1 := by simp
      by_cases k0 : k = 0
      · rw [if_pos k0]
        have := hk (Or.inl k0)
        exact ⟨⟨by show (ou ++ [c]).length ≤ 200; omega, h2, by show pl + 1 + es + vl = (ou ++ [c]).length; omega, by show pl + 1 + es ≤ st; omega⟩, Or.inl rfl⟩
      · rw [if_neg k0]
        by_cases k1 : k = 1
        · rw [if_pos k1]
          have := hk (Or.inr k1)
          exact ⟨⟨by show (ou ++ [c]).length ≤ 200; omega, h2, by show pl + (es + 1) + vl = (ou ++ [c]).length; omega, by show pl + (es + 1) ≤ st; omega⟩, Or.inl rfl⟩
        · rw [if_neg k1]
          exact ⟨⟨by show (ou ++ [c]).length ≤ 200; omega, h2, by show pl + es + (vl + 1) = (ou ++ [c]).length; omega, h4⟩, Or.inl rfl⟩
  | cons t ts =>
    simp only [prF]
    split
    · exact ⟨⟨h1, h2, h3, h4⟩, Or.inr (Or.inr rfl)⟩
    · exact ⟨⟨h1, h2, h3, h4⟩, Or.inl rfl⟩
theorem pvF_j (e : Bool) {k : Int} (hk : k = 2 ∨ k = 3) : ∀ (v : List Int) (rs : RS), jR rs → jQ (pvF e k v rs) := by
  have nk : k = 0 ∨ k = 1 → False := fun h => by omega
  intro v
  induction v with
  | nil => intro rs h; exact ⟨h, Or.inl rfl⟩
  | cons c cs ih =>
    intro rs h
    have two : ∀ rs : RS, jR rs → jQ (match prF c k rs with
        | (s2, 0) => pvF e k cs s2
        | q => q) := by
      intro rs h
      have q := prF_j (c := c) (k := k) h (fun h => (nk h).elim)
      split
      · rename_i s2 e2
        rw [e2] at q
        exact ih s2 q.1
      · exact q
    simp only [pvF]
    split
    · have q := prF_j (c := 126) (k := k) h (fun h => (nk h).elim)
      split
      · rename_i s1 e1
        rw [e1] at q
        exact two s1 q.1
      · exact q
    · exact two rs h
def jP (pl : List Nat) : Prop := ∀ k y, pl[k]? = some y → y < (if k = 0 then 60 else 25)
def bF : List Fm → Prop
  | [] => True
  | f :: fs => bF fs ∧ (f.1 = 0 → f.2.2.2.2.2.length ≤ (if fs = [] then 60 else 24) ∧ (fs ≠ [] → f.2.2.1 < (cT fs).length))
theorem bF_fsN {fs : List Fm} {x : Nat} (h : bF fs) : bF (fsN fs x) := by
  cases fs with
  | nil => exact h
  | cons f fs => exact h
theorem cT_le : ∀ {fs : List Fm}, bF fs → (cP fs = [] → (cT fs).length ≤ 60) ∧ (cP fs ≠ [] → (cT fs).length ≤ 24) := by
  intro fs
  induction fs with
  | nil => intro _; exact ⟨fun _ => Nat.zero_le _, fun q => absurd rfl q⟩
  | cons f fs ih =>
    intro h
    obtain ⟨h1, h2⟩ := h
    by_cases e : f.1 = 0
    · have h3 := (h2 e).1
      have eT : cT (f :: fs) = f.2.2.2.2.2 := by simp only [cT]; rw [if_pos e]
      rw [eT]
      by_cases n : fs = []
      · have eP : cP (f :: fs) = [] := by simp only [cP]; rw [if_neg (fun q => q.2 n), n]; rfl
        rw [if_pos n] at h3
        exact ⟨fun _ => h3, fun q => absurd eP q⟩
      · have eP : cP (f :: fs) = f.2.2.1 :: cP fs := by simp only [cP]; rw [if_pos ⟨e, n⟩]
        rw [if_neg n] at h3
        exact ⟨fun _ => by omega, fun _ => h3⟩
    · have eT : cT (f :: fs) = cT fs := by simp only [cT]; rw [if_neg e]
      have eP : cP (f :: fs) = cP fs := by simp only [cP]; rw [if_neg (fun q => e q.1)]
      rw [eT, eP]
      exact ih h1
theorem jP_snoc {l : List Nat} {x : Nat} (h : jP l) (hx : x < (if l = [] then 60 else 25)) : jP (l ++ [x]) := by
  intro k y hy
  by_cases hk : k < l.length
  · rw [List.getElem?_append_left hk] at hy
    exact h k y hy
  · rw [List.getElem?_append_right (by omega)] at hy
    have hk2 : k = l.length := by
      have := (List.getElem?_eq_some_iff.mp hy).1
      simp only [List.length_cons, List.length_nil] at this
      omega
    have hy2 : x = y := by
      rw [hk2, Nat.sub_self] at hy
      simpa using hy
    subst hy2
    cases l with
    | nil => rw [hk2]; exact hx
    | cons a l =>
      rw [if_neg (by rw [hk2]; simp)]
      rw [if_neg (List.cons_ne_nil _ _)] at hx
      exact hx
theorem jP_cP : ∀ {fs : List Fm}, bF fs → jP (cP fs).reverse := by
  intro fs
  induction fs with
  | nil => intro _ k y hy; simp [cP] at hy
  | cons f fs ih =>
    intro h
    obtain ⟨h1, h2⟩ := h
    simp only [cP]
    split
    · rename_i e
      rw [List.reverse_cons]
      refine jP_snoc (ih h1) ?_
      have h3 := (h2 e.1).2 e.2
      have h4 := cT_le h1
      by_cases n : cP fs = []
      · have h5 := h4.1 n
        rw [if_pos (by rw [n]; rfl)]
        omega
      · have h5 := h4.2 n
        rw [if_neg (fun q => n (List.reverse_eq_nil_iff.mp q))]
        omega
    · exact ih h1
theorem jP_at {fs : List Fm} {x : Nat} (h : bF fs) (hx : x < (cT fs).length) : jP ((cP fs).reverse ++ [x]) := by
  refine jP_snoc (jP_cP h) ?_
  have h4 := cT_le h
  by_cases n : cP fs = []
  · have h5 := h4.1 n
    rw [if_pos (by rw [n]; rfl)]
    omega
  · have h5 := h4.2 n
    rw [if_neg (fun q => n (List.reverse_eq_nil_iff.mp q))]
    omega
def jD (d : Cf) : Prop := jR d.2.1 ∧ (d.2.2.1 = 0 → d.2.2.2 = [] ∧ bF d.1 ∧ (cP d.1).length ≤ 4) ∧ (d.2.2.1 ≠ 0 → 1 ≤ d.2.2.2.length ∧ d.2.2.2.length ≤ 5 ∧ jP d.2.2.2) ∧ (d.2.2.1 = 5 → 2 ≤ d.2.2.2.length) ∧ (d.2.2.1 = 4 → d.2.2.2.length = 5) ∧ (d.2.2.1 = 2 → d.2.1.2.2.1.length = 200) ∧ (d.2.2.1 = 3 → d.2.1.2.2.2.1 = 200)
theorem n05 {p : Prop} {x : Nat} (m : Nat) (h : x ≠ m) (q : x = m) : p := absurd q h
theorem jD_ru {fs : List Fm} {rs : RS} (h : jR rs) (hb : bF fs) (h4 : (cP fs).length ≤ 4) : jD (RU fs rs) := ⟨h, fun _ => ⟨rfl, hb, h4⟩, fun q => absurd rfl q, n05 (x := 0) 5 (by decide), n05 (x := 0) 4 (by decide), n05 (x := 0) 2 (by decide), n05 (x := 0) 3 (by decide)⟩
theorem jD_fl {fs : List Fm} {rs : RS} {r x : Nat} (h : jR rs) (hb : bF fs) (h4 : (cP fs).length ≤ 4) (hx : x < (cT fs).length) (hr : r = 1 ∨ r = 6 ∨ (r = 2 ∧ rs.2.2.1.length = 200) ∨ (r = 3 ∧ rs.2.2.2.1 = 200) ∨ (r = 4 ∧ (cP fs).length = 4)) : jD (FL fs rs r x) := by
  have hl : ((cP fs).reverse ++ [x]).length = (cP fs).length + 1 := by simp
  refine ⟨h, fun q => ?_, fun q => ⟨?_, ?_, jP_at hb hx⟩, fun q => ?_, fun q => ?_, fun q => ?_, fun q => ?_⟩
  · have q : r = 0 := q
    omega
  · show 1 ≤ ((cP fs).reverse ++ [x]).length
    omega
  · show ((cP fs).reverse ++ [x]).length ≤ 5
    omega
  · have q : r = 5 := q
    omega
  · have q : r = 4 := q
    show ((cP fs).reverse ++ [x]).length = 5
    omega
  · have q : r = 2 := q
    show rs.2.2.1.length = 200
    omega
  · have q : r = 3 := q
    show rs.2.2.2.1 = 200
    omega
theorem jD_oP {fs : List Fm} {x y : Nat} {q : RS × Nat} (h : jQ q) (hb : bF fs) (h4 : (cP fs).length ≤ 4) (hx : x < (cT fs).length) : jD (oP fs x y q) := by
  unfold oP
  obtain ⟨h1, h2⟩ := h
  split
  · exact jD_ru h1 (bF_fsN hb) (by rw [cP_fsN]; exact h4)
  · rename_i e
    rcases h2 with h2 | ⟨h2, h3⟩ | h2
    · exact absurd h2 e
    · exact jD_fl h1 hb h4 hx (Or.inr (Or.inr (Or.inl ⟨h2, h3⟩)))
    · exact jD_fl h1 hb h4 hx (Or.inr (Or.inl h2))
theorem hSim_lt {t : List Int} {x k nm w : Nat} {cd : Int} (h : hSim t x k cd nm w) : x < t.length := by
  rcases h with ⟨-, -, h, -⟩ | ⟨-, -, h, -⟩ | ⟨-, -, h, -⟩ | ⟨-, -, h, -⟩ <;> exact (List.getElem?_eq_some_iff.mp h).1
theorem hBlk_lt {t : List Int} {x k nm : Nat} (h : hBlk t x k nm) : x < t.length := (List.getElem?_eq_some_iff.mp h.2.1).1
theorem Sto_j {c d : Cf} (h : Sto c d) (hc : jD c) : jD d := by
  rcases h with ⟨fs, rs, k, cd, nm, rfl, hne, hsh, h⟩ | ⟨f, g, gs, rs, rfl, h⟩
  · obtain ⟨jr, j0, -⟩ := hc
    obtain ⟨-, hb, h4⟩ := j0 rfl
    have hb : bF fs := hb
    have h4 : (cP fs).length ≤ 4 := h4
    have jr : jR rs := jr
    have hx : cX fs < (cT fs).length := by
      rcases hsh with ⟨w, hw⟩ | hw
      · exact hSim_lt hw
      · exact hBlk_lt hw
    rcases h with ⟨e200, rfl⟩ | ⟨hst, ⟨w, hw⟩, h⟩ | ⟨hst, hw, h⟩
    · exact jD_fl jr hb h4 hx (Or.inr (Or.inr (Or.inr (Or.inl ⟨rfl, e200⟩))))
    · have jc : jR (ctS rs) := by
        obtain ⟨a1, a2, a3, a4⟩ := jr
        exact ⟨a1, by show rs.2.2.2.1 + 1 ≤ 200; omega, a3, by show rs.2.2.2.2.1 + rs.2.2.2.2.2.1 ≤ rs.2.2.2.1 + 1; omega⟩
      have js : (ctS rs).2.2.2.2.1 + (ctS rs).2.2.2.2.2.1 + 1 ≤ (ctS rs).2.2.2.1 := by
        obtain ⟨a1, a2, a3, a4⟩ := jr
        show rs.2.2.2.2.1 + rs.2.2.2.2.2.1 + 1 ≤ rs.2.2.2.1 + 1
        omega
      rcases h with ⟨-, rfl⟩ | ⟨-, -, rfl⟩ | ⟨hk, v, -, rfl⟩ | ⟨-, -, rfl⟩ | ⟨-, v, -, h5, rfl⟩ | ⟨-, v, -, h5, hv, h24, rfl⟩ | ⟨-, v, -, h5, hv, h24, -, -, rfl⟩
      · exact jD_oP (prF_j jc (fun _ => js)) hb h4 hx
      · exact jD_fl jc hb h4 hx (Or.inl rfl)
      · exact jD_oP (pvF_j _ (by omega) _ _ jc) hb h4 hx
      · exact jD_fl jc hb h4 hx (Or.inl rfl)
      · exact jD_fl jc hb h4 hx (Or.inr (Or.inr (Or.inr (Or.inr ⟨rfl, h5⟩))))
      · have hl : ((cP fs).reverse ++ [cX fs, (pRes v).1]).length = (cP fs).length + 2 := by simp
        have hv1 : (pRes v).1 ≤ 24 := Nat.le_trans (pRes_le v) h24
        have hp : jP ((cP fs).reverse ++ [cX fs, (pRes v).1]) := by
          rw [show (cP fs).reverse ++ [cX fs, (pRes v).1] = ((cP fs).reverse ++ [cX fs]) ++ [(pRes v).1] by simp]
          refine jP_snoc (jP_at hb hx) ?_
          rw [if_neg (by simp)]
          omega
        refine ⟨jc, n05 (x := 5) 0 (by decide), fun _ => ⟨by show 1 ≤ ((cP fs).reverse ++ [cX fs, (pRes v).1]).length; omega, by show ((cP fs).reverse ++ [cX fs, (pRes v).1]).length ≤ 5; omega, hp⟩, fun _ => by show 2 ≤ ((cP fs).reverse ++ [cX fs, (pRes v).1]).length; omega, n05 (x := 5) 4 (by decide), n05 (x := 5) 2 (by decide), n05 (x := 5) 3 (by decide)⟩
      · refine jD_ru jc ⟨bF_fsN hb, fun _ => ⟨?_, fun _ => ?_⟩⟩ ?_
        · rw [if_neg (fsN_ne hne)]; exact h24
        · rw [cT_fsN]; exact hx
        · simp only [cP]
          split
          · rw [cP_fsN]; simp only [List.length_cons]; omega
          · rw [cP_fsN]; exact h4
    · have jc : jR (ctS rs) := by
        obtain ⟨a1, a2, a3, a4⟩ := jr
        exact ⟨a1, by show rs.2.2.2.1 + 1 ≤ 200; omega, a3, by show rs.2.2.2.2.1 + rs.2.2.2.2.2.1 ≤ rs.2.2.2.1 + 1; omega⟩
      rcases h with ⟨-, -, rfl⟩ | ⟨-, n, ps, p, q, e, -, -, rfl⟩ | ⟨-, -, -, c, v, -, -, rfl⟩ | ⟨-, -, -, rfl⟩ | ⟨-, -, -, rfl⟩
      · exact jD_fl jc hb h4 hx (Or.inl rfl)
      · exact jD_ru jc (bF_fsN hb) (by rw [cP_fsN]; exact h4)
      · exact jD_ru jc ⟨bF_fsN hb, fun q => absurd q (Nat.succ_ne_zero _)⟩ (by rw [cP_k (by simp), cP_fsN]; exact h4)
      · exact jD_ru jc ⟨bF_fsN hb, fun q => absurd q (Nat.succ_ne_zero _)⟩ (by rw [cP_k (by simp), cP_fsN]; exact h4)
      · exact jD_ru jc ⟨bF_fsN hb, fun q => absurd q (Nat.succ_ne_zero _)⟩ (by rw [cP_k (by simp), cP_fsN]; exact h4)
  · obtain ⟨jr, j0, -⟩ := hc
    obtain ⟨-, hb0, h40⟩ := j0 rfl
    have hb : bF (g :: gs) := hb0.1
    have h4 : (cP (g :: gs)).length ≤ 4 := Nat.le_trans cP_le h40
    have jr : jR rs := jr
    rcases h with ⟨-, -, f0, sc, -, rfl⟩ | ⟨-, -, f0, sc, -, ⟨c2, -, rfl⟩ | ⟨-, rfl⟩⟩ | ⟨-, -, rfl⟩ | ⟨-, -, -, f0, sc, s0, sg, -, -, rfl⟩
    · exact jD_ru jr hb h4
    · exact jD_ru jr ⟨hb, fun q => absurd q (Nat.succ_ne_zero _)⟩ (by rw [cP_k (by simp)]; exact h4)
    · exact jD_ru jr (bF_fsN hb) (by rw [cP_fsN]; exact h4)
    · exact jD_ru jr (bF_fsN hb) (by rw [cP_fsN]; exact h4)
    · exact jD_ru jr (bF_fsN hb) (by rw [cP_fsN]; exact h4)
theorem Run_j : ∀ {n : Nat} {c d : Cf}, Run n c d → jD c → jD d := by
  intro n
  induction n with
  | zero => intro c d h hc; cases h; exact hc
  | succ n ih =>
    intro c d ⟨e, h1, h2⟩ hc
    exact ih h2 (Sto_j h1 hc)
theorem Fin_j {t : List Int} {f : Nat → Option (List Int)} {w : Int} {D : Cf} (hl : t.length ≤ 60) (h : Fin t f w D) : jD D := by
  obtain ⟨⟨n, hr⟩, -⟩ := h
  refine Run_j hr (jD_ru ⟨Nat.zero_le _, Nat.zero_le _, rfl, Nat.le_refl _⟩ ⟨trivial, fun _ => ⟨?_, fun q => absurd rfl q⟩⟩ ?_)
  · rw [if_pos rfl]; exact hl
  · exact Nat.zero_le _
