/-! ===== parts and their places ===== -/
def hSim (t : List Int) (x k : Nat) (cd : Int) (nm w : Nat) : Prop :=
  (k = 0 ∧ w = 1 ∧ t[x]? = some cd ∧ cd ≠ 123 ∧ cd ≠ 125 ∧ cd ≠ 126) ∨
  (k = 1 ∧ w = 2 ∧ t[x]? = some 126 ∧ t[x + 1]? = some cd) ∨
  (k = 2 ∧ w = 3 ∧ t[x]? = some 123 ∧ (∃ c, t[x + 1]? = some c ∧ kdF c = 2 ∧ nmF c = (nm : Int)) ∧ t[x + 2]? = some 125) ∨
  ((k = 3 ∨ k = 4) ∧ w = 4 ∧ t[x]? = some 123 ∧ (∃ c, t[x + 1]? = some c ∧ kdF c = k) ∧ (∃ c, t[x + 2]? = some c ∧ nmF c = (nm : Int)) ∧ t[x + 3]? = some 125)
def hBlk (t : List Int) (x k nm : Nat) : Prop := (k = 5 ∨ k = 6 ∨ k = 7) ∧ t[x]? = some 123 ∧ (∃ c, t[x + 1]? = some c ∧ kdF c = k) ∧ (∃ c, t[x + 2]? = some c ∧ nmF c = (nm : Int)) ∧ t[x + 3]? = some 58
def Sg : Nat → List Int → List PP → Nat → Nat → Nat → Nat → Prop
  | 0, _, _, _, _, _, _ => False
  | n + 1, t, ps, p, q, x, y => (p = q ∧ x = y) ∨ ∃ (k : Nat) (cd : Int) (nm bh : Nat), ps[p]? = some (k, x, cd, nm, bh) ∧ p < bh ∧ bh ≤ q ∧
      ((∃ w, hSim t x k cd nm w ∧ bh = p + 1 ∧ Sg n t ps (p + 1) q (x + w) y) ∨
       (hBlk t x k nm ∧ ∃ e, Sg n t ps (p + 1) bh (x + 4) e ∧ t[e]? = some 125 ∧ Sg n t ps bh q (e + 1) y))
theorem hSim_w {t : List Int} {x k nm w : Nat} {cd : Int} (h : hSim t x k cd nm w) : 1 ≤ w ∧ k ≤ 4 := by
  rcases h with h | h | h | h <;> omega
theorem Sg_le : ∀ {n : Nat} {t : List Int} {ps : List PP} {p q x y : Nat}, Sg n t ps p q x y → p ≤ q ∧ x ≤ y ∧ q - p ≤ y - x := by
  intro n
  induction n with
  | zero => intro t ps p q x y h; exact absurd h (fun q => q)
  | succ n ih =>
    intro t ps p q x y h
    rcases h with ⟨rfl, rfl⟩ | ⟨k, cd, nm, bh, h1, h2, h3, ⟨w, h4, h5, h6⟩ | ⟨h4, e, h5, h6, h7⟩⟩
    · omega
    · have a := ih h6
      have b := hSim_w h4
      omega
    · have a := ih h5
      have b := ih h7
      omega
theorem Sg_fuel : ∀ {n : Nat} {t : List Int} {ps : List PP} {p q x y : Nat}, Sg n t ps p q x y → ∀ m, q - p < m → Sg m t ps p q x y := by
  intro n
  induction n with
  | zero => intro t ps p q x y h; exact absurd h (fun q => q)
  | succ n ih =>
    intro t ps p q x y h m hm
    match m, hm with
    | 0, hm => exact absurd hm (by omega)
    | m + 1, hm =>
      rcases h with ⟨rfl, rfl⟩ | ⟨k, cd, nm, bh, h1, h2, h3, ⟨w, h4, h5, h6⟩ | ⟨h4, e, h5, h6, h7⟩⟩
      · exact Or.inl ⟨rfl, rfl⟩
      · exact Or.inr ⟨k, cd, nm, bh, h1, h2, h3, Or.inl ⟨w, h4, h5, ih h6 m (by omega)⟩⟩
      · exact Or.inr ⟨k, cd, nm, bh, h1, h2, h3, Or.inr ⟨h4, e, ih h5 m (by omega), h6, ih h7 m (by omega)⟩⟩
theorem Sg_nil {t : List Int} {ps : List PP} {p x : Nat} : Sg 1 t ps p p x x := Or.inl ⟨rfl, rfl⟩
theorem Sg_eq : ∀ {n : Nat} {t : List Int} {ps ps2 : List PP} {p q x y : Nat}, Sg n t ps p q x y → (∀ j, p ≤ j → j < q → ps2[j]? = ps[j]?) → Sg n t ps2 p q x y := by
  intro n
  induction n with
  | zero => intro t ps ps2 p q x y h; exact absurd h (fun q => q)
  | succ n ih =>
    intro t ps ps2 p q x y h he
    rcases h with ⟨rfl, rfl⟩ | ⟨k, cd, nm, bh, h1, h2, h3, ⟨w, h4, h5, h6⟩ | ⟨h4, e, h5, h6, h7⟩⟩
    · exact Or.inl ⟨rfl, rfl⟩
    · exact Or.inr ⟨k, cd, nm, bh, by rw [he p (by omega) (by omega)]; exact h1, h2, h3, Or.inl ⟨w, h4, h5, ih h6 (fun j a b => he j (by omega) b)⟩⟩
    · exact Or.inr ⟨k, cd, nm, bh, by rw [he p (by omega) (by omega)]; exact h1, h2, h3, Or.inr ⟨h4, e, ih h5 (fun j a b => he j (by omega) (by omega)), h6, ih h7 (fun j a b => he j (by omega) b)⟩⟩
theorem Sg_cat : ∀ {n : Nat} {t : List Int} {ps : List PP} {p q x y : Nat}, Sg n t ps p q x y → ∀ {m r z : Nat}, Sg m t ps q r y z → ∃ k, Sg k t ps p r x z := by
  intro n
  induction n with
  | zero => intro t ps p q x y h; exact absurd h (fun q => q)
  | succ n ih =>
    intro t ps p q x y h m r z h2
    have a := Sg_le h2
    rcases h with ⟨rfl, rfl⟩ | ⟨k, cd, nm, bh, h1, h3, h4, ⟨w, h5, h6, h7⟩ | ⟨h5, e, h6, h7, h8⟩⟩
    · exact ⟨m, h2⟩
    · obtain ⟨f, hf⟩ := ih h7 h2
      exact ⟨f + 1, Or.inr ⟨k, cd, nm, bh, h1, h3, by omega, Or.inl ⟨w, h5, h6, hf⟩⟩⟩
    · obtain ⟨f, hf⟩ := ih h8 h2
      have b := Sg_le h6
      have c := Sg_le hf
      exact ⟨r - p + 1, Or.inr ⟨k, cd, nm, bh, h1, h3, by omega, Or.inr ⟨h5, e, Sg_fuel h6 _ (by omega), h7, Sg_fuel hf _ (by omega)⟩⟩⟩
def Ch (t : List Int) (ps : List PP) : List Nat → Nat → Nat → Prop
  | [], q, y => ∃ n, Sg n t ps 0 q 0 y
  | b :: os, q, y => ∃ (x k : Nat) (cd : Int) (nm bh : Nat), ps[b]? = some (k, x, cd, nm, bh) ∧ hBlk t x k nm ∧ b < q ∧ Ch t ps os b x ∧ ∃ n, Sg n t ps (b + 1) q (x + 4) y
theorem Ch_eq {t : List Int} {ps ps2 : List PP} : ∀ {op : List Nat} {q y : Nat}, Ch t ps op q y → (∀ j, j < q → ps2[j]? = ps[j]?) → Ch t ps2 op q y := by
  intro op
  induction op with
  | nil =>
    intro q y ⟨n, h⟩ he
    exact ⟨n, Sg_eq h (fun j _ b => he j b)⟩
  | cons b os ih =>
    intro q y ⟨x, k, cd, nm, bh, h1, h2, h3, h4, n, h5⟩ he
    exact ⟨x, k, cd, nm, bh, by rw [he b h3]; exact h1, h2, h3, ih h4 (fun j hj => he j (by omega)), n, Sg_eq h5 (fun j _ hb => he j hb)⟩
theorem Ch_snoc {t : List Int} {ps : List PP} {op : List Nat} {q y n r z : Nat} (h : Ch t ps op q y) (h2 : Sg n t ps q r y z) : Ch t ps op r z := by
  have a := Sg_le h2
  cases op with
  | nil =>
    obtain ⟨m, h⟩ := h
    exact Sg_cat h h2
  | cons b os =>
    obtain ⟨x, k, cd, nm, bh, h1, h3, h4, h5, m, h6⟩ := h
    exact ⟨x, k, cd, nm, bh, h1, h3, by omega, h5, Sg_cat h6 h2⟩
/-- a part that stands for itself, behind the others -/
theorem Ch_sim {t : List Int} {ps : List PP} {op : List Nat} {q x k w nm : Nat} {cd : Int} (h : Ch t ps op q x) (hp : ps[q]? = some (k, x, cd, nm, q + 1)) (hs : hSim t x k cd nm w) : Ch t ps op (q + 1) (x + w) :=
  Ch_snoc h (show Sg 2 t ps q (q + 1) x (x + w) from Or.inr ⟨k, cd, nm, q + 1, hp, Nat.lt_succ_self _, Nat.le_refl _, Or.inl ⟨w, hs, rfl, Sg_nil⟩⟩)
theorem Ch_close {t : List Int} {ps : List PP} {b : Nat} {os : List Nat} {q y : Nat} (h : Ch t ps (b :: os) q y) (hy : t[y]? = some 125) : Ch t (pSet ps b (fun p => (p.1, p.2.1, p.2.2.1, p.2.2.2.1, q))) os q (y + 1) := by
  obtain ⟨x, k, cd, nm, bh, h1, h2, h3, h4, n, h5⟩ := h
  rw [pSet_eq h1]
  have hb := (List.getElem?_eq_some_iff.mp h1).1
  have ne : ∀ j, j ≠ b → (ps.set b (k, x, cd, nm, q))[j]? = ps[j]? := fun j hj => List.getElem?_set_ne (Ne.symm hj)
  have c := Sg_le h5
  refine Ch_snoc (Ch_eq h4 (fun j hj => ne j (by omega))) (n := (q - b) + 1) (Or.inr ⟨k, cd, nm, q, List.getElem?_set_self hb, h3, Nat.le_refl _, Or.inr ⟨h2, y, Sg_eq (Sg_fuel h5 _ (by omega)) (fun j a _ => ne j (by omega)), hy, Sg_fuel Sg_nil _ (by omega)⟩⟩)
def pIv (t : List Int) (i : Nat) : PSt → Prop
  | (0, ps, op, _) => Ch t ps op ps.length i
  | (rd, ps, op, _) => ∃ (l k x : Nat) (cd : Int) (nm : Nat), ps.length = l + 1 ∧ ps[l]? = some (k, x, cd, nm, l + 1) ∧ Ch t ps op l x ∧
      ((rd = 1 ∧ k = 1 ∧ i = x + 1 ∧ t[x]? = some 126) ∨
       (rd = 2 ∧ k = 2 ∧ i = x + 1 ∧ t[x]? = some 123) ∨
       (rd = 3 ∧ 3 ≤ k ∧ k ≤ 7 ∧ i = x + 2 ∧ t[x]? = some 123 ∧ ∃ c, t[x + 1]? = some c ∧ kdF c = k) ∨
       (rd = 4 ∧ 5 ≤ k ∧ k ≤ 7 ∧ i = x + 3 ∧ t[x]? = some 123 ∧ (∃ c, t[x + 1]? = some c ∧ kdF c = k) ∧ ∃ c, t[x + 2]? = some c ∧ nmF c = (nm : Int)) ∨
       (rd = 5 ∧ k = 2 ∧ i = x + 2 ∧ t[x]? = some 123 ∧ ∃ c, t[x + 1]? = some c ∧ kdF c = 2 ∧ nmF c = (nm : Int)) ∨
       (rd = 5 ∧ (k = 3 ∨ k = 4) ∧ i = x + 3 ∧ t[x]? = some 123 ∧ (∃ c, t[x + 1]? = some c ∧ kdF c = k) ∧ ∃ c, t[x + 2]? = some c ∧ nmF c = (nm : Int)))
theorem kdF_in (c : Int) : 2 ≤ kdF c ∧ kdF c ≤ 7 := by
  unfold kdF
  (repeat' split) <;> omega
theorem set_same {ps : List PP} {l : Nat} {p q : PP} (h : ps[l]? = some p) : (ps.set l q)[l]? = some q := List.getElem?_set_self (List.getElem?_eq_some_iff.mp h).1
theorem set_lt {ps : List PP} {l j : Nat} {q : PP} (h : j < l) : (ps.set l q)[j]? = ps[j]? := List.getElem?_set_ne (by omega)
theorem pIv_nm {t : List Int} {i l k x : Nat} {cd : Int} {nm : Nat} {c : Int} {rd : Nat} {ps : List PP} {op : List Nat} {mo : Nat} {s2 : PSt} (hc : t[i]? = some c) (h1 : ps.length = l + 1) (h2 : ps[l]? = some (k, x, cd, nm, l + 1)) (h3 : Ch t ps op l x)
    (h4 : (k = 2 ∧ i = x + 1 ∧ t[x]? = some 123 ∧ kdF c = 2) ∨ (3 ≤ k ∧ k ≤ 7 ∧ i = x + 2 ∧ t[x]? = some 123 ∧ ∃ c, t[x + 1]? = some c ∧ kdF c = k)) (he : pNm (nmF c) (rd, ps, op, mo) = some s2) : pIv t (i + 1) s2 := by
  have em : ps.length - 1 = l := by omega
  have hnm := nmF_le c
  simp only [pNm, em, h2] at he
  split at he
  · cases he
  · rename_i hne
    have hn : nmF c = ((nmF c).toNat : Int) := by omega
    have hch : Ch t (ps.set l (k, x, cd, (nmF c).toNat, l + 1)) op l x := Ch_eq h3 (fun j hj => set_lt hj)
    have hg := set_same (q := (k, x, cd, (nmF c).toNat, l + 1)) h2
    cases he
    by_cases hb : k = 5 ∨ k = 6 ∨ k = 7
    · rw [if_pos hb]
      refine ⟨l, k, x, cd, (nmF c).toNat, by simpa using h1, hg, hch, ?_⟩
      rcases h4 with ⟨q1, q2, q3, q4⟩ | ⟨q1, q2, q3, q4, q5⟩
      · omega
      · subst q3
        exact Or.inr (Or.inr (Or.inr (Or.inl ⟨rfl, by omega, by omega, rfl, q4, q5, c, hc, hn⟩)))
    · rw [if_neg hb]
      refine ⟨l, k, x, cd, (nmF c).toNat, by simpa using h1, hg, hch, ?_⟩
      rcases h4 with ⟨q1, q2, q3, q4⟩ | ⟨q1, q2, q3, q4, q5⟩
      · subst q2
        exact Or.inr (Or.inr (Or.inr (Or.inr (Or.inl ⟨rfl, q1, rfl, q3, c, hc, q4, hn⟩))))
      · subst q3
        exact Or.inr (Or.inr (Or.inr (Or.inr (Or.inr ⟨rfl, by omega, rfl, q4, q5, c, hc, hn⟩))))
theorem pIv_rd {t : List Int} {i : Nat} {c : Int} {s s2 : PSt} (h : pIv t i s) (hin : pIn i s) (hc : t[i]? = some c) (he : pRd i c s = some s2) : pIv t (i + 1) s2 := by
  obtain ⟨rd, ps, op, mo⟩ := s
  revert h hin he
  match rd with
  | 0 =>
    intro h hin he
    simp only [pRd] at he
    simp only [pIv] at h
    split at he
    · rename_i e
      subst e
      cases op with
      | nil => cases he
      | cons b os =>
        cases he
        show Ch t _ os (pSet ps b _).length (i + 1)
        rw [pSet_len]
        exact Ch_close h hc
    · rename_i e
      cases he
      have hch : ∀ p : PP, Ch t (ps ++ [p]) op ps.length i := fun p => Ch_eq h (fun j hj => List.getElem?_append_left hj)
      have hg : ∀ p : PP, (ps ++ [p])[ps.length]? = some p := fun p => by simp
      by_cases e1 : c = 126
      · simp only [if_pos e1]
        subst e1
        exact ⟨ps.length, 1, i, _, 0, by simp, hg _, hch _, Or.inl ⟨rfl, rfl, rfl, hc⟩⟩
      · by_cases e2 : c = 123
        · simp only [if_neg e1, if_pos e2]
          subst e2
          exact ⟨ps.length, 2, i, _, 0, by simp, hg _, hch _, Or.inr (Or.inl ⟨rfl, rfl, rfl, hc⟩)⟩
        · simp only [if_neg e1, if_neg e2]
          show Ch t _ op (ps ++ [_]).length (i + 1)
          rw [List.length_append]
          exact Ch_sim (hch _) (hg _) (Or.inl ⟨rfl, rfl, hc, e2, e, e1⟩)
  | 1 =>
    intro h hin he
    obtain ⟨l, k, x, cd, nm, h1, h2, h3, h4⟩ := h
    have em : ps.length - 1 = l := by omega
    simp only [pRd, em, pSet_eq h2] at he
    cases he
    show Ch t _ op (ps.set l _).length (i + 1)
    rw [List.length_set, h1]
    rcases h4 with q | q | q | q | q | q
    · obtain ⟨-, rfl, rfl, q4⟩ := q
      exact Ch_sim (x := x) (w := 2) (Ch_eq h3 (fun j hj => set_lt hj)) (set_same h2) (Or.inr (Or.inl ⟨rfl, rfl, q4, hc⟩))
    all_goals exact absurd q.1 (by decide)
  | 2 =>
    intro h hin he
    obtain ⟨l, k, x, cd, nm, h1, h2, h3, h4⟩ := h
    rcases h4 with q | q | q | q | q | q
    · exact absurd q.1 (by decide)
    · obtain ⟨-, rfl, rfl, q4⟩ := q
      simp only [pRd] at he
      split at he
      · rename_i e
        exact pIv_nm hc h1 h2 h3 (Or.inl ⟨rfl, rfl, q4, e⟩) he
      · rename_i e
        have em : ps.length - 1 = l := by omega
        simp only [em, pSet_eq h2] at he
        cases he
        have hk := kdF_in c
        exact ⟨l, kdF c, x, cd, nm, by simpa using h1, set_same h2, Ch_eq h3 (fun j hj => set_lt hj), Or.inr (Or.inr (Or.inl ⟨rfl, by omega, by omega, rfl, q4, c, hc, rfl⟩))⟩
    all_goals exact absurd q.1 (by decide)
  | 3 =>
    intro h hin he
    obtain ⟨l, k, x, cd, nm, h1, h2, h3, h4⟩ := h
    rcases h4 with q | q | q | q | q | q
    · exact absurd q.1 (by decide)
    · exact absurd q.1 (by decide)
    · obtain ⟨-, q2, q3, q4, q5, q6⟩ := q
      exact pIv_nm (rd := 3) hc h1 h2 h3 (Or.inr ⟨q2, q3, q4, q5, q6⟩) he
    all_goals exact absurd q.1 (by decide)
  | 4 =>
    intro h hin he
    obtain ⟨l, k, x, cd, nm, h1, h2, h3, h4⟩ := h
    have em : ps.length - 1 = l := by omega
    simp only [pRd, em] at he
    rcases h4 with q | q | q | q | q | q
    · exact absurd q.1 (by decide)
    · exact absurd q.1 (by decide)
    · exact absurd q.1 (by decide)
    · obtain ⟨-, q2, q3, q4, q5, q6, q7⟩ := q
      subst q4
      split at he
      · rename_i e
        subst e
        cases he
        show Ch t ps (l :: op) ps.length (x + 4)
        rw [h1]
        exact ⟨x, k, cd, nm, l + 1, h2, ⟨by omega, q5, q6, q7, hc⟩, Nat.lt_succ_self _, h3, 1, Sg_nil⟩
      · cases he
    · exact absurd q.1 (by decide)
    · exact absurd q.1 (by decide)
  | 5 =>
    intro h hin he
    obtain ⟨l, k, x, cd, nm, h1, h2, h3, h4⟩ := h
    simp only [pRd] at he
    split at he
    · rename_i e
      subst e
      cases he
      show Ch t ps op ps.length (i + 1)
      rw [h1]
      rcases h4 with q | q | q | q | q | q
      · exact absurd q.1 (by decide)
      · exact absurd q.1 (by decide)
      · exact absurd q.1 (by decide)
      · exact absurd q.1 (by decide)
      · obtain ⟨-, rfl, rfl, q4, q5⟩ := q
        exact Ch_sim (x := x) (w := 3) h3 h2 (Or.inr (Or.inr (Or.inl ⟨rfl, rfl, q4, q5, hc⟩)))
      · obtain ⟨-, q2, rfl, q4, q5, q6⟩ := q
        exact Ch_sim (x := x) (w := 4) h3 h2 (Or.inr (Or.inr (Or.inr ⟨q2, rfl, q4, q5, q6, hc⟩)))
    · cases he
  | rd + 6 =>
    intro h hin he
    exact absurd hin.2.2.2.1 (by simp only; omega)
theorem pAll_iv {t : List Int} : ∀ (l : List Int) (i : Nat) (s s2 : PSt) (j : Nat), t.drop i = l → pIv t i s → pIn i s → pAll i l s = (j, some s2) → pIv t j s2 := by
  intro l
  induction l with
  | nil =>
    intro i s s2 j hd h hin he
    simp only [pAll, Prod.mk.injEq, Option.some.injEq] at he
    obtain ⟨rfl, rfl⟩ := he
    exact h
  | cons c cs ih =>
    intro i s s2 j hd h hin he
    simp only [pAll] at he
    have hck : t[i]? = some c := by
      have := congrArg (fun l => l[0]?) hd
      simpa using this
    have hdr2 : t.drop (i + 1) = cs := by rw [← List.drop_drop, hd]; rfl
    cases e : pRd i c s with
    | none => rw [e] at he; simp at he
    | some s3 =>
      rw [e] at he
      exact ih (i + 1) s3 s2 j hdr2 (pIv_rd h hin hck e) (pRd_in hin e) he
theorem pWh_sg {t : List Int} (h : pWh t = true) : Sg ((pPs t).length + 1) t (pPs t) 0 (pPs t).length 0 t.length := by
  obtain ⟨ps, mo, e⟩ := pWh_iff.mp h
  have h1 := (pRes_some e).1
  have h2 := pAll_iv t 0 (0, [], [], 0) (0, ps, [], mo) t.length rfl ⟨1, Sg_nil⟩ pIn0 (by have : pAll 0 t (0, [], [], 0) = pRes t := rfl; rw [this, ← h1, ← e])
  have ep : pPs t = ps := by unfold pPs; rw [e]
  rw [ep]
  obtain ⟨n, h3⟩ := h2
  exact Sg_fuel h3 _ (by omega)
