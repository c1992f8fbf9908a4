/-! ===== the first cell ===== -/
def xmv (c0 : xC) : xD → xD
  | .inl q => .inl (q.1, q.2.1, q.2.2.1, q.2.2.2.set 0 c0)
  | .inr q => .inr q
theorem xown_99 (m : Nat) : xown m ≠ 99 := by
  unfold xown
  split
  · rename_i e he
    have h : ∀ e ∈ xmt, e.1 ≠ 99 := by decide +kernel
    exact h e (List.mem_of_getElem? he)
  · decide
set_option maxHeartbeats 8000000 in
set_option maxRecDepth 100000 in
theorem xdir_any {c0 : xC} {mi pc g : Nat} {op : Instr} {lv : xL} {st : List xV} {ph : xH} {D : xD} (h0 : ph[0]? = some (99, [])) (h : xdir mi pc op lv st ph g = D) (hD : D ≠ .inr (.inr (.inr (.inr ())))) : xdir mi pc op lv st (ph.set 0 c0) g = xmv c0 D ∧ ∀ q, D = .inl q → q.2.2.2[0]? = some (99, []) := by
  have hlen : 0 < ph.length := (List.getElem?_eq_some_iff.mp h0).1
  have e : ∀ (a t : Nat) (vs : List xV), ph[a]? = some (t, vs) → (t, vs) ≠ (99, []) → a ≠ 0 ∧ (ph.set 0 c0)[a]? = some (t, vs) := by
    intro a t vs ha hn
    have a0 : a ≠ 0 := by
      rintro rfl
      rw [h0] at ha
      exact hn (Option.some.inj ha).symm
    exact ⟨a0, by rw [List.getElem?_set_ne (Ne.symm a0)]; exact ha⟩
  have ap : ∀ c : xC, (ph ++ [c]).set 0 c0 = ph.set 0 c0 ++ [c] := fun c => List.set_append_left _ _ hlen
  have ap0 : ∀ c : xC, (ph ++ [c])[0]? = some (99, []) := fun c => by rw [List.getElem?_append_left hlen]; exact h0
  have st0 : ∀ (a : Nat) (c : xC), a ≠ 0 → (ph.set a c)[0]? = some (99, []) := fun a c ha => by rw [List.getElem?_set_ne ha]; exact h0
  have stc : ∀ (a : Nat) (c : xC), a ≠ 0 → (ph.set a c).set 0 c0 = (ph.set 0 c0).set a c := fun a c ha => List.set_comm _ _ ha
  have len : (ph.set 0 c0).length = ph.length := List.length_set
  have ow := xown_99
  unfold xdir at h ⊢
  cases op <;> simp only [xop, xcmp] at h ⊢ <;> (repeat' split at h) <;> first
    | (exact absurd h.symm hD)
    | (subst h; exact ⟨rfl, fun q hq => by first | (cases hq; done) | (cases hq; exact h0) | (cases hq; exact ap0 _)⟩)
    | (subst h; (repeat' first | rw [if_pos (by assumption)] | rw [if_neg (by assumption)]); exact ⟨rfl, fun q hq => by first | (cases hq; done) | (cases hq; exact h0) | (cases hq; exact ap0 _)⟩)
    | (subst h; refine ⟨?_, fun q hq => by first | (cases hq; done) | (cases hq; exact h0) | (cases hq; exact ap0 _)⟩; simp_all [xmv]; done)
    | (subst h; refine ⟨?_, fun q hq => by first | (cases hq; done) | (cases hq; exact h0) | (cases hq; exact ap0 _)⟩; simp_all [xmv]; rw [(e _ _ _ (by assumption) (fun q => by omega)).2]; simp_all; done)
    | (subst h; have hx := (e _ _ _ (by assumption) (by rintro q; cases q; first | (simp_all; done) | exact ow _ (Eq.symm (And.left (by assumption))))); refine ⟨?_, fun q hq => by cases hq; exact st0 _ _ hx.1⟩; simp only [xmv]; rw [stc _ _ hx.1, hx.2]; simp_all; done)
    | (subst h; have hx := (e _ _ _ (by assumption) (by rintro q; cases q; first | (simp_all; done) | exact ow _ (Eq.symm (And.left (by assumption))))); refine ⟨?_, fun q hq => by first | (cases hq; done) | (cases hq; exact h0) | (cases hq; exact ap0 _)⟩; simp only [xmv]; rw [hx.2]; simp_all; done)
    | (subst h; have hx := (e _ _ _ (by assumption) (by rintro q; cases q; first | (simp_all; done) | exact ow _ (Eq.symm (And.left (by assumption))))); rw [hx.2]; simp only []; (repeat' first | rw [if_pos (by assumption)] | rw [if_neg (by assumption)]); exact ⟨rfl, fun q hq => by first | (cases hq; done) | (cases hq; exact h0) | (cases hq; exact ap0 _)⟩)
    | (rename_i v i a st9 x1 t1 vs1 q1 x2 t2 vs2 q2 hc; have hx := e _ _ _ q1 (fun q => by have := congrArg Prod.fst q; simp only at this; omega); have hy := e _ _ _ q2 (fun q => by have := congrArg Prod.fst q; simp only at this; omega); subst h; rw [hx.2, hy.2]; simp only []; rw [if_pos hc]; refine ⟨?_, fun q hq => by cases hq; exact st0 _ _ hx.1⟩; simp only [xmv]; rw [stc _ _ hx.1])
theorem xr_any {c0 : xC} : ∀ (n d mi pc : Nat) (lv : xL) (st : List xV) (ph : xH) (g : Nat) (r : xR), ph[0]? = some (99, []) → xr n d mi pc lv st ph g = some r → xr n d mi pc lv st (ph.set 0 c0) g = some (r.1, r.2.1.set 0 c0, r.2.2) ∧ r.2.1[0]? = some (99, []) := by
  intro n
  induction n with
  | zero => intro d mi pc lv st ph g r _ h; cases h
  | succ n ih =>
    intro d mi pc lv st ph g r h0 h
    cases hf : xfetch mi pc with
    | none => rw [xr_none n d mi pc lv st ph g hf] at h; cases h
    | some op =>
      rw [xr_succ n d mi pc lv st ph g hf] at h
      rw [xr_succ n d mi pc lv st (ph.set 0 c0) g hf]
      cases hd : xdir mi pc op lv st ph g with
      | inl q =>
        obtain ⟨e1, e2⟩ := xdir_any (c0 := c0) h0 hd (fun q => by cases q)
        rw [hd] at h
        rw [e1]
        exact ih _ _ _ _ _ _ _ _ (e2 q rfl) h
      | inr q =>
        cases q with
        | inl q =>
          obtain ⟨e1, -⟩ := xdir_any (c0 := c0) h0 hd (fun q => by cases q)
          rw [hd] at h
          rw [e1]
          simp only [xcase, xcont, xmv] at h ⊢
          cases d with
          | zero => cases h
          | succ d' =>
            simp only at h ⊢
            cases hc : xr n d' q.1 0 (xent q.2.1) [] ph g with
            | none => rw [hc] at h; cases h
            | some r1 =>
              obtain ⟨h2, h3⟩ := ih _ _ _ _ _ _ _ _ h0 hc
              rw [hc] at h
              rw [h2]
              obtain ⟨o, ph1, g1⟩ := r1
              cases o with
              | inl v => exact ih _ _ _ _ _ _ _ _ h3 h
              | inr E =>
                simp only at h ⊢
                cases hh : xhan mi pc E with
                | none => rw [hh] at h; cases h; exact ⟨rfl, h3⟩
                | some w => rw [hh] at h; exact ih _ _ _ _ _ _ _ _ h3 h
        | inr q =>
          cases q with
          | inl v =>
            obtain ⟨e1, -⟩ := xdir_any (c0 := c0) h0 hd (fun q => by cases q)
            rw [hd] at h; rw [e1]; cases h; exact ⟨rfl, h0⟩
          | inr q =>
            cases q with
            | inl E =>
              obtain ⟨e1, -⟩ := xdir_any (c0 := c0) h0 hd (fun q => by cases q)
              rw [hd] at h; rw [e1]; cases h; exact ⟨rfl, h0⟩
            | inr u => rw [hd] at h; cases h
