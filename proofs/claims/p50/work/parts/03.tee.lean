/-! ===== a step picks one way on: and what follows for runs ===== -/
abbrev xD : Type := (Nat × xL × List xV × xH) ⊕ (Nat × List xV × List xV) ⊕ (Option xV) ⊕ Nat ⊕ Unit
def xcase {α : Type} (K : Nat → xL → List xV → xH → α) (C : Nat → List xV → List xV → α) (Rt : Option xV → α) (Th : Nat → α) (z : α) : xD → α
  | .inl q => K q.1 q.2.1 q.2.2.1 q.2.2.2
  | .inr (.inl q) => C q.1 q.2.1 q.2.2
  | .inr (.inr (.inl v)) => Rt v
  | .inr (.inr (.inr (.inl e))) => Th e
  | .inr (.inr (.inr (.inr _))) => z
def xdir (mi pc : Nat) (op : Instr) (lv : xL) (st : List xV) (ph : xH) (g : Nat) : xD := xop mi pc op lv st ph g (fun a b c e => .inl (a, b, c, e)) (fun a b c => .inr (.inl (a, b, c))) (fun v => .inr (.inr (.inl v))) (fun e => .inr (.inr (.inr (.inl e)))) (.inr (.inr (.inr (.inr ()))))
set_option maxHeartbeats 4000000 in
set_option maxRecDepth 100000 in
theorem xop_dir {α : Type} (mi pc : Nat) (op : Instr) (lv : xL) (st : List xV) (ph : xH) (g : Nat) (K : Nat → xL → List xV → xH → α) (C : Nat → List xV → List xV → α) (Rt : Option xV → α) (Th : Nat → α) (z : α) :
    xop mi pc op lv st ph g K C Rt Th z = xcase K C Rt Th z (xdir mi pc op lv st ph g) := by
  unfold xdir
  cases op <;> simp only [xop, xcmp] <;> (repeat' split) <;> rfl
def xcont (x : Nat → Nat → Nat → Nat → xL → List xV → xH → Nat → Option xR) (n d mi pc : Nat) (lv : xL) (ph : xH) (g : Nat) (mi' : Nat) (as rest : List xV) : Option xR := match d with
  | 0 => none
  | d' + 1 => match x n d' mi' 0 (xent as) [] ph g with
    | none => none
    | some (.inl v, ph1, g1) => x n (d' + 1) mi (pc + 3) lv (v.toList ++ rest) ph1 g1
    | some (.inr E, ph1, g1) => match xhan mi pc E with
      | some (pc', k) => x n (d' + 1) mi pc' (xclr lv k) [] ph1 g1
      | none => some (.inr E, ph1, g1)
theorem xr_succ (n d mi pc : Nat) (lv : xL) (st : List xV) (ph : xH) (g : Nat) {op : Instr} (hf : xfetch mi pc = some op) :
    xr (n + 1) d mi pc lv st ph g = xcase (fun pc' lv' st' ph' => xr n d mi pc' lv' st' ph' g) (xcont xr n d mi pc lv ph g) (fun v => some (.inl v, ph, g)) (fun E => some (.inr E, ph, g + 1)) none (xdir mi pc op lv st ph g) := by
  rw [xr, hf]
  simp only
  rw [xop_dir]
  rfl
theorem xr_none (n d mi pc : Nat) (lv : xL) (st : List xV) (ph : xH) (g : Nat) (hf : xfetch mi pc = none) : xr (n + 1) d mi pc lv st ph g = none := by
  rw [xr, hf]
theorem xr_step1 : ∀ (n d mi pc : Nat) (lv : xL) (st : List xV) (ph : xH) (g : Nat) (r : xR), xr n d mi pc lv st ph g = some r → xr (n + 1) d mi pc lv st ph g = some r := by
  intro n
  induction n with
  | zero => intro d mi pc lv st ph g r h; cases h
  | succ n ih =>
    intro d mi pc lv st ph g r h
    cases hf : xfetch mi pc with
    | none => rw [xr_none n d mi pc lv st ph g hf] at h; cases h
    | some op =>
      rw [xr_succ n d mi pc lv st ph g hf] at h
      rw [xr_succ (n + 1) d mi pc lv st ph g hf]
      cases hd : xdir mi pc op lv st ph g with
      | inl q => rw [hd] at h; exact ih _ _ _ _ _ _ _ _ h
      | inr q =>
        cases q with
        | inl q =>
          rw [hd] at h
          simp only [xcase, xcont] at h ⊢
          cases d with
          | zero => cases h
          | succ d' =>
            simp only at h ⊢
            cases hc : xr n d' q.1 0 (xent q.2.1) [] ph g with
            | none => rw [hc] at h; cases h
            | some r1 =>
              rw [ih _ _ _ _ _ _ _ _ hc]
              rw [hc] at h
              obtain ⟨o, ph1, g1⟩ := r1
              cases o with
              | inl v => exact ih _ _ _ _ _ _ _ _ h
              | inr E =>
                simp only at h ⊢
                cases hh : xhan mi pc E with
                | none => rw [hh] at h; exact h
                | some w => rw [hh] at h; exact ih _ _ _ _ _ _ _ _ h
        | inr q =>
          cases q with
          | inl v => rw [hd] at h; exact h
          | inr q =>
            cases q with
            | inl E => rw [hd] at h; exact h
            | inr u => rw [hd] at h; cases h
theorem xr_mono {n k d mi pc : Nat} {lv : xL} {st : List xV} {ph : xH} {g : Nat} {r : xR} (h : xr n d mi pc lv st ph g = some r) : xr (n + k) d mi pc lv st ph g = some r := by
  induction k with
  | zero => exact h
  | succ k ih => exact xr_step1 _ _ _ _ _ _ _ _ _ ih
def xT (d mi pc : Nat) (lv : xL) (st : List xV) (ph : xH) (g : Nat) (Q : xR → Prop) : Prop := ∃ (n : Nat) (r : xR), xr n d mi pc lv st ph g = some r ∧ Q r
def xTC (d mi : Nat) (as : List xV) (ph : xH) (g : Nat) (Q : xR → Prop) : Prop := xT d mi 0 (xent as) [] ph g Q
/-- behind a call -/
def xKc (d mi pc : Nat) (lv : xL) (rest : List xV) (Q : xR → Prop) : xR → Prop
  | (.inl v, ph1, g1) => xT d mi (pc + 3) lv (v.toList ++ rest) ph1 g1 Q
  | (.inr E, ph1, g1) => match xhan mi pc E with
    | some (pc', k) => xT d mi pc' (xclr lv k) [] ph1 g1 Q
    | none => Q (.inr E, ph1, g1)
def xTk (d mi pc : Nat) (lv : xL) (ph : xH) (g : Nat) (Q : xR → Prop) (mi' : Nat) (as rest : List xV) : Prop := match d with
  | 0 => False
  | d' + 1 => xTC d' mi' as ph g (xKc (d' + 1) mi pc lv rest Q)
theorem xT_dir {d mi pc : Nat} {lv : xL} {st : List xV} {ph : xH} {g : Nat} {Q : xR → Prop} {op : Instr} (hf : xfetch mi pc = some op) :
    xT d mi pc lv st ph g Q ↔ xcase (fun pc' lv' st' ph' => xT d mi pc' lv' st' ph' g Q) (xTk d mi pc lv ph g Q) (fun v => Q (.inl v, ph, g)) (fun E => Q (.inr E, ph, g + 1)) False (xdir mi pc op lv st ph g) := by
  have key : xT d mi pc lv st ph g Q ↔ ∃ (n : Nat) (r : xR), xr (n + 1) d mi pc lv st ph g = some r ∧ Q r := by
    constructor
    · rintro ⟨n, r, h, hq⟩
      exact ⟨n, r, xr_step1 _ _ _ _ _ _ _ _ _ h, hq⟩
    · rintro ⟨n, r, h, hq⟩
      exact ⟨n + 1, r, h, hq⟩
  rw [key]
  simp only [xr_succ _ d mi pc lv st ph g hf]
  cases hd : xdir mi pc op lv st ph g with
  | inl q => exact Iff.rfl
  | inr q =>
    cases q with
    | inl q =>
      simp only [xcase, xcont, xTk]
      cases d with
      | zero => simp
      | succ d' =>
        simp only [xTC]
        constructor
        · rintro ⟨n, r, h, hq⟩
          cases hc : xr n d' q.1 0 (xent q.2.1) [] ph g with
          | none => rw [hc] at h; cases h
          | some r1 =>
            rw [hc] at h
            refine ⟨n, r1, hc, ?_⟩
            obtain ⟨o, ph1, g1⟩ := r1
            cases o with
            | inl v => exact ⟨n, r, h, hq⟩
            | inr E =>
              simp only [xKc] at h ⊢
              cases hh : xhan mi pc E with
              | none => rw [hh] at h; cases h; exact hq
              | some w => rw [hh] at h; exact ⟨n, r, h, hq⟩
        · rintro ⟨n, r1, hc, hk⟩
          obtain ⟨o, ph1, g1⟩ := r1
          cases o with
          | inl v =>
            obtain ⟨n2, r, h, hq⟩ := hk
            refine ⟨n + n2, r, ?_, hq⟩
            rw [xr_mono (k := n2) hc]
            simp only
            rw [Nat.add_comm]
            exact xr_mono h
          | inr E =>
            simp only [xKc] at hk
            cases hh : xhan mi pc E with
            | none =>
              rw [hh] at hk
              refine ⟨n, (.inr E, ph1, g1), ?_, hk⟩
              rw [hc]
              simp only [hh]
            | some w =>
              rw [hh] at hk
              obtain ⟨n2, r, h, hq⟩ := hk
              refine ⟨n + n2, r, ?_, hq⟩
              rw [xr_mono (k := n2) hc]
              simp only [hh]
              rw [Nat.add_comm]
              exact xr_mono h
    | inr q =>
      cases q with
      | inl v => simp [xcase]
      | inr q =>
        cases q with
        | inl E => simp [xcase]
        | inr u => simp [xcase]
theorem xT_op {d mi pc : Nat} {lv : xL} {st : List xV} {ph : xH} {g : Nat} {Q : xR → Prop} {op : Instr} (hf : xfetch mi pc = some op) :
    xT d mi pc lv st ph g Q ↔ xop mi pc op lv st ph g (fun pc' lv' st' ph' => xT d mi pc' lv' st' ph' g Q) (xTk d mi pc lv ph g Q) (fun v => Q (.inl v, ph, g)) (fun E => Q (.inr E, ph, g + 1)) False := by
  rw [xop_dir]
  exact xT_dir hf
theorem xr_det {n1 n2 d mi pc : Nat} {lv : xL} {st : List xV} {ph : xH} {g : Nat} {r1 r2 : xR} (h1 : xr n1 d mi pc lv st ph g = some r1) (h2 : xr n2 d mi pc lv st ph g = some r2) : r1 = r2 := by
  have a := xr_mono (k := n2) h1
  have b := xr_mono (k := n1) h2
  rw [Nat.add_comm] at b
  exact Option.some.inj (a.symm.trans b)
/-- a run whose end is known -/
theorem xT_iff {d mi pc : Nat} {lv : xL} {st : List xV} {ph : xH} {g : Nat} {r : xR} (h : xT d mi pc lv st ph g (fun x => x = r)) (Q : xR → Prop) : xT d mi pc lv st ph g Q ↔ Q r := by
  obtain ⟨n, r1, h1, rfl⟩ := h
  constructor
  · rintro ⟨n2, r2, h2, hq⟩
    rw [xr_det h1 h2]; exact hq
  · intro hq
    exact ⟨n, _, h1, hq⟩
theorem xT_imp {d mi pc : Nat} {lv : xL} {st : List xV} {ph : xH} {g : Nat} {Q Q' : xR → Prop} (h : xT d mi pc lv st ph g Q) (k : ∀ r, Q r → Q' r) : xT d mi pc lv st ph g Q' := by
  obtain ⟨n, r, h1, h2⟩ := h
  exact ⟨n, r, h1, k r h2⟩
