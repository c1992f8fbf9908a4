/-! ===== an object that lies elsewhere ===== -/
def rv (f : Nat → Nat) : xV → xV
  | .inr (.inl o) => .inr (.inl (o.map f))
  | v => v
def vS (S : Nat → Prop) : xV → Prop
  | .inr (.inl o) => ∀ a, o = some a → S a
  | _ => True
def rC (f : Nat → Nat) (c : xC) : xC := (c.1, c.2.map (rv f))
def rL (f : Nat → Nat) (lv : xL) : xL := fun k => (lv k).map (rv f)
def rD (f : Nat → Nat) (em : xH → xH) : xD → xD
  | .inl q => .inl (q.1, rL f q.2.1, q.2.2.1.map (rv f), em q.2.2.2)
  | .inr (.inl q) => .inr (.inl (q.1, q.2.1.map (rv f), q.2.2.map (rv f)))
  | .inr (.inr (.inl v)) => .inr (.inr (.inl (v.map (rv f))))
  | .inr (.inr (.inr x)) => .inr (.inr (.inr x))
def Em (f : Nat → Nat) (S : Nat → Prop) (em : xH → xH) : Prop := (∀ (V : xH) (a : Nat), V.length = 169 → S a → (em V)[f a]? = (V[a]?).map (rC f)) ∧ ∀ (V : xH) (a : Nat) (c : xC), V.length = 169 → S a → em (V.set a c) = (em V).set (f a) (rC f c)
def cls (S : Nat → Prop) (V : xH) : Prop := V.length = 169 ∧ ∀ (a : Nat) (c : xC), S a → V[a]? = some c → ∀ v ∈ c.2, vS S v
def lvS (S : Nat → Prop) (lv : xL) : Prop := ∀ k v, lv k = some v → vS S v
def stS (S : Nat → Prop) (st : List xV) : Prop := ∀ v ∈ st, vS S v
def iD (S : Nat → Prop) : xD → Prop
  | .inl q => lvS S q.2.1 ∧ stS S q.2.2.1 ∧ cls S q.2.2.2
  | .inr (.inl q) => stS S q.2.1 ∧ stS S q.2.2
  | .inr (.inr (.inl v)) => ∀ w, v = some w → vS S w
  | .inr (.inr (.inr _)) => True
def nAl (mi pc : Nat) : Instr → Bool
  | .new _ => (xthr mi pc).isSome
  | .newarray _ => false
  | .anewarray _ => false
  | _ => true
section REN
variable {f : Nat → Nat} {S : Nat → Prop} {em : xH → xH} {V : xH} {lv : xL} {st : List xV}
theorem stS_c {v : xV} {st : List xV} : stS S (v :: st) ↔ vS S v ∧ stS S st := by
  constructor
  · intro h; exact ⟨h v List.mem_cons_self, fun w hw => h w (List.mem_cons_of_mem _ hw)⟩
  · rintro ⟨h1, h2⟩ w hw
    rcases List.mem_cons.mp hw with rfl | hw
    · exact h1
    · exact h2 w hw
theorem stS_n : stS S [] := fun v h => by cases h
theorem rL_xset (k : Nat) (v : xV) : rL f (xset lv k v) = xset (rL f lv) k (rv f v) := by
  funext j
  simp only [rL, xset]
  split
  · rfl
  · split
    · cases h : lv j with
      | none => rfl
      | some w =>
        match w with
        | .inl x => rfl
        | .inr (.inl o) => rfl
        | .inr (.inr q) => rfl
    · rfl
theorem rL_xset2 (k : Nat) (v : xV) : rL f (xset2 lv k v) = xset2 (rL f lv) k (rv f v) := by
  funext j
  simp only [rL, xset2]
  split
  · rfl
  · split
    · rfl
    · split
      · cases h : lv j with
        | none => rfl
        | some w =>
          match w with
          | .inl x => rfl
          | .inr (.inl o) => rfl
          | .inr (.inr q) => rfl
      · rfl
theorem lvS_xset {k : Nat} {v : xV} (h : lvS S lv) (hv : vS S v) : lvS S (xset lv k v) := by
  intro j w hw
  simp only [xset] at hw
  split at hw
  · cases hw; exact hv
  · split at hw
    · cases hl : lv j with
      | none => rw [hl] at hw; cases hw
      | some u =>
        rw [hl] at hw
        match u, hl, hw with
        | .inl x, hl, hw => cases hw; trivial
        | .inr (.inl o), hl, hw => cases hw; exact h j _ hl
        | .inr (.inr q), hl, hw => cases hw
    · exact h j w hw
theorem lvS_xset2 {k : Nat} {v : xV} (h : lvS S lv) (hv : vS S v) : lvS S (xset2 lv k v) := by
  intro j w hw
  simp only [xset2] at hw
  split at hw
  · cases hw; exact hv
  · split at hw
    · cases hw
    · split at hw
      · cases hl : lv j with
        | none => rw [hl] at hw; cases hw
        | some u =>
          rw [hl] at hw
          match u, hl, hw with
          | .inl x, hl, hw => cases hw; trivial
          | .inr (.inl o), hl, hw => cases hw; exact h j _ hl
          | .inr (.inr q), hl, hw => cases hw
      · exact h j w hw
theorem cls_set {a : Nat} {c : xC} (h : cls S V) (hc : ∀ v ∈ c.2, vS S v) : cls S (V.set a c) := by
  refine ⟨by rw [List.length_set]; exact h.1, fun b d hb hd v hv => ?_⟩
  by_cases e : a = b
  · subst e
    have hl : a < V.length := by
      have := (List.getElem?_eq_some_iff.mp hd).1
      rw [List.length_set] at this
      exact this
    rw [List.getElem?_set_self hl] at hd
    cases hd
    exact hc v hv
  · rw [List.getElem?_set_ne e] at hd
    exact h.2 b d hb hd v hv
theorem vS_at {vs : List xV} {k : Nat} {v : xV} (h : ∀ w ∈ vs, vS S w) (hv : vs[k]? = some v) : vS S v := h v (List.mem_of_getElem? hv)
theorem vS_set {vs : List xV} {k : Nat} {v : xV} (h : ∀ w ∈ vs, vS S w) (hv : vS S v) : ∀ w ∈ vs.set k v, vS S w := by
  intro w hw
  rcases List.mem_or_eq_of_mem_set hw with h1 | h1
  · exact h w h1
  · rw [h1]; exact hv
theorem xkd_rv (kd : Nat) (v : xV) : xkd kd (rv f v) = xkd kd v := by
  match v with
  | .inl x => rfl
  | .inr (.inl o) => rfl
  | .inr (.inr (.inl x)) => rfl
  | .inr (.inr (.inr x)) => rfl
theorem xcat2_rv (v : xV) : xcat2 (rv f v) = xcat2 v := by
  match v with
  | .inl x => rfl
  | .inr (.inl o) => rfl
  | .inr (.inr (.inl x)) => rfl
  | .inr (.inr (.inr x)) => rfl
theorem xasz_rv : ∀ (as : List xV), xasz (as.map (rv f)) = xasz as := by
  intro as
  induction as with
  | nil => rfl
  | cons v vs ih => simp only [List.map_cons, xasz, xcat2_rv, ih]
theorem rL_ent : ∀ (as : List xV), rL f (xent as) = xent (as.map (rv f)) := by
  intro as
  induction as with
  | nil => funext k; rfl
  | cons v vs ih =>
    funext k
    cases k with
    | zero => rfl
    | succ k =>
      simp only [rL, List.map_cons, xent, xcat2_rv]
      split
      · cases k with
        | zero => rfl
        | succ k => exact congrFun ih k
      · exact congrFun ih k
theorem lvS_ent : ∀ {as : List xV}, stS S as → lvS S (xent as) := by
  intro as
  induction as with
  | nil => intro _ k v h; cases h
  | cons v vs ih =>
    intro h k w hw
    obtain ⟨h1, h2⟩ := stS_c.mp h
    cases k with
    | zero => cases hw; exact h1
    | succ k =>
      simp only [xent] at hw
      split at hw
      · cases k with
        | zero => cases hw
        | succ k => exact ih h2 k w hw
      · exact ih h2 k w hw
theorem xpop_rv {n : Nat} {st a b : List xV} (h : xpop n st = some (a, b)) : xpop n (st.map (rv f)) = some (a.map (rv f), b.map (rv f)) := by
  unfold xpop at h ⊢
  rw [List.length_map]
  split at h
  · rename_i hn
    cases h
    rw [if_pos hn, List.map_take, List.map_drop, List.map_reverse]
  · cases h
theorem xpop_S {n : Nat} {st a b : List xV} (h : xpop n st = some (a, b)) (hs : stS S st) : stS S a ∧ stS S b := by
  unfold xpop at h
  split at h
  · cases h
    exact ⟨fun v hv => hs v (List.mem_of_mem_take (List.mem_reverse.mp hv)), fun v hv => hs v (List.mem_of_mem_drop hv)⟩
  · cases h
/-! one instruction -/
def RenOk (f : Nat → Nat) (S : Nat → Prop) (em : xH → xH) (mi pc : Nat) (op : Instr) (lv : xL) (st : List xV) (V : xH) (g : Nat) (D : xD) : Prop := xdir mi pc op (rL f lv) (st.map (rv f)) (em V) g = rD f em D ∧ iD S D
variable {mi pc g : Nat} {D : xD}
theorem em_at (hE : Em f S em) (hc : cls S V) {a t : Nat} {vs : List xV} (ha : S a) (h : V[a]? = some (t, vs)) : (em V)[f a]? = some (t, vs.map (rv f)) ∧ ∀ v ∈ vs, vS S v := by
  have h1 := hE.1 V a hc.1 ha
  rw [h] at h1
  exact ⟨h1, hc.2 a (t, vs) ha h⟩
theorem ren_getfield {i : Nat} (hE : Em f S em) (hc : cls S V) (hl : lvS S lv) (hs : stS S st) (h : xdir mi pc (.getfield i) lv st V g = D) (hD : D ≠ .inr (.inr (.inr (.inr ())))) : RenOk f S em mi pc (.getfield i) lv st V g D := by
  unfold RenOk
  unfold xdir at h ⊢
  simp only [xop] at h ⊢
  repeat' split at h
  all_goals first
    | exact absurd h.symm hD
    | skip
  rename_i a st' x q1 ci k kd fin q2 x2 t vs q3 q4 x3 v q5
  subst h
  obtain ⟨ha, hst⟩ := stS_c.mp hs
  obtain ⟨e1, e2⟩ := em_at hE hc (ha a rfl) q3
  refine ⟨?_, hl, stS_c.mpr ⟨vS_at e2 q5, hst⟩, hc⟩
  simp only [List.map_cons, rv, Option.map_some, q2, e1, if_pos q4, List.getElem?_map, q5, rD]
end REN
