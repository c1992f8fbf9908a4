/-! ===== an object that lies elsewhere ===== -/
def rv (f : Nat → Nat) : xV → xV
  | .inr (.inl o) => .inr (.inl (o.map f))
  | v => v
def vS (S : Nat → Prop) : xV → Prop
  | .inr (.inl o) => ∀ a, o = some a → S a
  | _ => True
def rC (f : Nat → Nat) (c : xC) : xC := (c.1, c.2.map (rv f))
def rL (f : Nat → Nat) (lv : xL) : xL := fun k => (lv k).map (rv f)
def rD (f : Nat → Nat) (em : xH → xH) : xD → xD
  | .inl q => .inl (q.1, rL f q.2.1, q.2.2.1.map (rv f), em q.2.2.2)
  | .inr (.inl q) => .inr (.inl (q.1, q.2.1.map (rv f), q.2.2.map (rv f)))
  | .inr (.inr (.inl v)) => .inr (.inr (.inl (v.map (rv f))))
  | .inr (.inr (.inr x)) => .inr (.inr (.inr x))
def Em (f : Nat → Nat) (S : Nat → Prop) (em : xH → xH) : Prop := (∀ (V : xH) (a : Nat), V.length = 169 → S a → (em V)[f a]? = (V[a]?).map (rC f)) ∧ ∀ (V : xH) (a : Nat) (c : xC), V.length = 169 → S a → em (V.set a c) = (em V).set (f a) (rC f c)
def cls (S : Nat → Prop) (V : xH) : Prop := V.length = 169 ∧ ∀ (a : Nat) (c : xC), S a → V[a]? = some c → ∀ v ∈ c.2, vS S v
def lvS (S : Nat → Prop) (lv : xL) : Prop := ∀ k v, lv k = some v → vS S v
def stS (S : Nat → Prop) (st : List xV) : Prop := ∀ v ∈ st, vS S v
def iD (S : Nat → Prop) : xD → Prop
  | .inl q => lvS S q.2.1 ∧ stS S q.2.2.1 ∧ cls S q.2.2.2
  | .inr (.inl q) => stS S q.2.1 ∧ stS S q.2.2
  | .inr (.inr (.inl v)) => ∀ w, v = some w → vS S w
  | .inr (.inr (.inr _)) => True
def nAl (mi pc : Nat) : Instr → Bool
  | .new _ => (xthr mi pc).isSome
  | .newarray _ => false
  | .anewarray _ => false
  | _ => true
section REN
variable {f : Nat → Nat} {S : Nat → Prop} {em : xH → xH} {V : xH} {lv : xL} {st : List xV}
theorem stS_c {v : xV} {st : List xV} : stS S (v :: st) ↔ vS S v ∧ stS S st := by
  constructor
  · intro h; exact ⟨h v List.mem_cons_self, fun w hw => h w (List.mem_cons_of_mem _ hw)⟩
  · rintro ⟨h1, h2⟩ w hw
    rcases List.mem_cons.mp hw with rfl | hw
    · exact h1
    · exact h2 w hw
theorem stS_n : stS S [] := fun v h => by cases h
theorem vS_null : vS S (.inr (.inl none)) := fun a q => by cases q
theorem rL_xset (k : Nat) (v : xV) : rL f (xset lv k v) = xset (rL f lv) k (rv f v) := by
  funext j
  simp only [rL, xset]
  split
  · rfl
  · split
    · cases h : lv j with
      | none => rfl
      | some w =>
        match w with
        | .inl x => rfl
        | .inr (.inl o) => rfl
        | .inr (.inr q) => rfl
    · rfl
theorem rL_xset2 (k : Nat) (v : xV) : rL f (xset2 lv k v) = xset2 (rL f lv) k (rv f v) := by
  funext j
  simp only [rL, xset2]
  split
  · rfl
  · split
    · rfl
    · split
      · cases h : lv j with
        | none => rfl
        | some w =>
          match w with
          | .inl x => rfl
          | .inr (.inl o) => rfl
          | .inr (.inr q) => rfl
      · rfl
theorem lvS_xset {k : Nat} {v : xV} (h : lvS S lv) (hv : vS S v) : lvS S (xset lv k v) := by
  intro j w hw
  simp only [xset] at hw
  split at hw
  · cases hw; exact hv
  · split at hw
    · cases hl : lv j with
      | none => rw [hl] at hw; cases hw
      | some u =>
        rw [hl] at hw
        match u, hl, hw with
        | .inl x, hl, hw => cases hw; trivial
        | .inr (.inl o), hl, hw => cases hw; exact h j _ hl
        | .inr (.inr q), hl, hw => cases hw
    · exact h j w hw
theorem lvS_xset2 {k : Nat} {v : xV} (h : lvS S lv) (hv : vS S v) : lvS S (xset2 lv k v) := by
  intro j w hw
  simp only [xset2] at hw
  split at hw
  · cases hw; exact hv
  · split at hw
    · cases hw
    · split at hw
      · cases hl : lv j with
        | none => rw [hl] at hw; cases hw
        | some u =>
          rw [hl] at hw
          match u, hl, hw with
          | .inl x, hl, hw => cases hw; trivial
          | .inr (.inl o), hl, hw => cases hw; exact h j _ hl
          | .inr (.inr q), hl, hw => cases hw
      · exact h j w hw
theorem cls_set {a : Nat} {c : xC} (h : cls S V) (hc : ∀ v ∈ c.2, vS S v) : cls S (V.set a c) := by
  refine ⟨by rw [List.length_set]; exact h.1, fun b d hb hd v hv => ?_⟩
  by_cases e : a = b
  · subst e
    have hl : a < V.length := by
      have := (List.getElem?_eq_some_iff.mp hd).1
      rw [List.length_set] at this
      exact this
    rw [List.getElem?_set_self hl] at hd
    cases hd
    exact hc v hv
  · rw [List.getElem?_set_ne e] at hd
    exact h.2 b d hb hd v hv
theorem vS_at {vs : List xV} {k : Nat} {v : xV} (h : ∀ w ∈ vs, vS S w) (hv : vs[k]? = some v) : vS S v := h v (List.mem_of_getElem? hv)
theorem vS_set {vs : List xV} {k : Nat} {v : xV} (h : ∀ w ∈ vs, vS S w) (hv : vS S v) : ∀ w ∈ vs.set k v, vS S w := by
  intro w hw
  rcases List.mem_or_eq_of_mem_set hw with h1 | h1
  · exact h w h1
  · rw [h1]; exact hv
theorem xkd_rv (kd : Nat) (v : xV) : xkd kd (rv f v) = xkd kd v := by
  match v with
  | .inl x => rfl
  | .inr (.inl o) =>
    show xkd kd (.inr (.inl (o.map f))) = xkd kd (.inr (.inl o))
    match kd with
    | 0 => rfl
    | 1 => rfl
    | 2 => rfl
    | 3 => rfl
    | k + 4 => rfl
  | .inr (.inr (.inl x)) => rfl
  | .inr (.inr (.inr x)) => rfl
theorem xcat2_rv (v : xV) : xcat2 (rv f v) = xcat2 v := by
  match v with
  | .inl x => rfl
  | .inr (.inl o) => rfl
  | .inr (.inr (.inl x)) => rfl
  | .inr (.inr (.inr x)) => rfl
theorem xasz_rv : ∀ (as : List xV), xasz (as.map (rv f)) = xasz as := by
  intro as
  induction as with
  | nil => rfl
  | cons v vs ih => simp only [List.map_cons, xasz, xcat2_rv, ih]
theorem rL_ent : ∀ (as : List xV), rL f (xent as) = xent (as.map (rv f)) := by
  intro as
  induction as with
  | nil => funext k; rfl
  | cons v vs ih =>
    funext k
    cases k with
    | zero => rfl
    | succ k =>
      simp only [rL, List.map_cons, xent, xcat2_rv]
      split
      · cases k with
        | zero => rfl
        | succ k => exact congrFun ih k
      · exact congrFun ih k
theorem lvS_ent : ∀ {as : List xV}, stS S as → lvS S (xent as) := by
  intro as
  induction as with
  | nil => intro _ k v h; cases h
  | cons v vs ih =>
    intro h k w hw
    obtain ⟨h1, h2⟩ := stS_c.mp h
    cases k with
    | zero => cases hw; exact h1
    | succ k =>
      simp only [xent] at hw
      split at hw
      · cases k with
        | zero => cases hw
        | succ k => exact ih h2 k w hw
      · exact ih h2 k w hw
theorem xpop_rv {n : Nat} {st a b : List xV} (h : xpop n st = some (a, b)) : xpop n (st.map (rv f)) = some (a.map (rv f), b.map (rv f)) := by
  unfold xpop at h ⊢
  rw [List.length_map]
  split at h
  · rename_i hn
    cases h
    rw [if_pos hn, List.map_reverse, List.map_take, List.map_drop]
  · cases h
theorem xpop_S {n : Nat} {st a b : List xV} (h : xpop n st = some (a, b)) (hs : stS S st) : stS S a ∧ stS S b := by
  unfold xpop at h
  split at h
  · cases h
    exact ⟨fun v hv => hs v (List.mem_of_mem_take (List.mem_reverse.mp hv)), fun v hv => hs v (List.mem_of_mem_drop hv)⟩
  · cases h
/-! one instruction -/
def RenOk (f : Nat → Nat) (S : Nat → Prop) (em : xH → xH) (mi pc : Nat) (op : Instr) (lv : xL) (st : List xV) (V : xH) (g : Nat) (D : xD) : Prop := xdir mi pc op (rL f lv) (st.map (rv f)) (em V) g = rD f em D ∧ iD S D
variable {mi pc g : Nat} {D : xD}
theorem em_at (hE : Em f S em) (hc : cls S V) {a t : Nat} {vs : List xV} (ha : S a) (h : V[a]? = some (t, vs)) : (em V)[f a]? = some (t, vs.map (rv f)) ∧ ∀ v ∈ vs, vS S v := by
  have h1 := hE.1 V a hc.1 ha
  rw [h] at h1
  exact ⟨h1, hc.2 a (t, vs) ha h⟩
theorem rL_at {k : Nat} {v : xV} (h : lv k = some v) : rL f lv k = some (rv f v) := by simp only [rL, h, Option.map_some]
def hpOp : Instr → Bool
  | .getfield _ => true
  | .putfield _ => true
  | .iaload => true
  | .caload => true
  | .laload => true
  | .aaload => true
  | .iastore => true
  | .castore => true
  | .lastore => true
  | .aastore => true
  | .arraylength => true
  | .new _ => true
  | .newarray _ => true
  | .anewarray _ => true
  | .invokevirtual _ => true
  | .invokespecial _ => true
  | .invokestatic _ => true
  | _ => false
set_option maxHeartbeats 4000000 in
set_option maxRecDepth 100000 in
theorem ren_pure {op : Instr} (ho : hpOp op = false) (hc : cls S V) (hl : lvS S lv) (hs : stS S st) (h : xdir mi pc op lv st V g = D) (hD : D ≠ .inr (.inr (.inr (.inr ())))) : RenOk f S em mi pc op lv st V g D := by
  unfold RenOk
  unfold xdir at h ⊢
  cases op <;> first
    | (exact absurd ho (by decide))
    | (simp only [hpOp] at ho; cases ho; done)
    | (simp only [xop, xcmp] at h ⊢; (repeat' split at h) <;> first
      | (exact absurd h.symm hD)
      | (subst h; exact ⟨rfl, hl, hs, hc⟩)
      | (subst h; exact ⟨rfl, hl, stS_c.mpr ⟨trivial, hs⟩, hc⟩)
      | (subst h; exact ⟨rfl, hl, (stS_c.mp hs).2, hc⟩)
      | (subst h; exact ⟨rfl, hl, stS_c.mpr ⟨trivial, (stS_c.mp hs).2⟩, hc⟩)
      | (subst h; exact ⟨rfl, hl, stS_c.mpr ⟨trivial, (stS_c.mp (stS_c.mp hs).2).2⟩, hc⟩)
      | (subst h; exact ⟨rfl, hl, (stS_c.mp (stS_c.mp hs).2).2, hc⟩)
      | (subst h; refine ⟨?_, hl, stS_c.mpr ⟨trivial, (stS_c.mp (stS_c.mp hs).2).2⟩, hc⟩; simp only [List.map_cons, rv]; rw [if_pos (by assumption)]; rfl)
      | (subst h; refine ⟨?_, hl, stS_c.mpr ⟨trivial, (stS_c.mp hs).2⟩, hc⟩; simp only [List.map_cons, rv]; rw [if_pos (by assumption)]; rfl)
      | (subst h; refine ⟨?_, hl, stS_c.mpr ⟨hl _ _ (by assumption), hs⟩, hc⟩; rw [rL_at (by assumption)]; rfl)
      | (subst h; exact ⟨rfl, hl, stS_c.mpr ⟨vS_null, hs⟩, hc⟩)
      | (subst h; refine ⟨?_, hl, stS_c.mpr ⟨trivial, hs⟩, hc⟩; rw [if_pos (by assumption)]; rfl)
      | (subst h; refine ⟨?_, hl, stS_c.mpr ⟨trivial, hs⟩, hc⟩; rw [if_neg (by assumption)]; rfl)
      | (subst h; refine ⟨?_, lvS_xset hl (stS_c.mp hs).1, (stS_c.mp hs).2, hc⟩; simp only [List.map_cons, rv]; rw [if_pos (by assumption)]; simp only [rD, rL_xset, rv]; done)
      | (subst h; refine ⟨?_, lvS_xset2 hl (stS_c.mp hs).1, (stS_c.mp hs).2, hc⟩; simp only [List.map_cons, rv]; rw [if_pos (by assumption)]; simp only [rD, rL_xset2, rv]; done)
      | (subst h; refine ⟨?_, hl, (stS_c.mp hs).2, hc⟩; simp only [List.map_cons, rv]; rw [if_pos (by assumption)]; rfl)
      | (subst h; refine ⟨?_, hl, (stS_c.mp hs).2, hc⟩; simp only [List.map_cons, rv]; rw [if_neg (by assumption)]; rfl)
      | (subst h; refine ⟨?_, hl, (stS_c.mp (stS_c.mp hs).2).2, hc⟩; simp only [List.map_cons, rv]; rw [if_pos (by assumption)]; rfl)
      | (subst h; refine ⟨?_, hl, (stS_c.mp (stS_c.mp hs).2).2, hc⟩; simp only [List.map_cons, rv]; rw [if_neg (by assumption)]; rfl)
      | (subst h; refine ⟨?_, hl, (stS_c.mp hs).2, hc⟩; simp only [List.map_cons, rv]; rw [if_neg (by assumption)]; simp only [*]; rfl)
      | (subst h; refine ⟨?_, lvS_xset hl trivial, hs, hc⟩; rw [rL_at (by assumption)]; simp only [rv]; rw [if_pos (by assumption)]; simp only [rD, rL_xset, rv]; done)
      | (subst h; exact ⟨rfl, hl, stS_c.mpr ⟨(stS_c.mp hs).1, hs⟩, hc⟩)
      | (subst h; exact ⟨rfl, hl, stS_c.mpr ⟨trivial, stS_c.mpr ⟨(stS_c.mp (stS_c.mp hs).2).1, hs⟩⟩, hc⟩)
      | (subst h; refine ⟨?_, fun w hw => by cases hw; trivial⟩; simp only [List.map_cons, List.map_nil, rv]; rw [if_pos (by assumption)]; rfl)
      | (subst h; refine ⟨?_, fun w hw => by cases hw⟩; simp only [List.map_nil]; rw [if_pos (by assumption)]; rfl)
      | skip)
theorem ren_getfield {i : Nat} (hE : Em f S em) (hc : cls S V) (hl : lvS S lv) (hs : stS S st) (h : xdir mi pc (.getfield i) lv st V g = D) (hD : D ≠ .inr (.inr (.inr (.inr ())))) : RenOk f S em mi pc (.getfield i) lv st V g D := by
  unfold RenOk
  unfold xdir at h ⊢
  simp only [xop] at h ⊢
  repeat' split at h
  all_goals first
    | exact absurd h.symm hD
    | skip
  rename_i a st9 x ci k kd fin q2 x2 t vs q3 q4 x3 v q5
  subst h
  obtain ⟨ha, hst⟩ := stS_c.mp hs
  obtain ⟨e1, e2⟩ := em_at hE hc (ha a rfl) q3
  refine ⟨?_, hl, stS_c.mpr ⟨vS_at e2 q5, hst⟩, hc⟩
  simp only [List.map_cons, rv, Option.map_some, e1, if_pos q4, List.getElem?_map, q5, rD]
theorem ren_putfield {i : Nat} (hE : Em f S em) (hc : cls S V) (hl : lvS S lv) (hs : stS S st) (h : xdir mi pc (.putfield i) lv st V g = D) (hD : D ≠ .inr (.inr (.inr (.inr ())))) : RenOk f S em mi pc (.putfield i) lv st V g D := by
  unfold RenOk
  unfold xdir at h ⊢
  simp only [xop] at h ⊢
  repeat' split at h
  all_goals first
    | exact absurd h.symm hD
    | skip
  rename_i v a st9 x ci k kd fin q2 x2 t vs q3 q4
  subst h
  obtain ⟨hv, hs2⟩ := stS_c.mp hs
  obtain ⟨ha, hst⟩ := stS_c.mp hs2
  obtain ⟨e1, e2⟩ := em_at hE hc (ha a rfl) q3
  refine ⟨?_, hl, hst, cls_set hc (vS_set e2 hv)⟩
  have e3 : rv f (.inr (.inl (some a))) = .inr (.inl (some (f a))) := rfl
  simp only [List.map_cons, e3, e1, List.length_map, xkd_rv]
  rw [if_pos q4]
  simp only [rD, hE.2 V a _ hc.1 (ha a rfl), rC, List.map_set]
theorem ren_iaload (hE : Em f S em) (hc : cls S V) (hl : lvS S lv) (hs : stS S st) (h : xdir mi pc .iaload lv st V g = D) (hD : D ≠ .inr (.inr (.inr (.inr ())))) : RenOk f S em mi pc .iaload lv st V g D := by
  unfold RenOk
  unfold xdir at h ⊢
  simp only [xop] at h ⊢
  repeat' split at h
  all_goals first
    | exact absurd h.symm hD
    | skip
  rename_i i a st9 x t vs q3 q4 x2 v q5
  subst h
  obtain ⟨-, hs2⟩ := stS_c.mp hs
  obtain ⟨ha, hst⟩ := stS_c.mp hs2
  obtain ⟨e1, e2⟩ := em_at hE hc (ha a rfl) q3
  refine ⟨?_, hl, stS_c.mpr ⟨vS_at e2 q5, hst⟩, hc⟩
  simp only [List.map_cons, rv, Option.map_some, e1, if_pos q4, List.getElem?_map, q5, rD]
theorem ren_caload (hE : Em f S em) (hc : cls S V) (hl : lvS S lv) (hs : stS S st) (h : xdir mi pc .caload lv st V g = D) (hD : D ≠ .inr (.inr (.inr (.inr ())))) : RenOk f S em mi pc .caload lv st V g D := by
  unfold RenOk
  unfold xdir at h ⊢
  simp only [xop] at h ⊢
  repeat' split at h
  all_goals first
    | exact absurd h.symm hD
    | skip
  rename_i i a st9 x t vs q3 q4 x2 v q5
  subst h
  obtain ⟨-, hs2⟩ := stS_c.mp hs
  obtain ⟨ha, hst⟩ := stS_c.mp hs2
  obtain ⟨e1, e2⟩ := em_at hE hc (ha a rfl) q3
  refine ⟨?_, hl, stS_c.mpr ⟨vS_at e2 q5, hst⟩, hc⟩
  simp only [List.map_cons, rv, Option.map_some, e1, if_pos q4, List.getElem?_map, q5, rD]
theorem ren_aaload (hE : Em f S em) (hc : cls S V) (hl : lvS S lv) (hs : stS S st) (h : xdir mi pc .aaload lv st V g = D) (hD : D ≠ .inr (.inr (.inr (.inr ())))) : RenOk f S em mi pc .aaload lv st V g D := by
  unfold RenOk
  unfold xdir at h ⊢
  simp only [xop] at h ⊢
  repeat' split at h
  all_goals first
    | exact absurd h.symm hD
    | skip
  rename_i i a st9 x t vs q3 q4 x2 v q5
  subst h
  obtain ⟨-, hs2⟩ := stS_c.mp hs
  obtain ⟨ha, hst⟩ := stS_c.mp hs2
  obtain ⟨e1, e2⟩ := em_at hE hc (ha a rfl) q3
  refine ⟨?_, hl, stS_c.mpr ⟨vS_at e2 q5, hst⟩, hc⟩
  simp only [List.map_cons, rv, Option.map_some, e1, if_pos q4, List.getElem?_map, q5, rD]
theorem ren_iastore (hE : Em f S em) (hc : cls S V) (hl : lvS S lv) (hs : stS S st) (h : xdir mi pc .iastore lv st V g = D) (hD : D ≠ .inr (.inr (.inr (.inr ())))) : RenOk f S em mi pc .iastore lv st V g D := by
  unfold RenOk
  unfold xdir at h ⊢
  simp only [xop] at h ⊢
  repeat' split at h
  all_goals first
    | exact absurd h.symm hD
    | skip
  rename_i y i a st9 x t vs q3 q4
  subst h
  obtain ⟨hv, hs1⟩ := stS_c.mp hs
  obtain ⟨-, hs2⟩ := stS_c.mp hs1
  obtain ⟨ha, hst⟩ := stS_c.mp hs2
  obtain ⟨e1, e2⟩ := em_at hE hc (ha a rfl) q3
  refine ⟨?_, hl, hst, cls_set hc (vS_set e2 hv)⟩
  simp only [List.map_cons, rv, Option.map_some, e1, List.length_map]
  rw [if_pos q4]
  simp only [rD, hE.2 V a _ hc.1 (ha a rfl), rC, List.map_set, rv]
theorem ren_castore (hE : Em f S em) (hc : cls S V) (hl : lvS S lv) (hs : stS S st) (h : xdir mi pc .castore lv st V g = D) (hD : D ≠ .inr (.inr (.inr (.inr ())))) : RenOk f S em mi pc .castore lv st V g D := by
  unfold RenOk
  unfold xdir at h ⊢
  simp only [xop] at h ⊢
  repeat' split at h
  all_goals first
    | exact absurd h.symm hD
    | skip
  rename_i y i a st9 x t vs q3 q4
  subst h
  obtain ⟨hv, hs1⟩ := stS_c.mp hs
  obtain ⟨-, hs2⟩ := stS_c.mp hs1
  obtain ⟨ha, hst⟩ := stS_c.mp hs2
  obtain ⟨e1, e2⟩ := em_at hE hc (ha a rfl) q3
  refine ⟨?_, hl, hst, cls_set hc (vS_set e2 hv)⟩
  simp only [List.map_cons, rv, Option.map_some, e1, List.length_map]
  rw [if_pos q4]
  simp only [rD, hE.2 V a _ hc.1 (ha a rfl), rC, List.map_set, rv]
theorem ren_aastore (hE : Em f S em) (hc : cls S V) (hl : lvS S lv) (hs : stS S st) (h : xdir mi pc .aastore lv st V g = D) (hD : D ≠ .inr (.inr (.inr (.inr ())))) : RenOk f S em mi pc .aastore lv st V g D := by
  unfold RenOk
  unfold xdir at h ⊢
  simp only [xop] at h ⊢
  repeat' split at h
  all_goals first
    | exact absurd h.symm hD
    | skip
  rename_i v i a st9 x t vs q3 x2 tv w q4 q5
  subst h
  obtain ⟨hv, hs1⟩ := stS_c.mp hs
  obtain ⟨-, hs2⟩ := stS_c.mp hs1
  obtain ⟨ha, hst⟩ := stS_c.mp hs2
  obtain ⟨e1, e2⟩ := em_at hE hc (ha a rfl) q3
  obtain ⟨e3, -⟩ := em_at hE hc (hv v rfl) q4
  refine ⟨?_, hl, hst, cls_set hc (vS_set e2 hv)⟩
  simp only [List.map_cons, rv, Option.map_some, e1, e3, List.length_map]
  rw [if_pos q5]
  simp only [rD, hE.2 V a _ hc.1 (ha a rfl), rC, List.map_set, rv, Option.map_some]
theorem ren_arraylength (hE : Em f S em) (hc : cls S V) (hl : lvS S lv) (hs : stS S st) (h : xdir mi pc .arraylength lv st V g = D) (hD : D ≠ .inr (.inr (.inr (.inr ())))) : RenOk f S em mi pc .arraylength lv st V g D := by
  unfold RenOk
  unfold xdir at h ⊢
  simp only [xop] at h ⊢
  repeat' split at h
  all_goals first
    | exact absurd h.symm hD
    | skip
  rename_i a st9 x t vs q3 q4
  subst h
  obtain ⟨ha, hst⟩ := stS_c.mp hs
  obtain ⟨e1, e2⟩ := em_at hE hc (ha a rfl) q3
  refine ⟨?_, hl, stS_c.mpr ⟨trivial, hst⟩, hc⟩
  simp only [List.map_cons, rv, Option.map_some, e1, List.length_map]
  rw [if_pos q4]
  rfl
theorem ren_new {i : Nat} (hE : Em f S em) (hc : cls S V) (hl : lvS S lv) (hs : stS S st) (hn : nAl mi pc (.new i) = true) (h : xdir mi pc (.new i) lv st V g = D) (hD : D ≠ .inr (.inr (.inr (.inr ())))) : RenOk f S em mi pc (.new i) lv st V g D := by
  unfold RenOk
  unfold xdir at h ⊢
  simp only [xop] at h ⊢
  repeat' split at h
  all_goals first
    | exact absurd h.symm hD
    | skip
  · rename_i x E q1 q2
    subst h
    refine ⟨?_, trivial⟩
    rw [if_pos (by rw [q2]; rfl)]
    rfl
  · rename_i x q1 x2 ci q2 q3
    exfalso
    simp only [nAl] at hn
    rw [q1] at hn
    cases hn
theorem ren_invokevirtual {i : Nat} (hE : Em f S em) (hc : cls S V) (hl : lvS S lv) (hs : stS S st) (h : xdir mi pc (.invokevirtual i) lv st V g = D) (hD : D ≠ .inr (.inr (.inr (.inr ())))) : RenOk f S em mi pc (.invokevirtual i) lv st V g D := by
  unfold RenOk
  unfold xdir at h ⊢
  simp only [xop] at h ⊢
  repeat' split at h
  all_goals first
    | exact absurd h.symm hD
    | skip
  rename_i x mi9 q1 x2 as a rest q2 x3 t w q3 q4
  subst h
  obtain ⟨s1, s2⟩ := xpop_S q2 hs
  obtain ⟨ha, hst⟩ := stS_c.mp s2
  obtain ⟨e1, e2⟩ := em_at hE hc (ha a rfl) q3
  refine ⟨?_, stS_c.mpr ⟨ha, s1⟩, hst⟩
  have hz : xasz (.inr (.inl (some (f a))) :: as.map (rv f)) = xasz (.inr (.inl (some a)) :: as) := xasz_rv (f := f) (.inr (.inl (some a)) :: as)
  simp only [xpop_rv (f := f) q2, List.map_cons, rv, Option.map_some, e1, List.length_map, hz]
  rw [if_pos q4]
  rfl
theorem ren_invokespecial {i : Nat} (hE : Em f S em) (hc : cls S V) (hl : lvS S lv) (hs : stS S st) (h : xdir mi pc (.invokespecial i) lv st V g = D) (hD : D ≠ .inr (.inr (.inr (.inr ())))) : RenOk f S em mi pc (.invokespecial i) lv st V g D := by
  unfold RenOk
  unfold xdir at h ⊢
  simp only [xop] at h ⊢
  repeat' split at h
  all_goals first
    | exact absurd h.symm hD
    | skip
  · rename_i x u q1 a st9 q2
    subst h
    refine ⟨?_, hl, (stS_c.mp hs).2, hc⟩
    simp only [List.map_cons, rv, Option.map_some, List.length_map]
    rw [if_pos q2]
    rfl
  · rename_i x q0 x1 mi9 q1 x2 as a rest q2 q4
    subst h
    obtain ⟨s1, s2⟩ := xpop_S q2 hs
    obtain ⟨ha, hst⟩ := stS_c.mp s2
    refine ⟨?_, stS_c.mpr ⟨ha, s1⟩, hst⟩
    have hz : xasz (.inr (.inl (some (f a))) :: as.map (rv f)) = xasz (.inr (.inl (some a)) :: as) := xasz_rv (f := f) (.inr (.inl (some a)) :: as)
    simp only [xpop_rv (f := f) q2, List.map_cons, rv, Option.map_some, List.length_map, hz]
    rw [if_pos q4]
    rfl
theorem ren_invokestatic {i : Nat} (hE : Em f S em) (hc : cls S V) (hl : lvS S lv) (hs : stS S st) (h : xdir mi pc (.invokestatic i) lv st V g = D) (hD : D ≠ .inr (.inr (.inr (.inr ())))) : RenOk f S em mi pc (.invokestatic i) lv st V g D := by
  unfold RenOk
  unfold xdir at h ⊢
  simp only [xop] at h ⊢
  repeat' split at h
  all_goals first
    | exact absurd h.symm hD
    | skip
  · rename_i y w st9 q2 q3 q4
    subst h
    refine ⟨?_, hl, stS_c.mpr ⟨trivial, (stS_c.mp (stS_c.mp hs).2).2⟩, hc⟩
    simp only [List.map_cons, rv, List.length_map]
    rw [if_pos q2, if_pos q3, if_pos q4]
    rfl
  · rename_i y w st9 q2 q3 q4
    subst h
    refine ⟨?_, hl, stS_c.mpr ⟨trivial, (stS_c.mp (stS_c.mp hs).2).2⟩, hc⟩
    simp only [List.map_cons, rv, List.length_map]
    rw [if_pos q2, if_pos q3, if_neg q4]
    rfl
  · rename_i y w st9 q2 q3 q4
    subst h
    refine ⟨?_, hl, stS_c.mpr ⟨trivial, (stS_c.mp (stS_c.mp hs).2).2⟩, hc⟩
    simp only [List.map_cons, rv, List.length_map]
    rw [if_pos q2, if_neg q3, if_pos q4]
    rfl
  · rename_i y w st9 q2 q3 q4
    subst h
    refine ⟨?_, hl, stS_c.mpr ⟨trivial, (stS_c.mp (stS_c.mp hs).2).2⟩, hc⟩
    simp only [List.map_cons, rv, List.length_map]
    rw [if_pos q2, if_neg q3, if_neg q4]
    rfl
  · rename_i x q0 x1 mi9 q1 x2 as rest q2 q4
    subst h
    obtain ⟨s1, s2⟩ := xpop_S q2 hs
    refine ⟨?_, s1, s2⟩
    simp only [xpop_rv (f := f) q2, List.length_map, xasz_rv]
    rw [if_pos q4]
    rfl
theorem ren_step {op : Instr} (hE : Em f S em) (hc : cls S V) (hl : lvS S lv) (hs : stS S st) (hn : nAl mi pc op = true) (h : xdir mi pc op lv st V g = D) (hD : D ≠ .inr (.inr (.inr (.inr ())))) : RenOk f S em mi pc op lv st V g D := by
  by_cases ho : hpOp op = false
  · exact ren_pure ho hc hl hs h hD
  · cases op <;> first
      | (exact absurd rfl ho)
      | (exact ren_getfield hE hc hl hs h hD)
      | (exact ren_putfield hE hc hl hs h hD)
      | (exact ren_iaload hE hc hl hs h hD)
      | (exact ren_caload hE hc hl hs h hD)
      | (exact ren_aaload hE hc hl hs h hD)
      | (exact ren_iastore hE hc hl hs h hD)
      | (exact ren_castore hE hc hl hs h hD)
      | (exact ren_aastore hE hc hl hs h hD)
      | (exact ren_arraylength hE hc hl hs h hD)
      | (exact ren_new hE hc hl hs hn h hD)
      | (exact ren_invokevirtual hE hc hl hs h hD)
      | (exact ren_invokespecial hE hc hl hs h hD)
      | (exact ren_invokestatic hE hc hl hs h hD)
      | (simp only [nAl] at hn; cases hn; done)
      | (exact absurd h.symm hD)
/-! the methods of the class that make nothing -/
def okM (mi : Nat) : Bool := Nat.blt mi 143 && (!(([97, 100, 101, 102, 103, 104, 125, 142] : List Nat).any (Nat.beq mi)) && (!(Nat.beq (xsk mi) 2) && (xhh mi).isEmpty))
def clM (mi : Nat) : Instr → Bool
  | .invokevirtual i => match xcal (xown mi) i with
    | some m => okM m
    | none => true
  | .invokespecial i => match xcal (xown mi) i with
    | some m => okM m
    | none => true
  | .invokestatic i => match xcal (xown mi) i with
    | some m => okM m
    | none => true
  | _ => true
theorem okM_all : (List.range 143).all (fun mi => !(okM mi) || (match xcode[mi]? with
  | some l => l.all (fun q => nAl mi q.1 q.2 && clM mi q.2)
  | none => false)) = true := by decide +kernel
theorem okM_op {op : Instr} (hm : okM mi = true) (hf : xfetch mi pc = some op) : nAl mi pc op = true ∧ clM mi op = true := by
  have hlt : mi < 143 := by
    unfold okM at hm
    rw [Bool.and_eq_true] at hm
    exact Nat.lt_of_lt_of_le (Nat.le_of_ble_eq_true hm.1) (Nat.le_refl _)
  have h1 := List.all_eq_true.mp okM_all mi (List.mem_range.mpr hlt)
  rw [hm] at h1
  unfold xfetch at hf
  cases hl : xcode[mi]? with
  | none => rw [hl] at hf; cases hf
  | some l =>
    rw [hl] at h1 hf
    have h2 := List.all_eq_true.mp h1 _ (xfind_mem hf)
    rw [Bool.and_eq_true] at h2
    exact h2
theorem okM_han {E : Nat} (hm : okM mi = true) : xhan mi pc E = none := by
  unfold okM at hm
  rw [Bool.and_eq_true, Bool.and_eq_true, Bool.and_eq_true] at hm
  have h : xhh mi = [] := List.isEmpty_iff.mp hm.2.2.2
  unfold xhan
  rw [h]
  rfl
theorem dir_call {op : Instr} {q : Nat × List xV × List xV} (hm : okM mi = true) (hf : xfetch mi pc = some op) (h : xdir mi pc op lv st V g = .inr (.inl q)) : okM q.1 = true := by
  have h2 := (okM_op hm hf).2
  unfold xdir at h
  cases op <;> simp only [xop, xcmp] at h <;> (repeat' split at h) <;> first
    | (cases h; done)
    | (cases h; simp only [clM] at h2; rename_i q1 _ _ _ _ _ _ _ _ _; rw [q1] at h2; exact h2)
    | (cases h; simp only [clM, *] at h2; exact h2)
def rO (f : Nat → Nat) (r : xR) (em : xH → xH) : xR := (match r.1 with
  | .inl v => .inl (v.map (rv f))
  | .inr E => .inr E, em r.2.1, r.2.2)
end REN
