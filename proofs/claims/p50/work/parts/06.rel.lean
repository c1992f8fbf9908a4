/-! ===== how the small machine's things stand in the machine ===== -/
theorem xi_toInt {x : Int} (h : xin x) : (Int32.ofInt x).toInt = x := Int32.toInt_ofInt_of_le (by have := h.1; omega) (by have := h.2; omega)
theorem xi_eq {x y : Int} (hx : xin x) (hy : xin y) : Int32.ofInt x = Int32.ofInt y ↔ x = y := by
  constructor
  · intro h
    have h2 := congrArg Int32.toInt h
    rwa [xi_toInt hx, xi_toInt hy] at h2
  · intro h; rw [h]
theorem xi_lt {x y : Int} (hx : xin x) (hy : xin y) : Int32.ofInt x < Int32.ofInt y ↔ x < y := by
  rw [Int32.lt_iff_toInt_lt, xi_toInt hx, xi_toInt hy]
theorem xi_le {x y : Int} (hx : xin x) (hy : xin y) : Int32.ofInt x ≤ Int32.ofInt y ↔ x ≤ y := by
  rw [Int32.le_iff_toInt_le, xi_toInt hx, xi_toInt hy]
theorem xi_zero : (0 : Int32) = Int32.ofInt 0 := by decide
theorem xin0 : xin 0 := by decide
theorem xi_nat {x : Int} (h : xin x) : (Int32.ofInt x).toNatClampNeg = x.toNat := by
  show (Int32.ofInt x).toInt.toNat = x.toNat
  rw [xi_toInt h]
theorem xi_of (y : Int32) : Int32.ofInt y.toInt = y := Int32.ofInt_toInt y
theorem xin_of (y : Int32) : xin y.toInt := by
  have h1 := y.le_toInt
  have h2 := y.toInt_lt
  exact ⟨by omega, by omega⟩
theorem xi_add (x y : Int) : Int32.ofInt x + Int32.ofInt y = Int32.ofInt (x + y) := (Int32.ofInt_add x y).symm
theorem xi_sub (x y : Int) : Int32.ofInt x - Int32.ofInt y = Int32.ofInt (x - y) := (Int32.ofInt_sub x y).symm
theorem xi_mul (x y : Int) : Int32.ofInt x * Int32.ofInt y = Int32.ofInt (x * y) := (Int32.ofInt_mul x y).symm
def xad (b B a : Nat) : Nat := if a = 0 then b else B + a
def xm (b B : Nat) : xV → Value
  | .inl x => .int (Int32.ofInt x)
  | .inr (.inl none) => .null
  | .inr (.inl (some a)) => .ref (xad b B a)
  | .inr (.inr (.inl l)) => .long l
  | .inr (.inr (.inr d)) => .double d
def xmI : Option xV → Int32
  | some (.inl x) => Int32.ofInt x
  | _ => 0
def xmL : Option xV → Int64
  | some (.inr (.inr (.inl l))) => l
  | _ => 0
def xmR (b B : Nat) : Option xV → Option Nat
  | some (.inr (.inl (some a))) => some (xad b B a)
  | _ => none
def xca (b B : Nat) (t : Nat) (vs : List xV) : vp_A := (vs.length, if t = 102 then .inr (.inl (fun j => xmL vs[j]?)) else if t = 103 then .inr (.inr (.inr (.inr (fun j => xmR b B vs[j]?)))) else .inl (fun j => xmI vs[j]?))
def xce (b B : Nat) (ca : Nat → ClassId) (c : xC) : va_E := if c.1 < 100 then .inr (c.1, c.2.map (xm b B)) else .inl (ca c.1, xca b B c.1 c.2)
def xwl (b B : Nat) (ca : Nat → ClassId) : Nat → xH → va_W
  | _, [] => []
  | n, c :: t => (n, xce b B ca c) :: xwl b B ca (n + 1) t
def xw (b B : Nat) (ca : Nat → ClassId) (ph : xH) : va_W := xwl b B ca (B + 1) ph.tail
theorem xwl_get (b B : Nat) (ca : Nat → ClassId) : ∀ (l : xH) (n k : Nat), (xwl b B ca n l)[k]? = (l[k]?).map (fun c => (n + k, xce b B ca c)) := by
  intro l
  induction l with
  | nil => intro n k; simp [xwl]
  | cons c t ih =>
    intro n k
    cases k with
    | zero => simp [xwl]
    | succ k =>
      simp only [xwl, List.getElem?_cons_succ, ih]
      rw [show n + 1 + k = n + (k + 1) by omega]
theorem xwl_set (b B : Nat) (ca : Nat → ClassId) (c : xC) : ∀ (l : xH) (n k : Nat), xwl b B ca n (l.set k c) = (xwl b B ca n l).set k (n + k, xce b B ca c) := by
  intro l
  induction l with
  | nil => intro n k; simp [xwl]
  | cons d t ih =>
    intro n k
    cases k with
    | zero => simp [xwl]
    | succ k =>
      simp only [xwl, List.set_cons_succ, ih]
      rw [show n + 1 + k = n + (k + 1) by omega]
theorem xwl_app (b B : Nat) (ca : Nat → ClassId) (c : xC) : ∀ (l : xH) (n : Nat), xwl b B ca n (l ++ [c]) = xwl b B ca n l ++ [(n + l.length, xce b B ca c)] := by
  intro l
  induction l with
  | nil => intro n; simp [xwl]
  | cons d t ih =>
    intro n
    simp only [xwl, List.cons_append, ih, List.length_cons]
    rw [show n + 1 + t.length = n + (t.length + 1) by omega]
theorem xw_get {b B : Nat} {ca : Nat → ClassId} {ph : xH} {a : Nat} {c : xC} (ha : a ≠ 0) (h : ph[a]? = some c) : (xw b B ca ph)[a - 1]? = some (B + a, xce b B ca c) := by
  cases ph with
  | nil => simp at h
  | cons d t =>
    obtain ⟨k, rfl⟩ : ∃ k, a = k + 1 := ⟨a - 1, by omega⟩
    simp only [List.getElem?_cons_succ] at h
    simp only [xw, List.tail_cons, xwl_get, Nat.add_sub_cancel, h, Option.map_some]
    rw [show B + 1 + k = B + (k + 1) by omega]
theorem xw_set {b B : Nat} {ca : Nat → ClassId} {ph : xH} {a : Nat} {c : xC} (ha : a ≠ 0) : xw b B ca (ph.set a c) = (xw b B ca ph).set (a - 1) (B + a, xce b B ca c) := by
  cases ph with
  | nil => simp [xw, xwl]
  | cons d t =>
    obtain ⟨k, rfl⟩ : ∃ k, a = k + 1 := ⟨a - 1, by omega⟩
    simp only [xw, List.set_cons_succ, List.tail_cons, xwl_set, Nat.add_sub_cancel]
    rw [show B + 1 + k = B + (k + 1) by omega]
theorem xw_app {b B : Nat} {ca : Nat → ClassId} {ph : xH} {c : xC} (h : ph ≠ []) : xw b B ca (ph ++ [c]) = xw b B ca ph ++ [(B + ph.length, xce b B ca c)] := by
  cases ph with
  | nil => exact absurd rfl h
  | cons d t =>
    simp only [xw, List.cons_append, List.tail_cons, xwl_app, List.length_cons]
    rw [show B + 1 + t.length = B + (t.length + 1) by omega]
def xwf : xV → Prop
  | .inl x => xin x
  | _ => True
def xwfs (l : List xV) : Prop := ∀ v ∈ l, xwf v
theorem xwfs_cons {v : xV} {l : List xV} : xwfs (v :: l) ↔ xwf v ∧ xwfs l := List.forall_mem_cons
def xwfl (lv : xL) : Prop := ∀ k v, lv k = some v → xwf v
theorem xno2_some {o : Option xV} {v : xV} (h : xno2 o = some v) : o = some v ∧ xcat2 v = false := by
  cases o with
  | none => cases h
  | some w =>
    rcases w with x | x | x
    · simp only [xno2, Option.some.injEq] at h; subst h; exact ⟨rfl, rfl⟩
    · simp only [xno2, Option.some.injEq] at h; subst h; exact ⟨rfl, rfl⟩
    · cases h
theorem xset_wf {lv : xL} {i : Nat} {v : xV} (h : xwfl lv) (hv : xwf v) : xwfl (xset lv i v) := by
  intro k w hk
  unfold xset at hk
  split at hk
  · cases hk; exact hv
  · split at hk
    · exact h _ _ (xno2_some hk).1
    · exact h _ _ hk
theorem xset2_wf {lv : xL} {i : Nat} {v : xV} (h : xwfl lv) (hv : xwf v) : xwfl (xset2 lv i v) := by
  intro k w hk
  unfold xset2 at hk
  split at hk
  · cases hk; exact hv
  · split at hk
    · cases hk
    · split at hk
      · exact h _ _ (xno2_some hk).1
      · exact h _ _ hk
theorem xclr_wf {lv : xL} {i : Nat} (h : xwfl lv) : xwfl (xclr lv i) := by
  intro k w hk
  unfold xclr at hk
  split at hk
  · cases hk
  · split at hk
    · exact h _ _ (xno2_some hk).1
    · exact h _ _ hk
theorem xent_i (x : Int) (t : List xV) (k : Nat) : xent (.inl x :: t) (k + 1) = xent t k := rfl
theorem xent_r (x : Option Nat) (t : List xV) (k : Nat) : xent (.inr (.inl x) :: t) (k + 1) = xent t k := rfl
theorem xent_2 (x : Int64 ⊕ UInt64) (t : List xV) (k : Nat) : xent (.inr (.inr x) :: t) (k + 2) = xent t k := rfl
theorem xent_wf {as : List xV} (h : xwfs as) : xwfl (xent as) := by
  intro k
  induction as generalizing k with
  | nil => intro v hk; cases hk
  | cons a t ih =>
    intro v hk
    have h1 := xwfs_cons.mp h
    match a, k, hk with
    | _, 0, hk => simp only [xent, Option.some.injEq] at hk; subst hk; exact h1.1
    | .inl _, k + 1, hk => rw [xent_i] at hk; exact ih h1.2 k v hk
    | .inr (.inl _), k + 1, hk => rw [xent_r] at hk; exact ih h1.2 k v hk
    | .inr (.inr _), 1, hk => cases hk
    | .inr (.inr _), k + 2, hk => rw [xent_2] at hk; exact ih h1.2 k v hk
theorem xasz_eq (b B : Nat) (as : List xV) : (lg_sl (as.map (xm b B))).length = xasz as := by
  induction as with
  | nil => rfl
  | cons a t ih =>
    have e : lg_sl (List.map (xm b B) (a :: t)) = (if (xm b B a).category = 2 then [.val (xm b B a), .second] else [.val (xm b B a)]) ++ lg_sl (t.map (xm b B)) := rfl
    rw [e, List.length_append, ih]
    rcases a with x | x | x | x
    · rfl
    · cases x <;> rfl
    · rfl
    · rfl
theorem xcat_eq (b B : Nat) (v : xV) : (xm b B v).category = if xcat2 v then 2 else 1 := by
  rcases v with x | x | x | x
  · rfl
  · cases x <;> rfl
  · rfl
  · rfl
/-- the locals of the machine hold those of the small one -/
def xlvR (b B : Nat) (ls : Array Slot) (nL : Nat) (lv : xL) : Prop := ls.size = nL ∧ lv_wf ls ∧ ∀ k v, lv k = some v → ls[k]? = some (.val (xm b B v))
def xls (b B : Nat) (nL : Nat) (lv : xL) : List (Nat × Value) := (List.range nL).filterMap (fun k => (lv k).map (fun v => (k, xm b B v)))
theorem xls_mem {b B nL : Nat} {lv : xL} {q : Nat × Value} : q ∈ xls b B nL lv ↔ ∃ v, q.1 < nL ∧ lv q.1 = some v ∧ q.2 = xm b B v := by
  unfold xls
  rw [List.mem_filterMap]
  constructor
  · rintro ⟨k, hk, h⟩
    rw [Option.map_eq_some_iff] at h
    obtain ⟨v, hv, rfl⟩ := h
    exact ⟨v, List.mem_range.mp hk, hv, rfl⟩
  · rintro ⟨v, h1, h2, h3⟩
    refine ⟨q.1, List.mem_range.mpr h1, ?_⟩
    rw [h2, Option.map_some, ← h3]
theorem xlvR_has {b B nL : Nat} {ls : Array Slot} {lv : xL} (h : xlvR b B ls nL lv) : lv_has ls nL (xls b B nL lv) := by
  refine ⟨h.1, h.2.1, fun q hq => ?_⟩
  obtain ⟨v, -, h2, h3⟩ := xls_mem.mp hq
  rw [h3]; exact h.2.2 _ _ h2
theorem xlvR_lt {b B nL : Nat} {ls : Array Slot} {lv : xL} (h : xlvR b B ls nL lv) {k : Nat} {v : xV} (hk : lv k = some v) : k < nL := by
  have h1 := h.2.2 k v hk
  rw [← h.1]
  exact (Array.getElem?_eq_some_iff.mp h1).1
theorem xlvR_set {b B nL i : Nat} {ls ls' : Array Slot} {lv : xL} {v : xV} (h : xlvR b B ls nL lv) (h' : lv_has ls' nL ((i, xm b B v) :: (xls b B nL lv).filter (fun q => !(q.1 == i) && !(q.1 + 1 == i && q.2.category == 2)))) : xlvR b B ls' nL (xset lv i v) := by
  refine ⟨h'.1, h'.2.1, fun k w hk => ?_⟩
  unfold xset at hk
  split at hk
  · rename_i hki
    cases hk
    rw [hki]
    exact h'.2.2 (i, xm b B v) List.mem_cons_self
  · rename_i hki
    refine h'.2.2 (k, xm b B w) (List.mem_cons_of_mem _ (List.mem_filter.mpr ⟨?_, ?_⟩))
    · split at hk
      · have h1 := (xno2_some hk).1
        exact xls_mem.mpr ⟨w, xlvR_lt h h1, h1, rfl⟩
      · exact xls_mem.mpr ⟨w, xlvR_lt h hk, hk, rfl⟩
    · split at hk
      · have h1 := (xno2_some hk).2
        simp [xcat_eq, h1, hki]
      · rename_i h2
        simp [hki, h2]
theorem xlvR_clr {b B nL i : Nat} {ls ls' : Array Slot} {lv : xL} {v : Value} (h : xlvR b B ls nL lv) (h' : lv_has ls' nL ((i, v) :: (xls b B nL lv).filter (fun q => !(q.1 == i) && !(q.1 + 1 == i && q.2.category == 2)))) : xlvR b B ls' nL (xclr lv i) := by
  refine ⟨h'.1, h'.2.1, fun k w hk => ?_⟩
  unfold xclr at hk
  split at hk
  · cases hk
  · rename_i hki
    refine h'.2.2 (k, xm b B w) (List.mem_cons_of_mem _ (List.mem_filter.mpr ⟨?_, ?_⟩))
    · split at hk
      · have h1 := (xno2_some hk).1
        exact xls_mem.mpr ⟨w, xlvR_lt h h1, h1, rfl⟩
      · exact xls_mem.mpr ⟨w, xlvR_lt h hk, hk, rfl⟩
    · split at hk
      · have h1 := (xno2_some hk).2
        simp [xcat_eq, h1, hki]
      · rename_i h2
        simp [hki, h2]
theorem xlvR_set2 {b B nL i : Nat} {ls ls' : Array Slot} {lv : xL} {v : xV} (h : xlvR b B ls nL lv) (h' : lv_has ls' nL ((i, xm b B v) :: (xls b B nL lv).filter (fun q => !(q.1 == i) && (!(q.1 == i + 1) && !(q.1 + 1 == i && q.2.category == 2))))) : xlvR b B ls' nL (xset2 lv i v) := by
  refine ⟨h'.1, h'.2.1, fun k w hk => ?_⟩
  unfold xset2 at hk
  split at hk
  · rename_i hki
    cases hk
    rw [hki]
    exact h'.2.2 (i, xm b B v) List.mem_cons_self
  · rename_i hki
    split at hk
    · cases hk
    · rename_i hki2
      refine h'.2.2 (k, xm b B w) (List.mem_cons_of_mem _ (List.mem_filter.mpr ⟨?_, ?_⟩))
      · split at hk
        · have h1 := (xno2_some hk).1
          exact xls_mem.mpr ⟨w, xlvR_lt h h1, h1, rfl⟩
        · exact xls_mem.mpr ⟨w, xlvR_lt h hk, hk, rfl⟩
      · split at hk
        · have h1 := (xno2_some hk).2
          simp [xcat_eq, h1, hki, hki2]
        · rename_i h2
          simp [hki, hki2, h2]
theorem xlvR_ent {b B nL : Nat} {ls : Array Slot} (as : List xV) (h : lv_has ls nL (lv_args 0 (as.map (xm b B)))) : xlvR b B ls nL (xent as) := by
  refine ⟨h.1, h.2.1, ?_⟩
  have key : ∀ (as : List xV) (i k : Nat) (v : xV), xent as k = some v → (i + k, xm b B v) ∈ lv_args i (as.map (xm b B)) := by
    intro as
    induction as with
    | nil => intro i k v hk; cases k <;> cases hk
    | cons a t ih =>
      intro i k v hk
      match a, k, hk with
      | _, 0, hk => simp only [xent, Option.some.injEq] at hk; subst hk; exact List.mem_cons_self
      | .inl x, k + 1, hk =>
        rw [xent_i] at hk
        have := ih (i + 1) k v hk
        rw [show i + 1 + k = i + (k + 1) by omega] at this
        exact List.mem_cons_of_mem _ this
      | .inr (.inl x), k + 1, hk =>
        rw [xent_r] at hk
        have := ih (i + 1) k v hk
        rw [show i + 1 + k = i + (k + 1) by omega] at this
        refine List.mem_cons_of_mem _ ?_
        rw [xcat_eq]
        exact this
      | .inr (.inr _), 1, hk => cases hk
      | .inr (.inr x), k + 2, hk =>
        rw [xent_2] at hk
        have := ih (i + 2) k v hk
        rw [show i + 2 + k = i + (k + 2) by omega] at this
        refine List.mem_cons_of_mem _ ?_
        rw [xcat_eq]
        exact this
  intro k v hk
  have h1 := key as 0 k v hk
  rw [Nat.zero_add] at h1
  exact h.2.2 _ h1
