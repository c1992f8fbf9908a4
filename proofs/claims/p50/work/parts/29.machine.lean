/-! ===== the machine of a rendering ===== -/
/-- what is open: kind (0 a text, 5 a loop, 6 a condition, 7 a setting), next place, place it came from (a text's part, a loop's parts), name, pass, text -/
abbrev Fm : Type := Nat × Nat × Nat × Nat × Nat × List Int
abbrev Cf : Type := List Fm × RS × Nat × List Nat
def cT : List Fm → List Int
  | [] => []
  | f :: fs => if f.1 = 0 then f.2.2.2.2.2 else cT fs
def cP : List Fm → List Nat
  | [] => []
  | f :: fs => if f.1 = 0 ∧ fs ≠ [] then f.2.2.1 :: cP fs else cP fs
def cX : List Fm → Nat
  | [] => 0
  | f :: _ => f.2.1
def fsN : List Fm → Nat → List Fm
  | [], _ => []
  | f :: fs, x => (f.1, x, f.2.2) :: fs
def FL (fs : List Fm) (rs : RS) (r x : Nat) : Cf := (fs, rs, r, (cP fs).reverse ++ [x])
def RU (fs : List Fm) (rs : RS) : Cf := (fs, rs, 0, [])
def spS (rs : RS) (f : xSc) : RS := (f :: rs.1, rs.2)
def opS (rs : RS) : RS := (rs.1, [] :: rs.2.1, rs.2.2)
def ctS (rs : RS) : RS := (rs.1, rs.2.1, rs.2.2.1, rs.2.2.2.1 + 1, rs.2.2.2.2)
/-- what comes of a print -/
def oP (fs : List Fm) (x y : Nat) (q : RS × Nat) : Cf := if q.2 = 0 then RU (fsN fs y) q.1 else FL fs q.1 q.2 x
/-- a part that stands for itself, behind its step -/
def PSim (fs : List Fm) (x k : Nat) (cd : Int) (nm : Nat) (rs : RS) (d : Cf) : Prop :=
  (k ≤ 1 ∧ d = oP fs x (x + 1 + k) (prF cd (k : Int) rs)) ∨
  ((k = 2 ∨ k = 3) ∧ lk rs.1 nm = none ∧ d = FL fs rs 1 x) ∨
  ((k = 2 ∨ k = 3) ∧ ∃ v, lk rs.1 nm = some v ∧ d = oP fs x (x + 1 + k) (pvF ((k : Int) == 3) (k : Int) v rs)) ∨
  (k = 4 ∧ lk rs.1 nm = none ∧ d = FL fs rs 1 x) ∨
  (k = 4 ∧ ∃ v, lk rs.1 nm = some v ∧ (cP fs).length = 4 ∧ d = FL fs rs 4 x) ∨
  (k = 4 ∧ ∃ v, lk rs.1 nm = some v ∧ (cP fs).length < 4 ∧ pWh v = false ∧ v.length ≤ 24 ∧ d = (fs, rs, 5, (cP fs).reverse ++ [x, (pRes v).1])) ∨
  (k = 4 ∧ ∃ v, lk rs.1 nm = some v ∧ (cP fs).length < 4 ∧ pWh v = true ∧ v.length ≤ 24 ∧ fs.length ≤ 39 ∧ rs.1.length ≤ 40 ∧ d = RU ((0, 0, x, nm, 0, v) :: fsN fs (x + 4)) (spS rs (fun _ => none)))
/-- a part with parts within -/
def PBlk (fs : List Fm) (x k nm : Nat) (rs : RS) (d : Cf) : Prop :=
  (k = 5 ∧ lk rs.1 nm = none ∧ d = FL fs rs 1 x) ∨
  (((k = 5 ∧ lk rs.1 nm = some []) ∨ (k = 6 ∧ (lk rs.1 nm = none ∨ lk rs.1 nm = some []))) ∧ ∃ n ps p q e, Sg n (cT fs) ps p q (x + 4) e ∧ (cT fs)[e]? = some 125 ∧ d = RU (fsN fs (e + 1)) rs) ∨
  (k = 5 ∧ fs.length ≤ 39 ∧ rs.1.length ≤ 40 ∧ ∃ c v, lk rs.1 nm = some (c :: v) ∧ v.length ≤ 23 ∧ d = RU ((5, x + 4, x + 4, nm, 0, c :: v) :: fsN fs (x + 4)) (spS rs (psc 0 c))) ∨
  (k = 6 ∧ fs.length ≤ 39 ∧ (∃ c v, lk rs.1 nm = some (c :: v)) ∧ d = RU ((6, x + 4, x + 4, nm, 0, []) :: fsN fs (x + 4)) rs) ∨
  (k = 7 ∧ fs.length ≤ 39 ∧ rs.2.1.length ≤ 39 ∧ d = RU ((7, x + 4, x + 4, nm, 0, []) :: fsN fs (x + 4)) (opS rs))
/-- a part begins -/
def StP (c d : Cf) : Prop := ∃ fs rs k cd nm, c = RU fs rs ∧ fs ≠ [] ∧ ((∃ w, hSim (cT fs) (cX fs) k cd nm w) ∨ hBlk (cT fs) (cX fs) k nm) ∧
  ((rs.2.2.2.1 = 200 ∧ d = FL fs rs 3 (cX fs)) ∨
   (rs.2.2.2.1 < 200 ∧ (∃ w, hSim (cT fs) (cX fs) k cd nm w) ∧ PSim fs (cX fs) k cd nm (ctS rs) d) ∨
   (rs.2.2.2.1 < 200 ∧ hBlk (cT fs) (cX fs) k nm ∧ PBlk fs (cX fs) k nm (ctS rs) d))
/-- what is open comes to its end -/
def StE (c d : Cf) : Prop := ∃ f g gs rs, c = RU (f :: g :: gs) rs ∧
  ((f.1 = 0 ∧ f.2.1 = f.2.2.2.2.2.length ∧ ∃ f0 sc, rs.1 = f0 :: sc ∧ d = RU (g :: gs) (sc, rs.2)) ∨
   (f.1 = 5 ∧ (cT (g :: gs))[f.2.1]? = some 125 ∧ ∃ f0 sc, rs.1 = f0 :: sc ∧
     ((∃ c2, f.2.2.2.2.2[f.2.2.2.2.1 + 1]? = some c2 ∧ d = RU ((5, f.2.2.1, f.2.2.1, f.2.2.2.1, f.2.2.2.2.1 + 1, f.2.2.2.2.2) :: g :: gs) (psc (f.2.2.2.2.1 + 1) c2 :: sc, rs.2)) ∨
      (f.2.2.2.2.2.length = f.2.2.2.2.1 + 1 ∧ d = RU (fsN (g :: gs) (f.2.1 + 1)) (sc, rs.2)))) ∨
   (f.1 = 6 ∧ (cT (g :: gs))[f.2.1]? = some 125 ∧ d = RU (fsN (g :: gs) (f.2.1 + 1)) rs) ∨
   (f.1 = 7 ∧ (cT (g :: gs))[f.2.1]? = some 125 ∧ f.2.2.2.1 < 10 ∧ ∃ f0 sc s0 sg, rs.1 = f0 :: sc ∧ rs.2.1 = s0 :: sg ∧ d = RU (fsN (g :: gs) (f.2.1 + 1)) (scU f0 f.2.2.2.1 (some s0) :: sc, sg, rs.2.2)))
def Sto (c d : Cf) : Prop := StP c d ∨ StE c d
def Run : Nat → Cf → Cf → Prop
  | 0, c, d => c = d
  | n + 1, c, d => ∃ e, Sto c e ∧ Run n e d
theorem Run.trans : ∀ {n m : Nat} {a b c : Cf}, Run n a b → Run m b c → Run (n + m) a c := by
  intro n
  induction n with
  | zero =>
    intro m a b c h1 h2
    cases h1
    rw [Nat.zero_add]
    exact h2
  | succ n ih =>
    intro m a b c ⟨e, h1, h2⟩ h3
    rw [Nat.succ_add]
    exact ⟨e, h1, ih h2 h3⟩
theorem Run.one {a b : Cf} (h : Sto a b) : Run 1 a b := ⟨b, h, rfl⟩
def Rn (a b : Cf) : Prop := ∃ n, Run n a b
theorem Rn.refl {a : Cf} : Rn a a := ⟨0, rfl⟩
theorem Rn.trans {a b c : Cf} (h1 : Rn a b) (h2 : Rn b c) : Rn a c := by
  obtain ⟨n, h1⟩ := h1
  obtain ⟨m, h2⟩ := h2
  exact ⟨n + m, h1.trans h2⟩
theorem Rn.one {a b : Cf} (h : Sto a b) : Rn a b := ⟨1, Run.one h⟩
theorem cT_fsN {fs : List Fm} {x : Nat} : cT (fsN fs x) = cT fs := by
  cases fs with
  | nil => rfl
  | cons f fs => rfl
theorem cP_fsN {fs : List Fm} {x : Nat} : cP (fsN fs x) = cP fs := by
  cases fs with
  | nil => rfl
  | cons f fs => rfl
theorem cX_fsN {fs : List Fm} {x : Nat} (h : fs ≠ []) : cX (fsN fs x) = x := by
  cases fs with
  | nil => exact absurd rfl h
  | cons f fs => rfl
theorem fsN_len {fs : List Fm} {x : Nat} : (fsN fs x).length = fs.length := by
  cases fs with
  | nil => rfl
  | cons f fs => rfl
theorem fsN_ne {fs : List Fm} {x : Nat} (h : fs ≠ []) : fsN fs x ≠ [] := by
  cases fs with
  | nil => exact absurd rfl h
  | cons f fs => exact List.cons_ne_nil _ _
theorem fsN_fsN {fs : List Fm} {x y : Nat} : fsN (fsN fs x) y = fsN fs y := by
  cases fs with
  | nil => rfl
  | cons f fs => rfl
/-! ===== how many turns ===== -/
def fmR (f : Fm) : Nat := if f.1 = 5 then f.2.2.2.2.2.length - f.2.2.2.2.1 else 1
def rmC : List Fm → Nat
  | [] => 0
  | f :: fs => fmR f + rmC fs
theorem rmC_fsN {fs : List Fm} {x : Nat} : rmC (fsN fs x) = rmC fs := by
  cases fs with
  | nil => rfl
  | cons f fs => rfl
