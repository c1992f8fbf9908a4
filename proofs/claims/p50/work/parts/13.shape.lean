/-! ===== the shape of the heap behind the constructors ===== -/
def hTgT : List Nat := [200, 9, 8, 101, 100, 8, 101, 100, 7, 100, 100, 100, 100, 100, 100, 7, 100, 100, 100, 100, 100, 100, 7, 100, 100, 100, 100, 100, 100, 7, 100, 100, 100, 100, 100, 100, 7, 100, 100, 100, 100, 100, 100, 4, 3, 8, 101, 100, 100, 5, 8, 101, 100, 8, 101, 100, 0, 1, 7, 100, 100, 100, 100, 100, 100, 8, 101, 100, 100, 100, 100, 100, 100, 6, 8, 101, 100, 3, 8, 101, 100, 100, 6, 8, 101, 100, 3, 8, 101, 100, 100, 2, 103, 6, 8, 101, 100, 3, 8, 101, 100, 100, 6, 8, 101, 100, 3, 8, 101, 100, 100, 6, 8, 101, 100, 3, 8, 101, 100, 100, 6, 8, 101, 100, 3, 8, 101, 100, 100, 6, 8, 101, 100, 3, 8, 101, 100, 100, 6, 8, 101, 100, 3, 8, 101, 100, 100, 10, 100, 100, 100, 100, 100, 100, 100, 100, 100, 100, 100, 100, 100, 100, 100, 100, 100, 100, 100, 100, 102]
def hSzT : List Nat := [3, 10, 3, 60, 1, 3, 60, 1, 14, 60, 60, 60, 60, 60, 60, 14, 60, 60, 60, 60, 60, 60, 14, 60, 60, 60, 60, 60, 60, 14, 60, 60, 60, 60, 60, 60, 14, 60, 60, 60, 60, 60, 60, 4, 8, 3, 200, 1, 5, 2, 3, 9840, 410, 3, 960, 40, 3, 12, 14, 60, 60, 60, 60, 60, 60, 3, 300, 5, 40, 40, 40, 40, 40, 5, 3, 192, 8, 8, 3, 200, 1, 5, 5, 3, 192, 8, 8, 3, 200, 1, 5, 2, 6, 5, 3, 192, 8, 8, 3, 200, 1, 5, 5, 3, 192, 8, 8, 3, 200, 1, 5, 5, 3, 192, 8, 8, 3, 200, 1, 5, 5, 3, 192, 8, 8, 3, 200, 1, 5, 5, 3, 192, 8, 8, 3, 200, 1, 5, 5, 3, 192, 8, 8, 3, 200, 1, 5, 45, 416, 2496, 416, 60, 160, 200, 8, 16000, 64, 1536, 5, 5, 64, 64, 64, 64, 64, 64, 64, 1536, 1]
def hTg (a : Nat) : Nat := match hTgT[a]? with
  | some t => t
  | none => 999
def hSz (a : Nat) : Nat := match hSzT[a]? with
  | some t => t
  | none => 0
/-- what stands in a place of a cell: 0 a number, 2 a reference that stays, 3 a long, 4 a reference to a state, 5 a number that stays, 6 a sign -/
def hKdT : List (List Nat) := [[2, 2, 2], [2, 2, 2, 2, 0, 0, 2, 2, 2, 2, 2, 0], [2, 0], [2, 2, 0, 0, 0, 0, 0, 0], [2, 2, 2, 0], [2, 0], [2, 2, 0, 0, 0], [5, 2, 2, 2, 2, 2, 2, 2, 0, 0, 0, 0, 0, 0], [5, 2, 2], [2, 2, 2, 2, 2, 2, 2, 2, 2, 0], [0, 2, 2, 0, 2, 0, 2, 0, 2, 0, 0, 0, 0, 0, 0, 0, 0, 0, 2, 0, 0, 2, 0, 0, 0, 0, 0, 2, 0, 2, 2, 0, 2, 2, 0, 2, 2, 2, 2, 2, 2, 2, 2, 0, 3]]
def hKd (t k : Nat) : Nat := match t with
  | 100 => 0
  | 101 => 6
  | 102 => 3
  | 103 => 4
  | _ => match hKdT[t]? with
    | some l => match l[k]? with
      | some q => q
      | none => 9
    | none => 9
def hKi (t k : Nat) : Bool := Nat.beq (hKd t k) 0 || Nat.beq (hKd t k) 6
def hSc (t : Nat) : Nat := match hKdT[t]? with
  | some l => l.length
  | none => 0
def hRf (a k : Nat) : Option Nat := match hTg a, k with
  | 8, 1 => some (a + 1)
  | 8, 2 => some (a + 2)
  | 7, 1 => if a = 8 ∨ a = 58 then none else some (a - 7)
  | 7, 2 => some (a + 1)
  | 7, 3 => some (a + 2)
  | 7, 4 => some (a + 3)
  | 7, 5 => some (a + 4)
  | 7, 6 => some (a + 5)
  | 7, 7 => some (a + 6)
  | 3, 0 => some (a + 1)
  | 3, 1 => some (a + 4)
  | 6, 0 => some (a + 1)
  | 6, 1 => some (a + 4)
  | 0, 0 => some 43
  | 0, 1 => some 49
  | 0, 2 => some 44
  | 1, 0 => some 43
  | 1, 1 => some 49
  | 1, 2 => some 58
  | 1, 3 => some 65
  | 1, 6 => some 68
  | 1, 7 => some 69
  | 1, 8 => some 70
  | 1, 9 => some 71
  | 1, 10 => some 72
  | 2, 0 => some 92
  | 4, 0 => some 44
  | 4, 1 => some 49
  | 4, 2 => some 53
  | 5, 0 => some 50
  | 9, 0 => some 2
  | 9, 1 => some 5
  | 9, 2 => some 36
  | 9, 3 => some 43
  | 9, 4 => some 56
  | 9, 5 => some 57
  | 9, 6 => some 73
  | 9, 7 => some 82
  | 9, 8 => some 91
  | 10, 1 => some 148
  | 10, 2 => some 149
  | 10, 4 => some 150
  | 10, 6 => some 151
  | 10, 8 => some 152
  | 10, 18 => some 153
  | 10, 21 => some 154
  | 10, 27 => some 155
  | 10, 29 => some 156
  | 10, 30 => some 157
  | 10, 32 => some 158
  | 10, 33 => some 159
  | 10, 35 => some 160
  | 10, 36 => some 161
  | 10, 37 => some 162
  | 10, 38 => some 163
  | 10, 39 => some 164
  | 10, 40 => some 165
  | 10, 41 => some 166
  | 10, 42 => some 167
  | _, _ => none
def hWd (t : Nat) : Nat := hSz (t + 1) / hSz (t + 2)
def hRw (t : Nat) : Nat := hSz (t + 2)
def hLv (t : Nat) : Nat := if t = 58 then 0 else (36 - t) / 7
def hCs (a : Nat) : Int := if hTg a = 8 then (hWd a : Int) else (hLv a : Int)
def hOk (a k : Nat) (v : xV) : Prop := match hKd (hTg a) k with
  | 0 => ∃ x, v = .inl x
  | 2 => v = .inr (.inl (hRf a k))
  | 3 => ∃ l, v = .inr (.inr (.inl l))
  | 4 => ∃ s, v = .inr (.inl (some s)) ∧ hTg s = 6
  | 5 => v = .inl (hCs a)
  | 6 => ∃ x, v = .inl x ∧ 0 ≤ x ∧ x ≤ 65535
  | _ => False
def hSh (zs : List xV) (ph : xH) : Prop := ph.length = 169 ∧ ph[0]? = some (200, zs) ∧ ∀ a, a ≠ 0 → a < 169 → ∃ vs, ph[a]? = some (hTg a, vs) ∧ vs.length = hSz a ∧ ∀ k v, vs[k]? = some v → hOk a k v
theorem hTg_in {a : Nat} (h : hTg a < 104) : a ≠ 0 ∧ a < 169 := by
  constructor
  · rintro rfl
    exact absurd h (by decide)
  · by_cases h2 : a < 169
    · exact h2
    · exfalso
      have e : hTgT[a]? = none := List.getElem?_eq_none (by have : hTgT.length = 169 := by decide +kernel
                                                            omega)
      unfold hTg at h
      rw [e] at h
      exact absurd h (by decide)
theorem hSh_at {zs : List xV} {ph : xH} {a : Nat} (hs : hSh zs ph) (h : hTg a < 104) : ∃ vs, ph[a]? = some (hTg a, vs) ∧ vs.length = hSz a ∧ ∀ k v, vs[k]? = some v → hOk a k v :=
  hs.2.2 a (hTg_in h).1 (hTg_in h).2
theorem hTg_all (P : Nat → Bool) (h : (List.range 169).all P = true) {a : Nat} (ha : a < 169) : P a = true := List.all_eq_true.mp h a (List.mem_range.mpr ha)
theorem hSz_c {a t : Nat} (h : hTg a = t) (ht : t < 100) : hSz a = hSc t := by
  have h1 := hTg_all (fun a => decide (hTg a < 100 → hSz a = hSc (hTg a))) (by decide +kernel) (hTg_in (by omega : hTg a < 104)).2
  have h2 := of_decide_eq_true h1 (by omega)
  rw [h2, h]
/-! ===== reading and writing ===== -/
def hRd (ph : xH) (a k : Nat) : Int := match ph[a]? with
  | some c => match c.2[k]? with
    | some (.inl x) => x
    | _ => 0
  | none => 0
def hRl (ph : xH) (a k : Nat) : Int64 := match ph[a]? with
  | some c => match c.2[k]? with
    | some (.inr (.inr (.inl x))) => x
    | _ => 0
  | none => 0
def hRs (ph : xH) (a k : Nat) : Nat := match ph[a]? with
  | some c => match c.2[k]? with
    | some (.inr (.inl (some x))) => x
    | _ => 0
  | none => 0
def hPu (ph : xH) (a k : Nat) (v : xV) : xH := match ph[a]? with
  | some c => ph.set a (c.1, c.2.set k v)
  | none => ph
abbrev hUp (ph : xH) (a k : Nat) (x : Int) : xH := hPu ph a k (.inl x)
abbrev hUl (ph : xH) (a k : Nat) (x : Int64) : xH := hPu ph a k (.inr (.inr (.inl x)))
abbrev hUs (ph : xH) (a k : Nat) (x : Nat) : xH := hPu ph a k (.inr (.inl (some x)))
theorem hSh_pu {zs : List xV} {ph : xH} {a k : Nat} {v : xV} (hs : hSh zs ph) (ht : hTg a < 104) (hv : hOk a k v) : hSh zs (hPu ph a k v) := by
  obtain ⟨vs, h1, h2, h3⟩ := hSh_at hs ht
  have ha := hTg_in ht
  obtain ⟨q1, q2, q3⟩ := hs
  unfold hPu
  rw [h1]
  refine ⟨by simpa using q1, by rw [List.getElem?_set_ne ha.1]; exact q2, fun b hb hb2 => ?_⟩
  by_cases e : b = a
  · subst e
    refine ⟨vs.set k v, by rw [List.getElem?_set_self (by omega)], by simpa using h2, fun j w hw => ?_⟩
    by_cases e2 : k = j
    · subst e2
      have hl : k < vs.length := by
        have := (List.getElem?_eq_some_iff.mp hw).1
        simpa using this
      rw [List.getElem?_set_self hl] at hw
      cases hw
      exact hv
    · rw [List.getElem?_set_ne e2] at hw
      exact h3 j w hw
  · rw [List.getElem?_set_ne (Ne.symm e)]
    exact q3 b hb hb2
theorem hKd_lt {t k : Nat} (h : hKd t k ≠ 9) : t < 104 := by
  by_cases h2 : t < 104
  · exact h2
  · exfalso
    apply h
    have e : hKdT[t]? = none := List.getElem?_eq_none (by have : hKdT.length = 11 := by decide
                                                          omega)
    unfold hKd
    split <;> first | omega | rfl | (rw [e])
theorem hShI {zs : List xV} {ph : xH} {a k : Nat} (x : Int) (hs : hSh zs ph) (hk : hKd (hTg a) k = 0) : hSh zs (hUp ph a k x) :=
  hSh_pu hs (hKd_lt (by rw [hk]; decide)) (by unfold hOk; rw [hk]; exact ⟨x, rfl⟩)
theorem hShC {zs : List xV} {ph : xH} {a k : Nat} (x : Int) (hs : hSh zs ph) (hk : hKd (hTg a) k = 6) (hx : 0 ≤ x ∧ x ≤ 65535) : hSh zs (hUp ph a k x) :=
  hSh_pu hs (hKd_lt (by rw [hk]; decide)) (by unfold hOk; rw [hk]; exact ⟨x, rfl, hx⟩)
theorem hKi_ne {t k : Nat} (h : hKi t k = true) : hKd t k ≠ 9 := by
  unfold hKi at h
  rw [Bool.or_eq_true] at h
  rcases h with h | h <;> (have e := Nat.eq_of_beq_eq_true h; rw [e]; decide)
theorem hKi_ok {a k : Nat} {v : xV} (h : hKi (hTg a) k = true) (hv : hOk a k v) : ∃ x, v = .inl x := by
  unfold hKi at h
  rw [Bool.or_eq_true] at h
  unfold hOk at hv
  rcases h with h | h
  · rw [Nat.eq_of_beq_eq_true h] at hv
    exact hv
  · rw [Nat.eq_of_beq_eq_true h] at hv
    exact ⟨hv.choose, hv.choose_spec.1⟩
theorem hRd_ch {zs : List xV} {ph : xH} {a k : Nat} (hs : hSh zs ph) (ht : hTg a = 101) : 0 ≤ hRd ph a k ∧ hRd ph a k ≤ 65535 := by
  obtain ⟨vs, h1, h2, h3⟩ := hSh_at hs (show hTg a < 104 by omega)
  unfold hRd
  rw [h1]
  simp only
  cases hv : vs[k]? with
  | none => simp
  | some v =>
    have h4 := h3 k v hv
    unfold hOk at h4
    rw [ht] at h4
    obtain ⟨x, rfl, hx⟩ := h4
    exact hx
theorem hShL {zs : List xV} {ph : xH} {a k : Nat} (x : Int64) (hs : hSh zs ph) (hk : hKd (hTg a) k = 3) : hSh zs (hUl ph a k x) :=
  hSh_pu hs (hKd_lt (by rw [hk]; decide)) (by unfold hOk; rw [hk]; exact ⟨x, rfl⟩)
theorem hShS {zs : List xV} {ph : xH} {a k x : Nat} (hs : hSh zs ph) (hk : hKd (hTg a) k = 4) (hx : hTg x = 6) : hSh zs (hUs ph a k x) :=
  hSh_pu hs (hKd_lt (by rw [hk]; decide)) (by unfold hOk; rw [hk]; exact ⟨x, rfl, hx⟩)
theorem hPu_get {zs : List xV} {ph : xH} {a k : Nat} {v : xV} (hs : hSh zs ph) (ht : hTg a < 104) (b : Nat) : (hPu ph a k v)[b]? = if b = a then (ph[a]?).map (fun c => (c.1, c.2.set k v)) else ph[b]? := by
  obtain ⟨vs, h1, h2, h3⟩ := hSh_at hs ht
  unfold hPu
  rw [h1]
  have ha : a < ph.length := (List.getElem?_eq_some_iff.mp h1).1
  by_cases e : b = a
  · subst e
    rw [if_pos rfl]
    simp [ha]
  · rw [if_neg e]
    exact List.getElem?_set_ne (Ne.symm e)
theorem hRd_up {zs : List xV} {ph : xH} {a k : Nat} {x : Int} (hs : hSh zs ph) (hk : hKi (hTg a) k = true) (hz : k < hSz a) (b j : Nat) : hRd (hUp ph a k x) b j = if b = a ∧ j = k then x else hRd ph b j := by
  have ht := hKd_lt (hKi_ne hk)
  obtain ⟨vs, h1, h2, h3⟩ := hSh_at hs ht
  unfold hRd
  rw [hPu_get hs ht]
  by_cases e : b = a
  · subst e
    rw [if_pos rfl, h1]
    simp only [Option.map_some]
    by_cases e2 : j = k
    · subst e2
      rw [if_pos (by simp), List.getElem?_set_self (by omega)]
    · rw [if_neg (fun q => e2 q.2), List.getElem?_set_ne (Ne.symm e2)]
  · rw [if_neg e, if_neg (fun q => e q.1)]
theorem hRd_pu {zs : List xV} {ph : xH} {a k : Nat} {v : xV} (hs : hSh zs ph) (hk : hKd (hTg a) k = 3 ∨ hKd (hTg a) k = 4) (hv : ∀ x, v ≠ .inl x) (b j : Nat) : hRd (hPu ph a k v) b j = hRd ph b j := by
  have ht := hKd_lt (t := hTg a) (k := k) (by rcases hk with h | h <;> rw [h] <;> decide)
  obtain ⟨vs, h1, h2, h3⟩ := hSh_at hs ht
  unfold hRd
  rw [hPu_get hs ht]
  by_cases e : b = a
  · subst e
    rw [if_pos rfl, h1]
    simp only [Option.map_some]
    by_cases e2 : j = k
    · subst e2
      by_cases hl : j < vs.length
      · rw [List.getElem?_set_self hl]
        have h4 := h3 j vs[j] (List.getElem?_eq_getElem hl)
        rw [List.getElem?_eq_getElem hl]
        unfold hOk at h4
        rcases hk with hk | hk <;> rw [hk] at h4 <;> obtain ⟨s, hs4⟩ := h4
        · rw [hs4]
          rcases v with y | y
          · exact absurd rfl (hv y)
          · rfl
        · rw [hs4.1]
          rcases v with y | y
          · exact absurd rfl (hv y)
          · rfl
      · rw [List.getElem?_eq_none (by simpa using Nat.not_lt.mp hl), List.getElem?_eq_none (Nat.not_lt.mp hl)]
    · rw [List.getElem?_set_ne (Ne.symm e2)]
  · rw [if_neg e]
theorem hRl_up {zs : List xV} {ph : xH} {a k : Nat} {x : Int} (hs : hSh zs ph) (hk : hKi (hTg a) k = true) (b j : Nat) : hRl (hUp ph a k x) b j = hRl ph b j := by
  have ht := hKd_lt (hKi_ne hk)
  obtain ⟨vs, h1, h2, h3⟩ := hSh_at hs ht
  unfold hRl
  rw [hPu_get hs ht]
  by_cases e : b = a
  · subst e
    rw [if_pos rfl, h1]
    simp only [Option.map_some]
    by_cases e2 : j = k
    · subst e2
      by_cases hl : j < vs.length
      · rw [List.getElem?_set_self hl]
        have h4 := h3 j vs[j] (List.getElem?_eq_getElem hl)
        rw [List.getElem?_eq_getElem hl]
        obtain ⟨s, hs4⟩ := hKi_ok hk h4
        rw [hs4]
      · rw [List.getElem?_eq_none (by simpa using Nat.not_lt.mp hl), List.getElem?_eq_none (Nat.not_lt.mp hl)]
    · rw [List.getElem?_set_ne (Ne.symm e2)]
  · rw [if_neg e]
theorem hRs_up {zs : List xV} {ph : xH} {a k : Nat} {x : Int} (hs : hSh zs ph) (hk : hKi (hTg a) k = true) (b j : Nat) : hRs (hUp ph a k x) b j = hRs ph b j := by
  have ht := hKd_lt (hKi_ne hk)
  obtain ⟨vs, h1, h2, h3⟩ := hSh_at hs ht
  unfold hRs
  rw [hPu_get hs ht]
  by_cases e : b = a
  · subst e
    rw [if_pos rfl, h1]
    simp only [Option.map_some]
    by_cases e2 : j = k
    · subst e2
      by_cases hl : j < vs.length
      · rw [List.getElem?_set_self hl]
        have h4 := h3 j vs[j] (List.getElem?_eq_getElem hl)
        rw [List.getElem?_eq_getElem hl]
        obtain ⟨s, hs4⟩ := hKi_ok hk h4
        rw [hs4]
      · rw [List.getElem?_eq_none (by simpa using Nat.not_lt.mp hl), List.getElem?_eq_none (Nat.not_lt.mp hl)]
    · rw [List.getElem?_set_ne (Ne.symm e2)]
  · rw [if_neg e]
theorem hRl_pu {zs : List xV} {ph : xH} {a k : Nat} {x : Int64} (hs : hSh zs ph) (hk : hKd (hTg a) k = 3) (hz : k < hSz a) (b j : Nat) : hRl (hUl ph a k x) b j = if b = a ∧ j = k then x else hRl ph b j := by
  have ht := hKd_lt (t := hTg a) (k := k) (by rw [hk]; decide)
  obtain ⟨vs, h1, h2, h3⟩ := hSh_at hs ht
  unfold hRl
  rw [hPu_get hs ht]
  by_cases e : b = a
  · subst e
    rw [if_pos rfl, h1]
    simp only [Option.map_some]
    by_cases e2 : j = k
    · subst e2
      rw [if_pos (by simp), List.getElem?_set_self (by omega)]
    · rw [if_neg (fun q => e2 q.2), List.getElem?_set_ne (Ne.symm e2)]
  · rw [if_neg e, if_neg (fun q => e q.1)]
theorem hRs_pu {zs : List xV} {ph : xH} {a k x : Nat} (hs : hSh zs ph) (hk : hKd (hTg a) k = 4) (hz : k < hSz a) (b j : Nat) : hRs (hUs ph a k x) b j = if b = a ∧ j = k then x else hRs ph b j := by
  have ht := hKd_lt (t := hTg a) (k := k) (by rw [hk]; decide)
  obtain ⟨vs, h1, h2, h3⟩ := hSh_at hs ht
  unfold hRs
  rw [hPu_get hs ht]
  by_cases e : b = a
  · subst e
    rw [if_pos rfl, h1]
    simp only [Option.map_some]
    by_cases e2 : j = k
    · subst e2
      rw [if_pos (by simp), List.getElem?_set_self (by omega)]
    · rw [if_neg (fun q => e2 q.2), List.getElem?_set_ne (Ne.symm e2)]
  · rw [if_neg e, if_neg (fun q => e q.1)]
/-! ===== steps ===== -/
def xlo (l : List (Option xV)) : xL := fun k => match l[k]? with
  | some o => o
  | none => none
section HST
variable {d mi pc pc' : Nat} {lv lv' : xL} {st st' : List xV} {ph ph' : xH} {g : Nat} {Q : xR → Prop} {op : Instr} {l : List (Nat × Instr)}
theorem tK (hc : xcode[mi]? = some l) (hf : xfind l pc = some op) (he : ∀ (K : Nat → xL → List xV → xH → Prop) (C : Nat → List xV → List xV → Prop) (Rt : Option xV → Prop) (Th : Nat → Prop) (z : Prop), xop mi pc op lv st ph g K C Rt Th z = K pc' lv' st' ph') (h : xT d mi pc' lv' st' ph' g Q) : xT d mi pc lv st ph g Q := by
  have hf' : xfetch mi pc = some op := by unfold xfetch; rw [hc]; exact hf
  rw [xT_op hf', he]; exact h
theorem tIf {pc2 : Nat} {lv2 : xL} {st2 : List xV} {ph2 : xH} {c : Prop} {hd : Decidable c} (hc : xcode[mi]? = some l) (hf : xfind l pc = some op) (he : ∀ (K : Nat → xL → List xV → xH → Prop) (C : Nat → List xV → List xV → Prop) (Rt : Option xV → Prop) (Th : Nat → Prop) (z : Prop), xop mi pc op lv st ph g K C Rt Th z = if c then K pc' lv' st' ph' else K pc2 lv2 st2 ph2) (h1 : c → xT d mi pc' lv' st' ph' g Q) (h2 : ¬ c → xT d mi pc2 lv2 st2 ph2 g Q) : xT d mi pc lv st ph g Q := by
  have hf' : xfetch mi pc = some op := by unfold xfetch; rw [hc]; exact hf
  rw [xT_op hf', he]
  by_cases h : c
  · rw [if_pos h]; exact h1 h
  · rw [if_neg h]; exact h2 h
theorem tGd {c : Prop} {hd : Decidable c} (hc : xcode[mi]? = some l) (hf : xfind l pc = some op) (he : ∀ (K : Nat → xL → List xV → xH → Prop) (C : Nat → List xV → List xV → Prop) (Rt : Option xV → Prop) (Th : Nat → Prop) (z : Prop), xop mi pc op lv st ph g K C Rt Th z = if c then K pc' lv' st' ph' else z) (h1 : c) (h : xT d mi pc' lv' st' ph' g Q) : xT d mi pc lv st ph g Q := by
  have hf' : xfetch mi pc = some op := by unfold xfetch; rw [hc]; exact hf
  rw [xT_op hf', he, if_pos h1]; exact h
theorem tCa {mi' : Nat} {as rest : List xV} (hc : xcode[mi]? = some l) (hf : xfind l pc = some op) (he : ∀ (K : Nat → xL → List xV → xH → Prop) (C : Nat → List xV → List xV → Prop) (Rt : Option xV → Prop) (Th : Nat → Prop) (z : Prop), xop mi pc op lv st ph g K C Rt Th z = C mi' as rest) (h : xTC d mi' as ph g (xKc (d + 1) mi pc lv rest Q)) : xT (d + 1) mi pc lv st ph g Q := by
  have hf' : xfetch mi pc = some op := by unfold xfetch; rw [hc]; exact hf
  rw [xT_op hf', he]; exact h
theorem tRt {v : Option xV} (hc : xcode[mi]? = some l) (hf : xfind l pc = some op) (he : ∀ (K : Nat → xL → List xV → xH → Prop) (C : Nat → List xV → List xV → Prop) (Rt : Option xV → Prop) (Th : Nat → Prop) (z : Prop), xop mi pc op lv st ph g K C Rt Th z = Rt v) (h : Q (.inl v, ph, g)) : xT d mi pc lv st ph g Q := by
  have hf' : xfetch mi pc = some op := by unfold xfetch; rw [hc]; exact hf
  rw [xT_op hf', he]; exact h
theorem tTh {E : Nat} (hc : xcode[mi]? = some l) (hf : xfind l pc = some op) (he : ∀ (K : Nat → xL → List xV → xH → Prop) (C : Nat → List xV → List xV → Prop) (Rt : Option xV → Prop) (Th : Nat → Prop) (z : Prop), xop mi pc op lv st ph g K C Rt Th z = Th E) (h : Q (.inr E, ph, g + 1)) : xT d mi pc lv st ph g Q := by
  have hf' : xfetch mi pc = some op := by unfold xfetch; rw [hc]; exact hf
  rw [xT_op hf', he]; exact h
theorem tEn {as : List xV} {ls : List (Option xV)} (he : ∀ k, xent as k = xlo ls k) (h : xT d mi 0 (xlo ls) [] ph g Q) : xTC d mi as ph g Q := by
  have e : xent as = xlo ls := funext he
  unfold xTC
  rw [e]; exact h
/-! ===== what an instruction does to a heap of this shape ===== -/
variable {zs : List xV} {a i ci k kd fin : Nat} {x y : Int} {K : Nat → xL → List xV → xH → Prop} {C : Nat → List xV → List xV → Prop} {Rt : Option xV → Prop} {Th : Nat → Prop} {z : Prop}
theorem hGetI (hs : hSh zs ph) (hx : xfld (xown mi) i = some (ci, k, kd, fin)) (ht : hTg a = ci) (hk : hKd ci k = 0) (hz : k < hSc ci) (hc : ci < 100) (K : Nat → xL → List xV → xH → Prop) (C : Nat → List xV → List xV → Prop) (Rt : Option xV → Prop) (Th : Nat → Prop) (z : Prop) : xop mi pc (.getfield i) lv (.inr (.inl (some a)) :: st) ph g K C Rt Th z = K (pc + 3) lv (.inl (hRd ph a k) :: st) ph := by
  obtain ⟨vs, h1, h2, h3⟩ := hSh_at hs (show hTg a < 104 by omega)
  have hl : k < vs.length := by rw [h2, hSz_c ht hc]; exact hz
  have h4 := h3 k vs[k] (List.getElem?_eq_getElem hl)
  unfold hOk at h4
  rw [ht, hk] at h4
  obtain ⟨w, hw⟩ := h4
  have h5 : vs[k]? = some (.inl w) := by rw [List.getElem?_eq_getElem hl, hw]
  simp only [xop, hx, h1, ht, if_true, h5, hRd]
theorem hGetC (hs : hSh zs ph) (hx : xfld (xown mi) i = some (ci, k, kd, fin)) (ht : hTg a = ci) (hk : hKd ci k = 5) (hz : k < hSc ci) (hc : ci < 100) (hv : hCs a = x) (K : Nat → xL → List xV → xH → Prop) (C : Nat → List xV → List xV → Prop) (Rt : Option xV → Prop) (Th : Nat → Prop) (z : Prop) : xop mi pc (.getfield i) lv (.inr (.inl (some a)) :: st) ph g K C Rt Th z = K (pc + 3) lv (.inl x :: st) ph := by
  obtain ⟨vs, h1, h2, h3⟩ := hSh_at hs (show hTg a < 104 by omega)
  have hl : k < vs.length := by rw [h2, hSz_c ht hc]; exact hz
  have h4 := h3 k vs[k] (List.getElem?_eq_getElem hl)
  unfold hOk at h4
  rw [ht, hk] at h4
  have h5 : vs[k]? = some (.inl x) := by rw [List.getElem?_eq_getElem hl, h4, hv]
  simp only [xop, hx, h1, ht, if_true, h5]
theorem hGetR {o : Option Nat} (hs : hSh zs ph) (hx : xfld (xown mi) i = some (ci, k, kd, fin)) (ht : hTg a = ci) (hk : hKd ci k = 2) (hz : k < hSc ci) (hc : ci < 100) (hv : hRf a k = o) (K : Nat → xL → List xV → xH → Prop) (C : Nat → List xV → List xV → Prop) (Rt : Option xV → Prop) (Th : Nat → Prop) (z : Prop) : xop mi pc (.getfield i) lv (.inr (.inl (some a)) :: st) ph g K C Rt Th z = K (pc + 3) lv (.inr (.inl o) :: st) ph := by
  obtain ⟨vs, h1, h2, h3⟩ := hSh_at hs (show hTg a < 104 by omega)
  have hl : k < vs.length := by rw [h2, hSz_c ht hc]; exact hz
  have h4 := h3 k vs[k] (List.getElem?_eq_getElem hl)
  unfold hOk at h4
  rw [ht, hk] at h4
  have h5 : vs[k]? = some (.inr (.inl o)) := by rw [List.getElem?_eq_getElem hl, h4, hv]
  simp only [xop, hx, h1, ht, if_true, h5]
theorem hGetL (hs : hSh zs ph) (hx : xfld (xown mi) i = some (ci, k, kd, fin)) (ht : hTg a = ci) (hk : hKd ci k = 3) (hz : k < hSc ci) (hc : ci < 100) (K : Nat → xL → List xV → xH → Prop) (C : Nat → List xV → List xV → Prop) (Rt : Option xV → Prop) (Th : Nat → Prop) (z : Prop) : xop mi pc (.getfield i) lv (.inr (.inl (some a)) :: st) ph g K C Rt Th z = K (pc + 3) lv (.inr (.inr (.inl (hRl ph a k))) :: st) ph := by
  obtain ⟨vs, h1, h2, h3⟩ := hSh_at hs (show hTg a < 104 by omega)
  have hl : k < vs.length := by rw [h2, hSz_c ht hc]; exact hz
  have h4 := h3 k vs[k] (List.getElem?_eq_getElem hl)
  unfold hOk at h4
  rw [ht, hk] at h4
  obtain ⟨w, hw⟩ := h4
  have h5 : vs[k]? = some (.inr (.inr (.inl w))) := by rw [List.getElem?_eq_getElem hl, hw]
  simp only [xop, hx, h1, ht, if_true, h5, hRl]
theorem hPutV {v : xV} (hs : hSh zs ph) (hx : xfld (xown mi) i = some (ci, k, kd, 0)) (ht : hTg a = ci) (hz : k < hSc ci) (hc : ci < 100) (hv : xkd kd v = true) (K : Nat → xL → List xV → xH → Prop) (C : Nat → List xV → List xV → Prop) (Rt : Option xV → Prop) (Th : Nat → Prop) (z : Prop) : xop mi pc (.putfield i) lv (v :: .inr (.inl (some a)) :: st) ph g K C Rt Th z = K (pc + 3) lv st (hPu ph a k v) := by
  obtain ⟨vs, h1, h2, h3⟩ := hSh_at hs (show hTg a < 104 by omega)
  have hl : k < vs.length := by rw [h2, hSz_c ht hc]; exact hz
  have e : hPu ph a k v = ph.set a (hTg a, vs.set k v) := by unfold hPu; rw [h1]
  rw [e]
  simp only [xop, hx, h1]
  rw [if_pos ⟨ht, hl, hv, Or.inl trivial⟩]
theorem hIald (hs : hSh zs ph) (ht : hTg a = 100) (h0 : 0 ≤ x) (h1 : x < hSz a) (K : Nat → xL → List xV → xH → Prop) (C : Nat → List xV → List xV → Prop) (Rt : Option xV → Prop) (Th : Nat → Prop) (z : Prop) : xop mi pc .iaload lv (.inl x :: .inr (.inl (some a)) :: st) ph g K C Rt Th z = K (pc + 1) lv (.inl (hRd ph a x.toNat) :: st) ph := by
  obtain ⟨vs, q1, q2, q3⟩ := hSh_at hs (show hTg a < 104 by omega)
  have hl : x.toNat < vs.length := by omega
  have h4 := q3 x.toNat vs[x.toNat] (List.getElem?_eq_getElem hl)
  unfold hOk at h4
  rw [ht] at h4
  obtain ⟨w, hw⟩ := h4
  have h5 : vs[x.toNat]? = some (.inl w) := by rw [List.getElem?_eq_getElem hl, hw]
  simp only [xop, q1, ht]
  rw [if_pos ⟨Or.inl trivial, h0⟩]
  simp only [h5, hRd, q1]
theorem hCald (hs : hSh zs ph) (ht : hTg a = 101) (h0 : 0 ≤ x) (h1 : x < hSz a) (K : Nat → xL → List xV → xH → Prop) (C : Nat → List xV → List xV → Prop) (Rt : Option xV → Prop) (Th : Nat → Prop) (z : Prop) : xop mi pc .caload lv (.inl x :: .inr (.inl (some a)) :: st) ph g K C Rt Th z = K (pc + 1) lv (.inl (hRd ph a x.toNat) :: st) ph := by
  obtain ⟨vs, q1, q2, q3⟩ := hSh_at hs (show hTg a < 104 by omega)
  have hl : x.toNat < vs.length := by omega
  have h4 := q3 x.toNat vs[x.toNat] (List.getElem?_eq_getElem hl)
  unfold hOk at h4
  rw [ht] at h4
  obtain ⟨w, hw, -⟩ := h4
  have h5 : vs[x.toNat]? = some (.inl w) := by rw [List.getElem?_eq_getElem hl, hw]
  simp only [xop, q1, ht]
  rw [if_pos ⟨trivial, h0⟩]
  simp only [h5, hRd, q1]
theorem hAald (hs : hSh zs ph) (ht : hTg a = 103) (h0 : 0 ≤ x) (h1 : x < hSz a) (K : Nat → xL → List xV → xH → Prop) (C : Nat → List xV → List xV → Prop) (Rt : Option xV → Prop) (Th : Nat → Prop) (z : Prop) : xop mi pc .aaload lv (.inl x :: .inr (.inl (some a)) :: st) ph g K C Rt Th z = K (pc + 1) lv (.inr (.inl (some (hRs ph a x.toNat))) :: st) ph := by
  obtain ⟨vs, q1, q2, q3⟩ := hSh_at hs (show hTg a < 104 by omega)
  have hl : x.toNat < vs.length := by omega
  have h4 := q3 x.toNat vs[x.toNat] (List.getElem?_eq_getElem hl)
  unfold hOk at h4
  rw [ht] at h4
  obtain ⟨w, hw, -⟩ := h4
  have h5 : vs[x.toNat]? = some (.inr (.inl (some w))) := by rw [List.getElem?_eq_getElem hl, hw]
  simp only [xop, q1, ht]
  rw [if_pos ⟨trivial, h0⟩]
  simp only [h5, hRs, q1]
theorem hRs_tg (hs : hSh zs ph) (ht : hTg a = 103) (hk : k < hSz a) : hTg (hRs ph a k) = 6 := by
  obtain ⟨vs, q1, q2, q3⟩ := hSh_at hs (show hTg a < 104 by omega)
  have hl : k < vs.length := by omega
  have h4 := q3 k vs[k] (List.getElem?_eq_getElem hl)
  unfold hOk at h4
  rw [ht] at h4
  obtain ⟨w, hw, h6⟩ := h4
  have h5 : vs[k]? = some (.inr (.inl (some w))) := by rw [List.getElem?_eq_getElem hl, hw]
  simp only [hRs, q1, h5]
  exact h6
theorem hIast (hs : hSh zs ph) (ht : hTg a = 100) (h0 : 0 ≤ x) (h1 : x < hSz a) (K : Nat → xL → List xV → xH → Prop) (C : Nat → List xV → List xV → Prop) (Rt : Option xV → Prop) (Th : Nat → Prop) (z : Prop) : xop mi pc .iastore lv (.inl y :: .inl x :: .inr (.inl (some a)) :: st) ph g K C Rt Th z = K (pc + 1) lv st (hUp ph a x.toNat y) := by
  obtain ⟨vs, q1, q2, q3⟩ := hSh_at hs (show hTg a < 104 by omega)
  have e : hUp ph a x.toNat y = ph.set a (hTg a, vs.set x.toNat (.inl y)) := by unfold hUp hPu; rw [q1]
  rw [e]
  simp only [xop, q1, ht]
  rw [if_pos ⟨trivial, h0, by omega⟩]
theorem hCast (hs : hSh zs ph) (ht : hTg a = 101) (h0 : 0 ≤ x) (h1 : x < hSz a) (hy : 0 ≤ y ∧ y ≤ 65535) (K : Nat → xL → List xV → xH → Prop) (C : Nat → List xV → List xV → Prop) (Rt : Option xV → Prop) (Th : Nat → Prop) (z : Prop) : xop mi pc .castore lv (.inl y :: .inl x :: .inr (.inl (some a)) :: st) ph g K C Rt Th z = K (pc + 1) lv st (hUp ph a x.toNat y) := by
  obtain ⟨vs, q1, q2, q3⟩ := hSh_at hs (show hTg a < 104 by omega)
  have e : hUp ph a x.toNat y = ph.set a (hTg a, vs.set x.toNat (.inl y)) := by unfold hUp hPu; rw [q1]
  rw [e]
  simp only [xop, q1, ht]
  rw [if_pos ⟨trivial, h0, by omega, hy.1, hy.2⟩]
theorem hAast {v : Nat} (hs : hSh zs ph) (ht : hTg a = 103) (hv : hTg v = 6) (h0 : 0 ≤ x) (h1 : x < hSz a) (K : Nat → xL → List xV → xH → Prop) (C : Nat → List xV → List xV → Prop) (Rt : Option xV → Prop) (Th : Nat → Prop) (z : Prop) : xop mi pc .aastore lv (.inr (.inl (some v)) :: .inl x :: .inr (.inl (some a)) :: st) ph g K C Rt Th z = K (pc + 1) lv st (hUs ph a x.toNat v) := by
  obtain ⟨vs, q1, q2, q3⟩ := hSh_at hs (show hTg a < 104 by omega)
  obtain ⟨ws, w1, -⟩ := hSh_at hs (show hTg v < 104 by omega)
  have e : hUs ph a x.toNat v = ph.set a (hTg a, vs.set x.toNat (.inr (.inl (some v)))) := by unfold hUs hPu; rw [q1]
  rw [e]
  simp only [xop, q1, w1, ht, hv]
  rw [if_pos ⟨trivial, trivial, h0, by omega⟩]
theorem hSz_small {a : Nat} (h : hTg a < 104) : hSz a ≤ 16000 := by
  have h1 := hTg_all (fun a => decide (a = 0 ∨ hSz a ≤ 16000)) (by decide +kernel) (hTg_in h).2
  rcases of_decide_eq_true h1 with h2 | h2
  · exact absurd h2 (hTg_in h).1
  · exact h2
theorem hAlen (hs : hSh zs ph) (h1 : 100 ≤ hTg a) (h2 : hTg a < 104) (K : Nat → xL → List xV → xH → Prop) (C : Nat → List xV → List xV → Prop) (Rt : Option xV → Prop) (Th : Nat → Prop) (z : Prop) : xop mi pc .arraylength lv (.inr (.inl (some a)) :: st) ph g K C Rt Th z = K (pc + 1) lv (.inl (hSz a : Int) :: st) ph := by
  obtain ⟨vs, q1, q2, q3⟩ := hSh_at hs h2
  have h3 := hSz_small h2
  simp only [xop, q1]
  rw [if_pos ⟨h1, by omega⟩, q2]
theorem hSlen (hs : hSh zs ph) (hz : (zs.length : Int) ≤ 2147483647) (K : Nat → xL → List xV → xH → Prop) (C : Nat → List xV → List xV → Prop) (Rt : Option xV → Prop) (Th : Nat → Prop) (z : Prop) : xop mi pc .arraylength lv (.inr (.inl (some 0)) :: st) ph g K C Rt Th z = K (pc + 1) lv (.inl (zs.length : Int) :: st) ph := by
  simp only [xop, hs.2.1]
  rw [if_pos ⟨by decide, hz⟩]
theorem hSald {w : Int} (hs : hSh zs ph) (h0 : 0 ≤ x) (hw : zs[x.toNat]? = some (.inl w)) (K : Nat → xL → List xV → xH → Prop) (C : Nat → List xV → List xV → Prop) (Rt : Option xV → Prop) (Th : Nat → Prop) (z : Prop) : xop mi pc .iaload lv (.inl x :: .inr (.inl (some 0)) :: st) ph g K C Rt Th z = K (pc + 1) lv (.inl w :: st) ph := by
  simp only [xop, hs.2.1]
  rw [if_pos ⟨Or.inr trivial, h0⟩]
  simp only [hw]
theorem hAdd (h : xin (x + y)) (K : Nat → xL → List xV → xH → Prop) (C : Nat → List xV → List xV → Prop) (Rt : Option xV → Prop) (Th : Nat → Prop) (z : Prop) : xop mi pc .iadd lv (.inl y :: .inl x :: st) ph g K C Rt Th z = K (pc + 1) lv (.inl (x + y) :: st) ph := by
  simp only [xop]; rw [if_pos h]
theorem hSub (h : xin (x - y)) (K : Nat → xL → List xV → xH → Prop) (C : Nat → List xV → List xV → Prop) (Rt : Option xV → Prop) (Th : Nat → Prop) (z : Prop) : xop mi pc .isub lv (.inl y :: .inl x :: st) ph g K C Rt Th z = K (pc + 1) lv (.inl (x - y) :: st) ph := by
  simp only [xop]; rw [if_pos h]
theorem hMul (h : xin (x * y)) (K : Nat → xL → List xV → xH → Prop) (C : Nat → List xV → List xV → Prop) (Rt : Option xV → Prop) (Th : Nat → Prop) (z : Prop) : xop mi pc .imul lv (.inl y :: .inl x :: st) ph g K C Rt Th z = K (pc + 1) lv (.inl (x * y) :: st) ph := by
  simp only [xop]; rw [if_pos h]
theorem hDiv (h : 0 ≤ x ∧ 0 < y) (K : Nat → xL → List xV → xH → Prop) (C : Nat → List xV → List xV → Prop) (Rt : Option xV → Prop) (Th : Nat → Prop) (z : Prop) : xop mi pc .idiv lv (.inl y :: .inl x :: st) ph g K C Rt Th z = K (pc + 1) lv (.inl (x / y) :: st) ph := by
  simp only [xop]; rw [if_pos h]
theorem hRem (h : 0 ≤ x ∧ 0 < y) (K : Nat → xL → List xV → xH → Prop) (C : Nat → List xV → List xV → Prop) (Rt : Option xV → Prop) (Th : Nat → Prop) (z : Prop) : xop mi pc .irem lv (.inl y :: .inl x :: st) ph g K C Rt Th z = K (pc + 1) lv (.inl (x % y) :: st) ph := by
  simp only [xop]; rw [if_pos h]
theorem hI2c (h : 0 ≤ x ∧ x ≤ 65535) (K : Nat → xL → List xV → xH → Prop) (C : Nat → List xV → List xV → Prop) (Rt : Option xV → Prop) (Th : Nat → Prop) (z : Prop) : xop mi pc .i2c lv (.inl x :: st) ph g K C Rt Th z = K (pc + 1) lv (.inl x :: st) ph := by
  simp only [xop]; rw [if_pos h]
theorem hIinc {n : Int} (hl : lv k = some (.inl x)) (hm : k < xmaxL mi) (h : xin (x + n)) (K : Nat → xL → List xV → xH → Prop) (C : Nat → List xV → List xV → Prop) (Rt : Option xV → Prop) (Th : Nat → Prop) (z : Prop) : xop mi pc (.iinc k n) lv st ph g K C Rt Th z = K (pc + 3) (xset lv k (.inl (x + n))) st ph := by
  simp only [xop, hl]; rw [if_pos ⟨h, hm⟩]
theorem hStI {kf : Fin 4} {ls ls' : List (Option xV)} {v : xV} (hm : (kf : Nat) < xmaxL mi) (hl : ∀ j, xset (xlo ls) kf v j = xlo ls' j) : xset (xlo ls) kf v = xlo ls' := funext hl
end HST
