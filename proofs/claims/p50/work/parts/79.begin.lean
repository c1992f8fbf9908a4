/-! ===== the heap at the start ===== -/
def dv (a k : Nat) : xV := match hKd (hTg a) k with
  | 0 => .inl (ex0 a k)
  | 2 => .inr (.inl (hRf a k))
  | 3 => .inr (.inr (.inl 0))
  | 4 => .inr (.inl (some (93 + 9 * k)))
  | 5 => .inl (hCs a)
  | _ => .inl 0
def cel (a : Nat) : xC := (hTg a, (List.range (hSz a)).map (dv a))
def V0 (zs : List xV) : xH := (200, zs) :: (List.range 168).map (fun i => cel (i + 1))
theorem cvB_dv {sh a k : Nat} {v : xV} (h : cvB sh a k v = true) : v = rv (fun x => x + sh) (dv a k) := by
  unfold cvB at h
  unfold dv
  split at h
  · rename_i e; rw [e]
    split at h
    · rw [of_decide_eq_true h]; rfl
    · cases h
  · rename_i e; rw [e]
    split at h
    · rw [of_decide_eq_true h]; rfl
    · cases h
  · rename_i e; rw [e]
    split at h
    · rw [Nat.eq_of_beq_eq_true h]; rfl
    · cases h
  · rename_i e; rw [e]
    split at h
    · rw [of_decide_eq_true h]; rfl
    · cases h
  · rename_i e; rw [e]
    split at h
    · rw [of_decide_eq_true h]; rfl
    · cases h
  · cases h
theorem csB_spec {sh a : Nat} : ∀ (vs : List xV) (n : Nat), csB sh a vs n = true → n ≤ hSz a → vs.length = n ∧ ∀ (k : Nat) (v : xV), vs[k]? = some v → v = rv (fun x => x + sh) (dv a (hSz a - n + k)) := by
  intro vs
  induction vs with
  | nil =>
    intro n h hn
    cases n with
    | zero => exact ⟨rfl, fun k v hv => by simp at hv⟩
    | succ n => cases h
  | cons v vs ih =>
    intro n h hn
    cases n with
    | zero => cases h
    | succ n =>
      have h' : (cvB sh a (hSz a - (n + 1)) v && csB sh a vs n) = true := h
      rw [Bool.and_eq_true] at h'
      obtain ⟨i1, i2⟩ := ih n h'.2 (by omega)
      refine ⟨by simp [i1], fun k w hw => ?_⟩
      cases k with
      | zero =>
        have e : v = w := by simpa using hw
        subst e
        exact cvB_dv h'.1
      | succ k =>
        have e : vs[k]? = some w := by simpa using hw
        have i3 := i2 k w e
        rw [show hSz a - (n + 1) + (k + 1) = hSz a - n + k by omega]
        exact i3
theorem zIs_ok {b : Bool} {v : xV} (h : zIs b v = true) : v = .inl (bif b then -1 else 0) := by
  match v, h with
  | .inl (.ofNat m), h =>
    have h' : ((!b) && Nat.beq m 0) = true := h
    rw [Bool.and_eq_true] at h'
    cases b with
    | true => cases h'.1
    | false => rw [Nat.eq_of_beq_eq_true h'.2]; rfl
  | .inl (.negSucc m), h =>
    have h' : (b && Nat.beq m 0) = true := h
    rw [Bool.and_eq_true] at h'
    cases b with
    | false => cases h'.1
    | true => rw [Nat.eq_of_beq_eq_true h'.2]; rfl
  | .inr q, h => cases h
theorem csZ_spec {b : Bool} : ∀ (vs : List xV) (n : Nat), csZ b vs n = true → vs.length = n ∧ ∀ (k : Nat) (v : xV), vs[k]? = some v → v = .inl (bif b then -1 else 0) := by
  intro vs
  induction vs with
  | nil =>
    intro n h
    cases n with
    | zero => exact ⟨rfl, fun k v hv => by simp at hv⟩
    | succ n => cases h
  | cons v vs ih =>
    intro n h
    cases n with
    | zero => cases h
    | succ n =>
      have h' : (zIs b v && csZ b vs n) = true := h
      rw [Bool.and_eq_true] at h'
      obtain ⟨i1, i2⟩ := ih n h'.2
      refine ⟨by simp [i1], fun k w hw => ?_⟩
      cases k with
      | zero =>
        have e : v = w := by simpa using hw
        subst e
        exact zIs_ok h'.1
      | succ k =>
        have e : vs[k]? = some w := by simpa using hw
        exact i2 k w e
theorem isZ_dv {sh a k : Nat} (h : isZ a = true) : (.inl (bif mN a then -1 else 0) : xV) = rv (fun x => x + sh) (dv a k) := by
  unfold isZ at h
  rw [Bool.or_eq_true, Bool.and_eq_true] at h
  unfold dv
  rcases h with h1 | ⟨h1, h2⟩
  · rw [Nat.eq_of_beq_eq_true h1]
    rfl
  · have hm : mN a = false := by
      cases hm : mN a with
      | false => rfl
      | true => rw [hm] at h2; cases h2
    rw [Nat.eq_of_beq_eq_true h1, hm]
    rfl
theorem ceB_spec {sh a : Nat} {c : xC} (h : ceB sh a c = true) : c = rC (fun x => x + sh) (cel a) := by
  unfold ceB at h
  rw [Bool.and_eq_true] at h
  obtain ⟨h1, h2⟩ := h
  have key : c.2.length = hSz a ∧ ∀ (k : Nat) (v : xV), c.2[k]? = some v → v = rv (fun x => x + sh) (dv a k) := by
    cases hz : isZ a with
    | true =>
      rw [hz] at h2
      obtain ⟨q1, q2⟩ := csZ_spec _ _ h2
      exact ⟨q1, fun k v hv => by rw [q2 k v hv]; exact isZ_dv hz⟩
    | false =>
      rw [hz] at h2
      obtain ⟨q1, q2⟩ := csB_spec _ _ h2 (Nat.le_refl _)
      refine ⟨q1, fun k v hv => ?_⟩
      have q3 := q2 k v hv
      rw [show hSz a - hSz a + k = k by omega] at q3
      exact q3
  obtain ⟨t, vs⟩ := c
  have e1 : t = hTg a := Nat.eq_of_beq_eq_true h1
  have e2 : vs = ((List.range (hSz a)).map (dv a)).map (rv (fun x => x + sh)) := by
    obtain ⟨k1, k2⟩ := key
    have k1 : vs.length = hSz a := k1
    apply List.ext_getElem?
    intro k
    rw [List.getElem?_map, List.getElem?_map]
    by_cases hk : k < hSz a
    · have hv : vs[k]? = some vs[k] := List.getElem?_eq_getElem (by omega)
      have hr : (List.range (hSz a))[k]? = some k := by rw [List.getElem?_range hk]
      rw [hv, hr, k2 k _ hv]
      rfl
    · rw [List.getElem?_eq_none (by omega), List.getElem?_eq_none (by rw [List.length_range]; omega)]
      rfl
  rw [e1, e2]
  rfl
theorem hpB_spec : ∀ (cs : List xC) (i : Nat), hpB cs i = true → cs.length + i = 293 ∧ ∀ (j : Nat) (c : xC), cs[j]? = some c → (i + j ≤ 146 → c = cel (i + j)) ∧ (146 < i + j → c = rC (fun x => x + 146) (cel (i + j - 146))) := by
  intro cs
  induction cs with
  | nil =>
    intro i h
    have h' : Nat.beq i 293 = true := h
    have e := Nat.eq_of_beq_eq_true h'
    refine ⟨by simp [e], fun j c hc => by simp at hc⟩
  | cons c cs ih =>
    intro i h
    have h' : ((bif Nat.ble i 146 then ceB 0 i c else ceB 146 (i - 146) c) && hpB cs (i + 1)) = true := h
    rw [Bool.and_eq_true] at h'
    obtain ⟨i1, i2⟩ := ih (i + 1) h'.2
    refine ⟨by simp only [List.length_cons]; omega, fun j w hw => ?_⟩
    cases j with
    | zero =>
      have e : c = w := by simpa using hw
      subst e
      have h2 := h'.1
      refine ⟨fun q => ?_, fun q => ?_⟩
      · rw [show Nat.ble i 146 = true from Nat.ble_eq_true_of_le q] at h2
        exact (ceB_spec h2).trans (rC_id _)
      · cases hb : Nat.ble i 146 with
        | true => exact absurd (Nat.le_of_ble_eq_true hb) (by omega)
        | false =>
          rw [hb] at h2
          exact ceB_spec h2
    | succ j =>
      have e : cs[j]? = some w := by simpa using hw
      have i3 := i2 j w e
      rw [show i + (j + 1) = i + 1 + j by omega]
      exact i3
def okI (ph : xH) : Prop := ph.length = 293 ∧ ph[0]? = some (99, []) ∧ (∀ a, 1 ≤ a → a ≤ 146 → ph[a]? = some (cel a)) ∧ ∀ a, 1 ≤ a → a ≤ 146 → ph[a + 146]? = some (rC (fun x => x + 146) (cel a))
theorem ini_ok : ∃ ph1 ph : xH, ini1 = some (.inl none, ph1, 0) ∧ ph1.length = 147 ∧ yr 100000 1999 81 0 (xent [.inr (.inl (some 147))]) [] (ph1 ++ [(9, xdf 9)]) = some (.inl none, ph, 0) ∧ okI ph := by
  have h := iniB_ok
  unfold iniB at h
  split at h
  · rename_i ph1 h1
    rw [Bool.and_eq_true] at h
    obtain ⟨h2, h3⟩ := h
    split at h3
    · rename_i c cs h4
      rw [Bool.and_eq_true, Bool.and_eq_true] at h3
      obtain ⟨h5, h6, h7⟩ := h3
      obtain ⟨i1, i2⟩ := hpB_spec cs 1 h7
      have ec : c = (99, []) := by
        obtain ⟨t, vs⟩ := c
        have e1 : t = 99 := Nat.eq_of_beq_eq_true h5
        have e2 : vs = [] := List.isEmpty_iff.mp h6
        rw [e1, e2]
      have at_ : ∀ a, 1 ≤ a → a ≤ 292 → ∃ w, (c :: cs)[a]? = some w ∧ cs[a - 1]? = some w := by
        intro a ha ha2
        obtain ⟨i, rfl⟩ : ∃ i, a = i + 1 := ⟨a - 1, by omega⟩
        have hi : i < cs.length := by omega
        exact ⟨cs[i], by rw [List.getElem?_cons_succ, List.getElem?_eq_getElem hi], by rw [Nat.add_sub_cancel, List.getElem?_eq_getElem hi]⟩
      refine ⟨ph1, c :: cs, h1, Nat.eq_of_beq_eq_true h2, h4, by simp only [List.length_cons]; omega, by rw [ec]; rfl, fun a ha ha2 => ?_, fun a ha ha2 => ?_⟩
      · obtain ⟨w, w1, w2⟩ := at_ a ha (by omega)
        have q := (i2 (a - 1) w w2).1 (by omega)
        rw [show 1 + (a - 1) = a by omega] at q
        rw [w1, q]
      · obtain ⟨w, w1, w2⟩ := at_ (a + 146) (by omega) (by omega)
        have q := (i2 (a + 146 - 1) w w2).2 (by omega)
        rw [show 1 + (a + 146 - 1) - 146 = a by omega] at q
        rw [w1, q]
    · cases h3
  · cases h
section VZ
variable {zs : List xV} {ph : xH}
theorem V0_len : (V0 zs).length = 169 := by simp [V0]
theorem V0_at {a : Nat} (h1 : 1 ≤ a) (h2 : a ≤ 168) : (V0 zs)[a]? = some (cel a) := by
  obtain ⟨i, rfl⟩ : ∃ i, a = i + 1 := ⟨a - 1, by omega⟩
  unfold V0
  rw [List.getElem?_cons_succ, List.getElem?_map, List.getElem?_range (by omega)]
  rfl
theorem lay_ini (h : okI ph) : ph.set 0 (200, zs) ++ [(100, [.inl 0])] = lay zs (V0 zs) (V0 zs) 0 := by
  have hl : (ph.set 0 (200, zs)).length = 293 := by rw [List.length_set]; exact h.1
  have hr := lay_len (zs := zs) (po := V0 zs) (pp := V0 zs) (x := 0) V0_len V0_len
  apply List.ext_getElem?
  intro j
  by_cases h0 : j = 0
  · subst h0
    rw [List.getElem?_append_left (by omega), List.getElem?_set_self (by rw [h.1]; decide)]
    rfl
  · by_cases h1 : j ≤ 146
    · rw [List.getElem?_append_left (by omega), List.getElem?_set_ne (Ne.symm h0), h.2.2.1 j (by omega) h1, lay_o V0_len (by omega) h1, V0_at (by omega) (by omega)]
    · by_cases h2 : j ≤ 292
      · obtain ⟨a, rfl⟩ : ∃ a, j = a + 146 := ⟨j - 146, by omega⟩
        rw [List.getElem?_append_left (by omega), List.getElem?_set_ne (Ne.symm h0), h.2.2.2 a (by omega) (by omega), lay_p V0_len V0_len (by omega) (by omega), V0_at (by omega) (by omega)]
        rfl
      · by_cases h3 : j = 293
        · subst h3
          rw [List.getElem?_append_right (by omega), hl, lay_x V0_len V0_len]
          rfl
        · rw [List.getElem?_eq_none (by rw [List.length_append, hl]; simp only [List.length_cons, List.length_nil]; omega), List.getElem?_eq_none (by omega)]
theorem kd_all : (List.range 169).all (fun a => Nat.beq a 0 || Nat.ble 100 (hTg a) || (List.range (hSz a)).all (fun k => [0, 2, 3, 5].any (Nat.beq (hKd (hTg a) k)))) = true := by decide +kernel
theorem tg_all : (List.range 169).all (fun a => Nat.beq a 0 || Nat.blt (hTg a) 104) = true := by decide +kernel
theorem dv_ok {a k : Nat} (h1 : 1 ≤ a) (h2 : a ≤ 168) (hk : k < hSz a) : hOk a k (dv a k) := by
  have ht := List.all_eq_true.mp tg_all a (List.mem_range.mpr (by omega))
  rw [Bool.or_eq_true] at ht
  have ht : hTg a < 104 := by
    rcases ht with ht | ht
    · have := Nat.eq_of_beq_eq_true ht; omega
    · exact Nat.le_of_ble_eq_true ht
  unfold hOk dv
  by_cases h100 : hTg a < 100
  · have h3 := List.all_eq_true.mp kd_all a (List.mem_range.mpr (by omega))
    rw [Bool.or_eq_true, Bool.or_eq_true] at h3
    rcases h3 with (h3 | h3) | h3
    · have := Nat.eq_of_beq_eq_true h3; omega
    · have := Nat.le_of_ble_eq_true h3; omega
    · have h4 := List.all_eq_true.mp h3 k (List.mem_range.mpr hk)
      rw [List.any_eq_true] at h4
      obtain ⟨q, hq, hq2⟩ := h4
      have e := Nat.eq_of_beq_eq_true hq2
      simp only [List.mem_cons, List.not_mem_nil, or_false] at hq
      rcases hq with rfl | rfl | rfl | rfl
      · rw [e]; exact ⟨_, rfl⟩
      · rw [e]; rfl
      · rw [e]; exact ⟨_, rfl⟩
      · rw [e]; rfl
  · rcases (by omega : hTg a = 100 ∨ hTg a = 101 ∨ hTg a = 102 ∨ hTg a = 103) with e | e | e | e
    · rw [e]; exact ⟨_, rfl⟩
    · rw [e]; exact ⟨0, rfl, by decide, by decide⟩
    · rw [e]; exact ⟨_, rfl⟩
    · have h92 : a = 92 := of_decide_eq_true (hTg_all (fun a => decide (hTg a = 103 → a = 92)) (by decide +kernel) (by omega : a < 169)) e
      subst h92
      have z : hSz 92 = 6 := by decide +kernel
      rw [e]
      refine ⟨_, rfl, ?_⟩
      have : ∀ k, k < 6 → hTg (93 + 9 * k) = 6 := by decide
      exact this k (by omega)
theorem V0_sh : hSh zs (V0 zs) := by
  refine ⟨V0_len, rfl, fun a h0 h1 => ⟨(cel a).2, V0_at (by omega) (by omega), by simp [cel], fun k v hv => ?_⟩⟩
  have hk : k < hSz a := by
    have := (List.getElem?_eq_some_iff.mp hv).1
    simpa [cel] using this
  have e : (cel a).2[k]? = some (dv a k) := by
    show ((List.range (hSz a)).map (dv a))[k]? = _
    rw [List.getElem?_map, List.getElem?_range hk]
    rfl
  rw [e] at hv
  cases hv
  exact dv_ok (by omega) (by omega) hk
theorem cel_at {a k : Nat} (hk : k < hSz a) : (cel a).2[k]? = some (dv a k) := by
  show ((List.range (hSz a)).map (dv a))[k]? = _
  rw [List.getElem?_map, List.getElem?_range hk]
  rfl
theorem mN_101 {a : Nat} (ha : a < 169) (h : hTg a = 101) : mN a = false := by
  have h1 := hTg_all (fun a => decide (hTg a = 101 → mN a = false)) (by decide +kernel) ha
  exact of_decide_eq_true h1 h
theorem hKd_6 {t k : Nat} (h : hKd t k = 6) (ht : t < 104) : t = 101 := by
  have h9 : ∀ t, t < 100 → ∀ q ∈ hKdT[t]?.getD [], q ≠ 6 := by decide
  by_cases h1 : t = 101
  · exact h1
  · exfalso
    by_cases h100 : t < 100
    · unfold hKd at h
      split at h
      · omega
      · omega
      · omega
      · omega
      · split at h
        · rename_i l hl
          split at h
          · rename_i q hq
            have := h9 t h100
            rw [hl] at this
            exact this q (List.mem_of_getElem? hq) h
          · cases h
        · cases h
    · rcases (by omega : t = 100 ∨ t = 102 ∨ t = 103) with rfl | rfl | rfl <;> (simp only [hKd] at h; cases h)
theorem rdI {a k : Nat} (hk : hKi (hTg a) k = true) (hz : k < hSz a) : hRd (V0 zs) a k = ex0 a k := by
  have ht := hKd_lt (hKi_ne hk)
  have ha := hTg_in ht
  unfold hRd
  rw [V0_at (by omega) (by omega)]
  simp only [cel_at hz]
  unfold hKi at hk
  rw [Bool.or_eq_true] at hk
  rcases hk with hk | hk
  · have e := Nat.eq_of_beq_eq_true hk
    unfold dv
    rw [e]
    rfl
  · have e := Nat.eq_of_beq_eq_true hk
    have e2 := mN_101 ha.2 (hKd_6 e ht)
    unfold dv
    rw [e]
    show (0 : Int) = ex0 a k
    unfold ex0
    rw [e2]
    rfl
theorem rd0 {a k : Nat} (hk : hKi (hTg a) k = true) (hz : k < hSz a) (e : ex0 a k = 0) : hRd (V0 zs) a k = 0 := (rdI hk hz).trans e
theorem rsI {k : Nat} (hz : k < 6) : hRs (V0 zs) 92 k = 93 + 9 * k := by
  have z : hSz 92 = 6 := by decide +kernel
  unfold hRs
  rw [V0_at (by decide) (by decide)]
  simp only [cel_at (a := 92) (k := k) (by omega)]
  rfl
theorem ex0_b (a k : Nat) : -1 ≤ ex0 a k ∧ ex0 a k ≤ 0 := by
  unfold ex0
  cases mN a
  · decide
  · decide
theorem hki_100 {a : Nat} (h : hTg a = 100) (k : Nat) : hKi (hTg a) k = true := by rw [h]; rfl
theorem twI {t : Nat} (ht : hTg t = 8) : hTW (V0 zs) t := by
  intro r hr
  rw [rdI (hki_100 (htg_8_2 ht) r) hr]
  have := ex0_b (t + 2) r
  omega
theorem toN {t r : Nat} (ht : hTg t = 8) (hr : r < hRw t) (hm : mN (t + 2) = true) : hTo (V0 zs) t r = none := by
  unfold hTo
  have e : ex0 (t + 2) r = -1 := by unfold ex0; rw [hm]; rfl
  rw [rdI (hki_100 (htg_8_2 ht) r) hr, e]
  rfl
theorem toE {t r : Nat} (ht : hTg t = 8) (hr : r < hRw t) (e : ex0 (t + 2) r = 0) : hTo (V0 zs) t r = some [] := by
  unfold hTo hTx
  rw [rdI (hki_100 (htg_8_2 ht) r) hr, e]
  rfl
def st0 : SS := (fun _ => none, ([], 0, [], 0, 0, 0, 0), 0, 0, 0)
theorem stI : hSt (V0 zs) 73 st0 := by
  refine ⟨twI rfl, fun n hn => toN rfl hn rfl, ⟨twI rfl, toE rfl (by decide) (by decide), rd0 (by decide) (by decide) (by decide), by decide, fun k x hk => (by cases hk), rd0 (by decide) (by decide) (by decide), rd0 (by decide) (by decide) (by decide), rd0 (by decide) (by decide) (by decide), rd0 (by decide) (by decide) (by decide), rd0 (by decide) (by decide) (by decide)⟩, rd0 (by decide) (by decide) (by decide), rd0 (by decide) (by decide) (by decide), rd0 (by decide) (by decide) (by decide)⟩
theorem hiI : hHi (V0 zs) [] := by
  have hp : ∀ k, k < 6 → hTg (93 + 9 * k) = 6 ∧ 93 + 9 * k ≠ 73 ∧ 93 + 9 * k ≠ 82 ∧ hTg (93 + 9 * k + 1) = 8 ∧ hTg (93 + 9 * k + 5) = 8 := by decide
  refine ⟨fun k => 93 + 9 * k, rd0 (by decide) (by decide) (by decide), by decide, fun k hk => ?_, fun j k hj hk e => ?_, fun k st hk => by cases hk⟩
  · obtain ⟨p1, p2, p3, p4, p5⟩ := hp k hk
    exact ⟨p1, p2, p3, rsI hk, twI p4, twI p5⟩
  · have e' : 93 + 9 * j = 93 + 9 * k := e
    omega
theorem klI : hKl zs (V0 zs) ([], st0, none, []) :=
  ⟨V0_sh, ⟨twI rfl, toE rfl (by decide) (by decide)⟩, ⟨twI rfl, twI rfl, twI rfl, twI rfl, twI rfl⟩, stI, ⟨twI rfl, twI rfl⟩, rd0 (by decide) (by decide) (by decide), fun st hst => (by cases hst), hiI⟩
end VZ
/-! ===== the law from its beginning ===== -/
theorem hSh_map {zs : List xV} {V : xH} (hs : hSh zs V) : V.map (fun c => c.2.length) = zs.length :: hSzT.tail := by
  have e : hSzT = 3 :: hSzT.tail := rfl
  have l : hSzT.length = 169 := by decide +kernel
  apply List.ext_getElem?
  intro i
  rw [List.getElem?_map]
  cases i with
  | zero => rw [hs.2.1]; rfl
  | succ i =>
    rw [List.getElem?_cons_succ]
    by_cases hi : i + 1 < 169
    · obtain ⟨vs, h1, h2, -⟩ := hs.2.2 (i + 1) (by omega) hi
      rw [h1]
      show some vs.length = _
      have e1 : hSzT[i + 1]? = some hSzT[i + 1] := List.getElem?_eq_getElem (by omega)
      have e2 : hSz (i + 1) = hSzT[i + 1] := by unfold hSz; rw [e1]
      have e3 : hSzT[i + 1]? = hSzT.tail[i]? := by
        have := congrArg (fun l : List Nat => l[i + 1]?) e
        rw [List.getElem?_cons_succ] at this
        exact this
      rw [h2, e2, ← e3, e1]
    · have e3 : hSzT.tail.length = 168 := by rw [List.length_tail]; omega
      have e4 : V[i + 1]? = none := List.getElem?_eq_none (by rw [hs.1]; omega)
      have e5 : hSzT.tail[i]? = none := List.getElem?_eq_none (by omega)
      rw [e4, e5]
      rfl
theorem tk_sl {zs : List xV} {V : xH} (hs : hSh zs V) : xsl ((V.drop 1).take 146) ≤ 50000 := by
  unfold xsl
  rw [List.map_take, List.map_drop, hSh_map hs, List.drop_one, List.tail_cons]
  decide +kernel
theorem rC_sl (f : Nat → Nat) (l : xH) : xsl (l.map (rC f)) = xsl l := by
  unfold xsl
  rw [List.map_map]
  congr 1
  apply List.map_congr_left
  intro c _
  show (c.2.map (rv f)).length = c.2.length
  rw [List.length_map]
theorem hPP_sl {zs : List xV} {R : xH} {s : KS × KS} {x : Int} (h : hPP zs R s x) : R.length = 294 ∧ xsl R ≤ zs.length + 100001 := by
  obtain ⟨po, pp, rfl, ko, kp⟩ := h
  refine ⟨lay_len ko.1.1 kp.1.1, ?_⟩
  have h1 := tk_sl ko.1
  have h2 := tk_sl kp.1
  have h3 := rC_sl (fun a => a + 146) ((pp.drop 1).take 146)
  unfold lay
  unfold xsl at h1 h2 h3 ⊢
  rw [List.map_cons, List.sum_cons, List.map_append, List.sum_append, List.map_append, List.sum_append]
  have h4 : (([(100, [.inl x])] : xH).map (fun c => c.2.length)).sum = 1 := rfl
  show zs.length + ((((po.drop 1).take 146).map (fun c => c.2.length)).sum + (((((pp.drop 1).take 146).map (rC (fun a => a + 146))).map (fun c => c.2.length)).sum + (([(100, [.inl x])] : xH).map (fun c => c.2.length)).sum)) ≤ zs.length + 100001
  omega
theorem law_run {zs : List xV} (hzi : ∀ v ∈ zs, ∃ x : Int, v = .inl x ∧ xin x) (hz : zs.length ≤ 260) : xT 2000 147 0 (xent [.inr (.inl (some 0))]) [] [(200, zs)] 0 (fun r => r.1 = .inl (some (.inl 1)) ∧ (r.2.1.length = 294 ∧ xsl r.2.1 ≤ zs.length + 100001) ∧ r.2.2 ≤ 400) := by
  obtain ⟨ph1, ph, e1, l1, e2, hI⟩ := ini_ok
  unfold ini1 at e1
  obtain ⟨n1, r1, x1, y1⟩ := yr_ok _ _ _ _ _ _ _ _ e1
  obtain ⟨n2, r2, x2, y2⟩ := yr_ok _ _ _ _ _ _ _ _ e2
  subst y1
  subst y2
  have f1 := xr_any (c0 := (200, zs)) n1 1999 81 0 _ _ _ _ _ rfl x1
  have f2 := xr_any (c0 := (200, zs)) n2 1999 81 0 _ _ _ _ _ (by rw [List.getElem?_append_left (by omega)]; exact f1.2) x2
  have f3 : xr n2 1999 81 0 (xent [.inr (.inl (some 147))]) [] (ph1.set 0 (200, zs) ++ [(9, xdf 9)]) 0 = some (.inl none, ph.set 0 (200, zs), 0) := by
    have h := f2.1
    rw [List.set_append_left _ _ (by omega)] at h
    exact h
  have l2 : (ph1.set 0 (200, zs)).length = 147 := by rw [List.length_set]; exact l1
  have l3 : (ph.set 0 (200, zs)).length = 293 := by rw [List.length_set]; exact hI.1
  show xTC 2000 147 [.inr (.inl (some 0))] [(200, zs)] 0 _
  refine tEn (ls := [some (.inr (.inl (some 0))), none, none, none, none, none, none, none, none, none]) (fun k => by match k with | 0 => rfl | 1 => rfl | 2 => rfl | 3 => rfl | 4 => rfl | 5 => rfl | 6 => rfl | 7 => rfl | 8 => rfl | 9 => rfl | k + 10 => rfl) ?_
  refine tK (l := xk_147) (lv' := xlo _) (st' := [.inr (.inl (some 1))]) (ph' := [(200, zs), (9, xdf 9)]) rfl rfl (fun _ _ _ _ _ => rfl) ?_
  refine tK (l := xk_147) rfl rfl (fun _ _ _ _ _ => rfl) ?_
  refine tCa (mi' := 81) (as := [.inr (.inl (some 1))]) (rest := [.inr (.inl (some 1))]) (l := xk_147) rfl rfl (fun _ _ _ _ _ => rfl) ?_
  refine ⟨n1, _, f1.1, tKn ?_⟩
  refine tSt (l := xk_147) rfl rfl (fun _ _ _ _ _ => rfl) (Nat.le_of_ble_eq_true rfl) ?_
  refine tK (l := xk_147) (lv' := xlo _) (st' := [.inr (.inl (some (ph1.set 0 (200, zs)).length))]) (ph' := ph1.set 0 (200, zs) ++ [(9, xdf 9)]) rfl rfl (fun _ _ _ _ _ => rfl) ?_
  rw [l2]
  refine tK (l := xk_147) rfl rfl (fun _ _ _ _ _ => rfl) ?_
  refine tCa (mi' := 81) (as := [.inr (.inl (some 147))]) (rest := [.inr (.inl (some 147))]) (l := xk_147) rfl rfl (fun _ _ _ _ _ => rfl) ?_
  refine ⟨n2, _, f3, tKn ?_⟩
  refine tSt (l := xk_147) rfl rfl (fun _ _ _ _ _ => rfl) (Nat.le_of_ble_eq_true rfl) ?_
  refine tK (l := xk_147) rfl rfl (fun _ _ _ _ _ => rfl) ?_
  refine tK (l := xk_147) (lv' := xlo _) (st' := [.inr (.inl (some (ph.set 0 (200, zs)).length))]) (ph' := ph.set 0 (200, zs) ++ [(100, [.inl 0])]) rfl rfl (fun _ _ _ _ _ => rfl) ?_
  rw [l3, lay_ini hI]
  refine tSt (l := xk_147) rfl rfl (fun _ _ _ _ _ => rfl) (Nat.le_of_ble_eq_true rfl) ?_
  refine tK (l := xk_147) rfl rfl (fun _ _ _ _ _ => rfl) ?_
  refine tSt (l := xk_147) rfl rfl (fun _ _ _ _ _ => rfl) (Nat.le_of_ble_eq_true rfl) ?_
  have ok0 : okK 0 ([], st0, none, []) := ⟨⟨fun c h => (by cases h), by decide⟩, okT_0, fun st h => (by cases h), by decide⟩
  exact kLw (d := 770) hz hzi (fun R g s x hR hg => ⟨rfl, hPP_sl hR, hg⟩) 60 0 _ 0 0 [] st0 [] [] none none none none none (by decide) (by decide) (by decide) ok0 ok0 ⟨V0 zs, V0 zs, rfl, klI, klI⟩
