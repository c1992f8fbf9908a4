/-! ===== the heap at the start ===== -/
theorem csB_spec {a : Nat} : ∀ (vs : List xV) (n : Nat), csB a vs n = true → n ≤ hSz a → vs.length = n ∧ ∀ (k : Nat) (v : xV), vs[k]? = some v → cvB a (hSz a - n + k) v = true := by
  intro vs
  induction vs with
  | nil =>
    intro n h hn
    cases n with
    | zero => exact ⟨rfl, fun k v hv => by simp at hv⟩
    | succ n => cases h
  | cons v vs ih =>
    intro n h hn
    cases n with
    | zero => cases h
    | succ n =>
      have h' : (cvB a (hSz a - (n + 1)) v && csB a vs n) = true := h
      rw [Bool.and_eq_true] at h'
      obtain ⟨i1, i2⟩ := ih n h'.2 (by omega)
      refine ⟨by simp [i1], fun k w hw => ?_⟩
      cases k with
      | zero =>
        have e : v = w := by simpa using hw
        subst e
        exact h'.1
      | succ k =>
        have e : vs[k]? = some w := by simpa using hw
        have i3 := i2 k w e
        rw [show hSz a - (n + 1) + (k + 1) = hSz a - n + k by omega]
        exact i3
theorem zIs_ok {b : Bool} {v : xV} (h : zIs b v = true) : v = .inl (bif b then -1 else 0) := by
  match v, h with
  | .inl (.ofNat m), h =>
    have h' : ((!b) && Nat.beq m 0) = true := h
    rw [Bool.and_eq_true] at h'
    cases b with
    | true => cases h'.1
    | false => rw [Nat.eq_of_beq_eq_true h'.2]; rfl
  | .inl (.negSucc m), h =>
    have h' : (b && Nat.beq m 0) = true := h
    rw [Bool.and_eq_true] at h'
    cases b with
    | false => cases h'.1
    | true => rw [Nat.eq_of_beq_eq_true h'.2]; rfl
  | .inr q, h => cases h
theorem csZ_spec {b : Bool} : ∀ (vs : List xV) (n : Nat), csZ b vs n = true → vs.length = n ∧ ∀ (k : Nat) (v : xV), vs[k]? = some v → v = .inl (bif b then -1 else 0) := by
  intro vs
  induction vs with
  | nil =>
    intro n h
    cases n with
    | zero => exact ⟨rfl, fun k v hv => by simp at hv⟩
    | succ n => cases h
  | cons v vs ih =>
    intro n h
    cases n with
    | zero => cases h
    | succ n =>
      have h' : (zIs b v && csZ b vs n) = true := h
      rw [Bool.and_eq_true] at h'
      obtain ⟨i1, i2⟩ := ih n h'.2
      refine ⟨by simp [i1], fun k w hw => ?_⟩
      cases k with
      | zero =>
        have e : v = w := by simpa using hw
        subst e
        exact zIs_ok h'.1
      | succ k =>
        have e : vs[k]? = some w := by simpa using hw
        exact i2 k w e
theorem isZ_cv {a k : Nat} (h : isZ a = true) : cvB a k (.inl (bif mN a then -1 else 0)) = true := by
  unfold isZ at h
  rw [Bool.or_eq_true, Bool.and_eq_true, Bool.and_eq_true] at h
  rcases h with ⟨h1, h2⟩ | ⟨h1, h2⟩
  · have ht := Nat.eq_of_beq_eq_true h1
    have hb : Nat.beq a 148 = false := by
      cases hb : Nat.beq a 148 with
      | false => rfl
      | true => rw [hb] at h2; cases h2
    unfold cvB
    rw [ht]
    show decide ((bif mN a then (-1 : Int) else 0) = ex0 a k) = true
    unfold ex0
    rw [hb]
    cases mN a <;> rfl
  · have ht := Nat.eq_of_beq_eq_true h1
    have hm : mN a = false := by
      cases hm : mN a with
      | false => rfl
      | true => rw [hm] at h2; cases h2
    have hb : Nat.beq a 148 = false := by
      cases hb : Nat.beq a 148 with
      | false => rfl
      | true =>
        exfalso
        rw [Nat.eq_of_beq_eq_true hb] at ht
        exact absurd ht (by decide)
    unfold cvB
    rw [ht]
    show (decide ((bif mN a then (-1 : Int) else 0) = ex0 a k) && decide ((bif mN a then (-1 : Int) else 0) = 0)) = true
    unfold ex0
    rw [hb, hm]
    rfl
theorem hpB_spec : ∀ (cs : List xC) (a : Nat), hpB cs a = true → cs.length + a = 168 ∧ ∀ (i : Nat) (c : xC), cs[i]? = some c → c.1 = hTg (a + i) ∧ c.2.length = hSz (a + i) ∧ ∀ (k : Nat) (v : xV), c.2[k]? = some v → cvB (a + i) k v = true := by
  intro cs
  induction cs with
  | nil =>
    intro a h
    have h' : Nat.beq a 168 = true := h
    have e := Nat.eq_of_beq_eq_true h'
    refine ⟨by simp [e], fun i c hc => by simp at hc⟩
  | cons c cs ih =>
    intro a h
    have h' : (Nat.beq c.1 (hTg a) && ((bif isZ a then csZ (mN a) c.2 (hSz a) else csB a c.2 (hSz a)) && hpB cs (a + 1))) = true := h
    rw [Bool.and_eq_true, Bool.and_eq_true] at h'
    obtain ⟨i1, i2⟩ := ih (a + 1) h'.2.2
    refine ⟨by simp only [List.length_cons]; omega, fun i w hw => ?_⟩
    cases i with
    | zero =>
      have e : c = w := by simpa using hw
      subst e
      have h2 := h'.2.1
      refine ⟨Nat.eq_of_beq_eq_true h'.1, ?_⟩
      cases hz : isZ a with
      | true =>
        rw [hz] at h2
        obtain ⟨q1, q2⟩ := csZ_spec _ _ h2
        exact ⟨q1, fun k v hv => by rw [q2 k v hv]; exact isZ_cv hz⟩
      | false =>
        rw [hz] at h2
        obtain ⟨q1, q2⟩ := csB_spec _ _ h2 (Nat.le_refl _)
        refine ⟨q1, fun k v hv => ?_⟩
        have q3 := q2 k v hv
        rw [show hSz a - hSz a + k = k by omega] at q3
        exact q3
    | succ i =>
      have e : cs[i]? = some w := by simpa using hw
      have i3 := i2 i w e
      rw [show a + (i + 1) = a + 1 + i by omega]
      exact i3
def okI (ph : xH) : Prop := ph.length = 168 ∧ ph[0]? = some (99, []) ∧ ∀ a, a ≠ 0 → a < 168 → ∃ vs, ph[a]? = some (hTg a, vs) ∧ vs.length = hSz a ∧ ∀ (k : Nat) (v : xV), vs[k]? = some v → cvB a k v = true
theorem ini_ok : ∃ ph1 ph : xH, ini1 = some (.inl none, ph1, 0) ∧ ph1.length = 147 ∧ yr 100000 1999 143 0 (xent [.inr (.inl (some 147))]) [] (ph1 ++ [(10, xdf 10)]) = some (.inl none, ph, 0) ∧ okI ph := by
  have h := iniB_ok
  unfold iniB at h
  split at h
  · rename_i ph1 h1
    rw [Bool.and_eq_true] at h
    obtain ⟨h2, h3⟩ := h
    split at h3
    · rename_i c cs h4
      rw [Bool.and_eq_true, Bool.and_eq_true] at h3
      obtain ⟨h5, h6, h7⟩ := h3
      obtain ⟨i1, i2⟩ := hpB_spec cs 1 h7
      have ec : c = (99, []) := by
        obtain ⟨t, vs⟩ := c
        have e1 : t = 99 := Nat.eq_of_beq_eq_true h5
        have e2 : vs = [] := List.isEmpty_iff.mp h6
        rw [e1, e2]
      refine ⟨ph1, c :: cs, h1, Nat.eq_of_beq_eq_true h2, h4, by simp only [List.length_cons]; omega, by rw [ec]; rfl, fun a ha ha2 => ?_⟩
      obtain ⟨i, rfl⟩ : ∃ i, a = i + 1 := ⟨a - 1, by omega⟩
      have hi : i < cs.length := by omega
      obtain ⟨q1, q3, q4⟩ := i2 i cs[i] (List.getElem?_eq_getElem hi)
      rw [show 1 + i = i + 1 by omega] at q1 q3 q4
      refine ⟨cs[i].2, ?_, q3, q4⟩
      rw [List.getElem?_cons_succ, List.getElem?_eq_getElem hi, ← q1]
    · cases h3
  · cases h
theorem cvB_ok {a k : Nat} {v : xV} (h : cvB a k v = true) : hOk a k v := by
  unfold cvB at h
  unfold hOk
  split at h
  · rename_i e; rw [e]
    split at h
    · exact ⟨_, rfl⟩
    · cases h
  · rename_i e; rw [e]
    split at h
    · rename_i o
      have e2 := of_decide_eq_true h
      show (.inr (.inl o) : xV) = .inr (.inl (hRf a k))
      rw [e2]
    · cases h
  · rename_i e; rw [e]
    split at h
    · exact ⟨_, rfl⟩
    · cases h
  · rename_i e; rw [e]
    split at h
    · rw [Bool.and_eq_true] at h
      exact ⟨_, rfl, Nat.eq_of_beq_eq_true h.2⟩
    · cases h
  · rename_i e; rw [e]
    split at h
    · rename_i x
      have e2 := of_decide_eq_true h
      show (.inl x : xV) = .inl (hCs a)
      rw [e2]
    · cases h
  · rename_i e; rw [e]
    split at h
    · rename_i x
      rw [Bool.and_eq_true] at h
      have e2 := of_decide_eq_true h.2
      exact ⟨x, rfl, by omega, by omega⟩
    · cases h
  · cases h
theorem cvB_int {a k : Nat} {v : xV} (hk : hKi (hTg a) k = true) (h : cvB a k v = true) : v = .inl (ex0 a k) := by
  unfold hKi at hk
  rw [Bool.or_eq_true] at hk
  unfold cvB at h
  rcases hk with hk | hk
  · rw [Nat.eq_of_beq_eq_true hk] at h
    cases v with
    | inl x => exact congrArg Sum.inl (of_decide_eq_true h)
    | inr q => cases h
  · rw [Nat.eq_of_beq_eq_true hk] at h
    cases v with
    | inl x =>
      have h' : (decide (x = ex0 a k) && decide (x = 0)) = true := h
      rw [Bool.and_eq_true] at h'
      exact congrArg Sum.inl (of_decide_eq_true h'.1)
    | inr q => cases h
theorem cvB_ref {a k : Nat} {v : xV} (hk : hKd (hTg a) k = 4) (h : cvB a k v = true) : v = .inr (.inl (some (93 + 9 * k))) := by
  unfold cvB at h
  rw [hk] at h
  match v, h with
  | .inr (.inl (some s)), h =>
    have h' : (Nat.beq s (93 + 9 * k) && Nat.beq (hTg s) 6) = true := h
    rw [Bool.and_eq_true] at h'
    rw [Nat.eq_of_beq_eq_true h'.1]
  | .inl x, h => cases h
  | .inr (.inl none), h => cases h
  | .inr (.inr q), h => cases h
abbrev hF0 (zs : List xV) (ph : xH) : xH := ph.set 0 (200, zs) ++ [(102, [.inr (.inr (.inl 0))])]
section HF0
variable {zs : List xV} {ph : xH}
theorem hF0_get (h : okI ph) {a : Nat} (h0 : a ≠ 0) (h1 : a < 169) : ∃ vs, (hF0 zs ph)[a]? = some (hTg a, vs) ∧ vs.length = hSz a ∧ ∀ (k : Nat) (v : xV), vs[k]? = some v → cvB a k v = true := by
  have hl : (ph.set 0 (200, zs)).length = 168 := by rw [List.length_set]; exact h.1
  by_cases e : a = 168
  · subst e
    refine ⟨[.inr (.inr (.inl 0))], ?_, rfl, fun k v hv => ?_⟩
    · rw [List.getElem?_append_right (by omega), hl]
      rfl
    · cases k with
      | zero =>
        have e2 : (.inr (.inr (.inl 0)) : xV) = v := by simpa using hv
        subst e2
        rfl
      | succ k => simp at hv
  · obtain ⟨vs, q1, q2, q3⟩ := h.2.2 a h0 (by omega)
    refine ⟨vs, ?_, q2, q3⟩
    rw [List.getElem?_append_left (by omega), List.getElem?_set_ne (Ne.symm h0)]
    exact q1
theorem hF0_sh (h : okI ph) : hSh zs (hF0 zs ph) := by
  refine ⟨by rw [List.length_append, List.length_set, h.1]; rfl, ?_, fun a h0 h1 => ?_⟩
  · rw [List.getElem?_append_left (by rw [List.length_set, h.1]; decide), List.getElem?_set_self (by rw [h.1]; decide)]
  · obtain ⟨vs, q1, q2, q3⟩ := hF0_get (zs := zs) h h0 h1
    exact ⟨vs, q1, q2, fun k v hv => cvB_ok (q3 k v hv)⟩
theorem rdI (h : okI ph) {a k : Nat} (hk : hKi (hTg a) k = true) (hz : k < hSz a) : hRd (hF0 zs ph) a k = ex0 a k := by
  have ha := hTg_in (hKd_lt (hKi_ne hk))
  obtain ⟨vs, q1, q2, q3⟩ := hF0_get (zs := zs) h ha.1 ha.2
  have hl : k < vs.length := by omega
  have hv := List.getElem?_eq_getElem hl
  have e := cvB_int hk (q3 k _ hv)
  unfold hRd
  rw [q1]
  simp only [hv, e]
theorem rd0 (h : okI ph) {a k : Nat} (hk : hKi (hTg a) k = true) (hz : k < hSz a) (e : ex0 a k = 0) : hRd (hF0 zs ph) a k = 0 := (rdI h hk hz).trans e
theorem rsI (h : okI ph) {k : Nat} (hz : k < 6) : hRs (hF0 zs ph) 92 k = 93 + 9 * k := by
  obtain ⟨vs, q1, q2, q3⟩ := hF0_get (zs := zs) (a := 92) h (by decide) (by decide)
  have hl : k < vs.length := by
    have e : hSz 92 = 6 := by decide +kernel
    omega
  have hv := List.getElem?_eq_getElem hl
  have e := cvB_ref (a := 92) rfl (q3 k _ hv)
  unfold hRs
  rw [q1]
  simp only [hv, e]
theorem ex0_b (a k : Nat) : -1 ≤ ex0 a k ∧ ex0 a k ≤ 0 := by
  unfold ex0
  cases mN a
  · cases Nat.beq a 148 && (Nat.blt k 200 && Nat.beq (k % 25) 0)
    · decide
    · decide
  · exact (by decide : (-1 : Int) ≤ -1 ∧ (-1 : Int) ≤ 0)
theorem hki_100 {a : Nat} (h : hTg a = 100) (k : Nat) : hKi (hTg a) k = true := by rw [h]; rfl
theorem twI (h : okI ph) {t : Nat} (ht : hTg t = 8) : hTW (hF0 zs ph) t := by
  intro r hr
  rw [rdI h (hki_100 (htg_8_2 ht) r) hr]
  have := ex0_b (t + 2) r
  omega
theorem toN (h : okI ph) {t r : Nat} (ht : hTg t = 8) (hr : r < hRw t) (hm : mN (t + 2) = true) : hTo (hF0 zs ph) t r = none := by
  unfold hTo
  have e : ex0 (t + 2) r = -1 := by unfold ex0; rw [hm]; rfl
  rw [rdI h (hki_100 (htg_8_2 ht) r) hr, e]
  rfl
theorem toE (h : okI ph) {t r : Nat} (ht : hTg t = 8) (hr : r < hRw t) (e : ex0 (t + 2) r = 0) : hTo (hF0 zs ph) t r = some [] := by
  unfold hTo hTx
  rw [rdI h (hki_100 (htg_8_2 ht) r) hr, e]
  rfl
def st0 : SS := (fun _ => none, ([], 0, [], 0, 0, 0, 0), 0, 0, 0)
def ks0 : KS := ([], st0, none, [])
theorem okSS_0 : okSS 0 st0 := ⟨fun _ _ s h => (by cases h), ⟨fun c h => (by cases h), by decide⟩, by decide, ⟨by decide, by decide⟩, ⟨by decide, by decide⟩, ⟨by decide, by decide⟩, ⟨by decide, by decide⟩, ⟨0, 0, 0, rfl, rfl, rfl, rfl⟩, ⟨by decide, by decide⟩⟩
theorem okKS_0 : okKS 0 ks0 := ⟨⟨fun c h => (by cases h), by decide⟩, okSS_0, fun st h => (by cases h), fun st h => (by cases h), by decide⟩
theorem stI (h : okI ph) : hSt (hF0 zs ph) 73 st0 := by
  refine ⟨twI h rfl, fun n hn => toN h rfl hn rfl, ⟨twI h rfl, toE h rfl (by decide) (by decide), rd0 h (by decide) (by decide) (by decide), by decide, fun k x hk => (by cases hk), rd0 h (by decide) (by decide) (by decide), rd0 h (by decide) (by decide) (by decide), rd0 h (by decide) (by decide) (by decide), rd0 h (by decide) (by decide) (by decide), rd0 h (by decide) (by decide) (by decide)⟩, rd0 h (by decide) (by decide) (by decide), rd0 h (by decide) (by decide) (by decide), rd0 h (by decide) (by decide) (by decide)⟩
theorem hiI (h : okI ph) : hHi (hF0 zs ph) [] := by
  have hp : ∀ k, k < 6 → hTg (93 + 9 * k) = 6 ∧ 93 + 9 * k ≠ 73 ∧ 93 + 9 * k ≠ 82 ∧ hTg (93 + 9 * k + 1) = 8 ∧ hTg (93 + 9 * k + 5) = 8 := by decide
  refine ⟨fun k => 93 + 9 * k, rd0 h (by decide) (by decide) (by decide), by decide, fun k hk => ?_, fun j k hj hk e => ?_, fun k st hk => by cases hk⟩
  · obtain ⟨p1, p2, p3, p4, p5⟩ := hp k hk
    exact ⟨p1, p2, p3, rsI h hk, twI h p4, twI h p5⟩
  · have e' : 93 + 9 * j = 93 + 9 * k := e
    omega
theorem klI (h : okI ph) : hKl zs (hF0 zs ph) ks0 :=
  ⟨hF0_sh h, ⟨twI h rfl, toE h rfl (by decide) (by decide)⟩, ⟨twI h rfl, twI h rfl, twI h rfl, twI h rfl, twI h rfl⟩, stI h, ⟨twI h rfl, twI h rfl⟩, rd0 h (by decide) (by decide) (by decide), fun st hst => (by cases hst), hiI h⟩
theorem mvI (h : okI ph) {v : Nat} (hv : v < 8) : hMv (hF0 zs ph) 148 (0 + 25 * v) none := by
  have e : ∀ v, v < 8 → ex0 148 (0 + 25 * v) = -1 := by decide
  have z : hSz 148 = 416 := by decide +kernel
  exact ⟨(rdI h (hki_100 (by decide) _) (by omega)).trans (e v hv), fun s hs => by cases hs⟩
theorem mmI (h : okI ph) : hMm zs (hF0 zs ph) ks0 :=
  ⟨hF0_sh h, ⟨fun v hv => mvI h hv, ⟨rd0 h (by decide) (by decide) (by decide), by decide, fun i c hi => (by cases hi)⟩, rd0 h (by decide) (by decide) (by decide), ⟨rd0 h (by decide) (by decide) (by decide), by decide, fun i c hi => (by cases hi)⟩, rd0 h (by decide) (by decide) (by decide), rd0 h (by decide) (by decide) (by decide), rd0 h (by decide) (by decide) (by decide), rd0 h (by decide) (by decide) (by decide), rd0 h (by decide) (by decide) (by decide), rd0 h (by decide) (by decide) (by decide), rd0 h (by decide) (by decide) (by decide)⟩, ⟨rd0 h (by decide) (by decide) (by decide), by decide, fun k st hk => (by cases hk)⟩, ⟨rd0 h (by decide) (by decide) (by decide), fun st hst => (by cases hst)⟩, ⟨rd0 h (by decide) (by decide) (by decide), by decide, fun i c hi => (by cases hi)⟩⟩
end HF0
/-! ===== the law from its beginning ===== -/
theorem hSh_map {zs : List xV} {ph : xH} (hs : hSh zs ph) : ph.map (fun c => c.2.length) = zs.length :: hSzT.tail := by
  have e : hSzT = 3 :: hSzT.tail := rfl
  have l : hSzT.length = 169 := by decide +kernel
  apply List.ext_getElem?
  intro i
  rw [List.getElem?_map]
  cases i with
  | zero => rw [hs.2.1]; rfl
  | succ i =>
    rw [List.getElem?_cons_succ]
    by_cases hi : i + 1 < 169
    · obtain ⟨vs, h1, h2, -⟩ := hs.2.2 (i + 1) (by omega) hi
      rw [h1]
      show some vs.length = _
      have e1 : hSzT[i + 1]? = some hSzT[i + 1] := List.getElem?_eq_getElem (by omega)
      have e2 : hSz (i + 1) = hSzT[i + 1] := by unfold hSz; rw [e1]
      have e3 : hSzT[i + 1]? = hSzT.tail[i]? := by
        have := congrArg (fun l : List Nat => l[i + 1]?) e
        rw [List.getElem?_cons_succ] at this
        exact this
      rw [h2, e2, ← e3, e1]
    · have e3 : hSzT.tail.length = 168 := by rw [List.length_tail]; omega
      have e4 : ph[i + 1]? = none := List.getElem?_eq_none (by rw [hs.1]; omega)
      have e5 : hSzT.tail[i]? = none := List.getElem?_eq_none (by omega)
      rw [e4, e5]
      rfl
theorem hSh_sl {zs : List xV} {ph : xH} (hs : hSh zs ph) : xsl ph ≤ zs.length + 100000 := by
  unfold xsl
  rw [hSh_map hs, List.sum_cons]
  have : hSzT.tail.sum ≤ 100000 := by decide +kernel
  omega
theorem law_run {zs : List xV} (hzi : ∀ v ∈ zs, ∃ x : Int, v = .inl x ∧ xin x) (hz : zs.length ≤ 1536) : xT 2000 261 0 (xent [.inr (.inl (some 0))]) [] [(200, zs)] 0 (fun r => r.1 = .inl (some (.inl 1)) ∧ hSh zs r.2.1 ∧ r.2.2 ≤ 512) := by
  obtain ⟨ph1, ph, e1, l1, e2, hI⟩ := ini_ok
  unfold ini1 at e1
  obtain ⟨n1, r1, x1, y1⟩ := yr_ok _ _ _ _ _ _ _ _ e1
  obtain ⟨n2, r2, x2, y2⟩ := yr_ok _ _ _ _ _ _ _ _ e2
  subst y1
  subst y2
  have f1 := xr_any (c0 := (200, zs)) n1 1999 81 0 _ _ _ _ _ rfl x1
  have f2 := xr_any (c0 := (200, zs)) n2 1999 143 0 _ _ _ _ _ (by rw [List.getElem?_append_left (by omega)]; exact f1.2) x2
  have f3 : xr n2 1999 143 0 (xent [.inr (.inl (some 147))]) [] (ph1.set 0 (200, zs) ++ [(10, xdf 10)]) 0 = some (.inl none, ph.set 0 (200, zs), 0) := by
    have h := f2.1
    rw [List.set_append_left _ _ (by omega)] at h
    exact h
  have l2 : (ph1.set 0 (200, zs)).length = 147 := by rw [List.length_set]; exact l1
  have l3 : (ph.set 0 (200, zs)).length = 168 := by rw [List.length_set]; exact hI.1
  show xTC 2000 261 [.inr (.inl (some 0))] [(200, zs)] 0 _
  refine tEn (ls := [some (.inr (.inl (some 0))), none, none, none, none, none, none, none, none]) (fun k => by match k with | 0 => rfl | 1 => rfl | 2 => rfl | 3 => rfl | 4 => rfl | 5 => rfl | 6 => rfl | 7 => rfl | 8 => rfl | k + 9 => rfl) ?_
  refine tK (l := xk_261) (lv' := xlo _) (st' := [.inr (.inl (some 1))]) (ph' := [(200, zs), (9, xdf 9)]) rfl rfl (fun _ _ _ _ _ => rfl) ?_
  refine tK (l := xk_261) rfl rfl (fun _ _ _ _ _ => rfl) ?_
  refine tCa (mi' := 81) (as := [.inr (.inl (some 1))]) (rest := [.inr (.inl (some 1))]) (l := xk_261) rfl rfl (fun _ _ _ _ _ => rfl) ?_
  refine ⟨n1, _, f1.1, tKn ?_⟩
  refine tSt (l := xk_261) rfl rfl (fun _ _ _ _ _ => rfl) (Nat.le_of_ble_eq_true rfl) ?_
  refine tK (l := xk_261) (lv' := xlo _) (st' := [.inr (.inl (some (ph1.set 0 (200, zs)).length))]) (ph' := ph1.set 0 (200, zs) ++ [(10, xdf 10)]) rfl rfl (fun _ _ _ _ _ => rfl) ?_
  rw [l2]
  refine tK (l := xk_261) rfl rfl (fun _ _ _ _ _ => rfl) ?_
  refine tCa (mi' := 143) (as := [.inr (.inl (some 147))]) (rest := [.inr (.inl (some 147))]) (l := xk_261) rfl rfl (fun _ _ _ _ _ => rfl) ?_
  refine ⟨n2, _, f3, tKn ?_⟩
  refine tSt (l := xk_261) rfl rfl (fun _ _ _ _ _ => rfl) (Nat.le_of_ble_eq_true rfl) ?_
  refine tK (l := xk_261) rfl rfl (fun _ _ _ _ _ => rfl) ?_
  refine tK (l := xk_261) (lv' := xlo _) (st' := [.inr (.inl (some (ph.set 0 (200, zs)).length))]) (ph' := hF0 zs ph) rfl rfl (fun _ _ _ _ _ => rfl) ?_
  rw [l3]
  refine tSt (l := xk_261) rfl rfl (fun _ _ _ _ _ => rfl) (Nat.le_of_ble_eq_true rfl) ?_
  refine tK (l := xk_261) rfl rfl (fun _ _ _ _ _ => rfl) ?_
  refine tSt (l := xk_261) rfl rfl (fun _ _ _ _ _ => rfl) (Nat.le_of_ble_eq_true rfl) ?_
  exact law_loop (d := 760) hzi hz (fun ph2 g2 hs hg => ⟨rfl, hs, hg⟩) 512 0 (hF0 zs ph) ks0 0 none none none none (by omega) (by omega) (klI hI) (mmI hI) okKS_0 (Nat.le_refl 0)
