/-! ===== runs over an object that lies elsewhere ===== -/
def rT (f : Nat → Nat) (o : Option xV ⊕ Nat) : Option xV ⊕ Nat := match o with
  | .inl v => .inl (v.map (rv f))
  | .inr E => .inr E
theorem xr_ren {f : Nat → Nat} {S : Nat → Prop} {em : xH → xH} (hE : Em f S em) : ∀ (n d mi pc : Nat) (lv : xL) (st : List xV) (V : xH) (g : Nat) (r : xR), okM mi = true → cls S V → lvS S lv → stS S st → xr n d mi pc lv st V g = some r → xr n d mi pc (rL f lv) (st.map (rv f)) (em V) g = some (rT f r.1, em r.2.1, r.2.2) ∧ cls S r.2.1 ∧ ∀ v, r.1 = .inl (some v) → vS S v := by
  intro n
  induction n with
  | zero => intro d mi pc lv st V g r _ _ _ _ h; cases h
  | succ n ih =>
    intro d mi pc lv st V g r hm hc hl hs h
    cases hf : xfetch mi pc with
    | none => rw [xr_none n d mi pc lv st V g hf] at h; cases h
    | some op =>
      rw [xr_succ n d mi pc lv st V g hf] at h
      rw [xr_succ n d mi pc (rL f lv) (st.map (rv f)) (em V) g hf]
      have hn := (okM_op hm hf).1
      cases hd : xdir mi pc op lv st V g with
      | inl q =>
        obtain ⟨e1, e2, e3, e4⟩ := ren_step hE hc hl hs hn hd (fun q => by cases q)
        rw [hd] at h
        rw [e1]
        exact ih _ _ _ _ _ _ _ _ hm e4 e2 e3 h
      | inr q =>
        cases q with
        | inl q =>
          obtain ⟨e1, e2, e3⟩ := ren_step hE hc hl hs hn hd (fun q => by cases q)
          have hm2 := dir_call hm hf hd
          rw [hd] at h
          rw [e1]
          simp only [xcase, xcont, rD] at h ⊢
          cases d with
          | zero => cases h
          | succ d' =>
            simp only at h ⊢
            cases hc1 : xr n d' q.1 0 (xent q.2.1) [] V g with
            | none => rw [hc1] at h; cases h
            | some r1 =>
              obtain ⟨k1, k2, k3⟩ := ih _ _ _ _ _ _ _ _ hm2 hc (lvS_ent e2) stS_n hc1
              rw [hc1] at h
              rw [rL_ent] at k1
              simp only [List.map_nil] at k1
              rw [k1]
              obtain ⟨o, ph1, g1⟩ := r1
              cases o with
              | inl v =>
                simp only [rT] at h ⊢
                have e9 : ((v.map (rv f)).toList ++ q.2.2.map (rv f)) = (v.toList ++ q.2.2).map (rv f) := by
                  cases v with
                  | none => rfl
                  | some w => rfl
                rw [e9]
                refine ih _ _ _ _ _ _ _ _ hm k2 hl ?_ h
                cases v with
                | none => exact e3
                | some w => exact stS_c.mpr ⟨k3 w rfl, e3⟩
              | inr E =>
                simp only [rT, okM_han hm] at h ⊢
                cases h
                exact ⟨rfl, k2, fun v hv => by cases hv⟩
        | inr q =>
          cases q with
          | inl v =>
            obtain ⟨e1, e2⟩ := ren_step hE hc hl hs hn hd (fun q => by cases q)
            rw [hd] at h
            rw [e1]
            cases h
            exact ⟨rfl, hc, fun w hw => e2 w (by cases hw; rfl)⟩
          | inr q =>
            cases q with
            | inl E =>
              obtain ⟨e1, e2⟩ := ren_step hE hc hl hs hn hd (fun q => by cases q)
              rw [hd] at h
              rw [e1]
              cases h
              exact ⟨rfl, hc, fun w hw => by cases hw⟩
            | inr u => rw [hd] at h; cases h
/-! ===== the heap of two objects ===== -/
def lay (zs : List xV) (po pp : xH) (x : Int) : xH := (200, zs) :: ((po.drop 1).take 146 ++ (((pp.drop 1).take 146).map (rC (fun a => a + 146)) ++ [(100, [.inl x])]))
section LAY
variable {zs : List xV} {po pp : xH} {x : Int}
theorem lay_0 : (lay zs po pp x)[0]? = some (200, zs) := rfl
theorem tk_len {V : xH} (h : V.length = 169) : ((V.drop 1).take 146).length = 146 := by
  rw [List.length_take, List.length_drop, h]
  rfl
theorem tk_get {V : xH} {i : Nat} (hi : i < 146) : ((V.drop 1).take 146)[i]? = V[i + 1]? := by
  rw [List.getElem?_take, if_pos hi, List.getElem?_drop, Nat.add_comm]
theorem lay_o (ho : po.length = 169) {a : Nat} (h1 : 1 ≤ a) (h2 : a ≤ 146) : (lay zs po pp x)[a]? = po[a]? := by
  obtain ⟨i, rfl⟩ : ∃ i, a = i + 1 := ⟨a - 1, by omega⟩
  unfold lay
  rw [List.getElem?_cons_succ, List.getElem?_append_left (by rw [tk_len ho]; omega), tk_get (by omega)]
theorem lay_p (ho : po.length = 169) (hp : pp.length = 169) {a : Nat} (h1 : 1 ≤ a) (h2 : a ≤ 146) : (lay zs po pp x)[a + 146]? = (pp[a]?).map (rC (fun a => a + 146)) := by
  obtain ⟨i, rfl⟩ : ∃ i, a = i + 1 := ⟨a - 1, by omega⟩
  unfold lay
  rw [show i + 1 + 146 = (i + 146) + 1 by omega, List.getElem?_cons_succ, List.getElem?_append_right (by rw [tk_len ho]; omega), tk_len ho, show i + 146 - 146 = i by omega, List.getElem?_append_left (by rw [List.length_map, tk_len hp]; omega), List.getElem?_map, tk_get (by omega)]
theorem lay_x (ho : po.length = 169) (hp : pp.length = 169) : (lay zs po pp x)[293]? = some (100, [.inl x]) := by
  unfold lay
  rw [show 293 = 292 + 1 from rfl, List.getElem?_cons_succ, List.getElem?_append_right (by rw [tk_len ho]; omega), tk_len ho, List.getElem?_append_right (by rw [List.length_map, tk_len hp]; omega), List.length_map, tk_len hp]
  rfl
theorem lay_len (ho : po.length = 169) (hp : pp.length = 169) : (lay zs po pp x).length = 294 := by
  unfold lay
  rw [List.length_cons, List.length_append, List.length_append, List.length_map, tk_len ho, tk_len hp]
  rfl
theorem lay_setx (ho : po.length = 169) (hp : pp.length = 169) (y : Int) : (lay zs po pp x).set 293 (100, [.inl y]) = lay zs po pp y := by
  unfold lay
  rw [show 293 = 292 + 1 from rfl, List.set_cons_succ, List.set_append_right _ _ (by rw [tk_len ho]; omega), tk_len ho, List.set_append_right _ _ (by rw [List.length_map, tk_len hp]; omega), List.length_map, tk_len hp]
  rfl
def S1 (a : Nat) : Prop := 1 ≤ a ∧ a ≤ 146
theorem rv_id (v : xV) : rv (fun a => a) v = v := by
  match v with
  | .inl y => rfl
  | .inr (.inl none) => rfl
  | .inr (.inl (some a)) => rfl
  | .inr (.inr q) => rfl
theorem map_rv_id (l : List xV) : l.map (rv (fun a => a)) = l := by
  induction l with
  | nil => rfl
  | cons v l ih => rw [List.map_cons, rv_id, ih]
theorem rC_id (c : xC) : rC (fun a => a) c = c := by
  unfold rC
  rw [map_rv_id]
theorem rL_id (lv : xL) : rL (fun a => a) lv = lv := by
  funext k
  unfold rL
  cases lv k with
  | none => rfl
  | some v => rw [Option.map_some, rv_id]
theorem set_tk {V : xH} {a : Nat} {c : xC} (h1 : 1 ≤ a) (h2 : a ≤ 146) : ((V.set a c).drop 1).take 146 = ((V.drop 1).take 146).set (a - 1) c := by
  obtain ⟨i, rfl⟩ : ∃ i, a = i + 1 := ⟨a - 1, by omega⟩
  cases V with
  | nil => simp
  | cons v V =>
    rw [List.set_cons_succ, List.drop_one, List.drop_one, List.tail_cons, List.tail_cons, Nat.add_sub_cancel, List.take_set]
theorem Em_o : Em (fun a => a) S1 (fun V => lay zs V pp x) := by
  refine ⟨fun V a hV ha => ?_, fun V a c hV ha => ?_⟩
  · show (lay zs V pp x)[a]? = _
    rw [lay_o hV ha.1 ha.2]
    cases V[a]? with
    | none => rfl
    | some c => rw [Option.map_some, rC_id]
  · show lay zs (V.set a c) pp x = (lay zs V pp x).set a _
    rw [rC_id]
    obtain ⟨i, rfl⟩ : ∃ i, a = i + 1 := ⟨a - 1, by have := ha.1; omega⟩
    unfold lay
    rw [set_tk ha.1 ha.2, List.set_cons_succ, List.set_append_left _ _ (by rw [tk_len hV]; have := ha.2; omega), Nat.add_sub_cancel]
theorem Em_p (ho : po.length = 169) : Em (fun a => a + 146) S1 (fun V => lay zs po V x) := by
  refine ⟨fun V a hV ha => ?_, fun V a c hV ha => ?_⟩
  · show (lay zs po V x)[a + 146]? = _
    exact lay_p ho hV ha.1 ha.2
  · show lay zs po (V.set a c) x = (lay zs po V x).set (a + 146) _
    obtain ⟨i, rfl⟩ : ∃ i, a = i + 1 := ⟨a - 1, by have := ha.1; omega⟩
    unfold lay
    rw [set_tk ha.1 ha.2, show i + 1 + 146 = (i + 146) + 1 by omega, List.set_cons_succ, List.set_append_right _ _ (by rw [tk_len ho]; omega), tk_len ho, show i + 146 - 146 = i by omega, List.set_append_left _ _ (by rw [List.length_map, tk_len hV]; have := ha.2; omega), Nat.add_sub_cancel, List.map_set]
theorem hRf_in : ∀ a, a < 147 → ∀ k, k < 20 → ∀ b, hRf a k = some b → 1 ≤ b ∧ b ≤ 146 := by
  have h : (List.range 147).all (fun a => (List.range 20).all (fun k => match hRf a k with
    | some b => Nat.ble 1 b && Nat.ble b 146
    | none => true)) = true := by decide +kernel
  intro a ha k hk b hb
  have h1 := List.all_eq_true.mp h a (List.mem_range.mpr ha)
  have h2 := List.all_eq_true.mp h1 k (List.mem_range.mpr hk)
  rw [hb, Bool.and_eq_true] at h2
  exact ⟨Nat.le_of_ble_eq_true h2.1, Nat.le_of_ble_eq_true h2.2⟩
theorem hSz_20 : ∀ a, a < 147 → hTg a < 100 → hSz a ≤ 20 := by
  have h : (List.range 147).all (fun a => !(Nat.blt (hTg a) 100) || Nat.ble (hSz a) 20) = true := by decide +kernel
  intro a ha ht
  have h1 := List.all_eq_true.mp h a (List.mem_range.mpr ha)
  rw [Bool.or_eq_true] at h1
  rcases h1 with h1 | h1
  · rw [show Nat.blt (hTg a) 100 = true from Nat.ble_eq_true_of_le ht] at h1
    cases h1
  · exact Nat.le_of_ble_eq_true h1
theorem hTg_6in {s : Nat} (h : hTg s = 6) : 1 ≤ s ∧ s ≤ 146 := by
  have h1 := hTg_all (fun a => decide (hTg a = 6 → 1 ≤ a ∧ a ≤ 146)) (by decide +kernel) (hTg_in (by omega : hTg s < 104)).2
  exact of_decide_eq_true h1 h
theorem hKd_arr {t k : Nat} (h : ¬ t < 100) : hKd t k ≠ 2 := by
  unfold hKd
  split <;> first | decide | skip
  have e : hKdT[t]? = none := List.getElem?_eq_none (by have : hKdT.length = 11 := by decide
                                                        omega)
  rw [e]
  exact (by decide : (9 : Nat) ≠ 2)
theorem hSh_cls {V : xH} (h : hSh zs V) : cls S1 V := by
  refine ⟨h.1, fun a c ha hc v hv => ?_⟩
  obtain ⟨vs, q1, q2, q3⟩ := h.2.2 a (by have := ha.1; omega) (by have := ha.2; omega)
  rw [hc] at q1
  cases q1
  obtain ⟨k, hk⟩ := List.getElem?_of_mem hv
  have h4 := q3 k v hk
  match v, h4 with
  | .inl y, _ => trivial
  | .inr (.inr q), _ => trivial
  | .inr (.inl o), h4 =>
    intro b hb
    subst hb
    unfold hOk at h4
    have hlk : k < hSz a := by
      have := (List.getElem?_eq_some_iff.mp hk).1
      simp only at this q2
      omega
    split at h4
    · obtain ⟨y, hy⟩ := h4; cases hy
    · rename_i e2
      have e3 : some b = hRf a k := Sum.inl.inj (Sum.inr.inj h4)
      have ht : hTg a < 100 := by
        by_cases ht : hTg a < 100
        · exact ht
        · exact absurd e2 (hKd_arr ht)
      have hz := hSz_20 a (by have := ha.2; omega) ht
      exact hRf_in a (by have := ha.2; omega) k (by omega) b e3.symm
    · obtain ⟨y, hy⟩ := h4; cases hy
    · obtain ⟨s, hy, ht⟩ := h4
      have e3 : some b = some s := Sum.inl.inj (Sum.inr.inj hy)
      cases e3
      exact hTg_6in ht
    · cases h4
    · obtain ⟨y, hy, -⟩ := h4; cases hy
    · exact h4.elim
end LAY
/-! ===== calls of either object ===== -/
def ob (b : Bool) : Nat := bif b then 147 else 1
def gt2 (b : Bool) (s : KS × KS) : KS := bif b then s.2 else s.1
def pt2 (b : Bool) (s : KS × KS) (c : KS) : KS × KS := bif b then (s.1, c) else (c, s.2)
def hPP (zs : List xV) (R : xH) (s : KS × KS) (x : Int) : Prop := ∃ po pp, R = lay zs po pp x ∧ hKl zs po s.1 ∧ hKl zs pp s.2
section CALLS
variable {zs : List xV} {R : xH} {s : KS × KS} {x : Int} {d g g2 mi : Nat} {as : List xV} {Q : xR → Prop} {o : Option xV ⊕ Nat} {c : KS}
theorem obj_call (b : Bool) (hm : okM mi = true) (has : ∀ w ∈ as, ∃ y : Int, w = .inl y) (hO : ∀ f, rT f o = o) (hR : hPP zs R s x) (hc : ∀ V, hKl zs V (gt2 b s) → xTC d mi (.inr (.inl (some 1)) :: as) V g (fun r => r.1 = o ∧ hKl zs r.2.1 c ∧ r.2.2 = g2)) (hQ : ∀ R2, hPP zs R2 (pt2 b s c) x → Q (o, R2, g2)) : xTC d mi (.inr (.inl (some (ob b))) :: as) R g Q := by
  obtain ⟨po, pp, rfl, ko, kp⟩ := hR
  have hin : ∀ V : xH, hSh zs V → stS S1 (.inr (.inl (some 1)) :: as) := fun V _ => stS_c.mpr ⟨fun a ha => by cases ha; exact ⟨Nat.le_refl 1, by decide⟩, fun w hw => by obtain ⟨y, rfl⟩ := has w hw; trivial⟩
  have hid : ∀ f, as.map (rv f) = as := by
    intro f
    clear hc hin
    induction as with
    | nil => rfl
    | cons w as ih =>
      obtain ⟨y, rfl⟩ := has w List.mem_cons_self
      rw [List.map_cons, ih (fun w hw => has w (List.mem_cons_of_mem _ hw))]
      rfl
  cases b with
  | false =>
    obtain ⟨n, r, h1, h2, h3, h4⟩ := hc po ko
    obtain ⟨k1, -, -⟩ := xr_ren (Em_o (zs := zs) (pp := pp) (x := x)) n d mi 0 _ _ po g r hm (hSh_cls ko.1) (lvS_ent (hin po ko.1)) stS_n h1
    rw [rL_id, h2, hO, h4] at k1
    exact ⟨n, _, k1, hQ _ ⟨r.2.1, pp, rfl, h3, kp⟩⟩
  | true =>
    obtain ⟨n, r, h1, h2, h3, h4⟩ := hc pp kp
    obtain ⟨k1, -, -⟩ := xr_ren (Em_p (zs := zs) (x := x) ko.1.1) n d mi 0 _ _ pp g r hm (hSh_cls kp.1) (lvS_ent (hin pp kp.1)) stS_n h1
    rw [rL_ent, List.map_cons, hid, h2, hO, h4] at k1
    exact ⟨n, _, k1, hQ _ ⟨po, r.2.1, rfl, ko, h3⟩⟩
end CALLS
