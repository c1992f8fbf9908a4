/-! ===== the world of the small machine in the heap; what else must stand, and that it stays ===== -/
abbrev xA (B : Nat) : Nat → Prop := fun q => B < q
def xtys (ca : Nat → ClassId) : List (ClassId × FieldType) := [(ca 100, .int), (ca 101, .char), (ca 102, .byte), (ca 103, .object (xCl 6).1)]
def xwfH (ph : xH) : Prop := ∀ c ∈ ph, xwfs c.2
def xRelH (b B : Nat) (D : va_G) (ca : Nat → ClassId) (xs : List xV) (ph : xH) (g : Nat) (H : Heap) : Prop :=
  va_P D vwCl (xw b B ca ph) H ∧ va_D (xA B) (xw b B ca ph) ∧ (g = 0 → H.size = B + ph.length) ∧ B + ph.length ≤ H.size ∧ (∃ t, ph = (200, xs) :: t ∧ ∀ c ∈ t, c.1 < 104) ∧ xwfH ph
def xCb (E : String) (U : State) : Prop := ∃ c : ClassId, U.vm.findClass E = some c ∧ U.vm.assignable c c = true
theorem xCb.moved {E : String} {u U : State} (hvm : u.vm.Alike U.vm) (h : xCb E u) : xCb E U := by
  obtain ⟨c, h1, h2⟩ := h
  exact ⟨c, by rw [hvm.findClass]; exact h1, by rw [hvm.assignable]; exact h2⟩
theorem xCb.of {args : Array Value} {s : State} {E : String} (h : (Cond.castable E E).before args s = true) : xCb E s := by
  obtain ⟨c, t, h1, h2, h3⟩ := Cond.castable_spec h
  cases Option.some.inj (h1.symm.trans h2)
  exact ⟨c, h1, h3⟩
theorem xCb.use {args : Array Value} {s : State} {E : String} (h : xCb E s) : (Cond.castable E E).before args s = true := by
  obtain ⟨c, h1, h2⟩ := h
  simp [Cond.before, Cond.holds, Cond.value, h1, h2]
def xNw (U : State) : Prop := (∀ a i r n d h, Cond.fieldLinkNest a i r n d h ∈ lw_tbl → va_Nw (.fieldLinkNest a i r n d h) U) ∧ (∀ a i x h, Cond.methodLinkNest a i x h ∈ lw_tbl → va_Nw (.methodLinkNest a i x h) U)
def xFx (b B : Nat) (D : va_G) (ca : Nat → ClassId) (xs : List xV) (U : State) : Prop :=
  va_K D vwCl (xtys ca) U ∧ (vx_Zq Bundle.tN "UNASSIGNED_STACK" Bundle.steD (xA B) U U.heap ∧ vx_Zq Bundle.tN "SUPPRESSED_SENTINEL" Bundle.listD (xA B) U U.heap) ∧
  (∀ q ∈ xSs, ∃ sa, vk_R RX9 q.1 q.2 sa U) ∧ (∀ q ∈ xDc, va_Nw (.declares q) U) ∧ (∀ e, e < 3 → xCb (xEn e) U) ∧ (∀ e e2, e < 3 → e2 < 3 → e ≠ e2 → va_Nc (xEn e) (xEn e2) U) ∧
  va_AO (xCl 6).1 U ∧ xNw U ∧ va_X b xs.length (fun j => xmI xs[j]?) U U.heap ∧ b ≤ B ∧ B < U.heap.size
theorem xFx_go {b B : Nat} {D : va_G} {ca : Nat → ClassId} {xs : List xV} {s U : State} {H : Heap} (h : xFx b B D ca xs s) (hW : s.WarmedH U.vm) (hU : U.heap = H) (hz : s.heap.size ≤ H.size) (hk : ∀ q : Nat, q < s.heap.size → ¬ xA B q → H[q]? = s.heap[q]?) : xFx b B D ca xs U := by
  subst hU
  obtain ⟨h1, ⟨h2, h3⟩, h4, h5, h6, h7, h8, h9, h10, h11, h12⟩ := h
  refine ⟨va_K.moved hW.alike h1, ⟨(vx_Zq.moved hW.alike h2).kept hk, (vx_Zq.moved hW.alike h3).kept hk⟩, fun q hq => ?_, fun q hq => va_Nw.warmD hW (h5 q hq), fun e he => (h6 e he).moved hW.alike, fun e e2 a1 a2 a3 => (h7 e e2 a1 a2 a3).moved hW.alike, va_AO.moved hW.alike h8, ⟨fun a i r n d h0 hm => va_Nw.warmF hW (h9.1 a i r n d h0 hm), fun a i x h0 hm => va_Nw.warmM hW (h9.2 a i x h0 hm)⟩, ?_, h11, Nat.lt_of_lt_of_le h12 hz⟩
  · obtain ⟨sa, hsa⟩ := h4 q hq
    exact ⟨sa, vk_R.warm hW hsa⟩
  · exact (va_X.moved hW.alike h10).kept (hk b (Nat.lt_of_le_of_lt h11 h12) (Nat.not_lt.mpr h11))
def xsl (ph : xH) : Nat := (ph.map (fun c => c.2.length)).sum
def xcc (ph : xH) (g : Nat) : Nat := ph.length + g
def xcs (ph : xH) (g : Nat) : Nat := xsl ph + 6 * g
theorem xsl_app (ph : xH) (c : xC) : xsl (ph ++ [c]) = xsl ph + c.2.length := by simp [xsl]
theorem xsl_set {ph : xH} {a : Nat} {c d : xC} (h : ph[a]? = some c) (hl : d.2.length = c.2.length) : xsl (ph.set a d) = xsl ph := by
  induction ph generalizing a with
  | nil => simp at h
  | cons e t ih =>
    cases a with
    | zero =>
      simp only [List.getElem?_cons_zero, Option.some.injEq] at h
      subst h
      simp [xsl, hl]
    | succ a =>
      simp only [List.getElem?_cons_succ] at h
      have := ih h
      simp only [xsl, List.set_cons_succ, List.map_cons, List.sum_cons] at this ⊢
      omega
theorem xRelH_at {b B : Nat} {D : va_G} {ca : Nat → ClassId} {xs : List xV} {ph : xH} {g : Nat} {H : Heap} (h : xRelH b B D ca xs ph g H) {a t : Nat} {vs : List xV} (hc : ph[a]? = some (t, vs)) (ht : t ≠ 200) : a ≠ 0 ∧ (xw b B ca ph)[a - 1]? = some (xad b B a, xce b B ca (t, vs)) := by
  obtain ⟨-, -, -, -, ⟨r, hr, -⟩, -⟩ := h
  have ha : a ≠ 0 := by
    rintro rfl
    rw [hr] at hc
    simp only [List.getElem?_cons_zero, Option.some.injEq, Prod.mk.injEq] at hc
    exact ht hc.1.symm
  refine ⟨ha, ?_⟩
  rw [xw_get ha hc]
  unfold xad
  rw [if_neg ha]
theorem xRelH_wf {b B : Nat} {D : va_G} {ca : Nat → ClassId} {xs : List xV} {ph : xH} {g : Nat} {H : Heap} (h : xRelH b B D ca xs ph g H) {a : Nat} {c : xC} (hc : ph[a]? = some c) {k : Nat} {v : xV} (hv : c.2[k]? = some v) : xwf v :=
  h.2.2.2.2.2 c (List.mem_of_getElem? hc) v (List.mem_of_getElem? hv)
theorem xRelH_tag {b B : Nat} {D : va_G} {ca : Nat → ClassId} {xs : List xV} {ph : xH} {g : Nat} {H : Heap} (h : xRelH b B D ca xs ph g H) {a t : Nat} {vs : List xV} (hc : ph[a]? = some (t, vs)) : (a = 0 ∧ t = 200 ∧ vs = xs) ∨ (a ≠ 0 ∧ t < 104) := by
  obtain ⟨-, -, -, -, ⟨r, hr, h7⟩, -⟩ := h
  cases a with
  | zero =>
    rw [hr] at hc
    simp only [List.getElem?_cons_zero, Option.some.injEq, Prod.mk.injEq] at hc
    exact Or.inl ⟨rfl, hc.1.symm, hc.2.symm⟩
  | succ k =>
    have h8 : r[k]? = some (t, vs) := by rw [hr] at hc; simpa using hc
    exact Or.inr ⟨by omega, h7 _ (List.mem_of_getElem? h8)⟩
/-- a cell written anew -/
theorem xRelH_set {b B : Nat} {D : va_G} {ca : Nat → ClassId} {xs : List xV} {ph : xH} {g : Nat} {H H1 : Heap} (h : xRelH b B D ca xs ph g H) {a t : Nat} {vs vs' : List xV} (hc : ph[a]? = some (t, vs)) (ht : t ≠ 200) (hz : H1.size = H.size) (hw : xwfs vs')
    (hP : va_P D vwCl ((xw b B ca ph).set (a - 1) (xad b B a, xce b B ca (t, vs'))) H1) (hD : va_D (xA B) ((xw b B ca ph).set (a - 1) (xad b B a, xce b B ca (t, vs')))) : xRelH b B D ca xs (ph.set a (t, vs')) g H1 := by
  obtain ⟨ha, -⟩ := xRelH_at h hc ht
  obtain ⟨h1, h2, h3, h4, ⟨r, hr, h7⟩, h6⟩ := h
  have e : xw b B ca (ph.set a (t, vs')) = (xw b B ca ph).set (a - 1) (xad b B a, xce b B ca (t, vs')) := by
    rw [xw_set ha]; unfold xad; rw [if_neg ha]
  refine ⟨by rw [e]; exact hP, by rw [e]; exact hD, fun hg => by rw [hz, List.length_set]; exact h3 hg, by rw [hz, List.length_set]; exact h4, ?_, ?_⟩
  · obtain ⟨k, rfl⟩ : ∃ k, a = k + 1 := ⟨a - 1, by omega⟩
    refine ⟨r.set k (t, vs'), by rw [hr]; rfl, fun c hm => ?_⟩
    rcases List.mem_or_eq_of_mem_set hm with h | h
    · exact h7 c h
    · rw [h]
      have h8 : r[k]? = some (t, vs) := by rw [hr] at hc; simpa using hc
      exact h7 (t, vs) (List.mem_of_getElem? h8)
  · intro c hm
    rcases List.mem_or_eq_of_mem_set hm with h | h
    · exact h6 c h
    · rw [h]; exact hw
/-- a cell that is made -/
theorem xRelH_app {b B : Nat} {D : va_G} {ca : Nat → ClassId} {xs : List xV} {ph : xH} {H H1 : Heap} (h : xRelH b B D ca xs ph 0 H) {t q : Nat} {vs : List xV} (ht : t < 104) (hq : q = B + ph.length) (hz : H1.size = H.size + 1) (hw : xwfs vs)
    (hP : va_P D vwCl (xw b B ca ph ++ [(q, xce b B ca (t, vs))]) H1) (hD : va_D (xA B) (xw b B ca ph ++ [(q, xce b B ca (t, vs))])) : xRelH b B D ca xs (ph ++ [(t, vs)]) 0 H1 := by
  obtain ⟨h1, h2, h3, h4, ⟨r, hr, h7⟩, h6⟩ := h
  subst hq
  have hne : ph ≠ [] := by rw [hr]; exact List.cons_ne_nil _ _
  have e : xw b B ca (ph ++ [(t, vs)]) = xw b B ca ph ++ [(B + ph.length, xce b B ca (t, vs))] := xw_app hne
  refine ⟨by rw [e]; exact hP, by rw [e]; exact hD, fun hg => by rw [hz, List.length_append, h3 rfl]; simp; omega, by rw [hz, List.length_append]; simp; omega, ⟨r ++ [(t, vs)], by rw [hr]; rfl, fun c hm => ?_⟩, ?_⟩
  · rcases List.mem_append.mp hm with h | h
    · exact h7 c h
    · rw [List.mem_singleton.mp h]; exact ht
  intro c hm
  rcases List.mem_append.mp hm with h | h
  · exact h6 c h
  · rw [List.mem_singleton.mp h]; exact hw
theorem xRelH_kept {b B : Nat} {D : va_G} {ca : Nat → ClassId} {xs : List xV} {ph : xH} {g : Nat} {H H1 : Heap} (h : xRelH b B D ca xs ph g H) (hz : H.size ≤ H1.size) (hk : ∀ q : Nat, q < H.size → H1[q]? = H[q]?) : xRelH b B D ca xs ph (g + 1) H1 := by
  obtain ⟨h1, h2, h3, h4, h5, h6⟩ := h
  exact ⟨h1.kept (fun k q hq => hk q.1 (h1 k q hq).lt), h2, fun hg => by omega, by omega, h5, h6⟩
theorem xce_obj (b B : Nat) (ca : Nat → ClassId) {t : Nat} (h : t < 100) (vs : List xV) : xce b B ca (t, vs) = .inr (t, vs.map (xm b B)) := by
  unfold xce; rw [if_pos h]
theorem xce_i (b B : Nat) (ca : Nat → ClassId) (vs : List xV) : xce b B ca (100, vs) = .inl (ca 100, vs.length, .inl (fun j => xmI vs[j]?)) := rfl
theorem xce_c (b B : Nat) (ca : Nat → ClassId) (vs : List xV) : xce b B ca (101, vs) = .inl (ca 101, vs.length, .inl (fun j => xmI vs[j]?)) := rfl
theorem xce_l (b B : Nat) (ca : Nat → ClassId) (vs : List xV) : xce b B ca (102, vs) = .inl (ca 102, vs.length, .inr (.inl (fun j => xmL vs[j]?))) := rfl
theorem xce_q (b B : Nat) (ca : Nat → ClassId) (vs : List xV) : xce b B ca (103, vs) = .inl (ca 103, vs.length, .inr (.inr (.inr (.inr (fun j => xmR b B vs[j]?))))) := rfl
theorem xupd_i (vs : List xV) {i : Nat} (hi : i < vs.length) (x : Int) : upd (fun j => xmI vs[j]?) i (Int32.ofInt x) = fun j => xmI (vs.set i (.inl x))[j]? := by
  funext j
  unfold upd
  by_cases h : j = i
  · subst h; simp [hi, xmI]
  · rw [if_neg h, List.getElem?_set_ne (Ne.symm h)]
theorem xupd_l (vs : List xV) {i : Nat} (hi : i < vs.length) (x : Int64) : vp_updL (fun j => xmL vs[j]?) i x = fun j => xmL (vs.set i (.inr (.inr (.inl x))))[j]? := by
  funext j
  unfold vp_updL
  by_cases h : j = i
  · subst h; simp [hi, xmL]
  · rw [if_neg h, List.getElem?_set_ne (Ne.symm h)]
theorem xupd_q (b B : Nat) (vs : List xV) {i : Nat} (hi : i < vs.length) (a : Nat) : va_up (fun j => xmR b B vs[j]?) i (some (xad b B a)) = fun j => xmR b B (vs.set i (.inr (.inl (some a))))[j]? := by
  funext j
  unfold va_up
  by_cases h : j = i
  · subst h; simp [hi, xmR]
  · rw [if_neg h, List.getElem?_set_ne (Ne.symm h)]
theorem xwfs_set {vs : List xV} {i : Nat} {v : xV} (h : xwfs vs) (hv : xwf v) : xwfs (vs.set i v) := by
  intro w hw
  rcases List.mem_or_eq_of_mem_set hw with h1 | h1
  · exact h w h1
  · rw [h1]; exact hv
theorem xwfs_at {b B : Nat} {D : va_G} {ca : Nat → ClassId} {xs : List xV} {ph : xH} {g : Nat} {H : Heap} (h : xRelH b B D ca xs ph g H) {a t : Nat} {vs : List xV} (hc : ph[a]? = some (t, vs)) : xwfs vs := h.2.2.2.2.2 _ (List.mem_of_getElem? hc)
