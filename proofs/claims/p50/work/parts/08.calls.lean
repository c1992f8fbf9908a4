/-! ===== a method of the small machine as a contract; calls ===== -/
theorem xmaxL_le : ∀ mi, mi < 148 → xmaxL mi ≤ 21 := by decide +kernel
theorem xhh_all : ∀ mi, mi < 148 → ∀ q ∈ xhh mi, (xcat (xown mi) q.2.2.2).isSome = true ∧ q.2.2.2 ≠ 0 := by decide +kernel
def xQc (b B : Nat) (D : va_G) (ca : Nat → ClassId) (xs : List xV) (r : xR) : Array Value → State → Outcome → State → Prop := fun _ st o t => ∃ (v : Option xV) (ph : xH) (g : Nat), r = (.inl v, ph, g) ∧ o = .returned (v.map (xm b B)) ∧ xRelH b B D ca xs ph g t.heap ∧ va_F (xA B) st t ∧ ∀ w, v = some w → xwf w
def xXc (b B : Nat) (D : va_G) (ca : Nat → ClassId) (xs : List xV) (r : xR) : String → State → State → Prop := fun E st t => ∃ (e : Nat) (ph : xH) (g : Nat), r = (.inr e, ph, g) ∧ e < 3 ∧ E = xEn e ∧ xRelH b B D ca xs ph g t.heap ∧ va_F (xA B) st t
def xPc (b B : Nat) (D : va_G) (ca : Nat → ClassId) (xs : List xV) (as : List xV) (ph : xH) (g : Nat) : Array Value → State → Prop := va_Pc (as.map (xm b B)) (fun U => xRelH b B D ca xs ph g U.heap ∧ xFx b B D ca xs U)
def xrm (d mc ms : Nat) : Room := { frames := 8 + d, cells := mc, slots := ms, locals := 120 + 40 * d }
def xws (mi : Nat) : List Cond := xcw mi :: lw_tbl.filter goodWord
def xmc (r : xR) (ph : xH) (g : Nat) : Nat := xcc r.2.1 r.2.2 - xcc ph g
def xms (r : xR) (ph : xH) (g : Nat) : Nat := xcs r.2.1 r.2.2 - xcs ph g
def xCon (l : Launch) (b B : Nat) (D : va_G) (ca : Nat → ClassId) (xs : List xV) (d mi : Nat) (as : List xV) (ph : xH) (g : Nat) (r : xR) : Prop :=
  vx_Met l (xy mi) (xws mi) (xrm d (xmc r ph g) (xms r ph g)) (xPc b B D ca xs as ph g) (xQc b B D ca xs r) (xXc b B D ca xs r) (xmc r ph g) (xms r ph g) (xA B)
/-- what stands at a method's frame -/
def xCx (b B : Nat) (D : va_G) (ca : Nat → ClassId) (xs : List xV) (p : Program) (s : State) (m : MethodId) (args : Array Value) (meth : Method) (c : Code) (mi : Nat) : Prop :=
  p.tables.exec = Jvm.exec ∧ c.code = xby mi ∧ c.maxLocals = xmaxL mi ∧ s.vm.findClass (xRn (xown mi)) = some m.cls ∧ (∀ w, xG w → w.before args s = true) ∧ meth.sig.returnType = xre mi ∧ meth.locks = false ∧ (xsk mi = 2 → meth.name = "<init>") ∧ c.exceptionTable.toList = tableOf (xhh mi) ∧ xFx b B D ca xs s
theorem xPc_blind (b B : Nat) (D : va_G) (ca : Nat → ClassId) (xs : List xV) (as : List xV) (ph : xH) (g : Nat) : FrameBlind (xPc b B D ca xs as ph g) := by
  intro a U g mk h
  obtain ⟨h1, h2, h3⟩ := h
  exact ⟨h1, h2, xFx_go (U := U.calling g mk a) h3 (State.WarmedH.refl U) rfl (Nat.le_refl _) (fun _ _ _ => rfl)⟩
theorem xG_in {w : Cond} {mi : Nat} (h : xG w) : w ∈ xws mi := List.mem_cons_of_mem _ (List.mem_filter.mpr h)
theorem xws_G {mi : Nat} (hM : xMok mi) {w : Cond} (h : w ∈ xws mi) : xG w := by
  rcases List.mem_cons.mp h with h | h
  · rw [h]; exact hM.1.1
  · exact List.mem_filter.mp h
theorem xCon_of {l : Launch} {b B : Nat} {D : va_G} {ca : Nat → ClassId} {xs : List xV} {d mi : Nat} {as : List xV} {ph : xH} {g : Nat} {r : xR} (hM : xMok mi) (hsz : xasz as ≤ xmaxL mi)
    (body : ∀ p e s m args below meth c, xCx b B D ca xs p s m args meth c mi → xRelH b B D ca xs ph g s.heap → ∀ ls, xlvR b B ls (xmaxL mi) (xent as) → W p l e (xrm d (xmc r ph g) (xms r ph g)) s m args below meth c s.heap [] 0 0 (vx_MQ below (xQc b B D ca xs r) (xXc b B D ca xs r) args s (xmc r ph g) (xms r ph g) (xA B)) (F0 m 0 ls [])) : xCon l b B D ca xs d mi as ph g r := by
  obtain ⟨⟨hM1, hM2⟩, ⟨hM3, hM4, hM5, hM6, hM7⟩, hM8, hM9⟩ := id hM
  have fin : ∀ (p : Program) (e : Env) (s : State) (m : MethodId) (args : Array Value) (below : List Frame) (meth : Method) (c : Code) (s₁ : State), BodyLoose p l (xy mi) (headSpec (xws mi) (xrm d (xmc r ph g) (xms r ph g))) (xby mi) (xmaxL mi) (xre mi) e s m args below meth c s₁ → c.maxLocals = xmaxL mi → c.exceptionTable.toList = tableOf (xhh mi) → xPc b B D ca xs as ph g args s →
      W p l e (headSpec (xws mi) (xrm d (xmc r ph g) (xms r ph g))).room s m args below meth c s.heap [] 0 0 (vx_MQ below (xQc b B D ca xs r) (xXc b B D ca xs r) args s (xmc r ph g) (xms r ph g) (xA B)) (entryFrame m args (xmaxL mi)) := by
    intro p e s m args below meth c s₁ BL hml ht hv
    obtain ⟨rfl, hrel, hfx⟩ := hv
    have hts := atoms_spec (ws := xws mi) BL.pre
    have hown : s.vm.findClass (xy mi).cls = some m.cls := findClass_of_methodNamed BL.named
    have hnm := (name_of_methodNamed BL.named BL.method).1
    have hl := lv_entry (as.map (xm b B)) (n := xmaxL mi) (by rw [xasz_eq]; exact hsz)
    rw [lg_entry_eq]
    refine body p e s m _ below meth c ⟨BL.exec, BL.bytes, hml, by rw [← hM7]; exact hown, fun w hw => hts w (xG_in hw), BL.returns, BL.notSynchronized, fun h2 => ?_, ht, hfx⟩ hrel _ (xlvR_ent as hl)
    rcases hM9 with h | h | h
    · rw [h.1] at h2; cases h2
    · rw [h.1] at h2; cases h2
    · rw [← h.2.2.1]; exact hnm
  cases hh : xhh mi with
  | nil =>
    refine vx_ofW (cc := xby mi) (maxL := xmaxL mi) (ret := xre mi) (ws' := lw_tbl.filter goodWord) hM6 (by unfold xws xcw; rw [hh]) ?_
    intro p e s m args below meth c s₁ BL hml ht hv
    exact fin p e s m args below meth c s₁ BL hml (by rw [hh]; exact List.eq_nil_iff_forall_not_mem.mpr (fun x hx => ht x hx)) hv
  | cons q t =>
    have hcw : xcw mi = Cond.codeWith (xy mi) (xby mi) (xmaxL mi) (xre mi) (xhh mi) := by unfold xcw; rw [hh]
    refine vx_ofWH (cc := xby mi) (maxL := xmaxL mi) (ret := xre mi) (hh := xhh mi) (ws' := lw_tbl.filter goodWord) hM6 (by unfold xws; rw [hcw]) ?_
    intro p e s m args below meth c s₁ BL hml hv
    refine fin p e s m args below meth c s₁ BL hml ?_ hv
    have hts := atoms_spec (ws := xws mi) BL.pre
    exact vx_table (x := xy mi) BL (by rw [← hcw]; exact hts _ List.mem_cons_self)
theorem xpop_eq {n : Nat} {st as r : List xV} (h : xpop n st = some (as, r)) : st = as.reverse ++ r ∧ as.length = n := by
  unfold xpop at h
  split at h
  · rename_i hn
    simp only [Option.some.injEq, Prod.mk.injEq] at h
    obtain ⟨rfl, rfl⟩ := h
    refine ⟨by rw [List.reverse_reverse, List.take_append_drop], ?_⟩
    rw [List.length_reverse, List.length_take]
    omega
  · cases h
theorem xcats (b B : Nat) (r : List xV) (h : r.length ≤ 4) : ((r.map (xm b B)).map fun v => v.category).sum ≤ 8 := by
  have key : ∀ r : List xV, ((r.map (xm b B)).map fun v => v.category).sum ≤ 2 * r.length := by
    intro r
    induction r with
    | nil => simp
    | cons a t ih =>
      simp only [List.map_cons, List.sum_cons, List.length_cons]
      have : (xm b B a).category ≤ 2 := by rw [xcat_eq]; split <;> omega
      omega
  have := key r
  omega
section XS
variable {p : Program} {l : Launch} {e : Env} {R : Room} {s : State} {m : MethodId} {args : Array Value} {below : List Frame} {meth : Method} {c : Code} {H : Heap} {locs : List Loc} {cells slots : Nat} {Q : State → Prop}
variable {b B : Nat} {D : va_G} {ca : Nat → ClassId} {xs : List xV} {mi pc : Nat} {ls : Array Slot}
theorem xAfter {r1 : xR} {mc ms : Nat} {st0 rest : List Value} {a : Array Value} (hr : vx_Run p l e R s m args below meth c H locs cells slots mc ms (F0 m pc ls st0) rest (xQc b B D ca xs r1 a) (xXc b B D ca xs r1) (xA B)) (hS : va_S (xA B) s.heap H locs)
    (kk : ∀ (v : Option xV) (ph1 : xH) (g1 : Nat) (H1 : Heap) (locs1 : List Loc), r1 = (.inl v, ph1, g1) → (∀ w, v = some w → xwf w) → xRelH b B D ca xs ph1 g1 H1 → va_S (xA B) s.heap H1 locs1 → W p l e R s m args below meth c H1 locs1 (cells + mc) (slots + ms) Q (F0 m (pc + 3) ls ((v.map (xm b B)).toList ++ rest)))
    (kx : ∀ (E : Nat) (ph1 : xH) (g1 : Nat) (H1 : Heap) (locs1 : List Loc) (ce : Cell) (q9 : Addr), r1 = (.inr E, ph1, g1) → E < 3 → xRelH b B D ca xs ph1 g1 H1 → va_S (xA B) s.heap H1 locs1 → H1[q9]? = some ce → ce.vm = .none → s.vm.findClass (xEn E) = some ce.cls → vx_W p l e R s m args below meth c H1 locs1 (cells + mc) (slots + ms) Q (F0 m pc ls rest) q9) :
    W p l e R s m args below meth c H locs cells slots Q (F0 m pc ls st0) := by
  intro T hT X
  rcases hr T hT X with ⟨v, st₀, t, T', L, h0, X', hL, e1, e2, hq, st⟩ | ⟨q, st₀, t, T', L, E, ce, h0, X', hL, e1, e2, hx, hce, hcv, hcl, st⟩
  · obtain ⟨v1, ph1, g1, hr1, ho, hrel, hF, hwv⟩ := hq
    cases ho
    obtain ⟨k1, k2, k3⟩ := vx_keep h0 e1 hS (fun q _ h => h) (fun q h => h) hL hF
    obtain ⟨t2, a1, b1⟩ := kk v1 ph1 g1 T'.heap (locs ++ L) hr1 hwv (by rw [e1]; exact hrel) k3 T' rfl X'
    exact ⟨t2, st t2 a1, b1⟩
  · obtain ⟨e9, ph1, g1, hr1, he, rfl, hrel, hF⟩ := hx
    obtain ⟨k1, k2, k3⟩ := vx_keep h0 e1 hS (fun q _ h => h) (fun q h => h) hL hF
    obtain ⟨t2, a1, b1⟩ := kx e9 ph1 g1 T'.heap (locs ++ L) ce q hr1 he (by rw [e1]; exact hrel) k3 (by rw [e1]; exact hce) hcv hcl T' rfl X'
    exact ⟨t2, st.trans a1, b1⟩
theorem xCallB {mi' d' mc ms index : Nat} (hM : xMok mi') (hlt : mi' < 148) (hts : ∀ w, xG w → w.before args s = true) (hh : xhh mi' = []) (hR : 8 + (d' + 1) ≤ R.frames ∧ 120 + 40 * (d' + 1) ≤ R.locals) (hl : (Cond.methodLink (xRn (xown mi)) index (xy mi')).before args s = true) :
    CallB R s args (xRn (xown mi)) index (xy mi') (xby mi') (xmaxL mi') (xre mi') (xws mi') (xrm d' mc ms) mc ms (xnp mi') := by
  have hcw : xcw mi' = Cond.code (xy mi') (xby mi') (xmaxL mi') (xre mi') := by unfold xcw; rw [hh]
  have h21 := xmaxL_le mi' hlt
  refine ⟨rfl, rfl, by show 8 + d' + 1 ≤ _; omega, by show 8 + (xmaxL mi' + 11) + (120 + 40 * d') ≤ _; omega, fun w hw a' U hW => word_at hW (good_of_word (xws_G hM hw).2) (hts w (xws_G hM hw)), by unfold xws; rw [hcw]; exact List.mem_cons_self, by rw [← hcw]; exact hts _ hM.1.1, hts _ hM.1.2, ⟨hM.2.1.1, hM.2.1.2.1⟩, fun sig h => ?_, hl⟩
  have h2 := hM.2.1.2.2.1
  rw [h] at h2
  exact (Option.some.inj h2).symm
theorem xCallCN {mi' d' mc ms index : Nat} {host : String} (hM : xMok mi') (hlt : mi' < 148) (hts : ∀ w, xG w → w.before args s = true) (hh : xhh mi' = []) (hR : 8 + (d' + 1) ≤ R.frames ∧ 120 + 40 * (d' + 1) ≤ R.locals) (hl : va_Nw (.methodLinkNest (xRn (xown mi)) index (xy mi') host) s) :
    va_CN R s args (xRn (xown mi)) index (xy mi') host (xby mi') (xmaxL mi') (xre mi') (xws mi') (xrm d' mc ms) mc ms (xnp mi') := by
  have hcw : xcw mi' = Cond.code (xy mi') (xby mi') (xmaxL mi') (xre mi') := by unfold xcw; rw [hh]
  have h21 := xmaxL_le mi' hlt
  refine ⟨⟨rfl, rfl, by show 8 + d' + 1 ≤ _; omega, by show 8 + (xmaxL mi' + 11) + (120 + 40 * d') ≤ _; omega, fun w hw a' U hW => word_at hW (good_of_word (xws_G hM hw).2) (hts w (xws_G hM hw)), by unfold xws; rw [hcw]; exact List.mem_cons_self⟩, by rw [← hcw]; exact hts _ hM.1.1, hts _ hM.1.2, ⟨hM.2.1.1, hM.2.1.2.1⟩, fun sig h => ?_, va_Nw.use rfl hl⟩
  have h2 := hM.2.1.2.2.1
  rw [h] at h2
  exact (Option.some.inj h2).symm
theorem xCallSW {mi' d' mc ms index : Nat} (hM : xMok mi') (hlt : mi' < 148) (hts : ∀ w, xG w → w.before args s = true) (hh : xhh mi' ≠ []) (hsk : xsk mi' = 1) (hR : 8 + (d' + 1) ≤ R.frames ∧ 120 + 40 * (d' + 1) ≤ R.locals) (hl : (Cond.methodLink (xRn (xown mi)) index (xy mi')).before args s = true) :
    vx_CSW R s args (xRn (xown mi)) index (xy mi') (xby mi') (xmaxL mi') (xre mi') (xhh mi') (xws mi') (xrm d' mc ms) mc ms (xnp mi') := by
  have hcw : xcw mi' = Cond.codeWith (xy mi') (xby mi') (xmaxL mi') (xre mi') (xhh mi') := by
    unfold xcw
    cases h : xhh mi' with
    | nil => exact absurd h hh
    | cons q t => rfl
  have h21 := xmaxL_le mi' hlt
  have hst : (Cond.static (xy mi')).before args s = true := by
    rcases hM.2.2.2 with h | h | h
    · rw [h.1] at hsk; cases hsk
    · exact hts _ h.2
    · rw [h.1] at hsk; cases hsk
  refine ⟨⟨rfl, rfl, by show 8 + d' + 1 ≤ _; omega, by show 8 + (xmaxL mi' + 11) + (120 + 40 * d') ≤ _; omega, fun w hw a' U hW => word_at hW (good_of_word (xws_G hM hw).2) (hts w (xws_G hM hw)), by unfold xws; rw [hcw]; exact List.mem_cons_self⟩, by rw [← hcw]; exact hts _ hM.1.1, hts _ hM.1.2, ⟨hM.2.1.1, hM.2.1.2.1⟩, fun sig h => ?_, hl, hst⟩
  have h2 := hM.2.1.2.2.1
  rw [h] at h2
  exact (Option.some.inj h2).symm
end XS
