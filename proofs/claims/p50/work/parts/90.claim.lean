/-! THE CLAIM OUT OF ONE WALK OF THE LAW'S BODY. Your part is whole_start (and what it stands on); all else here is the same for every law, but numbers. -/
def R_law : String := "TemplateScopesLaw"
def lw_P (b : Addr) (xs : List Int32) (args : Array Value) (s : State) : Prop := args = #[.ref b] ∧ s.IntsAt b xs ∧ xs.length ≤ 260 ∧ (Jvm.Cond.and given_1 narrow_1).before args s = true
/-- what a walk over the start with the record d0 says of its end, said of the start itself -/
theorem lw_closed {s t : State} {o : Outcome} {d0 : Drawn} {L : List Loc} {k n : Nat} (hd0 : s.drawn.sameBut d0 lw_cs) (hv : ∃ v, o = .returned v) (hW : (s.setDrawn d0).WarmedH t.vm) (hs : (s.setDrawn d0).sameButNew ({ t with vm := s.vm } : State) L k n) : State.butDraws s t lw_cs (fun t1 => Framed s o t1 L k n) := by
  have h2 : t.drawn = d0 := congrArg State.drawn hs.1
  refine ⟨⟨hv, hW, State.sameButNew.setDrawn hs s.drawn⟩, ?_, by decide⟩
  rw [h2]
  exact hd0
def lw_Q (_ : Array Value) (s : State) (o : Outcome) (t : State) : Prop := o = .returned (some (.int 1)) ∧ State.butDraws s t lw_cs (fun t1 => Framed s o t1 [] 600172 7300668)
def lw_Z (below : List Frame) (a : Array Value) (s : State) : State → Prop := fun t => ∃ o, t.status = .running ∧ Ended t below o ∧ lw_Q a s o t
/-- the law's own end, with 1 on the stack, nothing written that was there before, its room as the claim has it; d0: the record of draws at this point (at the entry s.drawn: begin with 'refine W.base ?_' and 'have hd0 := Drawn.sameBut.refl s.drawn lw_cs') -/
theorem lw_ret {p : Program} {l : Launch} {e : Env} {s : State} {m : MethodId} {below : List Frame} {meth : Method} {c : Code} {b : Nat} {d0 : Drawn} (hd0 : s.drawn.sameBut d0 lw_cs) (hx : p.tables.exec = Jvm.exec) (hb : c.code = code) (hr : meth.sig.returnType = ret) (hlocks : meth.locks = false) {pc : Nat} {H : Heap} {ls : Array Slot} (hdg : decode code pc = .ok (.ireturn, 1)) : W p l e room_1 (s.setDrawn d0) m #[Value.ref b] below meth c H [] 600172 7300668 (lw_Z below #[Value.ref b] s) (F0 m pc ls [.int 1]) := by
  intro T hT X
  obtain ⟨fs, hret, hrun, hended, hW, hframe⟩ := X.leave (v := some (.int 1)) (hlocks := hlocks) (fun h => by rw [hr] at h; cases h)
  have hmeth' : T.vm.method? m = some meth := X.method'
  refine ⟨T.setFrames fs, ?_, .returned (some (.int 1)), hrun, hended, rfl, lw_closed hd0 ⟨_, rfl⟩ hW hframe⟩
  jvm_step X.here [X.here.top, hx, hb, hdg, hmeth', hr, ret, narrow_b1]
  (try refine ⟨rfl, ?_⟩); (try refine ⟨rfl, ?_⟩)
  first | (intro acts; rw [hret _ acts rfl rfl rfl]) | rw [hret _ _ rfl rfl rfl]
  exact Steps.refl _
/-- what holds at the law's entry: the machine, the code, the tables' words (any of lw_tbl by 'hts w (by decide +kernel)'), the script of L ints xs at the cell b, what the Statement gives of the start (any of its parts by flat_of_before) -/
def lw_At (p : Program) (s : State) (m : MethodId) (meth : Method) (c : Code) (b L : Nat) (xs : Nat → Int32) : Prop :=
  p.tables.exec = Jvm.exec ∧ c.code = code ∧ meth.sig.returnType = ret ∧ c.maxLocals = 10 ∧ s.vm.findClass R_law = some m.cls ∧ (∀ w ∈ lw_tbl, w.before #[Value.ref b] s = true) ∧ va_X b L xs s s.heap ∧ b < s.heap.size ∧ meth.locks = false ∧ (Jvm.Cond.and given_1 narrow_1).before #[Value.ref b] s = true ∧ c.exceptionTable.toList = tableOf (xhh 147)

theorem xarr_byte : xG (.arrayClass .byte) := xg2 201 (by decide +kernel) rfl
theorem xknown {s : State} {args : Array Value} (hts : ∀ w, xG w → w.before args s = true) : ∃ D : va_G, ∀ (k : Nat) (q : vw_C), vwCl[k]? = some q → u_Kn s q.1 q.2.1 q.2.2 (D.1 k) (D.2 k) := by
  have h : ∀ k : Nat, ∃ p : ClassId × (Nat → Nat), ∀ q : vw_C, vwCl[k]? = some q → u_Kn s q.1 q.2.1 q.2.2 p.1 p.2 := by
    intro k
    by_cases hk : k < 10
    · have hC := xCall hk
      obtain ⟨cC, iS, hKn⟩ := u_known (C := (xCl k).1) (T := (xCl k).2.1) (N := (xCl k).2.2) (n := (xCl k).2.2) (ws := lw_tbl.filter goodWord) (fun w hw => hts w (List.mem_filter.mp hw)) (fun w hw => List.mem_filter.mpr (hC.2.2.1 w hw)) (hts _ hC.2.2.2.2.2.2.1)
      refine ⟨(cC, iS), fun q hq => ?_⟩
      have e : xCl k = q := Option.some.inj (hC.1.symm.trans hq)
      rw [← e]
      exact hKn
    · refine ⟨((0 : Nat), fun _ => 0), fun q hq => ?_⟩
      have h1 : k < vwCl.length := (List.getElem?_eq_some_iff.mp hq).1
      have h2 : vwCl.length = 10 := rfl
      omega
  obtain ⟨f, hf⟩ := Classical.axiomOfChoice h
  exact ⟨(fun k => (f k).1, fun k => (f k).2), fun k q hq => hf k q hq⟩
theorem xarrs {s : State} {args : Array Value} (hts : ∀ w, xG w → w.before args s = true) (hov : (Cond.arrayOver (.object (xCl 6).1)).before args s = true) : ∃ ca : Nat → ClassId, ∀ (k : Nat) (q : ClassId × FieldType), (xtys ca)[k]? = some q → ArrOfT s q.1 q.2 ∧ va_RA s q.1 q.2 := by
  obtain ⟨c1, k1, m1, a1, b1, d1⟩ := Cond.arrayClass_spec (hts _ xarr_int)
  obtain ⟨c2, k2, m2, a2, b2, d2⟩ := Cond.arrayClass_spec (hts _ xarr_char)
  obtain ⟨c3, k3, m3, a3, b3, d3⟩ := Cond.arrayClass_spec (hts _ xarr_byte)
  obtain ⟨m4, c4, k4, a4, -, b4, d4, e4⟩ := Cond.arrayOver_spec hov
  refine ⟨fun t => if t = 100 then c1 else if t = 101 then c2 else if t = 102 then c3 else c4, fun k q hq => ?_⟩
  match k, hq with
  | 0, hq => cases hq; exact ⟨fun n z => ⟨fun k h => (by cases h), k1, b1, m1, d1⟩, a1⟩
  | 1, hq => cases hq; exact ⟨fun n z => ⟨fun k h => (by cases h), k2, b2, m2, d2⟩, a2⟩
  | 2, hq => cases hq; exact ⟨fun n z => ⟨fun k h => (by cases h), k3, b3, m3, d3⟩, a3⟩
  | 3, hq => cases hq; exact ⟨fun n z => ⟨fun k h => (by cases h), k4, b4, m4, d4⟩, k4, m4, b4, d4, a4, e4⟩
  | k + 4, hq => simp [xtys] at hq
theorem xstrs {s : State} {args : Array Value} (hts : ∀ w ∈ lw_tbl, w.before args s = true) (hown : ∃ c, s.vm.findClass RX9 = some c) : ∀ q ∈ xSs, ∃ sa, vk_R RX9 q.1 q.2 sa s := by
  intro q hq
  obtain ⟨c, hc⟩ := hown
  have h1 := hts _ (xSs_all q hq)
  have h2 : (Cond.stringRef RX9 q.1 q.2).before #[] s = true := by simp only [Cond.before, Cond.holds, Cond.value] at h1 ⊢; exact h1
  obtain ⟨k1, cf, i, a, -, -, -, -, -, he⟩ := Cond.stringRef_spec hc h2
  exact ⟨a, h2, he⟩
theorem xfree {s s' : State} {L : List Loc} {k n : Nat} (h : s.sameButNew s' L k n) (hL : ∀ z ∈ L, s.heap.size ≤ z.base) : s.sameButNew s' [] k n := by
  obtain ⟨h1, h2, h3, h4, h5, h6⟩ := h
  refine ⟨h1, h2, h3, h4, h5, fun a c hac => ?_⟩
  obtain ⟨c', e1, e2, e3, e4⟩ := h6 a c hac
  refine ⟨c', e1, e2, e3, fun i _ => e4 i fun hm => ?_⟩
  have h7 : a < s.heap.size := (Array.getElem?_eq_some_iff.mp hac).1
  exact absurd (hL _ hm) (Nat.not_le.mpr h7)
theorem xby_law : xby 147 = code := rfl
theorem xre_law : xre 147 = ret := rfl
theorem xml_law : xmaxL 147 = 10 := by decide +kernel
theorem xsk_law : ¬ xsk 147 = 2 := by decide +kernel
theorem whole_start {p : Program} {e : Env} {s : State} {m : MethodId} {below : List Frame} {meth : Method} {c : Code} (l : Launch) (hflags : l.flags = flags0) {b L : Nat} {xs : Nat → Int32} (hL : L ≤ 260) (C0 : lw_At p s m meth c b L xs) : W p l e room_1 s m #[Value.ref b] below meth c s.heap [] 0 0 (lw_Z below #[Value.ref b] s) (entryFrame m ([Value.ref b] : List Value).toArray 10) := by
  obtain ⟨hx, hb, hr, hml, hown, hts0, hX, hbl, hlocks, hgv, htab⟩ := id C0
  have hts : ∀ w, xG w → w.before #[Value.ref b] s = true := fun w hw => hts0 w hw.1
  have hfl := flat_of_before _ hgv
  have hlf : l.stackTraces = false := by
    unfold Launch.stackTraces
    rw [hflags]
    decide +kernel
  obtain ⟨D, hD⟩ := xknown hts
  obtain ⟨ca, hca⟩ := xarrs hts (hts0 _ xarr_over)
  obtain ⟨zs, hzs⟩ : ∃ zs : List xV, zs = List.ofFn (n := L) (fun j => (.inl (xs j.val).toInt : xV)) := ⟨_, rfl⟩
  have hlen : zs.length = L := by rw [hzs, List.length_ofFn]
  have hget : ∀ j, j < L → zs[j]? = some (.inl (xs j).toInt) := fun j hj => by rw [hzs, List.getElem?_ofFn, dif_pos hj]
  have hint : ∀ v ∈ zs, ∃ x : Int, v = .inl x ∧ xin x := fun v hv => by
    obtain ⟨j, hj⟩ := List.getElem?_of_mem hv
    have h1 : j < L := by rw [← hlen]; exact (List.getElem?_eq_some_iff.mp hj).1
    rw [hget j h1] at hj
    exact ⟨(xs j).toInt, (Option.some.inj hj).symm, xin_of _⟩
  obtain ⟨n, ph, g, hrun, hc1, hc2⟩ := xlaw zs hint (by rw [hlen]; exact hL)
  obtain ⟨B, hB⟩ : ∃ B, s.heap.size = B + 1 := ⟨s.heap.size - 1, (Nat.succ_pred_eq_of_pos (Nat.zero_lt_of_lt hbl)).symm⟩
  have hA : ∀ a : Nat, a < s.heap.size → ¬ xA B a := fun a ha hq => by have : B < a := hq; omega
  have hfx : xFx b B D ca zs s := by
    refine ⟨⟨hD, hca⟩, ⟨vx_Zqof (hts0 _ (xh2 161 (by decide +kernel))) (hts _ (xg1 12 (by decide +kernel) rfl)) (hfl _ (by decide +kernel)) hA, vx_Zqof (hts0 _ (xh2 163 (by decide +kernel))) (hts _ (xg1 12 (by decide +kernel) rfl)) (hfl _ (by decide +kernel)) hA⟩, xstrs hts0 ?_, fun q hq => va_Nw.of rfl (hts0 _ (xDc_all q hq)), fun e9 he => xCb.of (hts0 _ (xcast he)), ?_, va_AO.of (hts0 _ xarr_over), ⟨fun a i r n d h hm => va_Nw.of rfl (hts0 _ hm), fun a i x9 h hm => va_Nw.of rfl (hts0 _ hm)⟩, ?_, by omega, by omega⟩
    · have h9 := hD 9 _ (xCall (by omega : 9 < 10)).1
      exact ⟨_, h9.2.1⟩
    · intro e1 e2 h1 h2 hne
      match e1, e2, h1, h2, hne with
      | 0, 0, _, _, hne => exact absurd rfl hne
      | 1, 1, _, _, hne => exact absurd rfl hne
      | 2, 2, _, _, hne => exact absurd rfl hne
      | 0, 1, _, _, _ => exact va_Nc.of (hfl _ (by decide +kernel))
      | 0, 2, _, _, _ => exact va_Nc.of (hfl _ (by decide +kernel))
      | 1, 0, _, _, _ => exact va_Nc.of (hfl _ (by decide +kernel))
      | 1, 2, _, _, _ => exact va_Nc.of (hfl _ (by decide +kernel))
      | 2, 0, _, _, _ => exact va_Nc.of (hfl _ (by decide +kernel))
      | 2, 1, _, _, _ => exact va_Nc.of (hfl _ (by decide +kernel))
    · obtain ⟨scr, q1, q2, q3, q4, q5⟩ := hX
      refine ⟨scr, q1, q2, q3, by rw [hlen]; exact q4, fun j hj => ?_⟩
      rw [hlen] at hj
      rw [q5 j hj]
      show _ = some (Value.int (xmI zs[j]?))
      rw [hget j hj]
      simp only [xmI, xi_of]
  have hrel : xRelH b B D ca zs [(200, zs)] 0 s.heap := by
    refine ⟨fun k q hq => by simp [xw, xwl] at hq, ⟨fun i j p q hp => by simp [xw, xwl] at hp, fun k q hq => by simp [xw, xwl] at hq⟩, fun _ => hB, by rw [hB]; exact Nat.le_refl _, ⟨[], rfl, fun c hc => by cases hc⟩, fun c hc v hv => ?_⟩
    rw [List.mem_singleton.mp hc] at hv
    obtain ⟨x, rfl, hx⟩ := hint v hv
    exact hx
  have hl := lv_entry (([.inr (.inl (some 0))] : List xV).map (xm b B)) (n := 10) (by rw [xasz_eq]; decide)
  have CX : xCx b B D ca zs p s m #[Value.ref b] meth c 147 := by
    exact ⟨hx, hb.trans xby_law.symm, hml.trans xml_law.symm, hown, hts, hr.trans xre_law.symm, hlocks, fun h => absurd h xsk_law, htab, hfx⟩
  have hg9 := xr_grow2 hrun
  have e0 : xcc [(200, zs)] 0 = 1 := rfl
  have e1 : xcs [(200, zs)] 0 = L := by unfold xcs xsl; simp [hlen]
  have e2 : xcc ph g = ph.length + g := rfl
  have e3 : xcs ph g = xsl ph + 6 * g := rfl
  simp only at hg9
  rw [lg_entry_eq]
  have key := xsound hlf n 2000 147 0 (xent [.inr (.inl (some 0))]) [] [(200, zs)] 0 _ hrun (by omega) (p := p) (e := e) (s := s) (m := m) (args := #[Value.ref b]) (below := below) (meth := meth) (c := c) (R := room_1) CX ⟨Nat.le_of_ble_eq_true rfl, Nat.le_of_ble_eq_true rfl⟩ s.heap [] 0 0 (xcc ph g - 1) (xcs ph g - L) _ (xlvR_ent [.inr (.inl (some 0))] hl) (xent_wf (fun v hv => by rw [List.mem_singleton.mp hv]; trivial)) (fun v hv => by cases hv) hrel va_S.rf (by show 0 + xcc ph g = (xcc ph g - 1) + xcc [(200, zs)] 0; rw [e0]; omega) (by show 0 + xcs ph g = (xcs ph g - L) + xcs [(200, zs)] 0; rw [e1]; omega) (by show _ ≤ 600172; omega) (by show _ ≤ 7300668; omega)
  intro T hT X
  obtain ⟨t, a1, o, hrn, hend, hq⟩ := key T hT X
  refine ⟨t, a1, o, hrn, hend, ?_⟩
  rcases hq with ⟨⟨v, ph9, g9, hr9, ho, -⟩, L9, hF, hfree⟩ | ⟨q, -, E, ce, L9, ⟨e9, ph9, g9, hr9, -⟩, -⟩
  · cases hr9
    obtain ⟨hv, hW, hs⟩ := hF
    refine ⟨ho, lw_closed (d0 := s.drawn) (Drawn.sameBut.refl s.drawn lw_cs) hv hW ?_⟩
    exact (xfree hs (fun z hz => by have : B < z.base := hfree z hz; omega)).mono (by omega) (by omega)
  · cases hr9
-- ===== YOUR PART ENDS =====
set_option maxHeartbeats 4000000 in
theorem lw_walk (l : Launch) (hflags : l.flags = flags0) (b : Addr) (xs : List Int32) : MetFree l x (headSpec (Jvm.Cond.code x code maxLocals ret :: tables_1) room_1) (lw_P b xs) (fun _ _ _ _ _ => True) lw_Q := by
  refine MetFree.of_bodyS (code := code) (maxLocals := maxLocals) (ret := ret) (by decide) ?_ ?_
  · intro args s m h hn
    obtain ⟨meth, c, h1, h2, h3, h4, h5, h6, -, -⟩ := Cond.code_spec hn (atoms_spec (ws := Jvm.Cond.code x code maxLocals ret :: tables_1) h _ List.mem_cons_self)
    exact ⟨meth, c, h1, h2, h3, h4, h5, h6⟩
  · intro p e s m args below meth c s₁ B hml0 hP _
    obtain ⟨rfl, hx, hbd, hgv⟩ := hP
    obtain ⟨scr, harrAt, hlist, hof, hsmall⟩ := hx
    obtain ⟨hcb, hkn, -, -⟩ := State.arrayAt?_spec harrAt
    have hown : s.vm.findClass R_law = some m.cls := findClass_of_methodNamed B.named
    have hts0 : ∀ c ∈ (Jvm.Cond.code x code maxLocals ret :: tables_1), c.before #[Value.ref b] s = true := atoms_spec (ws := Jvm.Cond.code x code maxLocals ret :: tables_1) B.pre
    have hts : ∀ w ∈ lw_tbl, w.before #[Value.ref b] s = true := k2_hts_sels lw_privs (fun w hw => hts0 w (List.mem_cons_of_mem _ hw)) lw_privs_ok
    have hml : c.maxLocals = 10 := B.maxLocals_eq (hts0 _ List.mem_cons_self)
    have htab : c.exceptionTable.toList = tableOf (xhh 147) := by
      obtain ⟨meth9, c9, h1, h2, -, -, -, -, h7, -⟩ := Cond.code_spec B.named (hts0 _ List.mem_cons_self)
      cases Option.some.inj (h1.symm.trans B.method)
      cases Option.some.inj (h2.symm.trans (Stand.of_body B).code)
      rw [Array.isEmpty_iff.mp h7]
      rfl
    have X₀ : Stand p l e room_1 s m #[Value.ref b] below meth c s₁ [] 0 0 := Stand.of_body B
    have hh0 : s₁.heap = s.heap := by rw [B.state]; rfl
    have hsz : scr.slots.size = xs.length := by rw [← Array.length_toList, hlist, List.length_map]
    have hval : ∀ j : Nat, j < xs.length → scr.slots[j]? = some (.int (xs.getD j 0)) := fun j hj => by
      rw [← Array.getElem?_toList, hlist]
      simp [hj]
    have hbl : b < s.heap.size := (Array.getElem?_eq_some_iff.mp hcb).1
    have hX : va_X b xs.length (fun j => xs.getD j 0) s s.heap := ⟨scr, hcb, hof, hkn, hsz, hval⟩
    have K : W p l e room_1 s m #[Value.ref b] below meth c s₁.heap [] 0 0 (lw_Z below #[Value.ref b] s) (entryFrame m ([Value.ref b] : List Value).toArray 10) := by
      rw [hh0]
      exact whole_start l hflags hbd ⟨B.exec, B.bytes, B.returns, hml, hown, hts, hX, hbl, B.notSynchronized, hgv, htab⟩
    obtain ⟨t, a1, o, b1, b2, b3⟩ := K s₁ rfl X₀
    exact ⟨t, o, a1, b1, b2, b3⟩
theorem lw_pre_spec {args : Array Value} {s : State} (h : (Jvm.Cond.and given_1 narrow_1).before args s = true) (hr : rest_1_c.before args s = true) : ∃ (b : Addr) (xs : List Int32), lw_P b xs args s := by
  have hs := flat_of_before _ h
  have hq := flat_of_before _ hr
  have hc : (Cond.count 1).before args s = true := hs _ (by decide +kernel)
  have harr : (Cond.arrayOf (.arg 0) .int).before args s = true := hs _ (by decide +kernel)
  have hle : (Cond.le (.length (.arg 0)) (.int 260)).before args s = true := hs _ (by decide +kernel)
  have hlen : (Cond.isInt (.length (.arg 0))).before args s = true := hq _ (by decide +kernel)
  have hall : (Cond.all (.arg 0) (.isInt (.elem (.arg 0) (.index 0)))).before args s = true := hq _ (by decide +kernel)
  obtain ⟨b, xs, hb, hx⟩ := State.ints_of_pre rfl harr hlen hall
  have hsm : xs.length < 2 ^ 31 := hx.choose_spec.2.2.2
  have hev : (Term.length (.arg 0)).eval args s none [] s = some (.int xs.length.toInt32) := hx.length_eval hb
  have hv := Cond.le_ints hev (show (Term.int 260).eval args s none [] s = some (.int 260) from rfl)
  have hd : xs.length.toInt32 ≤ 260 := by
    simpa [Cond.before, Cond.holds, hv] using hle
  have hN : xs.length ≤ 260 := (Int32.ofNat_le_ofNat hsm (by decide)).mp (show Int32.ofNat xs.length ≤ Int32.ofNat 260 from hd)
  exact ⟨b, xs, Cond.one_arg hc (show args[0]? = some (.ref b) from hb), hx, hN, h⟩
theorem lw_comes (l : Launch) (hflags : l.flags = flags0) : Comes l x (Jvm.Cond.code x code maxLocals ret :: tables_1) room_1 (fun tb e args s => Calls_1 tb e args s ∧ rest_1 tb e args s ∧ Pre_1 tb e args s)
    (fun _ _ args s o t => lw_Q args s o t) := by
  intro p e ha hc hk s m args below hf hfit hheap happ hpre
  obtain ⟨b, xs, hP⟩ := lw_pre_spec hpre.2.2 hpre.2.1
  obtain ⟨k, o, h1, h2, h3, hQ⟩ := lw_walk l hflags b xs p e ha hc hk s m args below hf ((Spec.applies_iff_loose hf).mp happ).1 hP trivial
  exact ⟨k, o, h1, h2, h3, hQ⟩
theorem lw_frame {s t : State} {o : Outcome} {args : Array Value} (h : State.butDraws s t lw_cs (fun t1 => Framed s o t1 [] 600172 7300668)) :
    State.butDraws s t [Jvm.Choice.named "NaN.bits"] (fun t1 => Framed s o t1 (fieldLocs frame_1_writes args s ++ arrayLocs frame_1_arrays args s ++ staticLocs frame_1_statics s) 600172 7300668) := h
theorem lw_limb (L : Cond) (hL : ∀ (args : Array Value) (s t : State), L.after args s (.returned (some (.int 1))) t = true) :
    ArmFor flags0 classFile x code maxLocals ret World_1 tables_1 room_1 Calls_1 rest_1 Pre_1
      (fun tb e a s o t => postC L tb e a s o t ∧ State.butDraws s t [Jvm.Choice.named "NaN.bits"] (fun t1 => Framed s o t1 (fieldLocs frame_1_writes a s ++ arrayLocs frame_1_arrays a s ++ staticLocs frame_1_statics s) 600172 7300668)) := by
  intro l hflags _ _ p e ha hc hk s m args below hf hfit hheap happ hpre
  obtain ⟨k, o, h1, h2, h3, rfl, hF⟩ := lw_comes l hflags p e ha hc hk s m args below hf hfit hheap happ hpre
  exact ⟨k, _, h1, h2, h3, hL args s _, lw_frame hF⟩
theorem i_vc : Claimed_1_1 ∧ Claimed_1_2 := ⟨lw_limb limb_1_1 (fun args s t => by simp [limb_1_1, Cond.after, Cond.holds, Cond.value]), lw_limb limb_1_2 (fun args s t => Cond.after_iff.mpr (by
  first | (rw [show limb_1_2 = Cond.eq .result (.int 1) from rfl, Cond.eq_ints (x := 1) (y := 1) rfl rfl]; simp; done) | (simp [limb_1_2, Cond.value, Term.eval]; done)))⟩
