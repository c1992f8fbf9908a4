/-! ===== links of constructors and of methods with handlers ===== -/
def xIok (q : Nat × Nat × Nat) : Prop := xG (.methodLink (xRn q.1) q.2.1 (xy q.2.2))
theorem xI_1_24 : xIok (1, 24, 51) := (xg1 216 (by decide +kernel) rfl)
theorem xI_1_33 : xIok (1, 33, 73) := (xg1 218 (by decide +kernel) rfl)
theorem xI_2_17 : xIok (2, 17, 48) := (xg2 55 (by decide +kernel) rfl)
theorem xI_3_11 : xIok (3, 11, 73) := (xg1 115 (by decide +kernel) rfl)
theorem xI_4_11 : xIok (4, 11, 26) := (xg1 110 (by decide +kernel) rfl)
theorem xI_4_20 : xIok (4, 20, 40) := (xg1 158 (by decide +kernel) rfl)
theorem xI_4_27 : xIok (4, 27, 73) := (xg1 175 (by decide +kernel) rfl)
theorem xI_5_11 : xIok (5, 11, 73) := (xg1 163 (by decide +kernel) rfl)
theorem xI_6_11 : xIok (6, 11, 73) := (xg2 23 (by decide +kernel) rfl)
theorem xI_6_22 : xIok (6, 22, 26) := (xg2 25 (by decide +kernel) rfl)
theorem xI_9_11 : xIok (9, 11, 73) := (xg1 28 (by decide +kernel) rfl)
theorem xI_9_27 : xIok (9, 27, 51) := (xg1 53 (by decide +kernel) rfl)
theorem xI_9_36 : xIok (9, 36, 32) := (xg1 104 (by decide +kernel) rfl)
theorem xI_9_43 : xIok (9, 43, 0) := (xg1 195 (by decide +kernel) rfl)
theorem xI_9_52 : xIok (9, 52, 8) := (xg1 211 (by decide +kernel) rfl)
theorem xI_9_59 : xIok (9, 59, 48) := (xg2 18 (by decide +kernel) rfl)
theorem xI_9_69 : xIok (9, 69, 21) := (xg2 49 (by decide +kernel) rfl)
theorem xI_11_67 : xIok (11, 67, 101) := (xg3 26 (by decide +kernel) rfl)
theorem xI_11_131 : xIok (11, 131, 102) := (xg4 179 (by decide +kernel) rfl)
theorem xI_11_175 : xIok (11, 175, 81) := (xg1 20 (by decide +kernel) rfl)
def xIs_l0 : List (Nat × Nat × Nat) := [(1, 24, 51), (1, 33, 73), (2, 17, 48), (3, 11, 73), (4, 11, 26), (4, 20, 40), (4, 27, 73), (5, 11, 73), (6, 11, 73), (6, 22, 26), (9, 11, 73), (9, 27, 51), (9, 36, 32), (9, 43, 0), (9, 52, 8), (9, 59, 48)]
theorem xIs_b0 : ∀ q ∈ xIs_l0, xIok q := List.forall_mem_cons.mpr ⟨xI_1_24, List.forall_mem_cons.mpr ⟨xI_1_33, List.forall_mem_cons.mpr ⟨xI_2_17, List.forall_mem_cons.mpr ⟨xI_3_11, List.forall_mem_cons.mpr ⟨xI_4_11, List.forall_mem_cons.mpr ⟨xI_4_20, List.forall_mem_cons.mpr ⟨xI_4_27, List.forall_mem_cons.mpr ⟨xI_5_11, List.forall_mem_cons.mpr ⟨xI_6_11, List.forall_mem_cons.mpr ⟨xI_6_22, List.forall_mem_cons.mpr ⟨xI_9_11, List.forall_mem_cons.mpr ⟨xI_9_27, List.forall_mem_cons.mpr ⟨xI_9_36, List.forall_mem_cons.mpr ⟨xI_9_43, List.forall_mem_cons.mpr ⟨xI_9_52, List.forall_mem_cons.mpr ⟨xI_9_59, fun _ h => absurd h List.not_mem_nil⟩⟩⟩⟩⟩⟩⟩⟩⟩⟩⟩⟩⟩⟩⟩⟩
def xIs_l16 : List (Nat × Nat × Nat) := [(9, 69, 21), (11, 67, 101), (11, 131, 102), (11, 175, 81)]
theorem xIs_b16 : ∀ q ∈ xIs_l16, xIok q := List.forall_mem_cons.mpr ⟨xI_9_69, List.forall_mem_cons.mpr ⟨xI_11_67, List.forall_mem_cons.mpr ⟨xI_11_131, List.forall_mem_cons.mpr ⟨xI_11_175, fun _ h => absurd h List.not_mem_nil⟩⟩⟩⟩
def xIs_l : List (Nat × Nat × Nat) := xIs_l0 ++ (xIs_l16)
theorem xIs_all : ∀ q ∈ xIs_l, xIok q := List.forall_mem_append.mpr ⟨xIs_b0, xIs_b16⟩
def xIin : Bool := (List.range 14).all (fun own => match xcalT[own]? with
  | some l => l.all (fun q => (Nat.beq (xsk q.2) 2 || !(xhh q.2).isEmpty) == false || decide ((own, q) ∈ xIs_l))
  | none => true)
theorem xIin_ok : xIin = true := by decide +kernel
theorem xcal_in {own i mi' : Nat} (h : xcal own i = some mi') (hk : xsk mi' = 2 ∨ xhh mi' ≠ []) : xIok (own, i, mi') := by
  unfold xcal at h
  cases hl : xcalT[own]? with
  | none => rw [hl] at h; cases h
  | some l =>
    rw [hl] at h
    have hlt : own < xcalT.length := (List.getElem?_eq_some_iff.mp hl).1
    have hlen : xcalT.length = 14 := by decide +kernel
    have h1 := List.all_eq_true.mp xIin_ok own (List.mem_range.mpr (by omega))
    rw [hl] at h1
    have h2 := List.all_eq_true.mp h1 _ (xfin_mem h)
    rw [Bool.or_eq_true] at h2
    rcases h2 with h2 | h2
    · exfalso
      have h3 : (Nat.beq (xsk mi') 2 || !(xhh mi').isEmpty) = true := by
        rcases hk with hk | hk
        · rw [hk]; rfl
        · cases he : xhh mi' with
          | nil => exact absurd he hk
          | cons a b => simp
      simp only [h3] at h2
      cases h2
    · exact xIs_all _ (of_decide_eq_true h2)
theorem xown_obj : ∀ mi, mi < 148 → xsk mi ≠ 1 → xown mi < 10 ∧ xhh mi = [] := by decide +kernel
theorem xhh_st : ∀ mi, mi < 148 → ∀ q ∈ xhh mi, (match xfetch mi q.2.2.1 with
  | some (.astore_n k) => decide ((k : Nat) < xmaxL mi)
  | some (.astore k) => decide (k < xmaxL mi)
  | _ => false) = true := by decide +kernel
theorem xrk_all {mi : Nat} (h : mi < 148) : xRk (xrk mi) (xre mi) := by
  by_cases h2 : mi = 147
  · subst h2
    show xre 147 = _
    decide +kernel
  · exact (xMall h h2).2.2.1
/-! ===== values that a field takes ===== -/
theorem xkd_ok {b B kd : Nat} {v : xV} {ty : FieldType} (h : xkd kd v = true) (hT : xKd kd ty) : narrow ty (xm b B v) = xm b B v ∧ fits ty (xm b B v) = true := by
  unfold xkd at h
  split at h
  · have e : ty = .int := hT
    subst e; exact ⟨rfl, rfl⟩
  · rename_i x
    have e : ty = .boolean := hT
    subst e
    have hx : x = 0 ∨ x = 1 := by simpa using h
    rcases hx with rfl | rfl <;> exact ⟨rfl, rfl⟩
  · rename_i x
    obtain ⟨n, h⟩ := hT
    rcases h with rfl | ⟨u, rfl⟩ <;> cases x <;> exact ⟨rfl, rfl⟩
  · have e : ty = .long := hT
    subst e; exact ⟨rfl, rfl⟩
  · cases h
theorem xi_nar {x : Int} (h1 : 0 ≤ x) (h2 : x ≤ 65535) : vp_nar .char (Int32.ofInt x) = Int32.ofInt x := by
  rw [vp_nar_char]
  obtain ⟨n, rfl⟩ := Int.eq_ofNat_of_zero_le h1
  have hn : n ≤ 65535 := by omega
  have e : (Int32.ofInt (n : Int)).toUInt32 = UInt32.ofNat n := rfl
  rw [e]
  have e2 : (UInt32.ofNat n).toUInt16.toUInt32 = UInt32.ofNat n := by
    apply UInt32.toNat_inj.mp
    simp
    omega
  rw [e2]
  apply Int32.toInt_inj.mp
  rw [Int32.toInt_ofInt_of_le (by omega) (by omega)]
  simp [Int.bmod]
  omega
theorem xRelH_scr {b B : Nat} {D : va_G} {ca : Nat → ClassId} {xs : List xV} {ph : xH} {g : Nat} {H : Heap} (h : xRelH b B D ca xs ph g H) {a : Nat} {vs : List xV} (hc : ph[a]? = some (200, vs)) : a = 0 ∧ vs = xs := by
  rcases xRelH_tag h hc with ⟨h1, -, h3⟩ | ⟨-, h2⟩
  · exact ⟨h1, h3⟩
  · omega
theorem xarrV_congr {cI : ClassId} {N : Nat} {f g : Nat → Value} (h : ∀ j, j < N → f j = g j) : arrV cI N f = arrV cI N g := by
  unfold arrV
  have e : (fun j : Fin N => f j.val) = fun j : Fin N => g j.val := funext fun j => h j.val j.isLt
  rw [e]
section XST
variable {p : Program} {l : Launch} {e : Env} {R : Room} {s : State} {m : MethodId} {args : Array Value} {below : List Frame} {meth : Method} {c : Code} {H : Heap} {locs : List Loc} {cells slots : Nat} {Q : State → Prop}
variable {pc mi : Nat} {ls : Array Slot} {rest : List Value} {D : va_G} {A : Nat → Prop} {a : Nat} {tys : List (ClassId × FieldType)} {ws : va_W} {H0 : Heap}
theorem xiastW (hexec : p.tables.exec = Jvm.exec) (hb : c.code = xby mi) (hK : va_K D vwCl tys s) (hP : va_P D vwCl ws H) (hD : va_D A ws) (hS : va_S A H0 H locs) (q0 t0 : Nat) {cA : ClassId} {n : Nat} {f : Nat → Int32} (ha : ws[q0]? = some (a, .inl (cA, n, .inl f))) (ht : tys[t0]? = some (cA, .int)) {i : Int32} {x : Int32} (hin : vp_in i n) (hdg : decode (xby mi) pc = .ok (.iastore, 1))
    (kk : ∀ (H1 : Heap) (locs1 : List Loc), va_P D vwCl (ws.set q0 (a, .inl (cA, n, .inl (upd f i.toNatClampNeg x)))) H1 → va_D A (ws.set q0 (a, .inl (cA, n, .inl (upd f i.toNatClampNeg x)))) → va_S A H0 H1 locs1 → H1.size = H.size → W p l e R s m args below meth c H1 locs1 cells slots Q (F0 m (pc + 1) ls rest)) : W p l e R s m args below meth c H locs cells slots Q (F0 m pc ls (.int x :: .int i :: .ref a :: rest)) := by
  refine W.iast hexec hb (hP q0 _ ha) ((hK.2 t0 _ ht).1 n (fun j => .int (f j))) (fun q => by cases q) (by show ¬ (i < 0 ∨ (arrV _ _ _).slots.size ≤ _); rw [arrV_size]; exact hin) rfl rfl hdg fun H1 e z oq => ?_
  refine kk H1 _ (hP.set hD ha ?_ oq) (hD.set ha) (hS.put z oq (hD.2 q0 _ ha)) z
  show H1[a]? = some (vp_cell _ _)
  rw [e]
  rw [vp_cell_i, vp_cell_i, arrV_store]
  congr 2
  funext q
  by_cases hq : q = i.toNatClampNeg
  · subst hq
    simp [updV, upd]
  · simp [updV, upd, hq]
theorem xcastW (hexec : p.tables.exec = Jvm.exec) (hb : c.code = xby mi) (hK : va_K D vwCl tys s) (hP : va_P D vwCl ws H) (hD : va_D A ws) (hS : va_S A H0 H locs) (q0 t0 : Nat) {cA : ClassId} {n : Nat} {f : Nat → Int32} (ha : ws[q0]? = some (a, .inl (cA, n, .inl f))) (ht : tys[t0]? = some (cA, .char)) {i : Int32} {x : Int32} (hin : vp_in i n) (hdg : decode (xby mi) pc = .ok (.castore, 1))
    (kk : ∀ (H1 : Heap) (locs1 : List Loc), va_P D vwCl (ws.set q0 (a, .inl (cA, n, .inl (upd f i.toNatClampNeg (vp_nar .char x))))) H1 → va_D A (ws.set q0 (a, .inl (cA, n, .inl (upd f i.toNatClampNeg (vp_nar .char x))))) → va_S A H0 H1 locs1 → H1.size = H.size → W p l e R s m args below meth c H1 locs1 cells slots Q (F0 m (pc + 1) ls rest)) : W p l e R s m args below meth c H locs cells slots Q (F0 m pc ls (.int x :: .int i :: .ref a :: rest)) := by
  refine W.cast hexec hb (hP q0 _ ha) ((hK.2 t0 _ ht).1 n (fun j => .int (f j))) (fun q => by cases q) (by show ¬ (i < 0 ∨ (arrV _ _ _).slots.size ≤ _); rw [arrV_size]; exact hin) rfl rfl hdg fun H1 e z oq => ?_
  refine kk H1 _ (hP.set hD ha ?_ oq) (hD.set ha) (hS.put z oq (hD.2 q0 _ ha)) z
  show H1[a]? = some (vp_cell _ _)
  rw [e]
  rw [vp_cell_i, vp_cell_i, arrV_store]
  congr 2
  funext q
  by_cases hq : q = i.toNatClampNeg
  · subst hq
    simp [updV, upd, vp_nar]
    try rfl
  · simp [updV, upd, vp_nar, hq]
theorem xlastW (hexec : p.tables.exec = Jvm.exec) (hb : c.code = xby mi) (hK : va_K D vwCl tys s) (hP : va_P D vwCl ws H) (hD : va_D A ws) (hS : va_S A H0 H locs) (q0 t0 : Nat) {cA : ClassId} {n : Nat} {f : Nat → Int64} (ha : ws[q0]? = some (a, .inl (cA, n, .inr <| .inl f))) (ht : tys[t0]? = some (cA, .long)) {i : Int32} {x : Int64} (hin : vp_in i n) (hdg : decode (xby mi) pc = .ok (.lastore, 1))
    (kk : ∀ (H1 : Heap) (locs1 : List Loc), va_P D vwCl (ws.set q0 (a, .inl (cA, n, .inr <| .inl (vp_updL f i.toNatClampNeg x)))) H1 → va_D A (ws.set q0 (a, .inl (cA, n, .inr <| .inl (vp_updL f i.toNatClampNeg x)))) → va_S A H0 H1 locs1 → H1.size = H.size → W p l e R s m args below meth c H1 locs1 cells slots Q (F0 m (pc + 1) ls rest)) : W p l e R s m args below meth c H locs cells slots Q (F0 m pc ls (.long x :: .int i :: .ref a :: rest)) := by
  refine W.last hexec hb (hP q0 _ ha) ((hK.2 t0 _ ht).1 n (fun j => .long (f j))) (fun q => by cases q) (by show ¬ (i < 0 ∨ (arrV _ _ _).slots.size ≤ _); rw [arrV_size]; exact hin) rfl rfl hdg fun H1 e z oq => ?_
  refine kk H1 _ (hP.set hD ha ?_ oq) (hD.set ha) (hS.put z oq (hD.2 q0 _ ha)) z
  show H1[a]? = some (vp_cell _ _)
  rw [e]
  rw [vp_cell_l, vp_cell_l, arrV_store]
  congr 2
  funext q
  by_cases hq : q = i.toNatClampNeg
  · subst hq
    simp [updV, vp_updL]
  · simp [updV, vp_updL, hq]
theorem xastqW (hexec : p.tables.exec = Jvm.exec) (hb : c.code = xby mi) (hK : va_K D vwCl tys s) (hP : va_P D vwCl ws H) (hD : va_D A ws) (hS : va_S A H0 H locs) (q0 t0 qk ci : Nat) {cA : ClassId} {r : vw_C} {n v : Nat} {vs : List Value} {f : Nat → Option Nat} (ha : ws[q0]? = some (a, .inl (cA, n, .inr (.inr (.inr (.inr f)))))) (ht : tys[t0]? = some (cA, .object r.1)) (hv : ws[qk]? = some (v, .inr (ci, vs))) (hc : vwCl[ci]? = some r) {i : Int32} (hin : vp_in i n) (hdg : decode (xby mi) pc = .ok (.aastore, 1))
    (kk : ∀ (H1 : Heap) (locs1 : List Loc), va_P D vwCl (ws.set q0 (a, .inl (cA, n, .inr (.inr (.inr (.inr (va_up f i.toNatClampNeg (some v)))))))) H1 → va_D A (ws.set q0 (a, .inl (cA, n, .inr (.inr (.inr (.inr (va_up f i.toNatClampNeg (some v)))))))) → va_S A H0 H1 locs1 → H1.size = H.size → W p l e R s m args below meth c H1 locs1 cells slots Q (F0 m (pc + 1) ls rest)) : W p l e R s m args below meth c H locs cells slots Q (F0 m pc ls (.ref v :: .int i :: .ref a :: rest)) := by
  have hlt : i.toNatClampNeg < n := Nat.not_le.mp fun q => hin (Or.inr q)
  have h0 : ¬ i < 0 := fun q => hin (Or.inl q)
  obtain ⟨r', hr', cellV, g1, g2, g3, -⟩ := hP qk _ hv
  have hcls := (hK.1 ci r hc).2
  obtain ⟨kA, comp, k1, k2, k3, -⟩ := (hK.2 t0 _ ht).2
  have hcomp : comp = D.1 ci := Option.some.inj (k3.symm.trans hcls.1)
  subst hcomp
  obtain ⟨kC, hkC, -⟩ := hcls.2
  refine W.aast hexec hb (hP q0 _ ha) (fun q h => by cases h) (fun h => by cases h) k1 k2 rfl hkC ⟨h0, by show _ < (arrV _ _ _).slots.size; rw [arrV_size]; exact hlt⟩ g1 (fun q h => by rw [g3] at h; cases h) (by rw [g2]; exact hkC) (by rw [g2]; exact va_assign hcls) rfl rfl hdg fun H1 e z oq => ?_
  refine kk H1 _ (hP.set hD ha ?_ oq) (hD.set ha) (hS.put z oq (hD.2 q0 _ ha)) z
  show H1[a]? = some (vp_cell _ _)
  rw [e]
  rw [vp_cell_q, vp_cell_q, arrV_store]
  congr 2
  funext q
  by_cases hq : q = i.toNatClampNeg
  · subst hq
    simp [updV, va_up, va_rf]
  · simp [updV, va_up, hq]
theorem xputW (hexec : p.tables.exec = Jvm.exec) (hb : c.code = xby mi) (hts0 : ∀ w, xG w → w.before args s = true) (hown : s.vm.findClass (xRn (xown mi)) = some m.cls) (hK : va_K D vwCl tys s) (hP : va_P D vwCl ws H) (hD : va_D A ws) (hS0 : va_S A H0 H locs) {q0 t : Nat} {fs : List Value} (he : ws[q0]? = some (a, .inr (t, fs))) (hC : xCok t) (k : Nat) (hk : k < (xCl t).2.2) {i : Nat}
    (alt : ((Cond.fieldLink (xRn (xown mi)) i (xCl t).1 ((xCl t).2.1 k).2.1 ((xCl t).2.1 k).2.2.1).before args s = true ∧ (((xCl t).2.1 k).2.2.2 = false ∨ (((xCl t).2.1 k).2.2.2 = true ∧ meth.name = "<init>" ∧ ((xCl t).2.1 k).1 = xRn (xown mi)))) ∨ ((Cond.fieldLinkNest (xRn (xown mi)) i (xCl t).1 ((xCl t).2.1 k).2.1 ((xCl t).2.1 k).2.2.1 "TemplateScopes").before args s = true ∧ ((xCl t).2.1 k).2.2.2 = false))
    (hd : parseFieldDescriptor ((xCl t).2.1 k).2.2.1 = some (xtyF t k)) {v : Value} (hkt : narrow (xtyF t k) v = v ∧ fits (xtyF t k) v = true) (hl : k < fs.length) (hdg : decode (xby mi) pc = .ok (.putfield i, 3))
    (kk : ∀ (H1 : Heap) (locs1 : List Loc), va_P D vwCl (ws.set q0 (a, .inr (t, fs.set k v))) H1 → va_D A (ws.set q0 (a, .inr (t, fs.set k v))) → va_S A H0 H1 locs1 → H1.size = H.size → W p l e R s m args below meth c H1 locs1 cells slots Q (F0 m (pc + 3) ls rest)) : W p l e R s m args below meth c H locs cells slots Q (F0 m pc ls (v :: .ref a :: rest)) := by
  have hts : ∀ w ∈ lw_tbl.filter goodWord, w.before args s = true := fun w hw => hts0 w (List.mem_filter.mp hw)
  have hin : ∀ w ∈ u_ws (xCl t).1 (xCl t).2.1 (xCl t).2.2, w ∈ lw_tbl.filter goodWord := fun w hw => List.mem_filter.mpr (hC.2.2.1 w hw)
  have hc : vwCl[t]? = some ((xCl t).1, (xCl t).2.1, (xCl t).2.2) := hC.1
  have hap := va_apart (own := xRn (xown mi)) hts hin (xtyF t) hC.2.2.2.1 hC.2.2.2.2.1 hK hc
  have hsame : ∀ x, s.fieldFound? ((xCl t).2.1 k).1 ((xCl t).2.1 k).2.1 ((xCl t).2.1 k).2.2.1 = some x → s.fieldFound? (xCl t).1 ((xCl t).2.1 k).2.1 ((xCl t).2.1 k).2.2.1 = some x := fun x h0 => by rw [hC.2.2.2.2.2.2.2.2.1 k hk] at h0; exact h0
  obtain ⟨r, h1, cell, q1, q2, q3, q4⟩ := hP q0 _ he
  have hr : r = ((xCl t).1, (xCl t).2.1, (xCl t).2.2) := Option.some.inj (h1.symm.trans hc)
  subst hr
  obtain ⟨hS, hfc, kC, hkC, hkind⟩ := hK.1 t _ hc
  obtain ⟨cf, kf, fi, f, hi, hsl⟩ := hS k hk
  have hlay := hts _ (hin _ (u_in_lay hk))
  unfold u_lay at hlay
  have hst := (u_facts hfc hkC (u_lays hts hin hk) hi).1
  rcases alt with ⟨hlink, hfin | ⟨hfin, hin2, hdecl⟩⟩ | ⟨hlink, hfin⟩
  · rw [if_neg (by rw [hfin]; decide)] at hlay
    have h6 := u_store hfc hkC hkind hlay hi hd hkt.1 hkt.2
    refine W.putK hexec hb (f := f) ⟨hown, hlink, ⟨_, _, _, hsame _ hi⟩, hst⟩ (by rw [q2]; exact h6) q1 q3 (by rw [hsl]; exact k2_hasslot (q4 k hk)) rfl rfl hdg fun H' e1 e2 e3 => ?_
    rw [hsl] at e1 ⊢
    exact kk H' _ (hP.set hD he ⟨_, hc, t_OB.to (V := updV (vp_V fs) k v) ⟨_, e1, q2, q3, t_set q4 hap hk v⟩ (fun j _ => vp_updV_set hl v j)⟩ e3) (hD.set he) (hS0.put e2 e3 (hD.2 q0 _ he)) e2
  · rw [if_pos hfin] at hlay
    have hcf : m.cls = cf := by
      obtain ⟨_, _, c', _, _, _, -, -, hf', -, -, -, hown2, -⟩ := Cond.laysFinal_spec hlay
      have e1 : c' = cf := by have := hi.symm.trans hf'; simp at this; exact this.1.symm
      rw [hdecl] at hown2
      rw [← e1]; exact Option.some.inj (hown.symm.trans hown2)
    have h6 := u_fits hfc hkC hkind (Or.inr hlay) hi hd hkt.1 hkt.2
    refine W.putFinK hexec hb hown hlink (hsame _ hi) hst hcf hin2 (by rw [q2]; exact h6) q1 q3 (by rw [hsl]; exact k2_hasslot (q4 k hk)) rfl rfl hdg fun H' e1 e2 e3 => ?_
    rw [hsl] at e1 ⊢
    exact kk H' _ (hP.set hD he ⟨_, hc, t_OB.to (V := updV (vp_V fs) k v) ⟨_, e1, q2, q3, t_set q4 hap hk v⟩ (fun j _ => vp_updV_set hl v j)⟩ e3) (hD.set he) (hS0.put e2 e3 (hD.2 q0 _ he)) e2
  · rw [if_neg (by rw [hfin]; decide)] at hlay
    have h6 := u_store hfc hkC hkind hlay hi hd hkt.1 hkt.2
    refine va_WputK hexec hb (f := f) hown hlink (hsame _ hi) hst (by rw [q2]; exact h6) q1 q3 (by rw [hsl]; exact k2_hasslot (q4 k hk)) rfl rfl hdg fun H' e1 e2 e3 => ?_
    rw [hsl] at e1 ⊢
    exact kk H' _ (hP.set hD he ⟨_, hc, t_OB.to (V := updV (vp_V fs) k v) ⟨_, e1, q2, q3, t_set q4 hap hk v⟩ (fun j _ => vp_updV_set hl v j)⟩ e3) (hD.set he) (hS0.put e2 e3 (hD.2 q0 _ he)) e2
/-- a new cell behind the others -/
theorem xpush {a0 : va_E} {H1 : Heap} (hP : va_P D vwCl ws H) (hD : va_D A ws) (hS : va_S A H0 H locs) (hA : ∀ q, H0.size ≤ q → A q) (z1 : H1.size = H.size + 1) (o1 : ∀ q, q < H.size → H1[q]? = H[q]?) (h0 : va_at D vwCl (H.size, a0) H1) : va_P D vwCl (ws ++ [(H.size, a0)]) H1 ∧ va_D A (ws ++ [(H.size, a0)]) ∧ va_S A H0 H1 locs := by
  have hk : ∀ (k : Nat) (x : Nat × va_E), ws[k]? = some x → H1[x.1]? = H[x.1]? := fun k x hx => o1 x.1 ((hP k x hx).lt)
  refine ⟨(hP.kept hk).app (fun k x hx => ?_), hD.push hP rfl (hA _ hS.1), ⟨Nat.le_trans hS.1 (by omega), fun x h1 h2 => (o1 x (Nat.lt_of_lt_of_le h1 hS.1)).trans (hS.2.1 x h1 h2), hS.2.2⟩⟩
  have hz : k < 1 := (List.getElem?_eq_some_iff.mp hx).1
  rw [show k = 0 by omega] at hx
  cases hx
  exact h0
theorem xnewW (hexec : p.tables.exec = Jvm.exec) (hb : c.code = xby mi) {index t : Nat} (hts0 : ∀ w, xG w → w.before args s = true) (hown : s.vm.findClass (xRn (xown mi)) = some m.cls) (hcl : (Cond.classLink (xRn (xown mi)) index (xCl t).1).before args s = true) (hC : xCok t)
    (hK : va_K D vwCl tys s) (hP : va_P D vwCl ws H) (hD : va_D A ws) (hS : va_S A H0 H locs) (hA : ∀ q, H0.size ≤ q → A q) {fs : List Value} (hfs : ∀ j, j < (xCl t).2.2 → defaultValue (xtyF t j) = vp_V fs j) (hcells : cells + 1 ≤ R.cells) (hslots : slots + (xCl t).2.2 ≤ R.slots) (hdg : decode (xby mi) pc = .ok (.new index, 3))
    (kk : ∀ (H1 : Heap), va_P D vwCl (ws ++ [(H.size, .inr (t, fs))]) H1 → va_D A (ws ++ [(H.size, .inr (t, fs))]) → va_S A H0 H1 locs → H1.size = H.size + 1 →
      W p l e R s m args below meth c H1 locs (cells + 1) (slots + (xCl t).2.2) Q (F0 m (pc + 3) ls (.ref H.size :: rest))) : W p l e R s m args below meth c H locs cells slots Q (F0 m pc ls rest) := by
  have hts : ∀ w ∈ lw_tbl.filter goodWord, w.before args s = true := fun w hw => hts0 w (List.mem_filter.mp hw)
  have hin : ∀ w ∈ u_ws (xCl t).1 (xCl t).2.1 (xCl t).2.2, w ∈ lw_tbl.filter goodWord := fun w hw => List.mem_filter.mpr (hC.2.2.1 w hw)
  have hc : vwCl[t]? = some ((xCl t).1, (xCl t).2.1, (xCl t).2.2) := hC.1
  have hKn := hK.1 t _ hc
  refine W.newcK hexec hb hown hcl (hts0 _ hC.2.2.2.2.2.2.1) (hts0 _ hC.2.2.2.2.2.2.2.1) rfl hdg hcells hslots hKn.2.1 rfl fun H1 kC hkC e1 z1 o1 => ?_
  obtain ⟨a1, a2, a3⟩ := xpush (a0 := .inr (t, fs)) hP hD hS hA z1 o1 ⟨_, hc, (u_born (xtyF t) hts hin hKn hkC e1 hC.2.2.2.1).to hfs⟩
  exact kk H1 a1 a2 a3 z1
theorem xnewaW (hexec : p.tables.exec = Jvm.exec) (hb : c.code = xby mi) {atype : ArrayType} (harr : (Cond.arrayClass (newarray.typeOf atype)).before args s = true) (hK : va_K D vwCl tys s) (hP : va_P D vwCl ws H) (hD : va_D A ws) (hS : va_S A H0 H locs) (hA : ∀ q, H0.size ≤ q → A q) {cA : ClassId} (hcA : s.vm.findClass ("[" ++ (newarray.typeOf atype).toString) = some cA)
    {n : Int32} {N' : Nat} {a0 : vp_A} (ha : vp_cell cA a0 = arrV cA N' (fun _ => defaultValue (newarray.typeOf atype))) (hn : ¬ n < 0) (hN : n.toNatClampNeg = N') (hbytes : N' * componentBytes (newarray.typeOf atype) ≤ 536870912) (hcells : cells + 1 ≤ R.cells) (hslots : slots + N' ≤ R.slots) (hdg : decode (xby mi) pc = .ok (.newarray atype, 2))
    (kk : ∀ (H1 : Heap), va_P D vwCl (ws ++ [(H.size, .inl (cA, a0))]) H1 → va_D A (ws ++ [(H.size, .inl (cA, a0))]) → va_S A H0 H1 locs → H1.size = H.size + 1 →
      W p l e R s m args below meth c H1 locs (cells + 1) (slots + N') Q (F0 m (pc + 2) ls (.ref H.size :: rest))) : W p l e R s m args below meth c H locs cells slots Q (F0 m pc ls (.int n :: rest)) := by
  refine va_newaK hexec hb harr rfl hdg rfl hn hN hbytes hcells hslots rfl fun H1 cB e1 z1 o1 hAr hNm => ?_
  have hcB : cB = cA := Option.some.inj (hNm.symm.trans hcA)
  subst hcB
  obtain ⟨a1, a2, a3⟩ := xpush (a0 := .inl (cB, a0)) hP hD hS hA z1 o1 (by show H1[H.size]? = some (vp_cell _ _); rw [ha]; exact e1)
  exact kk H1 a1 a2 a3 z1
theorem xnewqW (hexec : p.tables.exec = Jvm.exec) (hb : c.code = xby mi) {own C : String} {index : Nat} (hown : s.vm.findClass own = some m.cls) (hclink : (Cond.classLink own index C).before args s = true) (hover : va_AO C s) (hK : va_K D vwCl tys s) (hP : va_P D vwCl ws H) (hD : va_D A ws) (hS : va_S A H0 H locs) (hA : ∀ q, H0.size ≤ q → A q) {cA : ClassId} (hcA : s.vm.findClass ("[" ++ (FieldType.object C).toString) = some cA)
    {n : Int32} {N' : Nat} {f : Nat → Option Nat} (hf : ∀ j, j < N' → f j = none) (hn : ¬ n < 0) (hN : n.toNatClampNeg = N') (hbytes : N' * 4 ≤ 536870912) (hcells : cells + 1 ≤ R.cells) (hslots : slots + N' ≤ R.slots) (hdg : decode (xby mi) pc = .ok (.anewarray index, 3))
    (kk : ∀ (H1 : Heap), va_P D vwCl (ws ++ [(H.size, .inl (cA, N', .inr (.inr (.inr (.inr f)))))]) H1 → va_D A (ws ++ [(H.size, .inl (cA, N', .inr (.inr (.inr (.inr f)))))]) → va_S A H0 H1 locs → H1.size = H.size + 1 →
      W p l e R s m args below meth c H1 locs (cells + 1) (slots + N') Q (F0 m (pc + 3) ls (.ref H.size :: rest))) : W p l e R s m args below meth c H locs cells slots Q (F0 m pc ls (.int n :: rest)) := by
  subst hN
  refine W.anew hexec hb hown hclink (va_AO.use hover) rfl hdg rfl hn hbytes hcells hslots fun cB kA comp f1 f2 f3 f4 => ?_
  have hcB : cB = cA := Option.some.inj (f1.symm.trans hcA)
  subst hcB
  generalize hH1 : H.push ({ cls := cB, slots := Array.replicate n.toNatClampNeg .null, vm := .none } : Cell) = H1
  have z1 : H1.size = H.size + 1 := by rw [← hH1, Array.size_push]
  have e1 : H1[H.size]? = some (arrV cB n.toNatClampNeg (fun _ => .null)) := by rw [← hH1, Array.getElem?_push_size, ← arrV_new]
  have o1 : ∀ q : Nat, q < H.size → H1[q]? = H[q]? := fun q hq => by rw [← hH1, Array.getElem?_push, if_neg (Nat.ne_of_lt hq)]
  obtain ⟨a1, a2, a3⟩ := xpush (a0 := .inl (cB, n.toNatClampNeg, .inr (.inr (.inr (.inr f))))) hP hD hS hA z1 o1 (by
    show H1[H.size]? = some (vp_cell _ _)
    rw [vp_cell_q, e1]
    exact congrArg some (xarrV_congr (fun j hj => by rw [hf j hj]; rfl)))
  exact kk H1 a1 a2 a3 z1
end XST
/-! ===== what is made at first ===== -/
theorem xdfT_ok : xdfT.all (fun l => l.all (fun v => match v with
  | .inl x => x == 0
  | .inr (.inl (some _)) => false
  | _ => true)) = true := by decide +kernel
theorem xdf_ok {ci : Nat} {v : xV} (h : v ∈ xdf ci) : xwf v ∧ ∀ z, v ≠ .inr (.inl (some z)) := by
  unfold xdf at h
  cases hl : xdfT[ci]? with
  | none => rw [hl] at h; cases h
  | some l =>
    rw [hl] at h
    have h1 := List.all_eq_true.mp xdfT_ok l (List.mem_of_getElem? hl)
    have h2 := List.all_eq_true.mp h1 v h
    rcases v with x | x | x
    · have h3 : x = 0 := by simpa using h2
      subst h3
      exact ⟨xin0, fun z hz => by cases hz⟩
    · cases x with
      | none => exact ⟨trivial, fun z hz => by cases hz⟩
      | some z => cases h2
    · exact ⟨trivial, fun z hz => by cases hz⟩
theorem xdf_wf (ci : Nat) : xwfs (xdf ci) := fun v hv => (xdf_ok hv).1
theorem xwfs_rep {n : Nat} {v : xV} (h : xwf v) : xwfs (List.replicate n v) := fun w hw => by rw [(List.mem_replicate.mp hw).2]; exact h
theorem xca_i (b B : Nat) (vs : List xV) : xca b B 100 vs = (vs.length, .inl (fun j => xmI vs[j]?)) := rfl
theorem xca_c (b B : Nat) (vs : List xV) : xca b B 101 vs = (vs.length, .inl (fun j => xmI vs[j]?)) := rfl
theorem xca_l (b B : Nat) (vs : List xV) : xca b B 102 vs = (vs.length, .inr (.inl (fun j => xmL vs[j]?))) := rfl
theorem xrep_i {cA : ClassId} {n : Nat} (b B : Nat) : vp_cell cA (xca b B 100 (List.replicate n (.inl 0))) = arrV cA n (fun _ => defaultValue .int) := by
  rw [xca_i, List.length_replicate, vp_cell_i]
  exact xarrV_congr (fun j hj => by rw [List.getElem?_replicate, if_pos hj]; rfl)
theorem xrep_c {cA : ClassId} {n : Nat} (b B : Nat) : vp_cell cA (xca b B 101 (List.replicate n (.inl 0))) = arrV cA n (fun _ => defaultValue .char) := by
  rw [xca_c, List.length_replicate, vp_cell_i]
  exact xarrV_congr (fun j hj => by rw [List.getElem?_replicate, if_pos hj]; rfl)
theorem xrep_l {cA : ClassId} {n : Nat} (b B : Nat) : vp_cell cA (xca b B 102 (List.replicate n (.inr (.inr (.inl 0))))) = arrV cA n (fun _ => defaultValue .long) := by
  rw [xca_l, List.length_replicate, vp_cell_l]
  exact xarrV_congr (fun j hj => by rw [List.getElem?_replicate, if_pos hj]; rfl)
/-! ===== exceptions: thrown, passed on, caught ===== -/
theorem xEn_ini {E : Nat} (h : E < 3) : xG (.initialized (xEn E)) := by
  match E, h with
  | 0, _ => exact xg1 15 (by decide +kernel) rfl
  | 1, _ => exact xg1 16 (by decide +kernel) rfl
  | 2, _ => exact xg1 17 (by decide +kernel) rfl
def xIc : Nat → Nat
  | 0 => 331
  | 1 => 89
  | _ => 176
theorem xat_all {E : Nat} (h : E < 3) : (∀ w ∈ (vx_atS RX9 (xIc E) (xEn E) ["java/lang/RuntimeException", "java/lang/Exception"]).filter goodWord, w ∈ lw_tbl) ∧ (vx_atS RX9 (xIc E) (xEn E) ["java/lang/RuntimeException", "java/lang/Exception"]).filter (fun w => !goodWord w) = xDc.map Cond.declares ++ [.castable (xEn E) (xEn E)] ∧ (∀ w ∈ vx_atS RX9 (xIc E) (xEn E) ["java/lang/RuntimeException", "java/lang/Exception"], vx_ot w = true) := by
  match E, h with
  | 0, _ => exact ⟨fun w hw => of_decide_eq_true (List.all_eq_true.mp xat_0 w hw), xau_0, fun w hw => List.all_eq_true.mp xav_0 w hw⟩
  | 1, _ => exact ⟨fun w hw => of_decide_eq_true (List.all_eq_true.mp xat_1 w hw), xau_1, fun w hw => List.all_eq_true.mp xav_1 w hw⟩
  | 2, _ => exact ⟨fun w hw => of_decide_eq_true (List.all_eq_true.mp xat_2 w hw), xau_2, fun w hw => List.all_eq_true.mp xav_2 w hw⟩
theorem xfit {E : Nat} (h : E < 3) : Bundle.fit (xEn E) = true := by
  match E, h with
  | 0, _ => decide +kernel
  | 1, _ => decide +kernel
  | 2, _ => decide +kernel
theorem xfit2 : ∀ n ∈ ["java/lang/RuntimeException", "java/lang/Exception"], Bundle.fit n = true := by decide +kernel
section XTH
variable {p : Program} {l : Launch} {e : Env} {R : Room} {s : State} {m : MethodId} {args : Array Value} {below : List Frame} {meth : Method} {c : Code} {H : Heap} {locs : List Loc} {cells slots : Nat}
variable {b B : Nat} {D : va_G} {ca : Nat → ClassId} {xs : List xV} {mi pc mc ms g E : Nat} {ph : xH} {ls : Array Slot}
theorem xthrow (hlf : l.stackTraces = false) (hx : p.tables.exec = Jvm.exec) (hb : c.code = xby mi) (hown : s.vm.findClass (xRn (xown mi)) = some m.cls) (hts : ∀ w, xG w → w.before args s = true) (hfx : xFx b B D ca xs s) (hlocks : meth.locks = false) (htab : c.exceptionTable.toList = tableOf (xhh mi)) (hlsz : ls.size = c.maxLocals) (hR1 : 8 ≤ R.frames) (hR2 : 120 ≤ R.locals)
    (hth : xthr mi pc = some E) (hrel : xRelH b B D ca xs ph g H) (hS : va_S (xA B) s.heap H locs) (hc1 : cells + 1 = mc) (hc2 : slots + 6 = ms) (hm1 : mc ≤ R.cells) (hm2 : ms ≤ R.slots) :
    W p l e R s m args below meth c H locs cells slots (vx_MQ below (xQc b B D ca xs (.inr E, ph, g + 1)) (xXc b B D ca xs (.inr E, ph, g + 1)) args s mc ms (xA B)) (F0 m pc ls []) := by
  obtain ⟨h1, h2, hE, ik, is, ic, tx, htx, hcl, hic, d0, d3, hd⟩ := xthr_ok hth
  simp only at h1 h2 hE hcl hic d0 d3 hd
  obtain ⟨-, ⟨hU, hN⟩, hSs, hDc, hCb, -⟩ := hfx
  obtain ⟨sa, hsa⟩ := hSs _ htx
  have hown9 : s.vm.findClass RX9 = some m.cls := by rw [h1] at hown; exact hown
  have hic9 : ic = xIc E := by
    rcases hic with ⟨rfl, h⟩ | ⟨rfl, h⟩ | ⟨rfl, h⟩ <;> exact h
  subst hic9
  obtain ⟨a1, a2, a3⟩ := xat_all hE
  have hat : ∀ w ∈ vx_atS RX9 (xIc E) (xEn E) ["java/lang/RuntimeException", "java/lang/Exception"], w.before args s = true := by
    refine vx_hat (B := xDc.map Cond.declares ++ [.castable (xEn E) (xEn E)]) (fun w hw => hts w ⟨a1 w hw, (List.mem_filter.mp hw).2⟩) (fun w hw => by rw [← a2]; exact hw) (fun w hw => ?_)
    rcases List.mem_append.mp hw with hw | hw
    · obtain ⟨q, hq, rfl⟩ := List.mem_map.mp hw
      exact va_Nw.use rfl (hDc q hq)
    · rw [List.mem_singleton.mp hw]
      exact (hCb E hE).use
  have hgood : ∀ w ∈ Cond.classLink RX9 ik (xEn E) :: Cond.initialized (xEn E) :: vx_atS RX9 (xIc E) (xEn E) ["java/lang/RuntimeException", "java/lang/Exception"], vx_ot w = true := by
    intro w hw
    rcases List.mem_cons.mp hw with h | h
    · rw [h]; unfold vx_ot; rw [hcl.2]; simp
    · rcases List.mem_cons.mp h with h | h
      · rw [h]; unfold vx_ot; rw [(xEn_ini hE).2]; simp
      · exact a3 w h
  have hempty : c.exceptionTable.toList = [] := by rw [htab, h2]; rfl
  have hxx : ∀ t : State, s.vm.Alike t.vm → H.size ≤ t.heap.size → (∀ q : Nat, q < H.size → t.heap[q]? = H[q]?) → xXc b B D ca xs (.inr E, ph, g + 1) (xEn E) s t := fun t _ ht1 ht2 =>
    ⟨E, ph, g + 1, rfl, hE, rfl, xRelH_kept hrel ht1 ht2, ⟨Nat.le_trans hS.1 ht1, fun q hq hA => (ht2 q (Nat.lt_of_lt_of_le hq hS.1)).trans (hS.2.1 q hq hA)⟩⟩
  rcases hd with ⟨d4, d6, d9⟩ | ⟨d4, d7, d10⟩
  · exact vx_throwS hx hb hlf hown9 (xfit hE) xfit2 (hts _ hcl) (hts _ (xEn_ini hE)) hsa hat hgood hU hN hS hlsz d0 d3 d4 d6 d9 (by rw [hempty]; intro x hx; cases hx) (by show 2 + 3 < _; omega) (by show 0 + (13 * (2 + 1) + 43) ≤ _; omega) (by omega) (by omega) hlocks hxx (fun z hz => hS.2.2 z hz) (by omega) (by omega)
  · exact vx_throwSW hx hb hlf hown9 (xfit hE) xfit2 (hts _ hcl) (hts _ (xEn_ini hE)) hsa hat hgood hU hN hS hlsz d0 d3 d4 d7 d10 (by rw [hempty]; intro x hx; cases hx) (by show 2 + 3 < _; omega) (by show 0 + (13 * (2 + 1) + 43) ≤ _; omega) (by omega) (by omega) hlocks hxx (fun z hz => hS.2.2 z hz) (by omega) (by omega)
theorem xpass {q : Nat × Nat × Nat × Nat} (hmi : mi < 148) (hq : q ∈ xhh mi) (hE : E < 3) (hts : ∀ w, xG w → w.before args s = true) (hNc : ∀ e e2, e < 3 → e2 < 3 → e ≠ e2 → va_Nc (xEn e) (xEn e2) s)
    (hp : (decide (q.1 ≤ pc) && decide (pc < q.2.1) && decide (xcat (xown mi) q.2.2.2 = some E)) = false) : covers ⟨q.1, q.2.1, q.2.2.1, q.2.2.2⟩ pc = false ∨ (q.2.2.2 ≠ 0 ∧ ∃ nm : String, (Cond.classLink (xRn (xown mi)) q.2.2.2 nm).before args s = true ∧ va_Nc (xEn E) nm s) := by
  by_cases hcv : (decide (q.1 ≤ pc) && decide (pc < q.2.1)) = true
  · right
    obtain ⟨h1, h2⟩ := xhh_all mi hmi q hq
    obtain ⟨e2, he2⟩ := Option.isSome_iff_exists.mp h1
    have hne : E ≠ e2 := by
      rintro rfl
      rw [hcv, he2] at hp
      simp at hp
    have hk := xcat_ok he2
    exact ⟨h2, xEn e2, hts _ hk.2, hNc E e2 hE hk.1 hne⟩
  · left
    exact Bool.eq_false_iff.mpr hcv
end XTH
/-- where an exception is caught -/
theorem xhan_some {mi pc E : Nat} {w : Nat × Nat} (h : xhan mi pc E = some w) : ∃ (q : Nat × Nat × Nat × Nat) (pre suf : List (Nat × Nat × Nat × Nat)), xhh mi = pre ++ q :: suf ∧ (∀ z ∈ pre, (decide (z.1 ≤ pc) && decide (pc < z.2.1) && decide (xcat (xown mi) z.2.2.2 = some E)) = false) ∧ (decide (q.1 ≤ pc) && decide (pc < q.2.1)) = true ∧ xcat (xown mi) q.2.2.2 = some E ∧
    ((∃ k : Fin 4, xfetch mi q.2.2.1 = some (.astore_n k) ∧ w = (q.2.2.1 + 1, (k : Nat))) ∨ (∃ k : Nat, xfetch mi q.2.2.1 = some (.astore k) ∧ w = (q.2.2.1 + 2, k))) := by
  unfold xhan at h
  cases hf : (xhh mi).find? (fun q => decide (q.1 ≤ pc) && decide (pc < q.2.1) && decide (xcat (xown mi) q.2.2.2 = some E)) with
  | none => rw [hf] at h; cases h
  | some q =>
    rw [hf] at h
    obtain ⟨h1, pre, suf, h2, h3⟩ := List.find?_eq_some_iff_append.mp hf
    simp only [Bool.and_eq_true] at h1
    refine ⟨q, pre, suf, h2, fun z hz => by have h4 := h3 z hz; simp only [Bool.not_eq_eq_eq_not, Bool.not_true] at h4; exact h4, by simp only [Bool.and_eq_true]; exact h1.1, of_decide_eq_true h1.2, ?_⟩
    simp only at h
    split at h
    · rename_i k hk
      cases h
      exact Or.inl ⟨k, hk, rfl⟩
    · rename_i k hk
      cases h
      exact Or.inr ⟨k, hk, rfl⟩
    · cases h
theorem xhan_none {mi pc E : Nat} (hmi : mi < 148) (h : xhan mi pc E = none) : ∀ z ∈ xhh mi, (decide (z.1 ≤ pc) && decide (pc < z.2.1) && decide (xcat (xown mi) z.2.2.2 = some E)) = false := by
  unfold xhan at h
  cases hf : (xhh mi).find? (fun q => decide (q.1 ≤ pc) && decide (pc < q.2.1) && decide (xcat (xown mi) q.2.2.2 = some E)) with
  | none =>
    intro z hz
    have := List.find?_eq_none.mp hf z hz
    simpa using this
  | some q =>
    exfalso
    rw [hf] at h
    have hst := xhh_st mi hmi q (List.mem_of_find?_eq_some hf)
    simp only at h
    cases hx : xfetch mi q.2.2.1 with
    | none => rw [hx] at hst; cases hst
    | some op => rw [hx] at h hst; cases op <;> first | (cases hst; done) | (cases h; done)

