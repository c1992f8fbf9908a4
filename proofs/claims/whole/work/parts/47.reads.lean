/-! ===== the model reads ===== -/
def nmd (s : PSt) : List PP := if s.1 = 2 ∨ s.1 = 3 then s.2.1.dropLast else s.2.1
def stM (s : PSt) : Int := if s.1 = 0 then 0 else if s.1 = 1 then 1 else if s.1 = 2 then 2 else if s.1 = 3 then (if (∃ p, s.2.1[s.2.1.length - 1]? = some p ∧ p.1 ≤ 4) then 3 else 5) else if s.1 = 4 then 6 else 4
def rI (ph : xH) (s : PSt) : Prop := hRd ph 147 10 = (s.2.1.length : Int) ∧ hRd ph 147 15 = (s.2.2.1.length : Int) ∧ hRd ph 147 11 = ((if s.2.1.length = 0 then 0 else s.2.2.2 + 1 : Nat) : Int) ∧ (s.2.1.length = 0 → s.2.2.2 = 0) ∧ hRd ph 147 12 = mkU (nmd s) 0 ∧ hRd ph 147 13 = mkG (nmd s) 0 ∧ hRd ph 147 14 = (mkL (nmd s) 0 : Int) ∧ (s.1 = 3 → ∃ p c, s.2.1[s.2.1.length - 1]? = some p ∧ kdF c = p.1 ∧ 3 ≤ p.1 ∧ hRd ph 147 16 = c)
theorem mkU_snoc {a : List PP} {p : PP} : ∀ {m : Int}, mkU (a ++ [p]) m = if p.1 = 0 ∨ p.1 = 1 then mkU a m else oi (mkU a m) (sl (p.2.2.2.1 : Int)) := by
  induction a with
  | nil => intro m; rfl
  | cons q a ih => intro m; exact ih
theorem mkG_snoc {a : List PP} {p : PP} : ∀ {m : Int}, mkG (a ++ [p]) m = if p.1 = 7 then oi (mkG a m) (sl (p.2.2.2.1 : Int)) else mkG a m := by
  induction a with
  | nil => intro m; rfl
  | cons q a ih => intro m; exact ih
theorem mkL_snoc {a : List PP} {p : PP} : ∀ {m : Nat}, mkL (a ++ [p]) m = if p.1 = 5 then mkL a m + 1 else mkL a m := by
  induction a with
  | nil => intro m; rfl
  | cons q a ih => intro m; exact ih
theorem mk_eq : ∀ {a b : List PP}, a.map (fun p => (p.1, p.2.2.2.1)) = b.map (fun p => (p.1, p.2.2.2.1)) → (∀ m, mkU a m = mkU b m) ∧ (∀ m, mkG a m = mkG b m) ∧ (∀ m, mkL a m = mkL b m) := by
  intro a
  induction a with
  | nil =>
    intro b h
    cases b with
    | nil => exact ⟨fun _ => rfl, fun _ => rfl, fun _ => rfl⟩
    | cons q b => simp at h
  | cons p a ih =>
    intro b h
    cases b with
    | nil => simp at h
    | cons q b =>
      simp only [List.map_cons, List.cons.injEq, Prod.mk.injEq] at h
      obtain ⟨⟨h1, h2⟩, h3⟩ := h
      obtain ⟨i1, i2, i3⟩ := ih h3
      refine ⟨fun m => ?_, fun m => ?_, fun m => ?_⟩
      · simp only [mkU, h1, h2]; exact i1 _
      · simp only [mkG, h1, h2]; exact i2 _
      · simp only [mkL, h1]; exact i3 _
theorem pSet_map {l : List PP} {i : Nat} {f : PP → PP} (hf : ∀ p, (f p).1 = p.1 ∧ (f p).2.2.2.1 = p.2.2.2.1) : (pSet l i f).map (fun p => (p.1, p.2.2.2.1)) = l.map (fun p => (p.1, p.2.2.2.1)) := by
  apply List.ext_getElem?
  intro j
  simp only [List.getElem?_map]
  cases e : (pSet l i f)[j]? with
  | none =>
    have h1 := List.getElem?_eq_none_iff.mp e
    rw [pSet_len] at h1
    rw [List.getElem?_eq_none h1]
  | some q =>
    rcases pSet_get e with ⟨rfl, p, hp, rfl⟩ | ⟨-, hp⟩
    · rw [hp]; simp only [Option.map_some, (hf p).1, (hf p).2]
    · rw [hp]
theorem mkG_w : ∀ (a : List PP) (m : Int), (∃ x : Int32, m = x.toInt) → ∃ x : Int32, mkG a m = x.toInt := by
  intro a
  induction a with
  | nil => intro m h; exact h
  | cons p a ih =>
    intro m h
    simp only [mkG]
    split
    · exact ih _ ⟨_, rfl⟩
    · exact ih m h
theorem oi_0 {a : List PP} : oi (mkG a 0) 0 = mkG a 0 := by
  obtain ⟨x, hx⟩ := mkG_w a 0 ⟨0, rfl⟩
  rw [hx]
  unfold oi
  rw [Int32.ofInt_toInt, show Int32.ofInt 0 = 0 from rfl, Int32.or_zero]
theorem lst {ps : List PP} {l : Nat} {p : PP} (h1 : ps.length = l + 1) (h2 : ps[l]? = some p) : ∃ a, ps = a ++ [p] ∧ a.length = l := by
  refine ⟨ps.take l, ?_, by rw [List.length_take]; omega⟩
  have := List.take_append_drop l ps
  have h3 : ps.drop l = [p] := by
    rw [List.drop_eq_getElem_cons (by omega), List.drop_eq_nil_of_le (by omega)]
    rw [List.getElem?_eq_getElem (by omega)] at h2
    rw [Option.some.inj h2]
  rw [h3] at this
  exact this.symm
theorem lst_set {a : List PP} {p q : PP} : (a ++ [p]).set ((a ++ [p]).length - 1) q = a ++ [q] := by
  rw [show (a ++ [p]).length - 1 = a.length by simp, List.set_append_right _ _ (Nat.le_refl _), Nat.sub_self]
  rfl
theorem lst_get {a : List PP} {p : PP} : (a ++ [p])[(a ++ [p]).length - 1]? = some p := by
  simp
theorem stM_3 {a : List PP} {p : PP} {op : List Nat} {mo : Nat} : stM (3, a ++ [p], op, mo) = if p.1 ≤ 4 then 3 else 5 := by
  unfold stM
  simp
theorem nm_kd {c : Int} (h : 0 ≤ nmF c) : kdF c = 2 := by
  unfold nmF at h
  unfold kdF
  (repeat' split) <;> (repeat' split at h) <;> omega
theorem mkL_le : ∀ (a : List PP) (m : Nat), mkL a m ≤ a.length + m := by
  intro a
  induction a with
  | nil => intro m; simp only [mkL, List.length_nil]; omega
  | cons p a ih =>
    intro m
    simp only [mkL, List.length_cons]
    split
    · have := ih (m + 1); omega
    · have := ih m; omega
section MRD
variable {d : Nat} {ph : xH} {zs : List xV} {g : Nat} {Q : xR → Prop} {ps : List PP} {op : List Nat} {mo i : Nat} {c : Int}
theorem s155 {n m11 m15 : Nat} (hs : hSh zs ph) (e10 : hRd ph 147 10 = (n : Int)) (e11 : hRd ph 147 11 = (m11 : Int)) (e15 : hRd ph 147 15 = (m15 : Int)) (b1 : n ≤ 100) (b2 : m11 ≤ 100) (b3 : m15 ≤ 100) (hQ : ∀ ph2, hSh zs ph2 → hFM [10, 11] [] ph ph2 → hRd ph2 147 10 = (n : Int) + 1 → hRd ph2 147 11 = ((if m11 ≤ m15 then m15 + 1 else m11 : Nat) : Int) → Q (.inl none, ph2, g)) : xTC d 155 [.inr (.inl (some 147))] ph g Q := by
  have s1 : hSh zs (hUp ph 147 10 ((n : Int) + 1)) := hShI1 _ hs rfl rfl
  have rd1 := hRd_up (x := (n : Int) + 1) hs (show hKi (hTg 147) 10 = true from rfl) (by decide)
  have x11 : hRd (hUp ph 147 10 ((n : Int) + 1)) 147 11 = (m11 : Int) := by rw [rd1, if_neg (by decide)]; exact e11
  have x15 : hRd (hUp ph 147 10 ((n : Int) + 1)) 147 15 = (m15 : Int) := by rw [rd1, if_neg (by decide)]; exact e15
  have f1 : hFM [10, 11] [] ph (hUp ph 147 10 ((n : Int) + 1)) := hFM_f hs rfl (by decide) (by decide)
  refine tEn (ls := [some (.inr (.inl (some 147)))]) (fun k => by match k with | 0 => rfl | k + 1 => rfl) ?_
  refine tK (l := xk_155) rfl rfl (fun _ _ _ _ _ => rfl) ?_
  refine tK (l := xk_155) rfl rfl (fun _ _ _ _ _ => rfl) ?_
  refine tK (l := xk_155) rfl rfl (hGetI hs rfl rfl rfl (by decide) (by decide)) ?_
  rw [e10]
  refine tK (l := xk_155) rfl rfl (fun _ _ _ _ _ => rfl) ?_
  refine tK (l := xk_155) rfl rfl (hAdd ⟨by omega, by omega⟩) ?_
  refine tK (l := xk_155) rfl rfl (hPutV hs rfl rfl (by decide) (by decide) rfl) ?_
  refine tK (l := xk_155) rfl rfl (fun _ _ _ _ _ => rfl) ?_
  refine tK (l := xk_155) rfl rfl (fun _ _ _ _ _ => rfl) ?_
  refine tK (l := xk_155) rfl rfl (hGetI (hShI1 _ hs rfl rfl) rfl rfl rfl (by decide) (by decide)) ?_
  rw [x11]
  refine tK (l := xk_155) rfl rfl (fun _ _ _ _ _ => rfl) ?_
  refine tK (l := xk_155) rfl rfl (hGetI (hShI1 _ hs rfl rfl) rfl rfl rfl (by decide) (by decide)) ?_
  rw [x15]
  refine tK (l := xk_155) rfl rfl (fun _ _ _ _ _ => rfl) ?_
  refine tK (l := xk_155) rfl rfl (hAdd ⟨by omega, by omega⟩) ?_
  refine tIc_le (l := xk_155) (pc' := 31) rfl rfl rfl (fun hc => ?_) (fun hc => ?_)
  · refine tK (l := xk_155) rfl rfl (fun _ _ _ _ _ => rfl) ?_
    refine tK (l := xk_155) rfl rfl (hGetI (hShI1 _ hs rfl rfl) rfl rfl rfl (by decide) (by decide)) ?_
    rw [x11]
    refine tK (l := xk_155) rfl rfl (fun _ _ _ _ _ => rfl) ?_
    refine tK (l := xk_155) rfl rfl (hPutV (hShI1 _ hs rfl rfl) rfl rfl (by decide) (by decide) rfl) ?_
    refine tRt (l := xk_155) rfl rfl (fun _ _ _ _ _ => rfl) ?_
    refine hQ _ (hShI1 _ (hShI1 _ hs rfl rfl) rfl rfl) (f1.trans (hFM_f s1 rfl (by decide) (by decide))) (by rw [hRd_up s1 rfl (by decide), if_neg (by decide), rd1, if_pos ⟨rfl, rfl⟩]) ?_
    rw [hRd_up s1 rfl (by decide), if_pos ⟨rfl, rfl⟩]
    split <;> omega
  · refine tK (l := xk_155) rfl rfl (fun _ _ _ _ _ => rfl) ?_
    refine tK (l := xk_155) rfl rfl (hGetI (hShI1 _ hs rfl rfl) rfl rfl rfl (by decide) (by decide)) ?_
    rw [x15]
    refine tK (l := xk_155) rfl rfl (fun _ _ _ _ _ => rfl) ?_
    refine tK (l := xk_155) rfl rfl (hAdd ⟨by omega, by omega⟩) ?_
    refine tK (l := xk_155) rfl rfl (hPutV (hShI1 _ hs rfl rfl) rfl rfl (by decide) (by decide) rfl) ?_
    refine tRt (l := xk_155) rfl rfl (fun _ _ _ _ _ => rfl) ?_
    refine hQ _ (hShI1 _ (hShI1 _ hs rfl rfl) rfl rfl) (f1.trans (hFM_f s1 rfl (by decide) (by decide))) (by rw [hRd_up s1 rfl (by decide), if_neg (by decide), rd1, if_pos ⟨rfl, rfl⟩]) ?_
    rw [hRd_up s1 rfl (by decide), if_pos ⟨rfl, rfl⟩]
    split <;> omega
theorem s153_0 (hs : hSh zs ph) (hI : rI ph (0, ps, op, mo)) (hin : pIn i (0, ps, op, mo)) (hi : i < 60) (hb : 0 ≤ c ∧ c ≤ 65535) (hQ : ∀ ph2 s2, pRd i c (0, ps, op, mo) = some s2 → hSh zs ph2 → rI ph2 s2 → hFM [10, 11, 12, 13, 14, 15, 16] [] ph ph2 → Q (.inl (some (.inl (stM s2))), ph2, g)) (hN : ∀ ph2, pRd i c (0, ps, op, mo) = none → hSh zs ph2 → hFM [10, 11, 12, 13, 14, 15, 16] [] ph ph2 → Q (.inl (some (.inl (-1))), ph2, g)) : xTC (d + 2) 153 [.inr (.inl (some 147)), .inl 0, .inl c] ph g Q := by
  obtain ⟨e10, e15, e11, emo, e12, e13, e14, e16⟩ := id hI
  simp only at e10 e15 e11 emo
  obtain ⟨i1, i2, i3, i4, i5, i6⟩ := id hin
  simp only at i1 i2 i3 i6
  refine tEn (ls := [some (.inr (.inl (some 147))), some (.inl 0), some (.inl c), none]) (fun k => by match k with | 0 => rfl | 1 => rfl | 2 => rfl | 3 => rfl | k + 4 => rfl) ?_
  refine tK (l := xk_153) rfl rfl (fun _ _ _ _ _ => rfl) ?_
  refine tCa (l := xk_153) rfl rfl (hInvS rfl rfl rfl rfl (Nat.le_of_ble_eq_true rfl) (Nat.le_of_ble_eq_true rfl)) ?_
  refine s154 (by omega) ?_
  refine tKv ?_
  refine tSt (l := xk_153) rfl rfl (fun _ _ _ _ _ => rfl) (Nat.le_of_ble_eq_true rfl) ?_
  refine tK (l := xk_153) rfl rfl (fun _ _ _ _ _ => rfl) ?_
  refine tK (l := xk_153) (pc' := 44) rfl rfl (fun _ _ _ _ _ => rfl) ?_
  refine tK (l := xk_153) rfl rfl (fun _ _ _ _ _ => rfl) ?_
  refine tK (l := xk_153) rfl rfl (fun _ _ _ _ _ => rfl) ?_
  refine tIc_ne (l := xk_153) (pc' := 73) rfl rfl rfl (fun hc => ?_) (fun hc => ?_)
  · have hc47 := hc
    refine tK (l := xk_153) rfl rfl (fun _ _ _ _ _ => rfl) ?_
    refine tK (l := xk_153) rfl rfl (fun _ _ _ _ _ => rfl) ?_
    refine tK (l := xk_153) rfl rfl (hGetI hs rfl rfl rfl (by decide) (by decide)) ?_
    rw [e15]
    refine tK (l := xk_153) rfl rfl (fun _ _ _ _ _ => rfl) ?_
    refine tK (l := xk_153) rfl rfl (hSub ⟨by omega, by omega⟩) ?_
    refine tK (l := xk_153) rfl rfl (hPutV hs rfl rfl (by decide) (by decide) rfl) ?_
    have x15 : hRd (hUp ph 147 15 ((op.length : Int) - 1)) 147 15 = (op.length : Int) - 1 := by rw [hRd_up hs rfl (by decide), if_pos ⟨rfl, rfl⟩]
    refine tK (l := xk_153) rfl rfl (fun _ _ _ _ _ => rfl) ?_
    refine tK (l := xk_153) rfl rfl (hGetI (hShI1 _ hs rfl rfl) rfl rfl rfl (by decide) (by decide)) ?_
    rw [x15]
    refine tIf_ge (l := xk_153) (pc' := 71) rfl rfl rfl (fun hc => ?_) (fun hc => ?_)
    · have hc64 := hc
      refine tK (l := xk_153) rfl rfl (fun _ _ _ _ _ => rfl) ?_
      refine tK (l := xk_153) rfl rfl (fun _ _ _ _ _ => rfl) ?_
      refine tRt (l := xk_153) rfl rfl (fun _ _ _ _ _ => rfl) ?_
      cases op with
      | nil => exact hN _ (by rw [show c = 125 from hc47]; rfl) (hShI1 _ hs rfl rfl) (hFM_f hs rfl (by decide) (by decide))
      | cons q os => exfalso; simp only [List.length_cons] at hc; omega
    · have hc64 := hc
      refine tK (l := xk_153) rfl rfl (fun _ _ _ _ _ => rfl) ?_
      refine tRt (l := xk_153) rfl rfl (fun _ _ _ _ _ => rfl) ?_
      cases op with
      | nil => exact absurd (show ((([] : List Nat).length : Nat) : Int) - 1 < 0 by decide) hc
      | cons q os =>
        have hU : hRd (hUp ph 147 15 (((q :: os).length : Int) - 1)) 147 15 = (os.length : Int) := by rw [hRd_up hs rfl (by decide), if_pos ⟨rfl, rfl⟩]; simp only [List.length_cons]; omega
        have f3 : hFM [10, 11, 12, 13, 14, 15, 16] [] ph (hUp ph 147 15 (((q :: os).length : Int) - 1)) := hFM_f hs rfl (by decide) (by decide)
        have f4 : hFM [15] [] ph (hUp ph 147 15 (((q :: os).length : Int) - 1)) := hFM_f hs rfl (by decide) (by decide)
        have hm := mk_eq (pSet_map (l := ps) (i := q) (f := fun r => (r.1, r.2.1, r.2.2.1, r.2.2.2.1, ps.length)) (fun _ => ⟨rfl, rfl⟩))
        refine hQ _ (0, pSet ps q (fun r => (r.1, r.2.1, r.2.2.1, r.2.2.2.1, ps.length)), os, mo) (by rw [show c = 125 from hc47]; rfl) (hShI1 _ hs rfl rfl) ⟨?_, hU, ?_, ?_, ?_, ?_, ?_, fun h => absurd h (by simp)⟩ f3
        · rw [f4.fl (by decide), e10]; simp only [pSet_len]
        · rw [f4.fl (by decide), e11]; simp only [pSet_len]
        · simp only [pSet_len]; exact emo
        · rw [f4.fl (by decide), e12]; exact (hm.1 0).symm
        · rw [f4.fl (by decide), e13]; exact (hm.2.1 0).symm
        · rw [f4.fl (by decide), e14]; exact congrArg _ (hm.2.2 0).symm
  · have hc47 := hc
    refine tK (l := xk_153) rfl rfl (fun _ _ _ _ _ => rfl) ?_
    refine tCa (l := xk_153) rfl rfl (hInvV (c := 10) hs rfl rfl rfl rfl rfl (Nat.le_of_ble_eq_true rfl) (Nat.le_of_ble_eq_true rfl)) ?_
    refine s155 hs e10 e11 e15 (by omega) (by split <;> omega) (by omega) (fun ph2 hs2 f2 g10 g11 => ?_)
    refine tKn ?_
    have f3 : hFM [10, 11, 12, 13, 14, 15, 16] [] ph ph2 := f2.mono (by decide) (by decide)
    refine tK (l := xk_153) rfl rfl (fun _ _ _ _ _ => rfl) ?_
    refine tK (l := xk_153) rfl rfl (fun _ _ _ _ _ => rfl) ?_
    refine tIc_ne (l := xk_153) (pc' := 87) rfl rfl rfl (fun hc => ?_) (fun hc => ?_)
    · have hc80 := hc
      refine tK (l := xk_153) rfl rfl (fun _ _ _ _ _ => rfl) ?_
      refine tK (l := xk_153) rfl rfl (fun _ _ _ _ _ => rfl) ?_
      refine tRt (l := xk_153) rfl rfl (fun _ _ _ _ _ => rfl) ?_
      have hn : nmd (1, ps ++ [(1, i, c, 0, ps.length + 1)], op, if mo < op.length then op.length else mo) = ps ++ [(1, i, c, 0, ps.length + 1)] := rfl
      refine hQ ph2 (1, ps ++ [(1, i, c, 0, ps.length + 1)], op, if mo < op.length then op.length else mo) (by simp only [pRd]; rw [if_neg (show ¬ c = 125 from hc47), if_pos (show c = 126 from hc80)]) hs2 ⟨?_, by rw [f2.fl (by decide)]; exact e15, ?_, fun h => ?_, by rw [f2.fl (by decide), e12, hn]; rw [mkU_snoc]; rfl, by rw [f2.fl (by decide), e13, hn]; rw [mkG_snoc]; rfl, by rw [f2.fl (by decide), e14, hn]; rw [mkL_snoc]; rfl, fun h => absurd h (by simp)⟩ f3
      · rw [g10]; simp
      · rw [g11]
        simp only [List.length_append, List.length_cons, List.length_nil]
        rw [if_neg (show ¬ (ps.length + (0 + 1)) = 0 by omega)]
        congr 1
        by_cases e9 : ps.length = 0
        · rw [if_pos e9]
          have hop : op.length = 0 := by
            cases op with
            | nil => rfl
            | cons q os => have := i3 q List.mem_cons_self; omega
          have := emo e9
          rw [hop, this]; rfl
        · rw [if_neg e9]
          by_cases e8 : mo < op.length
          · rw [if_pos e8, if_pos (by omega)]
          · rw [if_neg e8]; split <;> omega
      · simp at h
    · have hc80 := hc
      refine tK (l := xk_153) rfl rfl (fun _ _ _ _ _ => rfl) ?_
      refine tK (l := xk_153) rfl rfl (fun _ _ _ _ _ => rfl) ?_
      refine tIc_ne (l := xk_153) (pc' := 97) rfl rfl rfl (fun hc => ?_) (fun hc => ?_)
      · have hc90 := hc
        refine tK (l := xk_153) rfl rfl (fun _ _ _ _ _ => rfl) ?_
        refine tK (l := xk_153) rfl rfl (fun _ _ _ _ _ => rfl) ?_
        refine tRt (l := xk_153) rfl rfl (fun _ _ _ _ _ => rfl) ?_
        have hn : nmd (2, ps ++ [(2, i, c, 0, ps.length + 1)], op, if mo < op.length then op.length else mo) = ps := by unfold nmd; simp
        refine hQ ph2 (2, ps ++ [(2, i, c, 0, ps.length + 1)], op, if mo < op.length then op.length else mo) (by simp only [pRd]; rw [if_neg (show ¬ c = 125 from hc47), if_neg (show ¬ c = 126 from hc80), if_pos (show c = 123 from hc90)]) hs2 ⟨?_, by rw [f2.fl (by decide)]; exact e15, ?_, fun h => ?_, by rw [f2.fl (by decide), e12, hn]; rfl, by rw [f2.fl (by decide), e13, hn]; rfl, by rw [f2.fl (by decide), e14, hn]; rfl, fun h => absurd h (by simp)⟩ f3
        · rw [g10]; simp
        · rw [g11]
          simp only [List.length_append, List.length_cons, List.length_nil]
          rw [if_neg (show ¬ (ps.length + (0 + 1)) = 0 by omega)]
          congr 1
          by_cases e9 : ps.length = 0
          · rw [if_pos e9]
            have hop : op.length = 0 := by
              cases op with
              | nil => rfl
              | cons q os => have := i3 q List.mem_cons_self; omega
            have := emo e9
            rw [hop, this]; rfl
          · rw [if_neg e9]
            by_cases e8 : mo < op.length
            · rw [if_pos e8, if_pos (by omega)]
            · rw [if_neg e8]; split <;> omega
        · simp at h
      · have hc90 := hc
        refine tK (l := xk_153) rfl rfl (fun _ _ _ _ _ => rfl) ?_
        refine tRt (l := xk_153) rfl rfl (fun _ _ _ _ _ => rfl) ?_
        have hn : nmd (0, ps ++ [(0, i, c, 0, ps.length + 1)], op, if mo < op.length then op.length else mo) = ps ++ [(0, i, c, 0, ps.length + 1)] := rfl
        refine hQ ph2 (0, ps ++ [(0, i, c, 0, ps.length + 1)], op, if mo < op.length then op.length else mo) (by simp only [pRd]; rw [if_neg (show ¬ c = 125 from hc47), if_neg (show ¬ c = 126 from hc80), if_neg (show ¬ c = 123 from hc90)]) hs2 ⟨?_, by rw [f2.fl (by decide)]; exact e15, ?_, fun h => ?_, by rw [f2.fl (by decide), e12, hn]; rw [mkU_snoc]; rfl, by rw [f2.fl (by decide), e13, hn]; rw [mkG_snoc]; rfl, by rw [f2.fl (by decide), e14, hn]; rw [mkL_snoc]; rfl, fun h => absurd h (by simp)⟩ f3
        · rw [g10]; simp
        · rw [g11]
          simp only [List.length_append, List.length_cons, List.length_nil]
          rw [if_neg (show ¬ (ps.length + (0 + 1)) = 0 by omega)]
          congr 1
          by_cases e9 : ps.length = 0
          · rw [if_pos e9]
            have hop : op.length = 0 := by
              cases op with
              | nil => rfl
              | cons q os => have := i3 q List.mem_cons_self; omega
            have := emo e9
            rw [hop, this]; rfl
          · rw [if_neg e9]
            by_cases e8 : mo < op.length
            · rw [if_pos e8, if_pos (by omega)]
            · rw [if_neg e8]; split <;> omega
        · simp at h
theorem s153_1 (hs : hSh zs ph) (hI : rI ph (1, ps, op, mo)) (hin : pIn i (1, ps, op, mo)) (hi : i < 60) (hb : 0 ≤ c ∧ c ≤ 65535) {t9 : List Int} (hp : pIv t9 i (1, ps, op, mo)) (hQ : ∀ ph2 s2, pRd i c (1, ps, op, mo) = some s2 → hSh zs ph2 → rI ph2 s2 → hFM [10, 11, 12, 13, 14, 15, 16] [] ph ph2 → Q (.inl (some (.inl (stM s2))), ph2, g)) (hN : ∀ ph2, pRd i c (1, ps, op, mo) = none → hSh zs ph2 → hFM [10, 11, 12, 13, 14, 15, 16] [] ph ph2 → Q (.inl (some (.inl (-1))), ph2, g)) : xTC (d + 2) 153 [.inr (.inl (some 147)), .inl 1, .inl c] ph g Q := by
  obtain ⟨e10, e15, e11, emo, e12, e13, e14, e16⟩ := id hI
  simp only at e10 e15 e11 emo
  obtain ⟨i1, i2, i3, i4, i5, i6⟩ := id hin
  simp only at i1 i2 i3 i6
  have hm := mk_eq (pSet_map (l := ps) (i := ps.length - 1) (f := fun p => (p.1, p.2.1, c, p.2.2.2)) (fun _ => ⟨rfl, rfl⟩))
  refine tEn (ls := [some (.inr (.inl (some 147))), some (.inl 1), some (.inl c), none]) (fun k => by match k with | 0 => rfl | 1 => rfl | 2 => rfl | 3 => rfl | k + 4 => rfl) ?_
  refine tK (l := xk_153) rfl rfl (fun _ _ _ _ _ => rfl) ?_
  refine tCa (l := xk_153) rfl rfl (hInvS rfl rfl rfl rfl (Nat.le_of_ble_eq_true rfl) (Nat.le_of_ble_eq_true rfl)) ?_
  refine s154 (by omega) ?_
  refine tKv ?_
  refine tSt (l := xk_153) rfl rfl (fun _ _ _ _ _ => rfl) (Nat.le_of_ble_eq_true rfl) ?_
  refine tK (l := xk_153) rfl rfl (fun _ _ _ _ _ => rfl) ?_
  refine tK (l := xk_153) (pc' := 99) rfl rfl (fun _ _ _ _ _ => rfl) ?_
  refine tK (l := xk_153) rfl rfl (fun _ _ _ _ _ => rfl) ?_
  refine tRt (l := xk_153) rfl rfl (fun _ _ _ _ _ => rfl) ?_
  refine hQ ph (0, pSet ps (ps.length - 1) (fun p => (p.1, p.2.1, c, p.2.2.2)), op, mo) rfl hs ⟨by rw [e10]; simp only [pSet_len], e15, by rw [e11]; simp only [pSet_len], by simp only [pSet_len]; exact emo, by rw [e12]; exact (hm.1 0).symm, by rw [e13]; exact (hm.2.1 0).symm, by rw [e14]; exact congrArg _ (hm.2.2 0).symm, fun h => absurd h (by simp)⟩ hFM.refl
theorem s153_4 (hs : hSh zs ph) (hI : rI ph (4, ps, op, mo)) (hin : pIn i (4, ps, op, mo)) (hi : i < 60) (hb : 0 ≤ c ∧ c ≤ 65535) (hQ : ∀ ph2 s2, pRd i c (4, ps, op, mo) = some s2 → hSh zs ph2 → rI ph2 s2 → hFM [10, 11, 12, 13, 14, 15, 16] [] ph ph2 → Q (.inl (some (.inl (stM s2))), ph2, g)) (hN : ∀ ph2, pRd i c (4, ps, op, mo) = none → hSh zs ph2 → hFM [10, 11, 12, 13, 14, 15, 16] [] ph ph2 → Q (.inl (some (.inl (-1))), ph2, g)) : xTC (d + 2) 153 [.inr (.inl (some 147)), .inl 6, .inl c] ph g Q := by
  obtain ⟨e10, e15, e11, emo, e12, e13, e14, e16⟩ := id hI
  simp only at e10 e15 e11 emo
  obtain ⟨i1, i2, i3, i4, i5, i6⟩ := id hin
  simp only at i1 i2 i3 i6
  refine tEn (ls := [some (.inr (.inl (some 147))), some (.inl 6), some (.inl c), none]) (fun k => by match k with | 0 => rfl | 1 => rfl | 2 => rfl | 3 => rfl | k + 4 => rfl) ?_
  refine tK (l := xk_153) rfl rfl (fun _ _ _ _ _ => rfl) ?_
  refine tCa (l := xk_153) rfl rfl (hInvS rfl rfl rfl rfl (Nat.le_of_ble_eq_true rfl) (Nat.le_of_ble_eq_true rfl)) ?_
  refine s154 (by omega) ?_
  refine tKv ?_
  refine tSt (l := xk_153) rfl rfl (fun _ _ _ _ _ => rfl) (Nat.le_of_ble_eq_true rfl) ?_
  refine tK (l := xk_153) rfl rfl (fun _ _ _ _ _ => rfl) ?_
  refine tK (l := xk_153) (pc' := 258) rfl rfl (fun _ _ _ _ _ => rfl) ?_
  refine tK (l := xk_153) rfl rfl (fun _ _ _ _ _ => rfl) ?_
  refine tK (l := xk_153) rfl rfl (fun _ _ _ _ _ => rfl) ?_
  refine tK (l := xk_153) rfl rfl (hGetI hs rfl rfl rfl (by decide) (by decide)) ?_
  rw [e15]
  refine tK (l := xk_153) rfl rfl (fun _ _ _ _ _ => rfl) ?_
  refine tK (l := xk_153) rfl rfl (fun _ _ _ _ _ => rfl) ?_
  refine tIc_ne (l := xk_153) (pc' := 273) rfl rfl rfl (fun hc => ?_) (fun hc => ?_)
  · have hc266 := hc
    refine tK (l := xk_153) rfl rfl (fun _ _ _ _ _ => rfl) ?_
    refine tK (l := xk_153) rfl rfl (fun _ _ _ _ _ => rfl) ?_
    refine tK (l := xk_153) rfl rfl (hAdd ⟨by omega, by omega⟩) ?_
    refine tK (l := xk_153) rfl rfl (hPutV hs rfl rfl (by decide) (by decide) rfl) ?_
    refine tK (l := xk_153) rfl rfl (fun _ _ _ _ _ => rfl) ?_
    refine tK (l := xk_153) rfl rfl (fun _ _ _ _ _ => rfl) ?_
    refine tIc_ne (l := xk_153) (pc' := 288) rfl rfl rfl (fun hc => ?_) (fun hc => ?_)
    · have hc281 := hc
      refine tK (l := xk_153) rfl rfl (fun _ _ _ _ _ => rfl) ?_
      refine tK (l := xk_153) rfl rfl (fun _ _ _ _ _ => rfl) ?_
      refine tRt (l := xk_153) rfl rfl (fun _ _ _ _ _ => rfl) ?_
      have f4 : hFM [15] [] ph (hUp ph 147 15 ((op.length : Int) + 1)) := hFM_f hs rfl (by decide) (by decide)
      refine hQ _ (0, ps, (ps.length - 1) :: op, mo) (by simp only [pRd]; rw [if_pos (show c = 58 from hc266)]) (hShI1 _ hs rfl rfl) ⟨by rw [f4.fl (by decide)]; exact e10, by rw [hRd_up hs rfl (by decide), if_pos ⟨rfl, rfl⟩]; simp, by rw [f4.fl (by decide)]; exact e11, emo, by rw [f4.fl (by decide)]; exact e12, by rw [f4.fl (by decide)]; exact e13, by rw [f4.fl (by decide)]; exact e14, fun h => absurd h (by simp)⟩ (f4.mono (by decide) (by decide))
    · have hc281 := hc
      exact absurd hc266 hc
  · have hc266 := hc
    refine tK (l := xk_153) rfl rfl (fun _ _ _ _ _ => rfl) ?_
    refine tK (l := xk_153) rfl rfl (hAdd ⟨by omega, by omega⟩) ?_
    refine tK (l := xk_153) rfl rfl (hPutV hs rfl rfl (by decide) (by decide) rfl) ?_
    refine tK (l := xk_153) rfl rfl (fun _ _ _ _ _ => rfl) ?_
    refine tK (l := xk_153) rfl rfl (fun _ _ _ _ _ => rfl) ?_
    refine tIc_ne (l := xk_153) (pc' := 288) rfl rfl rfl (fun hc => ?_) (fun hc => ?_)
    · have hc281 := hc
      exact absurd hc hc266
    · have hc281 := hc
      refine tK (l := xk_153) rfl rfl (fun _ _ _ _ _ => rfl) ?_
      refine tRt (l := xk_153) rfl rfl (fun _ _ _ _ _ => rfl) ?_
      exact hN _ (by simp only [pRd]; rw [if_neg (show ¬ c = 58 from hc266)]) (hShI1 _ hs rfl rfl) (hFM_f hs rfl (by decide) (by decide))
theorem s153_5 (hs : hSh zs ph) (hI : rI ph (5, ps, op, mo)) (hin : pIn i (5, ps, op, mo)) (hi : i < 60) (hb : 0 ≤ c ∧ c ≤ 65535) (hQ : ∀ ph2 s2, pRd i c (5, ps, op, mo) = some s2 → hSh zs ph2 → rI ph2 s2 → hFM [10, 11, 12, 13, 14, 15, 16] [] ph ph2 → Q (.inl (some (.inl (stM s2))), ph2, g)) (hN : ∀ ph2, pRd i c (5, ps, op, mo) = none → hSh zs ph2 → hFM [10, 11, 12, 13, 14, 15, 16] [] ph ph2 → Q (.inl (some (.inl (-1))), ph2, g)) : xTC (d + 2) 153 [.inr (.inl (some 147)), .inl 4, .inl c] ph g Q := by
  obtain ⟨e10, e15, e11, emo, e12, e13, e14, e16⟩ := id hI
  simp only at e10 e15 e11 emo
  obtain ⟨i1, i2, i3, i4, i5, i6⟩ := id hin
  simp only at i1 i2 i3 i6
  refine tEn (ls := [some (.inr (.inl (some 147))), some (.inl 4), some (.inl c), none]) (fun k => by match k with | 0 => rfl | 1 => rfl | 2 => rfl | 3 => rfl | k + 4 => rfl) ?_
  refine tK (l := xk_153) rfl rfl (fun _ _ _ _ _ => rfl) ?_
  refine tCa (l := xk_153) rfl rfl (hInvS rfl rfl rfl rfl (Nat.le_of_ble_eq_true rfl) (Nat.le_of_ble_eq_true rfl)) ?_
  refine s154 (by omega) ?_
  refine tKv ?_
  refine tSt (l := xk_153) rfl rfl (fun _ _ _ _ _ => rfl) (Nat.le_of_ble_eq_true rfl) ?_
  refine tK (l := xk_153) rfl rfl (fun _ _ _ _ _ => rfl) ?_
  refine tK (l := xk_153) (pc' := 246) rfl rfl (fun _ _ _ _ _ => rfl) ?_
  refine tK (l := xk_153) rfl rfl (fun _ _ _ _ _ => rfl) ?_
  refine tK (l := xk_153) rfl rfl (fun _ _ _ _ _ => rfl) ?_
  refine tIc_ne (l := xk_153) (pc' := 256) rfl rfl rfl (fun hc => ?_) (fun hc => ?_)
  · have hc249 := hc
    refine tK (l := xk_153) rfl rfl (fun _ _ _ _ _ => rfl) ?_
    refine tK (l := xk_153) rfl rfl (fun _ _ _ _ _ => rfl) ?_
    refine tRt (l := xk_153) rfl rfl (fun _ _ _ _ _ => rfl) ?_
    refine hQ ph (0, ps, op, mo) (by simp only [pRd]; rw [if_pos (show c = 125 from hc249)]) hs ⟨e10, e15, e11, emo, e12, e13, e14, fun h => absurd h (by simp)⟩ hFM.refl
  · have hc249 := hc
    refine tK (l := xk_153) rfl rfl (fun _ _ _ _ _ => rfl) ?_
    refine tRt (l := xk_153) rfl rfl (fun _ _ _ _ _ => rfl) ?_
    exact hN ph (by simp only [pRd]; rw [if_neg (show ¬ c = 125 from hc249)]) hs hFM.refl
theorem s153_2 (hs : hSh zs ph) (hI : rI ph (2, ps, op, mo)) (hin : pIn i (2, ps, op, mo)) (hi : i < 60) (hb : 0 ≤ c ∧ c ≤ 65535) {t9 : List Int} (hp : pIv t9 i (2, ps, op, mo)) (hQ : ∀ ph2 s2, pRd i c (2, ps, op, mo) = some s2 → hSh zs ph2 → rI ph2 s2 → hFM [10, 11, 12, 13, 14, 15, 16] [] ph ph2 → Q (.inl (some (.inl (stM s2))), ph2, g)) (hN : ∀ ph2, pRd i c (2, ps, op, mo) = none → hSh zs ph2 → hFM [10, 11, 12, 13, 14, 15, 16] [] ph ph2 → Q (.inl (some (.inl (-1))), ph2, g)) : xTC (d + 2) 153 [.inr (.inl (some 147)), .inl 2, .inl c] ph g Q := by
  obtain ⟨e10, e15, e11, emo, e12, e13, e14, e16⟩ := id hI
  simp only at e10 e15 e11 emo
  obtain ⟨i1, i2, i3, i4, i5, i6⟩ := id hin
  simp only at i1 i2 i3 i6
  obtain ⟨l, k, x, cd, nm, h1, h2, h3, h4⟩ := hp
  have hk : k = 2 := by rcases h4 with q | q | q | q | q | q <;> first | exact q.2.1 | exact absurd q.1 (by decide)
  subst hk
  obtain ⟨a, ea, hal⟩ := lst h1 h2
  subst ea
  have hn0 : nmd (2, a ++ [(2, x, cd, nm, l + 1)], op, mo) = a := by unfold nmd; simp
  rw [hn0] at e12 e13 e14
  have hnl := nmF_le c
  refine tEn (ls := [some (.inr (.inl (some 147))), some (.inl 2), some (.inl c), none]) (fun k => by match k with | 0 => rfl | 1 => rfl | 2 => rfl | 3 => rfl | k + 4 => rfl) ?_
  refine tK (l := xk_153) rfl rfl (fun _ _ _ _ _ => rfl) ?_
  refine tCa (l := xk_153) rfl rfl (hInvS rfl rfl rfl rfl (Nat.le_of_ble_eq_true rfl) (Nat.le_of_ble_eq_true rfl)) ?_
  refine s154 (by omega) ?_
  refine tKv ?_
  refine tSt (l := xk_153) rfl rfl (fun _ _ _ _ _ => rfl) (Nat.le_of_ble_eq_true rfl) ?_
  refine tK (l := xk_153) rfl rfl (fun _ _ _ _ _ => rfl) ?_
  refine tK (l := xk_153) (pc' := 101) rfl rfl (fun _ _ _ _ _ => rfl) ?_
  refine tK (l := xk_153) rfl rfl (fun _ _ _ _ _ => rfl) ?_
  refine tK (l := xk_153) rfl rfl (fun _ _ _ _ _ => rfl) ?_
  refine tK (l := xk_153) rfl rfl (hPutV hs rfl rfl (by decide) (by decide) rfl) ?_
  have s1 : hSh zs (hUp ph 147 16 c) := hShI1 _ hs rfl rfl
  have f1 : hFM [16] [] ph (hUp ph 147 16 c) := hFM_f hs rfl (by decide) (by decide)
  have x12 : hRd (hUp ph 147 16 c) 147 12 = mkU a 0 := by rw [f1.fl (by decide)]; exact e12
  refine tK (l := xk_153) rfl rfl (fun _ _ _ _ _ => rfl) ?_
  refine tIf_lt (l := xk_153) (pc' := 122) rfl rfl rfl (fun hc => ?_) (fun hc => ?_)
  · have hc107 := hc
    refine tK (l := xk_153) rfl rfl (fun _ _ _ _ _ => rfl) ?_
    refine tIf_lt (l := xk_153) (pc' := 130) rfl rfl rfl (fun hc => ?_) (fun hc => ?_)
    · have hc123 := hc
      refine tK (l := xk_153) rfl rfl (fun _ _ _ _ _ => rfl) ?_
      refine tK (l := xk_153) rfl rfl (fun _ _ _ _ _ => rfl) ?_
      refine tIc_eq (l := xk_153) (pc' := 142) rfl rfl rfl (fun hc => ?_) (fun hc => ?_)
      · have hc133 := hc
        refine tK (l := xk_153) rfl rfl (fun _ _ _ _ _ => rfl) ?_
        refine tK (l := xk_153) rfl rfl (fun _ _ _ _ _ => rfl) ?_
        refine tRt (l := xk_153) rfl rfl (fun _ _ _ _ _ => rfl) ?_
        have hcc : c = 33 := hc133
        subst hcc
        have hst : pRd i 33 (2, a ++ [(2, x, cd, nm, l + 1)], op, mo) = some (3, a ++ [(3, x, cd, nm, l + 1)], op, mo) := by
          simp only [pRd]
          rw [if_neg (by decide), pSet_eq lst_get, lst_set]
          rfl
        have hn2 : nmd (3, a ++ [(3, x, cd, nm, l + 1)], op, mo) = a := by unfold nmd; simp
        have hsm : stM (3, a ++ [(3, x, cd, nm, l + 1)], op, mo) = 3 := by rw [stM_3]; rfl
        have hq := hQ _ _ hst s1 ⟨by rw [f1.fl (by decide), e10]; simp, by rw [f1.fl (by decide)]; exact e15, by rw [f1.fl (by decide), e11]; simp, fun h => by simp at h, by rw [f1.fl (by decide), hn2]; exact e12, by rw [f1.fl (by decide), hn2]; exact e13, by rw [f1.fl (by decide), hn2]; exact e14, fun _ => ⟨_, 33, lst_get, rfl, by simp, by rw [hRd_up hs rfl (by decide), if_pos ⟨rfl, rfl⟩]⟩⟩ (f1.mono (by decide) (by decide))
        rw [hsm] at hq
        exact hq
      · have hc133 := hc
        refine tK (l := xk_153) rfl rfl (fun _ _ _ _ _ => rfl) ?_
        refine tK (l := xk_153) rfl rfl (fun _ _ _ _ _ => rfl) ?_
        refine tIc_ne (l := xk_153) (pc' := 146) rfl rfl rfl (fun hc => ?_) (fun hc => ?_)
        · have hc139 := hc
          refine tK (l := xk_153) rfl rfl (fun _ _ _ _ _ => rfl) ?_
          refine tK (l := xk_153) rfl rfl (fun _ _ _ _ _ => rfl) ?_
          refine tRt (l := xk_153) rfl rfl (fun _ _ _ _ _ => rfl) ?_
          have hcc : c = 94 := hc139
          subst hcc
          have hst : pRd i 94 (2, a ++ [(2, x, cd, nm, l + 1)], op, mo) = some (3, a ++ [(4, x, cd, nm, l + 1)], op, mo) := by
            simp only [pRd]
            rw [if_neg (by decide), pSet_eq lst_get, lst_set]
            rfl
          have hn2 : nmd (3, a ++ [(4, x, cd, nm, l + 1)], op, mo) = a := by unfold nmd; simp
          have hsm : stM (3, a ++ [(4, x, cd, nm, l + 1)], op, mo) = 3 := by rw [stM_3]; rfl
          have hq := hQ _ _ hst s1 ⟨by rw [f1.fl (by decide), e10]; simp, by rw [f1.fl (by decide)]; exact e15, by rw [f1.fl (by decide), e11]; simp, fun h => by simp at h, by rw [f1.fl (by decide), hn2]; exact e12, by rw [f1.fl (by decide), hn2]; exact e13, by rw [f1.fl (by decide), hn2]; exact e14, fun _ => ⟨_, 94, lst_get, rfl, by simp, by rw [hRd_up hs rfl (by decide), if_pos ⟨rfl, rfl⟩]⟩⟩ (f1.mono (by decide) (by decide))
          rw [hsm] at hq
          exact hq
        · have hc139 := hc
          refine tK (l := xk_153) rfl rfl (fun _ _ _ _ _ => rfl) ?_
          refine tK (l := xk_153) rfl rfl (fun _ _ _ _ _ => rfl) ?_
          refine tIc_eq (l := xk_153) (pc' := 164) rfl rfl rfl (fun hc => ?_) (fun hc => ?_)
          · have hc149 := hc
            refine tK (l := xk_153) rfl rfl (fun _ _ _ _ _ => rfl) ?_
            refine tK (l := xk_153) rfl rfl (fun _ _ _ _ _ => rfl) ?_
            refine tRt (l := xk_153) rfl rfl (fun _ _ _ _ _ => rfl) ?_
            have hcc : c = 42 := hc149
            subst hcc
            have hst : pRd i 42 (2, a ++ [(2, x, cd, nm, l + 1)], op, mo) = some (3, a ++ [(5, x, cd, nm, l + 1)], op, mo) := by
              simp only [pRd]
              rw [if_neg (by decide), pSet_eq lst_get, lst_set]
              rfl
            have hn2 : nmd (3, a ++ [(5, x, cd, nm, l + 1)], op, mo) = a := by unfold nmd; simp
            have hsm : stM (3, a ++ [(5, x, cd, nm, l + 1)], op, mo) = 5 := by rw [stM_3]; rfl
            have hq := hQ _ _ hst s1 ⟨by rw [f1.fl (by decide), e10]; simp, by rw [f1.fl (by decide)]; exact e15, by rw [f1.fl (by decide), e11]; simp, fun h => by simp at h, by rw [f1.fl (by decide), hn2]; exact e12, by rw [f1.fl (by decide), hn2]; exact e13, by rw [f1.fl (by decide), hn2]; exact e14, fun _ => ⟨_, 42, lst_get, rfl, by simp, by rw [hRd_up hs rfl (by decide), if_pos ⟨rfl, rfl⟩]⟩⟩ (f1.mono (by decide) (by decide))
            rw [hsm] at hq
            exact hq
          · have hc149 := hc
            refine tK (l := xk_153) rfl rfl (fun _ _ _ _ _ => rfl) ?_
            refine tK (l := xk_153) rfl rfl (fun _ _ _ _ _ => rfl) ?_
            refine tIc_eq (l := xk_153) (pc' := 164) rfl rfl rfl (fun hc => ?_) (fun hc => ?_)
            · have hc155 := hc
              refine tK (l := xk_153) rfl rfl (fun _ _ _ _ _ => rfl) ?_
              refine tK (l := xk_153) rfl rfl (fun _ _ _ _ _ => rfl) ?_
              refine tRt (l := xk_153) rfl rfl (fun _ _ _ _ _ => rfl) ?_
              have hcc : c = 63 := hc155
              subst hcc
              have hst : pRd i 63 (2, a ++ [(2, x, cd, nm, l + 1)], op, mo) = some (3, a ++ [(6, x, cd, nm, l + 1)], op, mo) := by
                simp only [pRd]
                rw [if_neg (by decide), pSet_eq lst_get, lst_set]
                rfl
              have hn2 : nmd (3, a ++ [(6, x, cd, nm, l + 1)], op, mo) = a := by unfold nmd; simp
              have hsm : stM (3, a ++ [(6, x, cd, nm, l + 1)], op, mo) = 5 := by rw [stM_3]; rfl
              have hq := hQ _ _ hst s1 ⟨by rw [f1.fl (by decide), e10]; simp, by rw [f1.fl (by decide)]; exact e15, by rw [f1.fl (by decide), e11]; simp, fun h => by simp at h, by rw [f1.fl (by decide), hn2]; exact e12, by rw [f1.fl (by decide), hn2]; exact e13, by rw [f1.fl (by decide), hn2]; exact e14, fun _ => ⟨_, 63, lst_get, rfl, by simp, by rw [hRd_up hs rfl (by decide), if_pos ⟨rfl, rfl⟩]⟩⟩ (f1.mono (by decide) (by decide))
              rw [hsm] at hq
              exact hq
            · have hc155 := hc
              refine tK (l := xk_153) rfl rfl (fun _ _ _ _ _ => rfl) ?_
              refine tK (l := xk_153) rfl rfl (fun _ _ _ _ _ => rfl) ?_
              refine tIc_ne (l := xk_153) (pc' := 168) rfl rfl rfl (fun hc => ?_) (fun hc => ?_)
              · have hc161 := hc
                refine tK (l := xk_153) rfl rfl (fun _ _ _ _ _ => rfl) ?_
                refine tK (l := xk_153) rfl rfl (fun _ _ _ _ _ => rfl) ?_
                refine tRt (l := xk_153) rfl rfl (fun _ _ _ _ _ => rfl) ?_
                have hcc : c = 61 := hc161
                subst hcc
                have hst : pRd i 61 (2, a ++ [(2, x, cd, nm, l + 1)], op, mo) = some (3, a ++ [(7, x, cd, nm, l + 1)], op, mo) := by
                  simp only [pRd]
                  rw [if_neg (by decide), pSet_eq lst_get, lst_set]
                  rfl
                have hn2 : nmd (3, a ++ [(7, x, cd, nm, l + 1)], op, mo) = a := by unfold nmd; simp
                have hsm : stM (3, a ++ [(7, x, cd, nm, l + 1)], op, mo) = 5 := by rw [stM_3]; rfl
                have hq := hQ _ _ hst s1 ⟨by rw [f1.fl (by decide), e10]; simp, by rw [f1.fl (by decide)]; exact e15, by rw [f1.fl (by decide), e11]; simp, fun h => by simp at h, by rw [f1.fl (by decide), hn2]; exact e12, by rw [f1.fl (by decide), hn2]; exact e13, by rw [f1.fl (by decide), hn2]; exact e14, fun _ => ⟨_, 61, lst_get, rfl, by simp, by rw [hRd_up hs rfl (by decide), if_pos ⟨rfl, rfl⟩]⟩⟩ (f1.mono (by decide) (by decide))
                rw [hsm] at hq
                exact hq
              · have hc161 := hc
                refine tK (l := xk_153) rfl rfl (fun _ _ _ _ _ => rfl) ?_
                refine tRt (l := xk_153) rfl rfl (fun _ _ _ _ _ => rfl) ?_
                have hkd : kdF c = 2 := by unfold kdF; rw [if_neg hc133, if_neg hc149, if_neg hc161, if_neg hc155, if_neg hc139]
                exact hN _ (by simp only [pRd]; rw [if_pos hkd]; simp only [pNm]; rw [if_pos (by omega)]) s1 (f1.mono (by decide) (by decide))
    · have hc123 := hc
      exact absurd hc107 hc
  · have hc107 := hc
    refine tK (l := xk_153) rfl rfl (fun _ _ _ _ _ => rfl) ?_
    refine tK (l := xk_153) rfl rfl (fun _ _ _ _ _ => rfl) ?_
    refine tK (l := xk_153) rfl rfl (hGetI (hShI1 _ hs rfl rfl) rfl rfl rfl (by decide) (by decide)) ?_
    rw [x12]
    refine tK (l := xk_153) rfl rfl (fun _ _ _ _ _ => rfl) ?_
    refine tK (l := xk_153) rfl rfl (fun _ _ _ _ _ => rfl) ?_
    refine tK (l := xk_153) rfl rfl (fun _ _ _ _ _ => rfl) ?_
    refine tK (l := xk_153) rfl rfl (fun _ _ _ _ _ => rfl) ?_
    refine tK (l := xk_153) rfl rfl (hPutV (hShI1 _ hs rfl rfl) rfl rfl (by decide) (by decide) rfl) ?_
    refine tK (l := xk_153) rfl rfl (fun _ _ _ _ _ => rfl) ?_
    refine tIf_lt (l := xk_153) (pc' := 130) rfl rfl rfl (fun hc => ?_) (fun hc => ?_)
    · have hc123 := hc
      exact absurd hc hc107
    · have hc123 := hc
      refine tK (l := xk_153) rfl rfl (fun _ _ _ _ _ => rfl) ?_
      refine tK (l := xk_153) rfl rfl (fun _ _ _ _ _ => rfl) ?_
      refine tRt (l := xk_153) rfl rfl (fun _ _ _ _ _ => rfl) ?_
      obtain ⟨n, hnn⟩ := Int.eq_ofNat_of_zero_le (show 0 ≤ nmF c by omega)
      have hkd : kdF c = 2 := nm_kd (by omega)
      have hx2 : hSh zs (hUp (hUp ph 147 16 c) 147 12 (oi (mkU a 0) (sl (nmF c)))) := hShI1 _ s1 rfl rfl
      have f2 : hFM [12] [] (hUp ph 147 16 c) (hUp (hUp ph 147 16 c) 147 12 (oi (mkU a 0) (sl (nmF c)))) := hFM_f s1 rfl (by decide) (by decide)
      have hst : pRd i c (2, a ++ [(2, x, cd, nm, l + 1)], op, mo) = some (5, a ++ [(2, x, cd, n, l + 1)], op, mo) := by
        simp only [pRd]
        rw [if_pos hkd]
        simp only [pNm]
        rw [if_neg (by omega), lst_get]
        simp only [lst_set]
        rw [hnn]
        rfl
      refine hQ (hUp (hUp ph 147 16 c) 147 12 (oi (mkU a 0) (sl (nmF c)))) (5, a ++ [(2, x, cd, n, l + 1)], op, mo) hst hx2 ⟨by rw [f2.fl (by decide), f1.fl (by decide), e10]; simp, by rw [f2.fl (by decide), f1.fl (by decide)]; exact e15, by rw [f2.fl (by decide), f1.fl (by decide), e11]; simp, fun h => by simp at h, ?_, ?_, ?_, fun h => absurd h (by simp)⟩ ((f1.mono (by decide) (by decide)).trans (f2.mono (by decide) (by decide)))
      · rw [hRd_up s1 rfl (by decide), if_pos ⟨rfl, rfl⟩, hnn]; exact (mkU_snoc (p := (2, x, cd, n, l + 1))).symm
      · rw [f2.fl (by decide), f1.fl (by decide), e13]; exact (mkG_snoc (p := (2, x, cd, n, l + 1))).symm
      · rw [f2.fl (by decide), f1.fl (by decide), e14]; exact congrArg _ (mkL_snoc (p := (2, x, cd, n, l + 1))).symm
theorem s153_3_3 (hs : hSh zs ph) (hI : rI ph (3, ps, op, mo)) (hin : pIn i (3, ps, op, mo)) (hi : i < 60) (hb : 0 ≤ c ∧ c ≤ 65535) {t9 : List Int} (hp : pIv t9 i (3, ps, op, mo)) (hst : ∀ p, ps[ps.length - 1]? = some p → p.1 ≤ 4) (hQ : ∀ ph2 s2, pRd i c (3, ps, op, mo) = some s2 → hSh zs ph2 → rI ph2 s2 → hFM [10, 11, 12, 13, 14, 15, 16] [] ph ph2 → Q (.inl (some (.inl (stM s2))), ph2, g)) (hN : ∀ ph2, pRd i c (3, ps, op, mo) = none → hSh zs ph2 → hFM [10, 11, 12, 13, 14, 15, 16] [] ph ph2 → Q (.inl (some (.inl (-1))), ph2, g)) : xTC (d + 2) 153 [.inr (.inl (some 147)), .inl 3, .inl c] ph g Q := by
  obtain ⟨e10, e15, e11, emo, e12, e13, e14, e16⟩ := id hI
  simp only at e10 e15 e11 emo
  obtain ⟨i1, i2, i3, i4, i5, i6⟩ := id hin
  simp only at i1 i2 i3 i6
  obtain ⟨l, k, x, cd, nm, h1, h2, h3, h4⟩ := hp
  have hk : 3 ≤ k ∧ k ≤ 7 := by rcases h4 with q | q | q | q | q | q <;> first | exact ⟨q.2.1, q.2.2.1⟩ | exact absurd q.1 (by decide)
  clear h4
  obtain ⟨a, ea, hal⟩ := lst h1 h2
  subst ea
  have hn0 : nmd (3, a ++ [(k, x, cd, nm, l + 1)], op, mo) = a := by unfold nmd; simp
  rw [hn0] at e12 e13 e14
  have hnl := nmF_le c
  obtain ⟨p9, c9, hp9, hk9, hk3, e16⟩ := e16 rfl
  rw [lst_get] at hp9
  cases hp9
  simp only at hk9 hk3
  have hkd := kdF_inv hk9
  have hLl : mkL a 0 ≤ 60 := by have := mkL_le a 0; simp only [List.length_append, List.length_cons, List.length_nil] at i1; omega
  have hk4 : k ≤ 4 := hst _ lst_get
  refine tEn (ls := [some (.inr (.inl (some 147))), some (.inl 3), some (.inl c), none]) (fun k => by match k with | 0 => rfl | 1 => rfl | 2 => rfl | 3 => rfl | k + 4 => rfl) ?_
  refine tK (l := xk_153) rfl rfl (fun _ _ _ _ _ => rfl) ?_
  refine tCa (l := xk_153) rfl rfl (hInvS rfl rfl rfl rfl (Nat.le_of_ble_eq_true rfl) (Nat.le_of_ble_eq_true rfl)) ?_
  refine s154 (by omega) ?_
  refine tKv ?_
  refine tSt (l := xk_153) rfl rfl (fun _ _ _ _ _ => rfl) (Nat.le_of_ble_eq_true rfl) ?_
  refine tK (l := xk_153) rfl rfl (fun _ _ _ _ _ => rfl) ?_
  refine tK (l := xk_153) (pc' := 170) rfl rfl (fun _ _ _ _ _ => rfl) ?_
  refine tK (l := xk_153) rfl rfl (fun _ _ _ _ _ => rfl) ?_
  refine tIf_lt (l := xk_153) (pc' := 234) rfl rfl rfl (fun hc => ?_) (fun hc => ?_)
  · have hc171 := hc
    refine tK (l := xk_153) rfl rfl (fun _ _ _ _ _ => rfl) ?_
    refine tIf_ge (l := xk_153) (pc' := 242) rfl rfl rfl (fun hc => ?_) (fun hc => ?_)
    · have hc235 := hc
      refine tK (l := xk_153) rfl rfl (fun _ _ _ _ _ => rfl) ?_
      refine tK (l := xk_153) rfl rfl (fun _ _ _ _ _ => rfl) ?_
      refine tRt (l := xk_153) rfl rfl (fun _ _ _ _ _ => rfl) ?_
      exact hN _ (by simp only [pRd, pNm]; rw [if_pos (by omega)]) hs hFM.refl
    · have hc235 := hc
      exact absurd hc171 hc
  · have hc171 := hc
    refine tK (l := xk_153) rfl rfl (fun _ _ _ _ _ => rfl) ?_
    refine tK (l := xk_153) rfl rfl (fun _ _ _ _ _ => rfl) ?_
    refine tK (l := xk_153) rfl rfl (hGetI hs rfl rfl rfl (by decide) (by decide)) ?_
    rw [e12]
    refine tK (l := xk_153) rfl rfl (fun _ _ _ _ _ => rfl) ?_
    refine tK (l := xk_153) rfl rfl (fun _ _ _ _ _ => rfl) ?_
    refine tK (l := xk_153) rfl rfl (fun _ _ _ _ _ => rfl) ?_
    refine tK (l := xk_153) rfl rfl (fun _ _ _ _ _ => rfl) ?_
    refine tK (l := xk_153) rfl rfl (hPutV hs rfl rfl (by decide) (by decide) rfl) ?_
    have s1 : hSh zs (hUp ph 147 12 (oi (mkU a 0) (sl (nmF c)))) := hShI1 _ hs rfl rfl
    have f1 : hFM [12] [] ph (hUp ph 147 12 (oi (mkU a 0) (sl (nmF c)))) := hFM_f hs rfl (by decide) (by decide)
    have x13 : hRd (hUp ph 147 12 (oi (mkU a 0) (sl (nmF c)))) 147 13 = mkG a 0 := by rw [f1.fl (by decide)]; exact e13
    have x16 : hRd (hUp ph 147 12 (oi (mkU a 0) (sl (nmF c)))) 147 16 = c9 := by rw [f1.fl (by decide)]; exact e16
    refine tK (l := xk_153) rfl rfl (fun _ _ _ _ _ => rfl) ?_
    refine tK (l := xk_153) rfl rfl (fun _ _ _ _ _ => rfl) ?_
    refine tK (l := xk_153) rfl rfl (hGetI (hShI1 _ hs rfl rfl) rfl rfl rfl (by decide) (by decide)) ?_
    show xT _ _ _ _ (.inl (hRd (hUp ph 147 12 (oi (mkU a 0) (sl (nmF c)))) 147 13) :: _) _ _ _
    rw [x13]
    refine tK (l := xk_153) rfl rfl (fun _ _ _ _ _ => rfl) ?_
    refine tK (l := xk_153) rfl rfl (hGetI (hShI1 _ hs rfl rfl) rfl rfl rfl (by decide) (by decide)) ?_
    show xT _ _ _ _ (.inl (hRd (hUp ph 147 12 (oi (mkU a 0) (sl (nmF c)))) 147 16) :: _) _ _ _
    rw [x16]
    refine tK (l := xk_153) rfl rfl (fun _ _ _ _ _ => rfl) ?_
    refine tIc_ne (l := xk_153) (pc' := 206) rfl rfl rfl (fun hc => ?_) (fun hc => ?_)
    · have hc197 := hc
      exfalso
      have h9 : c9 = 61 := hc
      omega
    · have hc197 := hc
      refine tK (l := xk_153) rfl rfl (fun _ _ _ _ _ => rfl) ?_
      refine tK (l := xk_153) rfl rfl (fun _ _ _ _ _ => rfl) ?_
      rw [show (Int32.ofInt (mkG a 0) ||| Int32.ofInt 0).toInt = mkG a 0 from oi_0]
      refine tK (l := xk_153) rfl rfl (hPutV (hShI1 _ hs rfl rfl) rfl rfl (by decide) (by decide) rfl) ?_
      have s2 : hSh zs (hUp (hUp ph 147 12 (oi (mkU a 0) (sl (nmF c)))) 147 13 (mkG a 0)) := hShI1 _ s1 rfl rfl
      have f2 : hFM [13] [] (hUp ph 147 12 (oi (mkU a 0) (sl (nmF c)))) (hUp (hUp ph 147 12 (oi (mkU a 0) (sl (nmF c)))) 147 13 (mkG a 0)) := hFM_f s1 rfl (by decide) (by decide)
      have x14 : hRd (hUp (hUp ph 147 12 (oi (mkU a 0) (sl (nmF c)))) 147 13 (mkG a 0)) 147 14 = (mkL a 0 : Int) := by rw [f2.fl (by decide), f1.fl (by decide)]; exact e14
      have y16 : hRd (hUp (hUp ph 147 12 (oi (mkU a 0) (sl (nmF c)))) 147 13 (mkG a 0)) 147 16 = c9 := by rw [f2.fl (by decide)]; exact x16
      refine tK (l := xk_153) rfl rfl (fun _ _ _ _ _ => rfl) ?_
      refine tK (l := xk_153) rfl rfl (fun _ _ _ _ _ => rfl) ?_
      refine tK (l := xk_153) rfl rfl (hGetI (hShI1 _ (hShI1 _ hs rfl rfl) rfl rfl) rfl rfl rfl (by decide) (by decide)) ?_
      show xT _ _ _ _ (.inl (hRd (hUp (hUp ph 147 12 (oi (mkU a 0) (sl (nmF c)))) 147 13 (mkG a 0)) 147 14) :: _) _ _ _
      rw [x14]
      refine tK (l := xk_153) rfl rfl (fun _ _ _ _ _ => rfl) ?_
      refine tK (l := xk_153) rfl rfl (hGetI (hShI1 _ (hShI1 _ hs rfl rfl) rfl rfl) rfl rfl rfl (by decide) (by decide)) ?_
      show xT _ _ _ _ (.inl (hRd (hUp (hUp ph 147 12 (oi (mkU a 0) (sl (nmF c)))) 147 13 (mkG a 0)) 147 16) :: _) _ _ _
      rw [y16]
      refine tK (l := xk_153) rfl rfl (fun _ _ _ _ _ => rfl) ?_
      refine tIc_ne (l := xk_153) (pc' := 229) rfl rfl rfl (fun hc => ?_) (fun hc => ?_)
      · have hc222 := hc
        exfalso
        have h9 : c9 = 42 := hc
        omega
      · have hc222 := hc
        refine tK (l := xk_153) rfl rfl (fun _ _ _ _ _ => rfl) ?_
        refine tK (l := xk_153) rfl rfl (hAdd ⟨by omega, by omega⟩) ?_
        refine tK (l := xk_153) rfl rfl (hPutV (hShI1 _ (hShI1 _ hs rfl rfl) rfl rfl) rfl rfl (by decide) (by decide) rfl) ?_
        refine tK (l := xk_153) rfl rfl (fun _ _ _ _ _ => rfl) ?_
        refine tIf_ge (l := xk_153) (pc' := 242) rfl rfl rfl (fun hc => ?_) (fun hc => ?_)
        · have hc235 := hc
          exact absurd hc hc171
        · have hc235 := hc
          refine tK (l := xk_153) rfl rfl (fun _ _ _ _ _ => rfl) ?_
          refine tK (l := xk_153) rfl rfl (fun _ _ _ _ _ => rfl) ?_
          refine tK (l := xk_153) rfl rfl (hAdd ⟨by omega, by omega⟩) ?_
          refine tRt (l := xk_153) rfl rfl (fun _ _ _ _ _ => rfl) ?_
          obtain ⟨n, hnn⟩ := Int.eq_ofNat_of_zero_le (show 0 ≤ nmF c by omega)
          have hst2 : pRd i c (3, a ++ [(k, x, cd, nm, l + 1)], op, mo) = some (5, a ++ [(k, x, cd, n, l + 1)], op, mo) := by
            simp only [pRd, pNm]
            rw [if_neg (by omega), lst_get]
            simp only [lst_set]
            rw [hnn, if_neg (by omega)]
            rfl
          have u3 : hSh zs (hUp (hUp (hUp ph 147 12 (oi (mkU a 0) (sl (nmF c)))) 147 13 (mkG a 0)) 147 14 ((mkL a 0 : Int) + 0)) := hShI1 _ s2 rfl rfl
          have k3 : hFM [14] [] (hUp (hUp ph 147 12 (oi (mkU a 0) (sl (nmF c)))) 147 13 (mkG a 0)) (hUp (hUp (hUp ph 147 12 (oi (mkU a 0) (sl (nmF c)))) 147 13 (mkG a 0)) 147 14 ((mkL a 0 : Int) + 0)) := hFM_f s2 rfl (by decide) (by decide)
          have kA : hFM [12, 13, 14] [] ph (hUp (hUp (hUp ph 147 12 (oi (mkU a 0) (sl (nmF c)))) 147 13 (mkG a 0)) 147 14 ((mkL a 0 : Int) + 0)) := ((f1.mono (by decide) (by decide)).trans (f2.mono (by decide) (by decide))).trans (k3.mono (by decide) (by decide))
          refine hQ (hUp (hUp (hUp ph 147 12 (oi (mkU a 0) (sl (nmF c)))) 147 13 (mkG a 0)) 147 14 ((mkL a 0 : Int) + 0)) (5, a ++ [(k, x, cd, n, l + 1)], op, mo) hst2 u3 ⟨by rw [kA.fl (by decide), e10]; simp, by rw [kA.fl (by decide)]; exact e15, by rw [kA.fl (by decide), e11]; simp, fun h => by simp at h, ?_, ?_, ?_, fun h => absurd h (by simp)⟩ (kA.mono (by decide) (by decide))
          · rw [k3.fl (by decide), f2.fl (by decide), hRd_up hs rfl (by decide), if_pos ⟨rfl, rfl⟩]; show _ = mkU (a ++ [(k, x, cd, n, l + 1)]) 0; rw [mkU_snoc, if_neg (by simp only; omega), hnn]
          · rw [k3.fl (by decide), hRd_up s1 rfl (by decide), if_pos ⟨rfl, rfl⟩]; show _ = mkG (a ++ [(k, x, cd, n, l + 1)]) 0; rw [mkG_snoc, if_neg (by simp only; omega)]
          · rw [hRd_up s2 rfl (by decide), if_pos ⟨rfl, rfl⟩]; show _ = ((mkL (a ++ [(k, x, cd, n, l + 1)]) 0 : Nat) : Int); rw [mkL_snoc, if_neg (by simp only; omega)]; exact Int.add_zero _
theorem s153_3_5 (hs : hSh zs ph) (hI : rI ph (3, ps, op, mo)) (hin : pIn i (3, ps, op, mo)) (hi : i < 60) (hb : 0 ≤ c ∧ c ≤ 65535) {t9 : List Int} (hp : pIv t9 i (3, ps, op, mo)) (hst : ∀ p, ps[ps.length - 1]? = some p → p.1 = 5) (hQ : ∀ ph2 s2, pRd i c (3, ps, op, mo) = some s2 → hSh zs ph2 → rI ph2 s2 → hFM [10, 11, 12, 13, 14, 15, 16] [] ph ph2 → Q (.inl (some (.inl (stM s2))), ph2, g)) (hN : ∀ ph2, pRd i c (3, ps, op, mo) = none → hSh zs ph2 → hFM [10, 11, 12, 13, 14, 15, 16] [] ph ph2 → Q (.inl (some (.inl (-1))), ph2, g)) : xTC (d + 2) 153 [.inr (.inl (some 147)), .inl 5, .inl c] ph g Q := by
  obtain ⟨e10, e15, e11, emo, e12, e13, e14, e16⟩ := id hI
  simp only at e10 e15 e11 emo
  obtain ⟨i1, i2, i3, i4, i5, i6⟩ := id hin
  simp only at i1 i2 i3 i6
  obtain ⟨l, k, x, cd, nm, h1, h2, h3, h4⟩ := hp
  have hk : 3 ≤ k ∧ k ≤ 7 := by rcases h4 with q | q | q | q | q | q <;> first | exact ⟨q.2.1, q.2.2.1⟩ | exact absurd q.1 (by decide)
  clear h4
  obtain ⟨a, ea, hal⟩ := lst h1 h2
  subst ea
  have hn0 : nmd (3, a ++ [(k, x, cd, nm, l + 1)], op, mo) = a := by unfold nmd; simp
  rw [hn0] at e12 e13 e14
  have hnl := nmF_le c
  obtain ⟨p9, c9, hp9, hk9, hk3, e16⟩ := e16 rfl
  rw [lst_get] at hp9
  cases hp9
  simp only at hk9 hk3
  have hkd := kdF_inv hk9
  have hLl : mkL a 0 ≤ 60 := by have := mkL_le a 0; simp only [List.length_append, List.length_cons, List.length_nil] at i1; omega
  have hk4 : k = 5 := hst _ lst_get
  refine tEn (ls := [some (.inr (.inl (some 147))), some (.inl 5), some (.inl c), none]) (fun k => by match k with | 0 => rfl | 1 => rfl | 2 => rfl | 3 => rfl | k + 4 => rfl) ?_
  refine tK (l := xk_153) rfl rfl (fun _ _ _ _ _ => rfl) ?_
  refine tCa (l := xk_153) rfl rfl (hInvS rfl rfl rfl rfl (Nat.le_of_ble_eq_true rfl) (Nat.le_of_ble_eq_true rfl)) ?_
  refine s154 (by omega) ?_
  refine tKv ?_
  refine tSt (l := xk_153) rfl rfl (fun _ _ _ _ _ => rfl) (Nat.le_of_ble_eq_true rfl) ?_
  refine tK (l := xk_153) rfl rfl (fun _ _ _ _ _ => rfl) ?_
  refine tK (l := xk_153) (pc' := 170) rfl rfl (fun _ _ _ _ _ => rfl) ?_
  refine tK (l := xk_153) rfl rfl (fun _ _ _ _ _ => rfl) ?_
  refine tIf_lt (l := xk_153) (pc' := 234) rfl rfl rfl (fun hc => ?_) (fun hc => ?_)
  · have hc171 := hc
    refine tK (l := xk_153) rfl rfl (fun _ _ _ _ _ => rfl) ?_
    refine tIf_ge (l := xk_153) (pc' := 242) rfl rfl rfl (fun hc => ?_) (fun hc => ?_)
    · have hc235 := hc
      refine tK (l := xk_153) rfl rfl (fun _ _ _ _ _ => rfl) ?_
      refine tK (l := xk_153) rfl rfl (fun _ _ _ _ _ => rfl) ?_
      refine tRt (l := xk_153) rfl rfl (fun _ _ _ _ _ => rfl) ?_
      exact hN _ (by simp only [pRd, pNm]; rw [if_pos (by omega)]) hs hFM.refl
    · have hc235 := hc
      exact absurd hc171 hc
  · have hc171 := hc
    refine tK (l := xk_153) rfl rfl (fun _ _ _ _ _ => rfl) ?_
    refine tK (l := xk_153) rfl rfl (fun _ _ _ _ _ => rfl) ?_
    refine tK (l := xk_153) rfl rfl (hGetI hs rfl rfl rfl (by decide) (by decide)) ?_
    rw [e12]
    refine tK (l := xk_153) rfl rfl (fun _ _ _ _ _ => rfl) ?_
    refine tK (l := xk_153) rfl rfl (fun _ _ _ _ _ => rfl) ?_
    refine tK (l := xk_153) rfl rfl (fun _ _ _ _ _ => rfl) ?_
    refine tK (l := xk_153) rfl rfl (fun _ _ _ _ _ => rfl) ?_
    refine tK (l := xk_153) rfl rfl (hPutV hs rfl rfl (by decide) (by decide) rfl) ?_
    have s1 : hSh zs (hUp ph 147 12 (oi (mkU a 0) (sl (nmF c)))) := hShI1 _ hs rfl rfl
    have f1 : hFM [12] [] ph (hUp ph 147 12 (oi (mkU a 0) (sl (nmF c)))) := hFM_f hs rfl (by decide) (by decide)
    have x13 : hRd (hUp ph 147 12 (oi (mkU a 0) (sl (nmF c)))) 147 13 = mkG a 0 := by rw [f1.fl (by decide)]; exact e13
    have x16 : hRd (hUp ph 147 12 (oi (mkU a 0) (sl (nmF c)))) 147 16 = c9 := by rw [f1.fl (by decide)]; exact e16
    refine tK (l := xk_153) rfl rfl (fun _ _ _ _ _ => rfl) ?_
    refine tK (l := xk_153) rfl rfl (fun _ _ _ _ _ => rfl) ?_
    refine tK (l := xk_153) rfl rfl (hGetI (hShI1 _ hs rfl rfl) rfl rfl rfl (by decide) (by decide)) ?_
    show xT _ _ _ _ (.inl (hRd (hUp ph 147 12 (oi (mkU a 0) (sl (nmF c)))) 147 13) :: _) _ _ _
    rw [x13]
    refine tK (l := xk_153) rfl rfl (fun _ _ _ _ _ => rfl) ?_
    refine tK (l := xk_153) rfl rfl (hGetI (hShI1 _ hs rfl rfl) rfl rfl rfl (by decide) (by decide)) ?_
    show xT _ _ _ _ (.inl (hRd (hUp ph 147 12 (oi (mkU a 0) (sl (nmF c)))) 147 16) :: _) _ _ _
    rw [x16]
    refine tK (l := xk_153) rfl rfl (fun _ _ _ _ _ => rfl) ?_
    refine tIc_ne (l := xk_153) (pc' := 206) rfl rfl rfl (fun hc => ?_) (fun hc => ?_)
    · have hc197 := hc
      exfalso
      have h9 : c9 = 61 := hc
      omega
    · have hc197 := hc
      refine tK (l := xk_153) rfl rfl (fun _ _ _ _ _ => rfl) ?_
      refine tK (l := xk_153) rfl rfl (fun _ _ _ _ _ => rfl) ?_
      rw [show (Int32.ofInt (mkG a 0) ||| Int32.ofInt 0).toInt = mkG a 0 from oi_0]
      refine tK (l := xk_153) rfl rfl (hPutV (hShI1 _ hs rfl rfl) rfl rfl (by decide) (by decide) rfl) ?_
      have s2 : hSh zs (hUp (hUp ph 147 12 (oi (mkU a 0) (sl (nmF c)))) 147 13 (mkG a 0)) := hShI1 _ s1 rfl rfl
      have f2 : hFM [13] [] (hUp ph 147 12 (oi (mkU a 0) (sl (nmF c)))) (hUp (hUp ph 147 12 (oi (mkU a 0) (sl (nmF c)))) 147 13 (mkG a 0)) := hFM_f s1 rfl (by decide) (by decide)
      have x14 : hRd (hUp (hUp ph 147 12 (oi (mkU a 0) (sl (nmF c)))) 147 13 (mkG a 0)) 147 14 = (mkL a 0 : Int) := by rw [f2.fl (by decide), f1.fl (by decide)]; exact e14
      have y16 : hRd (hUp (hUp ph 147 12 (oi (mkU a 0) (sl (nmF c)))) 147 13 (mkG a 0)) 147 16 = c9 := by rw [f2.fl (by decide)]; exact x16
      refine tK (l := xk_153) rfl rfl (fun _ _ _ _ _ => rfl) ?_
      refine tK (l := xk_153) rfl rfl (fun _ _ _ _ _ => rfl) ?_
      refine tK (l := xk_153) rfl rfl (hGetI (hShI1 _ (hShI1 _ hs rfl rfl) rfl rfl) rfl rfl rfl (by decide) (by decide)) ?_
      show xT _ _ _ _ (.inl (hRd (hUp (hUp ph 147 12 (oi (mkU a 0) (sl (nmF c)))) 147 13 (mkG a 0)) 147 14) :: _) _ _ _
      rw [x14]
      refine tK (l := xk_153) rfl rfl (fun _ _ _ _ _ => rfl) ?_
      refine tK (l := xk_153) rfl rfl (hGetI (hShI1 _ (hShI1 _ hs rfl rfl) rfl rfl) rfl rfl rfl (by decide) (by decide)) ?_
      show xT _ _ _ _ (.inl (hRd (hUp (hUp ph 147 12 (oi (mkU a 0) (sl (nmF c)))) 147 13 (mkG a 0)) 147 16) :: _) _ _ _
      rw [y16]
      refine tK (l := xk_153) rfl rfl (fun _ _ _ _ _ => rfl) ?_
      refine tIc_ne (l := xk_153) (pc' := 229) rfl rfl rfl (fun hc => ?_) (fun hc => ?_)
      · have hc222 := hc
        refine tK (l := xk_153) rfl rfl (fun _ _ _ _ _ => rfl) ?_
        refine tK (l := xk_153) rfl rfl (fun _ _ _ _ _ => rfl) ?_
        refine tK (l := xk_153) rfl rfl (hAdd ⟨by omega, by omega⟩) ?_
        refine tK (l := xk_153) rfl rfl (hPutV (hShI1 _ (hShI1 _ hs rfl rfl) rfl rfl) rfl rfl (by decide) (by decide) rfl) ?_
        refine tK (l := xk_153) rfl rfl (fun _ _ _ _ _ => rfl) ?_
        refine tIf_ge (l := xk_153) (pc' := 242) rfl rfl rfl (fun hc => ?_) (fun hc => ?_)
        · have hc235 := hc
          exact absurd hc hc171
        · have hc235 := hc
          refine tK (l := xk_153) rfl rfl (fun _ _ _ _ _ => rfl) ?_
          refine tK (l := xk_153) rfl rfl (fun _ _ _ _ _ => rfl) ?_
          refine tK (l := xk_153) rfl rfl (hAdd ⟨by omega, by omega⟩) ?_
          refine tRt (l := xk_153) rfl rfl (fun _ _ _ _ _ => rfl) ?_
          obtain ⟨n, hnn⟩ := Int.eq_ofNat_of_zero_le (show 0 ≤ nmF c by omega)
          have hst2 : pRd i c (3, a ++ [(k, x, cd, nm, l + 1)], op, mo) = some (4, a ++ [(k, x, cd, n, l + 1)], op, mo) := by
            simp only [pRd, pNm]
            rw [if_neg (by omega), lst_get]
            simp only [lst_set]
            rw [hnn, if_pos (by omega)]
            rfl
          have u3 : hSh zs (hUp (hUp (hUp ph 147 12 (oi (mkU a 0) (sl (nmF c)))) 147 13 (mkG a 0)) 147 14 ((mkL a 0 : Int) + 1)) := hShI1 _ s2 rfl rfl
          have k3 : hFM [14] [] (hUp (hUp ph 147 12 (oi (mkU a 0) (sl (nmF c)))) 147 13 (mkG a 0)) (hUp (hUp (hUp ph 147 12 (oi (mkU a 0) (sl (nmF c)))) 147 13 (mkG a 0)) 147 14 ((mkL a 0 : Int) + 1)) := hFM_f s2 rfl (by decide) (by decide)
          have kA : hFM [12, 13, 14] [] ph (hUp (hUp (hUp ph 147 12 (oi (mkU a 0) (sl (nmF c)))) 147 13 (mkG a 0)) 147 14 ((mkL a 0 : Int) + 1)) := ((f1.mono (by decide) (by decide)).trans (f2.mono (by decide) (by decide))).trans (k3.mono (by decide) (by decide))
          refine hQ (hUp (hUp (hUp ph 147 12 (oi (mkU a 0) (sl (nmF c)))) 147 13 (mkG a 0)) 147 14 ((mkL a 0 : Int) + 1)) (4, a ++ [(k, x, cd, n, l + 1)], op, mo) hst2 u3 ⟨by rw [kA.fl (by decide), e10]; simp, by rw [kA.fl (by decide)]; exact e15, by rw [kA.fl (by decide), e11]; simp, fun h => by simp at h, ?_, ?_, ?_, fun h => absurd h (by simp)⟩ (kA.mono (by decide) (by decide))
          · rw [k3.fl (by decide), f2.fl (by decide), hRd_up hs rfl (by decide), if_pos ⟨rfl, rfl⟩]; show _ = mkU (a ++ [(k, x, cd, n, l + 1)]) 0; rw [mkU_snoc, if_neg (by simp only; omega), hnn]
          · rw [k3.fl (by decide), hRd_up s1 rfl (by decide), if_pos ⟨rfl, rfl⟩]; show _ = mkG (a ++ [(k, x, cd, n, l + 1)]) 0; rw [mkG_snoc, if_neg (by simp only; omega)]
          · rw [hRd_up s2 rfl (by decide), if_pos ⟨rfl, rfl⟩]; show _ = ((mkL (a ++ [(k, x, cd, n, l + 1)]) 0 : Nat) : Int); rw [mkL_snoc, if_pos (by simp only; omega)]; push_cast; rfl
      · have hc222 := hc
        exfalso
        have h9 : ¬ c9 = 42 := hc
        omega
theorem s153_3_6 (hs : hSh zs ph) (hI : rI ph (3, ps, op, mo)) (hin : pIn i (3, ps, op, mo)) (hi : i < 60) (hb : 0 ≤ c ∧ c ≤ 65535) {t9 : List Int} (hp : pIv t9 i (3, ps, op, mo)) (hst : ∀ p, ps[ps.length - 1]? = some p → p.1 = 6) (hQ : ∀ ph2 s2, pRd i c (3, ps, op, mo) = some s2 → hSh zs ph2 → rI ph2 s2 → hFM [10, 11, 12, 13, 14, 15, 16] [] ph ph2 → Q (.inl (some (.inl (stM s2))), ph2, g)) (hN : ∀ ph2, pRd i c (3, ps, op, mo) = none → hSh zs ph2 → hFM [10, 11, 12, 13, 14, 15, 16] [] ph ph2 → Q (.inl (some (.inl (-1))), ph2, g)) : xTC (d + 2) 153 [.inr (.inl (some 147)), .inl 5, .inl c] ph g Q := by
  obtain ⟨e10, e15, e11, emo, e12, e13, e14, e16⟩ := id hI
  simp only at e10 e15 e11 emo
  obtain ⟨i1, i2, i3, i4, i5, i6⟩ := id hin
  simp only at i1 i2 i3 i6
  obtain ⟨l, k, x, cd, nm, h1, h2, h3, h4⟩ := hp
  have hk : 3 ≤ k ∧ k ≤ 7 := by rcases h4 with q | q | q | q | q | q <;> first | exact ⟨q.2.1, q.2.2.1⟩ | exact absurd q.1 (by decide)
  clear h4
  obtain ⟨a, ea, hal⟩ := lst h1 h2
  subst ea
  have hn0 : nmd (3, a ++ [(k, x, cd, nm, l + 1)], op, mo) = a := by unfold nmd; simp
  rw [hn0] at e12 e13 e14
  have hnl := nmF_le c
  obtain ⟨p9, c9, hp9, hk9, hk3, e16⟩ := e16 rfl
  rw [lst_get] at hp9
  cases hp9
  simp only at hk9 hk3
  have hkd := kdF_inv hk9
  have hLl : mkL a 0 ≤ 60 := by have := mkL_le a 0; simp only [List.length_append, List.length_cons, List.length_nil] at i1; omega
  have hk4 : k = 6 := hst _ lst_get
  refine tEn (ls := [some (.inr (.inl (some 147))), some (.inl 5), some (.inl c), none]) (fun k => by match k with | 0 => rfl | 1 => rfl | 2 => rfl | 3 => rfl | k + 4 => rfl) ?_
  refine tK (l := xk_153) rfl rfl (fun _ _ _ _ _ => rfl) ?_
  refine tCa (l := xk_153) rfl rfl (hInvS rfl rfl rfl rfl (Nat.le_of_ble_eq_true rfl) (Nat.le_of_ble_eq_true rfl)) ?_
  refine s154 (by omega) ?_
  refine tKv ?_
  refine tSt (l := xk_153) rfl rfl (fun _ _ _ _ _ => rfl) (Nat.le_of_ble_eq_true rfl) ?_
  refine tK (l := xk_153) rfl rfl (fun _ _ _ _ _ => rfl) ?_
  refine tK (l := xk_153) (pc' := 170) rfl rfl (fun _ _ _ _ _ => rfl) ?_
  refine tK (l := xk_153) rfl rfl (fun _ _ _ _ _ => rfl) ?_
  refine tIf_lt (l := xk_153) (pc' := 234) rfl rfl rfl (fun hc => ?_) (fun hc => ?_)
  · have hc171 := hc
    refine tK (l := xk_153) rfl rfl (fun _ _ _ _ _ => rfl) ?_
    refine tIf_ge (l := xk_153) (pc' := 242) rfl rfl rfl (fun hc => ?_) (fun hc => ?_)
    · have hc235 := hc
      refine tK (l := xk_153) rfl rfl (fun _ _ _ _ _ => rfl) ?_
      refine tK (l := xk_153) rfl rfl (fun _ _ _ _ _ => rfl) ?_
      refine tRt (l := xk_153) rfl rfl (fun _ _ _ _ _ => rfl) ?_
      exact hN _ (by simp only [pRd, pNm]; rw [if_pos (by omega)]) hs hFM.refl
    · have hc235 := hc
      exact absurd hc171 hc
  · have hc171 := hc
    refine tK (l := xk_153) rfl rfl (fun _ _ _ _ _ => rfl) ?_
    refine tK (l := xk_153) rfl rfl (fun _ _ _ _ _ => rfl) ?_
    refine tK (l := xk_153) rfl rfl (hGetI hs rfl rfl rfl (by decide) (by decide)) ?_
    rw [e12]
    refine tK (l := xk_153) rfl rfl (fun _ _ _ _ _ => rfl) ?_
    refine tK (l := xk_153) rfl rfl (fun _ _ _ _ _ => rfl) ?_
    refine tK (l := xk_153) rfl rfl (fun _ _ _ _ _ => rfl) ?_
    refine tK (l := xk_153) rfl rfl (fun _ _ _ _ _ => rfl) ?_
    refine tK (l := xk_153) rfl rfl (hPutV hs rfl rfl (by decide) (by decide) rfl) ?_
    have s1 : hSh zs (hUp ph 147 12 (oi (mkU a 0) (sl (nmF c)))) := hShI1 _ hs rfl rfl
    have f1 : hFM [12] [] ph (hUp ph 147 12 (oi (mkU a 0) (sl (nmF c)))) := hFM_f hs rfl (by decide) (by decide)
    have x13 : hRd (hUp ph 147 12 (oi (mkU a 0) (sl (nmF c)))) 147 13 = mkG a 0 := by rw [f1.fl (by decide)]; exact e13
    have x16 : hRd (hUp ph 147 12 (oi (mkU a 0) (sl (nmF c)))) 147 16 = c9 := by rw [f1.fl (by decide)]; exact e16
    refine tK (l := xk_153) rfl rfl (fun _ _ _ _ _ => rfl) ?_
    refine tK (l := xk_153) rfl rfl (fun _ _ _ _ _ => rfl) ?_
    refine tK (l := xk_153) rfl rfl (hGetI (hShI1 _ hs rfl rfl) rfl rfl rfl (by decide) (by decide)) ?_
    show xT _ _ _ _ (.inl (hRd (hUp ph 147 12 (oi (mkU a 0) (sl (nmF c)))) 147 13) :: _) _ _ _
    rw [x13]
    refine tK (l := xk_153) rfl rfl (fun _ _ _ _ _ => rfl) ?_
    refine tK (l := xk_153) rfl rfl (hGetI (hShI1 _ hs rfl rfl) rfl rfl rfl (by decide) (by decide)) ?_
    show xT _ _ _ _ (.inl (hRd (hUp ph 147 12 (oi (mkU a 0) (sl (nmF c)))) 147 16) :: _) _ _ _
    rw [x16]
    refine tK (l := xk_153) rfl rfl (fun _ _ _ _ _ => rfl) ?_
    refine tIc_ne (l := xk_153) (pc' := 206) rfl rfl rfl (fun hc => ?_) (fun hc => ?_)
    · have hc197 := hc
      exfalso
      have h9 : c9 = 61 := hc
      omega
    · have hc197 := hc
      refine tK (l := xk_153) rfl rfl (fun _ _ _ _ _ => rfl) ?_
      refine tK (l := xk_153) rfl rfl (fun _ _ _ _ _ => rfl) ?_
      rw [show (Int32.ofInt (mkG a 0) ||| Int32.ofInt 0).toInt = mkG a 0 from oi_0]
      refine tK (l := xk_153) rfl rfl (hPutV (hShI1 _ hs rfl rfl) rfl rfl (by decide) (by decide) rfl) ?_
      have s2 : hSh zs (hUp (hUp ph 147 12 (oi (mkU a 0) (sl (nmF c)))) 147 13 (mkG a 0)) := hShI1 _ s1 rfl rfl
      have f2 : hFM [13] [] (hUp ph 147 12 (oi (mkU a 0) (sl (nmF c)))) (hUp (hUp ph 147 12 (oi (mkU a 0) (sl (nmF c)))) 147 13 (mkG a 0)) := hFM_f s1 rfl (by decide) (by decide)
      have x14 : hRd (hUp (hUp ph 147 12 (oi (mkU a 0) (sl (nmF c)))) 147 13 (mkG a 0)) 147 14 = (mkL a 0 : Int) := by rw [f2.fl (by decide), f1.fl (by decide)]; exact e14
      have y16 : hRd (hUp (hUp ph 147 12 (oi (mkU a 0) (sl (nmF c)))) 147 13 (mkG a 0)) 147 16 = c9 := by rw [f2.fl (by decide)]; exact x16
      refine tK (l := xk_153) rfl rfl (fun _ _ _ _ _ => rfl) ?_
      refine tK (l := xk_153) rfl rfl (fun _ _ _ _ _ => rfl) ?_
      refine tK (l := xk_153) rfl rfl (hGetI (hShI1 _ (hShI1 _ hs rfl rfl) rfl rfl) rfl rfl rfl (by decide) (by decide)) ?_
      show xT _ _ _ _ (.inl (hRd (hUp (hUp ph 147 12 (oi (mkU a 0) (sl (nmF c)))) 147 13 (mkG a 0)) 147 14) :: _) _ _ _
      rw [x14]
      refine tK (l := xk_153) rfl rfl (fun _ _ _ _ _ => rfl) ?_
      refine tK (l := xk_153) rfl rfl (hGetI (hShI1 _ (hShI1 _ hs rfl rfl) rfl rfl) rfl rfl rfl (by decide) (by decide)) ?_
      show xT _ _ _ _ (.inl (hRd (hUp (hUp ph 147 12 (oi (mkU a 0) (sl (nmF c)))) 147 13 (mkG a 0)) 147 16) :: _) _ _ _
      rw [y16]
      refine tK (l := xk_153) rfl rfl (fun _ _ _ _ _ => rfl) ?_
      refine tIc_ne (l := xk_153) (pc' := 229) rfl rfl rfl (fun hc => ?_) (fun hc => ?_)
      · have hc222 := hc
        exfalso
        have h9 : c9 = 42 := hc
        omega
      · have hc222 := hc
        refine tK (l := xk_153) rfl rfl (fun _ _ _ _ _ => rfl) ?_
        refine tK (l := xk_153) rfl rfl (hAdd ⟨by omega, by omega⟩) ?_
        refine tK (l := xk_153) rfl rfl (hPutV (hShI1 _ (hShI1 _ hs rfl rfl) rfl rfl) rfl rfl (by decide) (by decide) rfl) ?_
        refine tK (l := xk_153) rfl rfl (fun _ _ _ _ _ => rfl) ?_
        refine tIf_ge (l := xk_153) (pc' := 242) rfl rfl rfl (fun hc => ?_) (fun hc => ?_)
        · have hc235 := hc
          exact absurd hc hc171
        · have hc235 := hc
          refine tK (l := xk_153) rfl rfl (fun _ _ _ _ _ => rfl) ?_
          refine tK (l := xk_153) rfl rfl (fun _ _ _ _ _ => rfl) ?_
          refine tK (l := xk_153) rfl rfl (hAdd ⟨by omega, by omega⟩) ?_
          refine tRt (l := xk_153) rfl rfl (fun _ _ _ _ _ => rfl) ?_
          obtain ⟨n, hnn⟩ := Int.eq_ofNat_of_zero_le (show 0 ≤ nmF c by omega)
          have hst2 : pRd i c (3, a ++ [(k, x, cd, nm, l + 1)], op, mo) = some (4, a ++ [(k, x, cd, n, l + 1)], op, mo) := by
            simp only [pRd, pNm]
            rw [if_neg (by omega), lst_get]
            simp only [lst_set]
            rw [hnn, if_pos (by omega)]
            rfl
          have u3 : hSh zs (hUp (hUp (hUp ph 147 12 (oi (mkU a 0) (sl (nmF c)))) 147 13 (mkG a 0)) 147 14 ((mkL a 0 : Int) + 0)) := hShI1 _ s2 rfl rfl
          have k3 : hFM [14] [] (hUp (hUp ph 147 12 (oi (mkU a 0) (sl (nmF c)))) 147 13 (mkG a 0)) (hUp (hUp (hUp ph 147 12 (oi (mkU a 0) (sl (nmF c)))) 147 13 (mkG a 0)) 147 14 ((mkL a 0 : Int) + 0)) := hFM_f s2 rfl (by decide) (by decide)
          have kA : hFM [12, 13, 14] [] ph (hUp (hUp (hUp ph 147 12 (oi (mkU a 0) (sl (nmF c)))) 147 13 (mkG a 0)) 147 14 ((mkL a 0 : Int) + 0)) := ((f1.mono (by decide) (by decide)).trans (f2.mono (by decide) (by decide))).trans (k3.mono (by decide) (by decide))
          refine hQ (hUp (hUp (hUp ph 147 12 (oi (mkU a 0) (sl (nmF c)))) 147 13 (mkG a 0)) 147 14 ((mkL a 0 : Int) + 0)) (4, a ++ [(k, x, cd, n, l + 1)], op, mo) hst2 u3 ⟨by rw [kA.fl (by decide), e10]; simp, by rw [kA.fl (by decide)]; exact e15, by rw [kA.fl (by decide), e11]; simp, fun h => by simp at h, ?_, ?_, ?_, fun h => absurd h (by simp)⟩ (kA.mono (by decide) (by decide))
          · rw [k3.fl (by decide), f2.fl (by decide), hRd_up hs rfl (by decide), if_pos ⟨rfl, rfl⟩]; show _ = mkU (a ++ [(k, x, cd, n, l + 1)]) 0; rw [mkU_snoc, if_neg (by simp only; omega), hnn]
          · rw [k3.fl (by decide), hRd_up s1 rfl (by decide), if_pos ⟨rfl, rfl⟩]; show _ = mkG (a ++ [(k, x, cd, n, l + 1)]) 0; rw [mkG_snoc, if_neg (by simp only; omega)]
          · rw [hRd_up s2 rfl (by decide), if_pos ⟨rfl, rfl⟩]; show _ = ((mkL (a ++ [(k, x, cd, n, l + 1)]) 0 : Nat) : Int); rw [mkL_snoc, if_neg (by simp only; omega)]; exact Int.add_zero _
theorem s153_3_7 (hs : hSh zs ph) (hI : rI ph (3, ps, op, mo)) (hin : pIn i (3, ps, op, mo)) (hi : i < 60) (hb : 0 ≤ c ∧ c ≤ 65535) {t9 : List Int} (hp : pIv t9 i (3, ps, op, mo)) (hst : ∀ p, ps[ps.length - 1]? = some p → p.1 = 7) (hQ : ∀ ph2 s2, pRd i c (3, ps, op, mo) = some s2 → hSh zs ph2 → rI ph2 s2 → hFM [10, 11, 12, 13, 14, 15, 16] [] ph ph2 → Q (.inl (some (.inl (stM s2))), ph2, g)) (hN : ∀ ph2, pRd i c (3, ps, op, mo) = none → hSh zs ph2 → hFM [10, 11, 12, 13, 14, 15, 16] [] ph ph2 → Q (.inl (some (.inl (-1))), ph2, g)) : xTC (d + 2) 153 [.inr (.inl (some 147)), .inl 5, .inl c] ph g Q := by
  obtain ⟨e10, e15, e11, emo, e12, e13, e14, e16⟩ := id hI
  simp only at e10 e15 e11 emo
  obtain ⟨i1, i2, i3, i4, i5, i6⟩ := id hin
  simp only at i1 i2 i3 i6
  obtain ⟨l, k, x, cd, nm, h1, h2, h3, h4⟩ := hp
  have hk : 3 ≤ k ∧ k ≤ 7 := by rcases h4 with q | q | q | q | q | q <;> first | exact ⟨q.2.1, q.2.2.1⟩ | exact absurd q.1 (by decide)
  clear h4
  obtain ⟨a, ea, hal⟩ := lst h1 h2
  subst ea
  have hn0 : nmd (3, a ++ [(k, x, cd, nm, l + 1)], op, mo) = a := by unfold nmd; simp
  rw [hn0] at e12 e13 e14
  have hnl := nmF_le c
  obtain ⟨p9, c9, hp9, hk9, hk3, e16⟩ := e16 rfl
  rw [lst_get] at hp9
  cases hp9
  simp only at hk9 hk3
  have hkd := kdF_inv hk9
  have hLl : mkL a 0 ≤ 60 := by have := mkL_le a 0; simp only [List.length_append, List.length_cons, List.length_nil] at i1; omega
  have hk4 : k = 7 := hst _ lst_get
  refine tEn (ls := [some (.inr (.inl (some 147))), some (.inl 5), some (.inl c), none]) (fun k => by match k with | 0 => rfl | 1 => rfl | 2 => rfl | 3 => rfl | k + 4 => rfl) ?_
  refine tK (l := xk_153) rfl rfl (fun _ _ _ _ _ => rfl) ?_
  refine tCa (l := xk_153) rfl rfl (hInvS rfl rfl rfl rfl (Nat.le_of_ble_eq_true rfl) (Nat.le_of_ble_eq_true rfl)) ?_
  refine s154 (by omega) ?_
  refine tKv ?_
  refine tSt (l := xk_153) rfl rfl (fun _ _ _ _ _ => rfl) (Nat.le_of_ble_eq_true rfl) ?_
  refine tK (l := xk_153) rfl rfl (fun _ _ _ _ _ => rfl) ?_
  refine tK (l := xk_153) (pc' := 170) rfl rfl (fun _ _ _ _ _ => rfl) ?_
  refine tK (l := xk_153) rfl rfl (fun _ _ _ _ _ => rfl) ?_
  refine tIf_lt (l := xk_153) (pc' := 234) rfl rfl rfl (fun hc => ?_) (fun hc => ?_)
  · have hc171 := hc
    refine tK (l := xk_153) rfl rfl (fun _ _ _ _ _ => rfl) ?_
    refine tIf_ge (l := xk_153) (pc' := 242) rfl rfl rfl (fun hc => ?_) (fun hc => ?_)
    · have hc235 := hc
      refine tK (l := xk_153) rfl rfl (fun _ _ _ _ _ => rfl) ?_
      refine tK (l := xk_153) rfl rfl (fun _ _ _ _ _ => rfl) ?_
      refine tRt (l := xk_153) rfl rfl (fun _ _ _ _ _ => rfl) ?_
      exact hN _ (by simp only [pRd, pNm]; rw [if_pos (by omega)]) hs hFM.refl
    · have hc235 := hc
      exact absurd hc171 hc
  · have hc171 := hc
    refine tK (l := xk_153) rfl rfl (fun _ _ _ _ _ => rfl) ?_
    refine tK (l := xk_153) rfl rfl (fun _ _ _ _ _ => rfl) ?_
    refine tK (l := xk_153) rfl rfl (hGetI hs rfl rfl rfl (by decide) (by decide)) ?_
    rw [e12]
    refine tK (l := xk_153) rfl rfl (fun _ _ _ _ _ => rfl) ?_
    refine tK (l := xk_153) rfl rfl (fun _ _ _ _ _ => rfl) ?_
    refine tK (l := xk_153) rfl rfl (fun _ _ _ _ _ => rfl) ?_
    refine tK (l := xk_153) rfl rfl (fun _ _ _ _ _ => rfl) ?_
    refine tK (l := xk_153) rfl rfl (hPutV hs rfl rfl (by decide) (by decide) rfl) ?_
    have s1 : hSh zs (hUp ph 147 12 (oi (mkU a 0) (sl (nmF c)))) := hShI1 _ hs rfl rfl
    have f1 : hFM [12] [] ph (hUp ph 147 12 (oi (mkU a 0) (sl (nmF c)))) := hFM_f hs rfl (by decide) (by decide)
    have x13 : hRd (hUp ph 147 12 (oi (mkU a 0) (sl (nmF c)))) 147 13 = mkG a 0 := by rw [f1.fl (by decide)]; exact e13
    have x16 : hRd (hUp ph 147 12 (oi (mkU a 0) (sl (nmF c)))) 147 16 = c9 := by rw [f1.fl (by decide)]; exact e16
    refine tK (l := xk_153) rfl rfl (fun _ _ _ _ _ => rfl) ?_
    refine tK (l := xk_153) rfl rfl (fun _ _ _ _ _ => rfl) ?_
    refine tK (l := xk_153) rfl rfl (hGetI (hShI1 _ hs rfl rfl) rfl rfl rfl (by decide) (by decide)) ?_
    show xT _ _ _ _ (.inl (hRd (hUp ph 147 12 (oi (mkU a 0) (sl (nmF c)))) 147 13) :: _) _ _ _
    rw [x13]
    refine tK (l := xk_153) rfl rfl (fun _ _ _ _ _ => rfl) ?_
    refine tK (l := xk_153) rfl rfl (hGetI (hShI1 _ hs rfl rfl) rfl rfl rfl (by decide) (by decide)) ?_
    show xT _ _ _ _ (.inl (hRd (hUp ph 147 12 (oi (mkU a 0) (sl (nmF c)))) 147 16) :: _) _ _ _
    rw [x16]
    refine tK (l := xk_153) rfl rfl (fun _ _ _ _ _ => rfl) ?_
    refine tIc_ne (l := xk_153) (pc' := 206) rfl rfl rfl (fun hc => ?_) (fun hc => ?_)
    · have hc197 := hc
      refine tK (l := xk_153) rfl rfl (fun _ _ _ _ _ => rfl) ?_
      refine tK (l := xk_153) rfl rfl (fun _ _ _ _ _ => rfl) ?_
      refine tK (l := xk_153) rfl rfl (fun _ _ _ _ _ => rfl) ?_
      refine tK (l := xk_153) rfl rfl (fun _ _ _ _ _ => rfl) ?_
      refine tK (l := xk_153) rfl rfl (fun _ _ _ _ _ => rfl) ?_
      refine tK (l := xk_153) rfl rfl (hPutV (hShI1 _ hs rfl rfl) rfl rfl (by decide) (by decide) rfl) ?_
      have s2 : hSh zs (hUp (hUp ph 147 12 (oi (mkU a 0) (sl (nmF c)))) 147 13 (oi (mkG a 0) (sl (nmF c)))) := hShI1 _ s1 rfl rfl
      have f2 : hFM [13] [] (hUp ph 147 12 (oi (mkU a 0) (sl (nmF c)))) (hUp (hUp ph 147 12 (oi (mkU a 0) (sl (nmF c)))) 147 13 (oi (mkG a 0) (sl (nmF c)))) := hFM_f s1 rfl (by decide) (by decide)
      have x14 : hRd (hUp (hUp ph 147 12 (oi (mkU a 0) (sl (nmF c)))) 147 13 (oi (mkG a 0) (sl (nmF c)))) 147 14 = (mkL a 0 : Int) := by rw [f2.fl (by decide), f1.fl (by decide)]; exact e14
      have y16 : hRd (hUp (hUp ph 147 12 (oi (mkU a 0) (sl (nmF c)))) 147 13 (oi (mkG a 0) (sl (nmF c)))) 147 16 = c9 := by rw [f2.fl (by decide)]; exact x16
      refine tK (l := xk_153) rfl rfl (fun _ _ _ _ _ => rfl) ?_
      refine tK (l := xk_153) rfl rfl (fun _ _ _ _ _ => rfl) ?_
      refine tK (l := xk_153) rfl rfl (hGetI (hShI1 _ (hShI1 _ hs rfl rfl) rfl rfl) rfl rfl rfl (by decide) (by decide)) ?_
      show xT _ _ _ _ (.inl (hRd (hUp (hUp ph 147 12 (oi (mkU a 0) (sl (nmF c)))) 147 13 (oi (mkG a 0) (sl (nmF c)))) 147 14) :: _) _ _ _
      rw [x14]
      refine tK (l := xk_153) rfl rfl (fun _ _ _ _ _ => rfl) ?_
      refine tK (l := xk_153) rfl rfl (hGetI (hShI1 _ (hShI1 _ hs rfl rfl) rfl rfl) rfl rfl rfl (by decide) (by decide)) ?_
      show xT _ _ _ _ (.inl (hRd (hUp (hUp ph 147 12 (oi (mkU a 0) (sl (nmF c)))) 147 13 (oi (mkG a 0) (sl (nmF c)))) 147 16) :: _) _ _ _
      rw [y16]
      refine tK (l := xk_153) rfl rfl (fun _ _ _ _ _ => rfl) ?_
      refine tIc_ne (l := xk_153) (pc' := 229) rfl rfl rfl (fun hc => ?_) (fun hc => ?_)
      · have hc222 := hc
        exfalso
        have h9 : c9 = 42 := hc
        omega
      · have hc222 := hc
        refine tK (l := xk_153) rfl rfl (fun _ _ _ _ _ => rfl) ?_
        refine tK (l := xk_153) rfl rfl (hAdd ⟨by omega, by omega⟩) ?_
        refine tK (l := xk_153) rfl rfl (hPutV (hShI1 _ (hShI1 _ hs rfl rfl) rfl rfl) rfl rfl (by decide) (by decide) rfl) ?_
        refine tK (l := xk_153) rfl rfl (fun _ _ _ _ _ => rfl) ?_
        refine tIf_ge (l := xk_153) (pc' := 242) rfl rfl rfl (fun hc => ?_) (fun hc => ?_)
        · have hc235 := hc
          exact absurd hc hc171
        · have hc235 := hc
          refine tK (l := xk_153) rfl rfl (fun _ _ _ _ _ => rfl) ?_
          refine tK (l := xk_153) rfl rfl (fun _ _ _ _ _ => rfl) ?_
          refine tK (l := xk_153) rfl rfl (hAdd ⟨by omega, by omega⟩) ?_
          refine tRt (l := xk_153) rfl rfl (fun _ _ _ _ _ => rfl) ?_
          obtain ⟨n, hnn⟩ := Int.eq_ofNat_of_zero_le (show 0 ≤ nmF c by omega)
          have hst2 : pRd i c (3, a ++ [(k, x, cd, nm, l + 1)], op, mo) = some (4, a ++ [(k, x, cd, n, l + 1)], op, mo) := by
            simp only [pRd, pNm]
            rw [if_neg (by omega), lst_get]
            simp only [lst_set]
            rw [hnn, if_pos (by omega)]
            rfl
          have u3 : hSh zs (hUp (hUp (hUp ph 147 12 (oi (mkU a 0) (sl (nmF c)))) 147 13 (oi (mkG a 0) (sl (nmF c)))) 147 14 ((mkL a 0 : Int) + 0)) := hShI1 _ s2 rfl rfl
          have k3 : hFM [14] [] (hUp (hUp ph 147 12 (oi (mkU a 0) (sl (nmF c)))) 147 13 (oi (mkG a 0) (sl (nmF c)))) (hUp (hUp (hUp ph 147 12 (oi (mkU a 0) (sl (nmF c)))) 147 13 (oi (mkG a 0) (sl (nmF c)))) 147 14 ((mkL a 0 : Int) + 0)) := hFM_f s2 rfl (by decide) (by decide)
          have kA : hFM [12, 13, 14] [] ph (hUp (hUp (hUp ph 147 12 (oi (mkU a 0) (sl (nmF c)))) 147 13 (oi (mkG a 0) (sl (nmF c)))) 147 14 ((mkL a 0 : Int) + 0)) := ((f1.mono (by decide) (by decide)).trans (f2.mono (by decide) (by decide))).trans (k3.mono (by decide) (by decide))
          refine hQ (hUp (hUp (hUp ph 147 12 (oi (mkU a 0) (sl (nmF c)))) 147 13 (oi (mkG a 0) (sl (nmF c)))) 147 14 ((mkL a 0 : Int) + 0)) (4, a ++ [(k, x, cd, n, l + 1)], op, mo) hst2 u3 ⟨by rw [kA.fl (by decide), e10]; simp, by rw [kA.fl (by decide)]; exact e15, by rw [kA.fl (by decide), e11]; simp, fun h => by simp at h, ?_, ?_, ?_, fun h => absurd h (by simp)⟩ (kA.mono (by decide) (by decide))
          · rw [k3.fl (by decide), f2.fl (by decide), hRd_up hs rfl (by decide), if_pos ⟨rfl, rfl⟩]; show _ = mkU (a ++ [(k, x, cd, n, l + 1)]) 0; rw [mkU_snoc, if_neg (by simp only; omega), hnn]
          · rw [k3.fl (by decide), hRd_up s1 rfl (by decide), if_pos ⟨rfl, rfl⟩]; show _ = mkG (a ++ [(k, x, cd, n, l + 1)]) 0; rw [mkG_snoc, if_pos (by simp only; omega), hnn]
          · rw [hRd_up s2 rfl (by decide), if_pos ⟨rfl, rfl⟩]; show _ = ((mkL (a ++ [(k, x, cd, n, l + 1)]) 0 : Nat) : Int); rw [mkL_snoc, if_neg (by simp only; omega)]; exact Int.add_zero _
    · have hc197 := hc
      exfalso
      have h9 : ¬ c9 = 61 := hc
      omega
end MRD
