/-! ===== what holds of a state ===== -/
def ocK (oc : OC) : Prop := ∃ (ou : List Int) (r st p e v : Nat) (pl : List Nat), oc = (ou, (r : Int), pl.map (fun x : Nat => (x : Int)), (st : Int), (p : Int), (e : Int), (v : Int)) ∧ oks ou ∧ ou.length ≤ 200 ∧ st ≤ 200 ∧ p + e + v = ou.length ∧ p + e ≤ st ∧ r ≤ 6 ∧ (r = 0 → pl = []) ∧ (r ≠ 0 → 1 ≤ pl.length ∧ pl.length ≤ 5 ∧ jP pl) ∧ (r = 5 → 2 ≤ pl.length) ∧ (r = 4 → pl.length = 5) ∧ (r = 2 → ou.length = 200) ∧ (r = 3 → st = 200)
theorem ocK_D {t : List Int} {f : Nat → Option (List Int)} {w : Int} {D : Cf} (hl : t.length ≤ 60) (ht : oks t) (hf : ∀ n, n < 8 → ∀ s, f n = some s → oks s) (h : Fin t f w D) : ocK (ocD D) := by
  have hj := Fin_j hl h
  obtain ⟨⟨n9, hrun⟩, -⟩ := h
  have hokc : okC (RU (fs0 0 t) (rs0 f w)) := by
    refine ⟨fun q hq => ?_, fun q hq n v hv => ?_, fun q hq => by simp [RU, rs0] at hq, fun q hq => by simp [RU, rs0] at hq⟩
    · have e : q = (0, 0, 0, 0, 0, t) := List.mem_singleton.mp hq
      rw [e]; exact ⟨ht, hl⟩
    · have e : q = sc0 f w := List.mem_singleton.mp hq
      rw [e] at hv
      unfold sc0 at hv
      split at hv
      · rename_i h8; exact hf n h8.1 v hv
      · cases hv
  have h6 := Run_6 hrun (Nat.zero_le 6)
  have hok := (Rn_ok ⟨n9, hrun⟩ hokc).2.2.2
  obtain ⟨⟨j1, j2, j3, j4⟩, j5, j6, j7, j8, j9, j10⟩ := hj
  exact ⟨D.2.1.2.2.1, D.2.2.1, D.2.1.2.2.2.1, D.2.1.2.2.2.2.1, D.2.1.2.2.2.2.2.1, D.2.1.2.2.2.2.2.2, D.2.2.2, rfl, hok, j1, j2, j3, j4, h6, fun q => (j5 q).1, j6, j7, j8, j9, j10⟩
def okT (B : Nat) (st : SS) : Prop := (∀ n, n < 8 → ∀ s, st.1 n = some s → oks s ∧ s.length ≤ 24) ∧ ocK st.2.1 ∧ ∃ rn fl pr : Nat, st.2.2.1 = (rn : Int) ∧ st.2.2.2.1 = (fl : Int) ∧ st.2.2.2.2 = (pr : Int) ∧ fl ≤ rn ∧ rn ≤ B ∧ st.2.1.1.length ≤ pr ∧ pr ≤ 200 * B ∧ (rn = 0 → st.2.1.1.length = 0 ∧ st.2.1.2.2.2.1 = 0 ∧ st.2.1.2.1 = 0)
def okK (B : Nat) (c : KS) : Prop := (oks c.1 ∧ c.1.length ≤ 60) ∧ okT B c.2.1 ∧ (∀ st ∈ c.2.2.2, okT B st) ∧ c.2.2.2.length ≤ 6
theorem okT.up {B : Nat} {st : SS} (h : okT B st) : okT (B + 1) st := by
  obtain ⟨h1, h2, rn, fl, pr, h3, h4, h5, h6, h7, h8, h9, h10⟩ := h
  exact ⟨h1, h2, rn, fl, pr, h3, h4, h5, h6, by omega, h8, by omega, h10⟩
theorem okK.up {B : Nat} {c : KS} (h : okK B c) : okK (B + 1) c := ⟨h.1, h.2.1.up, fun st hs => (h.2.2.1 st hs).up, h.2.2.2⟩
theorem okT_0 : okT 0 (fun _ => none, ([], 0, [], 0, 0, 0, 0), 0, 0, 0) := ⟨fun _ _ s h => (by cases h), ⟨[], 0, 0, 0, 0, 0, [], rfl, fun c h => (by cases h), by decide, by decide, rfl, by decide, by decide, fun _ => rfl, fun q => absurd rfl q, fun q => absurd q (by decide), fun q => absurd q (by decide), fun q => absurd q (by decide), fun q => absurd q (by decide)⟩, 0, 0, 0, rfl, rfl, rfl, Nat.le_refl _, Nat.le_refl _, Nat.le_refl _, Nat.le_refl _, fun _ => ⟨rfl, rfl, rfl⟩⟩
theorem okT_setV {B n : Nat} {st : SS} {v : Option (List Int)} (h : okT B st) (hv : ∀ s, v = some s → oks s ∧ s.length ≤ 24) : okT B (setV st n v) := by
  refine ⟨fun k hk s hs => ?_, h.2⟩
  have hs : (if k = n then v else st.1 k) = some s := hs
  split at hs
  · exact hv s hs
  · exact h.1 k hk s hs
theorem okT_rnd {B : Nat} {st : SS} {oc : OC} (h : okT B st) (ho : ocK oc) : okT (B + 1) (rnd st oc) := by
  obtain ⟨h1, -, rn, fl, pr, h3, h4, h5, h6, h7, h8, h9, h10⟩ := h
  have hl : oc.1.length ≤ 200 := by
    obtain ⟨ou, r, s9, p, e, v, pl, rfl, -, hl, -⟩ := ho
    exact hl
  refine ⟨h1, ho, rn + 1, if oc.2.1 = 0 then fl else fl + 1, pr + oc.1.length, ?_, ?_, ?_, ?_, by omega, ?_, by omega, fun q => absurd q (Nat.succ_ne_zero _)⟩
  · show st.2.2.1 + 1 = _
    rw [h3]; rfl
  · show (if oc.2.1 = 0 then st.2.2.2.1 else st.2.2.2.1 + 1) = _
    rw [h4]
    split <;> rfl
  · show st.2.2.2.2 + (oc.1.length : Int) = _
    rw [h5]; rfl
  · split <;> omega
  · show oc.1.length ≤ pr + oc.1.length
    omega
theorem okK_psh {B : Nat} {c : KS} (h : okK B c) : (∀ st ∈ psh c, okT B st) ∧ (psh c).length ≤ 6 := by
  obtain ⟨-, h2, h4, h5⟩ := h
  unfold psh
  constructor
  · intro st hs
    rcases List.mem_append.mp hs with h | h
    · split at h
      · exact h4 st (List.mem_of_mem_tail h)
      · exact h4 st h
    · rw [List.mem_singleton.mp h]; exact h2
  · rw [List.length_append]
    split
    · rw [List.length_tail]; simp only [List.length_cons, List.length_nil]; omega
    · simp only [List.length_cons, List.length_nil]; omega
theorem okK_ndo {B : Nat} {c : KS} {st : SS} (h : okK B c) (hs : okT B st) : okK B (ndo c st) := ⟨h.1, hs, (okK_psh h).1, (okK_psh h).2⟩
/-! ===== what an act does ===== -/
def chF (t : List Int) (st : SS) (a y : Int) : Nat → Nat ⊕ (SS × Int)
  | 0 => if ¬ (0 ≤ a ∧ a < 8) then .inl 1 else if ¬ (33 ≤ y ∧ y ≤ 126) then .inl 2 else match st.1 a.toNat with
    | none => .inr (setV st a.toNat (some [y]), 1)
    | some v => if v.length = 24 then .inl 3 else .inr (setV st a.toNat (some (v ++ [y])), ((v ++ [y]).length : Int))
  | 1 => if ¬ (0 ≤ a ∧ a < 8) then .inl 1 else match st.1 a.toNat with
    | none => .inl 3
    | some v => .inr (setV st a.toNat none, (v.length : Int))
  | 2 => if ¬ (0 ≤ a ∧ a < 8) then .inl 1 else .inr (setV st a.toNat (some []), (((st.1 a.toNat).getD []).length : Int))
  | 3 => if ¬ (0 ≤ a ∧ a < 8) then .inl 1 else if ¬ (0 ≤ y ∧ y < 8) then .inl 1 else match st.1 y.toNat with
    | none => .inl 3
    | some v => .inr (setV st a.toNat (some v), (v.length : Int))
  | 4 => if ¬ (0 ≤ a ∧ a < 8) then .inl 1 else match st.1 a.toNat with
    | none => .inl 3
    | some v => if 24 < (esc v).length then .inl 3 else .inr (setV st a.toNat (some (esc v)), ((esc v).length : Int))
  | 5 => if ¬ (0 ≤ a ∧ a < 8) then .inl 1 else if 24 < st.2.1.1.length then .inl 3 else .inr (setV st a.toNat (some st.2.1.1), (st.2.1.1.length : Int))
  | 6 => if ¬ (0 ≤ a ∧ a < 8) then .inl 1 else if 24 < t.length then .inl 3 else .inr (setV st a.toNat (some t), (t.length : Int))
  | _ => .inl 9
def CH (t : List Int) (st : SS) (a y : Int) (k : Nat) (res : Nat ⊕ (SS × Int)) : Prop := (k < 7 ∧ res = chF t st a y k) ∨ (k = 7 ∧ pWh t = false ∧ res = .inl 3) ∨ (k = 7 ∧ pWh t = true ∧ ∃ D, Fin t st.1 (-1) D ∧ res = .inr (rnd st (ocD D), ((ocD D).1.length : Int)))
theorem CH_det {t : List Int} {st : SS} {a y : Int} {k : Nat} {r1 r2 : Nat ⊕ (SS × Int)} (h1 : CH t st a y k r1) (h2 : CH t st a y k r2) : r1 = r2 := by
  rcases h1 with ⟨p1, rfl⟩ | ⟨p1, p2, rfl⟩ | ⟨p1, p2, D, hD, rfl⟩ <;> rcases h2 with ⟨q1, rfl⟩ | ⟨q1, q2, rfl⟩ | ⟨q1, q2, E, hE, rfl⟩ <;> first
    | rfl
    | (exfalso; omega)
    | (rw [p2] at q2; cases q2; done)
    | (rw [Fin_det hD hE])
theorem oks_snoc {v : List Int} {y : Int} (h : oks v) (hy : 33 ≤ y ∧ y ≤ 126) : oks (v ++ [y]) := oks_app h ⟨by omega, by omega⟩
theorem esc_oks : ∀ {v : List Int}, oks v → oks (esc v) := by
  intro v
  induction v with
  | nil => intro h; exact h
  | cons c cs ih =>
    intro h
    have hc := h c List.mem_cons_self
    have hs := ih (fun x hx => h x (List.mem_cons_of_mem _ hx))
    simp only [esc]
    split
    · intro x hx
      rcases List.mem_cons.mp hx with rfl | hx
      · exact ⟨by decide, by decide⟩
      · rcases List.mem_cons.mp hx with rfl | hx
        · exact hc
        · exact hs x hx
    · intro x hx
      rcases List.mem_cons.mp hx with rfl | hx
      · exact hc
      · exact hs x hx
theorem CH_ok {B : Nat} {t : List Int} {st : SS} {a y v : Int} {k : Nat} {st2 : SS} (h : CH t st a y k (.inr (st2, v))) (ht : oks t) (hl : t.length ≤ 60) (hs : okT B st) : okT (B + 1) st2 := by
  rcases h with ⟨p1, p2⟩ | ⟨p1, p2, p3⟩ | ⟨p1, p2, D, hD, p3⟩
  · refine okT.up ?_
    have hou : oks st.2.1.1 ∧ st.2.1.1.length ≤ 200 := by
      obtain ⟨-, ⟨ou, r, s9, p, e, v9, pl, e9, h1, h2, -⟩, -⟩ := hs
      rw [e9]; exact ⟨h1, h2⟩
    have hv : ∀ x : Int, 0 ≤ x ∧ x < 8 → ∀ s, st.1 x.toNat = some s → oks s ∧ s.length ≤ 24 := fun x hx s hs2 => hs.1 x.toNat (by omega) s hs2
    match k, p1, p2 with
    | 0, _, p2 =>
      simp only [chF] at p2
      split at p2
      · cases p2
      · rename_i ha
        split at p2
        · cases p2
        · rename_i hy
          have hy := Classical.not_not.mp hy
          split at p2
          · cases p2
            exact okT_setV hs (fun s e => by cases e; exact ⟨oks_snoc (v := []) (fun c h => by cases h) hy, (by decide : 1 ≤ 24)⟩)
          · rename_i w hw
            split at p2
            · cases p2
            · cases p2
              have h9 := hv a (Classical.not_not.mp ha) w hw
              exact okT_setV hs (fun s e => by cases e; exact ⟨oks_snoc h9.1 hy, by simp only [List.length_append, List.length_cons, List.length_nil]; omega⟩)
    | 1, _, p2 =>
      simp only [chF] at p2
      split at p2
      · cases p2
      · split at p2
        · cases p2
        · cases p2
          exact okT_setV hs (fun s e => by cases e)
    | 2, _, p2 =>
      simp only [chF] at p2
      split at p2
      · cases p2
      · cases p2
        exact okT_setV hs (fun s e => by cases e; exact ⟨fun c h => (by cases h), by decide⟩)
    | 3, _, p2 =>
      simp only [chF] at p2
      split at p2
      · cases p2
      · split at p2
        · cases p2
        · rename_i hy
          split at p2
          · cases p2
          · rename_i w hw
            cases p2
            exact okT_setV hs (fun s e => by cases e; exact hv y (Classical.not_not.mp hy) _ hw)
    | 4, _, p2 =>
      simp only [chF] at p2
      split at p2
      · cases p2
      · rename_i ha
        split at p2
        · cases p2
        · rename_i w hw
          split at p2
          · cases p2
          · cases p2
            exact okT_setV hs (fun s e => by cases e; exact ⟨esc_oks (hv a (Classical.not_not.mp ha) _ hw).1, by omega⟩)
    | 5, _, p2 =>
      simp only [chF] at p2
      split at p2
      · cases p2
      · split at p2
        · cases p2
        · cases p2
          exact okT_setV hs (fun s e => by cases e; exact ⟨hou.1, by omega⟩)
    | 6, _, p2 =>
      simp only [chF] at p2
      split at p2
      · cases p2
      · split at p2
        · cases p2
        · cases p2
          exact okT_setV hs (fun s e => by cases e; exact ⟨ht, by omega⟩)
  · cases p3
  · cases p3
    exact okT_rnd hs (ocK_D hl ht (fun n hn s e => (hs.1 n hn s e).1) hD)
def app (c : KS) : Nat ⊕ (SS × Int) → KS
  | .inl _ => c
  | .inr q => ndo c q.1
def cdR : Nat ⊕ (SS × Int) → Int
  | .inl n => (n : Int)
  | .inr _ => 0
def ouR (x : Int) : Nat ⊕ (SS × Int) → Int
  | .inl _ => x
  | .inr q => q.2
def exR : Nat ⊕ (SS × Int) → Nat
  | .inl _ => 1
  | .inr _ => 0
/-! ===== the law's instructions over the heap of two objects ===== -/
section KIN
variable {zs : List xV} {R : xH} {s : KS × KS} {xo : Int} {mi pc g i mi' : Nat} {lv : xL} {st st0 as rest : List xV} {b : Bool}
theorem hPP_ob (hR : hPP zs R s xo) (b : Bool) : ∃ vs, R[ob b]? = some (9, vs) := by
  obtain ⟨po, pp, rfl, ko, kp⟩ := hR
  cases b with
  | false =>
    obtain ⟨vs, h1, -⟩ := ko.1.2.2 1 (by decide) (by decide)
    exact ⟨vs, (lay_o ko.1.1 (Nat.le_refl 1) (by decide)).trans h1⟩
  | true =>
    obtain ⟨vs, h1, -⟩ := kp.1.2.2 1 (by decide) (by decide)
    have h2 := lay_p (zs := zs) (x := xo) ko.1.1 kp.1.1 (Nat.le_refl 1) (by decide)
    rw [h1] at h2
    exact ⟨_, h2⟩
theorem kInvV (hR : hPP zs R s xo) (hcal : xcal (xown mi) i = some mi') (hpop : xpop (xnp mi') st0 = some (as, .inr (.inl (some (ob b))) :: rest)) (ho : xown mi' = 9) (hk : xsk mi' = 0) (hr : rest.length ≤ 4) (hz : xasz (.inr (.inl (some (ob b))) :: as) ≤ xmaxL mi') (K : Nat → xL → List xV → xH → Prop) (C : Nat → List xV → List xV → Prop) (Rt : Option xV → Prop) (Th : Nat → Prop) (z : Prop) : xop mi pc (.invokevirtual i) lv st0 R g K C Rt Th z = C mi' (.inr (.inl (some (ob b))) :: as) rest := by
  obtain ⟨vs, q1⟩ := hPP_ob hR b
  simp only [xop, hcal, hpop, q1]
  rw [if_pos ⟨ho.symm, hk, hr, hz⟩]
theorem kOut (hR : hPP zs R s xo) (y : Int) : R[293]? = some (100, [.inl xo]) ∧ hPP zs (R.set 293 (100, [.inl y])) s y := by
  obtain ⟨po, pp, rfl, ko, kp⟩ := hR
  exact ⟨lay_x ko.1.1 kp.1.1, po, pp, lay_setx ko.1.1 kp.1.1 y, ko, kp⟩
theorem kPut (hR : hPP zs R s xo) (y : Int) (K : Nat → xL → List xV → xH → Prop) (C : Nat → List xV → List xV → Prop) (Rt : Option xV → Prop) (Th : Nat → Prop) (z : Prop) : xop mi pc .iastore lv (.inl y :: .inl 0 :: .inr (.inl (some 293)) :: st) R g K C Rt Th z = K (pc + 1) lv st (R.set 293 (100, [.inl y])) := by
  simp only [xop, (kOut hR 0).1]
  rw [if_pos ⟨trivial, Int.le_refl 0, (show (0 : Int) < ((1 : Nat) : Int) by decide)⟩]
  rfl
theorem kGet (hR : hPP zs R s xo) (K : Nat → xL → List xV → xH → Prop) (C : Nat → List xV → List xV → Prop) (Rt : Option xV → Prop) (Th : Nat → Prop) (z : Prop) : xop mi pc .iaload lv (.inl 0 :: .inr (.inl (some 293)) :: st) R g K C Rt Th z = K (pc + 1) lv (.inl xo :: st) R := by
  simp only [xop, (kOut hR 0).1]
  rw [if_pos ⟨Or.inl trivial, Int.le_refl 0⟩]
  rfl
theorem hPP_0 (hR : hPP zs R s xo) : R[0]? = some (200, zs) := by
  obtain ⟨po, pp, rfl, -, -⟩ := hR
  rfl
theorem kLen (hR : hPP zs R s xo) (hz : (zs.length : Int) ≤ 2147483647) (K : Nat → xL → List xV → xH → Prop) (C : Nat → List xV → List xV → Prop) (Rt : Option xV → Prop) (Th : Nat → Prop) (z : Prop) : xop mi pc .arraylength lv (.inr (.inl (some 0)) :: st) R g K C Rt Th z = K (pc + 1) lv (.inl (zs.length : Int) :: st) R := by
  simp only [xop, hPP_0 hR]
  rw [if_pos ⟨by decide, hz⟩]
theorem kScr (hR : hPP zs R s xo) {n : Nat} {x : Int} (hx : zs[n]? = some (.inl x)) (K : Nat → xL → List xV → xH → Prop) (C : Nat → List xV → List xV → Prop) (Rt : Option xV → Prop) (Th : Nat → Prop) (z : Prop) : xop mi pc .iaload lv (.inl (n : Int) :: .inr (.inl (some 0)) :: st) R g K C Rt Th z = K (pc + 1) lv (.inl x :: st) R := by
  simp only [xop, hPP_0 hR]
  rw [if_pos ⟨Or.inr trivial, Int.natCast_nonneg n⟩]
  simp only [Int.toNat_natCast, hx]
theorem tKh {d E pc' k : Nat} {Q : xR → Prop} (hh : xhan mi pc E = some (pc', k)) (h : xT d mi pc' (xclr lv k) [] R g Q) : xKc d mi pc lv rest Q (.inr E, R, g) := by
  show (match xhan mi pc E with
    | some (pc', k) => xT d mi pc' (xclr lv k) [] R g Q
    | none => Q (.inr E, R, g))
  rw [hh]; exact h
end KIN
