/-! ===== Texts.<init> ===== -/
section GN
variable {mi pc g i ci k kd fin a : Nat} {lv : xL} {st : List xV} {ph : xH} {vs : List xV} {v : xV} {n x y : Int}
theorem gGet (h : ph[a]? = some (ci, vs)) (hx : xfld (xown mi) i = some (ci, k, kd, fin)) (hv : vs[k]? = some v) (K : Nat → xL → List xV → xH → Prop) (C : Nat → List xV → List xV → Prop) (Rt : Option xV → Prop) (Th : Nat → Prop) (z : Prop) : xop mi pc (.getfield i) lv (.inr (.inl (some a)) :: st) ph g K C Rt Th z = K (pc + 3) lv (v :: st) ph := by
  simp only [xop, hx, h, if_true, hv]
theorem gPut (h : ph[a]? = some (ci, vs)) (hx : xfld (xown mi) i = some (ci, k, kd, fin)) (hk : k < vs.length) (hv : xkd kd v = true) (hf : fin = 0 ∨ (xini mi = true ∧ xown mi = ci)) (K : Nat → xL → List xV → xH → Prop) (C : Nat → List xV → List xV → Prop) (Rt : Option xV → Prop) (Th : Nat → Prop) (z : Prop) : xop mi pc (.putfield i) lv (v :: .inr (.inl (some a)) :: st) ph g K C Rt Th z = K (pc + 3) lv st (ph.set a (ci, vs.set k v)) := by
  simp only [xop, hx, h]
  rw [if_pos ⟨trivial, hk, hv, hf⟩]
theorem gIast (h : ph[a]? = some (100, vs)) (h0 : 0 ≤ x) (h1 : x < vs.length) (K : Nat → xL → List xV → xH → Prop) (C : Nat → List xV → List xV → Prop) (Rt : Option xV → Prop) (Th : Nat → Prop) (z : Prop) : xop mi pc .iastore lv (.inl y :: .inl x :: .inr (.inl (some a)) :: st) ph g K C Rt Th z = K (pc + 1) lv st (ph.set a (100, vs.set x.toNat (.inl y))) := by
  simp only [xop, h]
  rw [if_pos ⟨trivial, h0, h1⟩]
theorem gAlen (h : ph[a]? = some (ci, vs)) (h0 : 100 ≤ ci) (h1 : (vs.length : Int) ≤ 2147483647) (K : Nat → xL → List xV → xH → Prop) (C : Nat → List xV → List xV → Prop) (Rt : Option xV → Prop) (Th : Nat → Prop) (z : Prop) : xop mi pc .arraylength lv (.inr (.inl (some a)) :: st) ph g K C Rt Th z = K (pc + 1) lv (.inl (vs.length : Int) :: st) ph := by
  simp only [xop, h]
  rw [if_pos ⟨h0, h1⟩]
theorem gNewC (h : 0 ≤ n ∧ n ≤ 100000) (K : Nat → xL → List xV → xH → Prop) (C : Nat → List xV → List xV → Prop) (Rt : Option xV → Prop) (Th : Nat → Prop) (z : Prop) : xop mi pc (.newarray .char) lv (.inl n :: st) ph 0 K C Rt Th z = K (pc + 2) lv (.inr (.inl (some ph.length)) :: st) (ph ++ [(101, List.replicate n.toNat (.inl 0))]) := by
  simp only [xop]
  rw [if_pos ⟨trivial, h⟩]
theorem gNewI (h : 0 ≤ n ∧ n ≤ 100000) (K : Nat → xL → List xV → xH → Prop) (C : Nat → List xV → List xV → Prop) (Rt : Option xV → Prop) (Th : Nat → Prop) (z : Prop) : xop mi pc (.newarray .int) lv (.inl n :: st) ph 0 K C Rt Th z = K (pc + 2) lv (.inr (.inl (some ph.length)) :: st) (ph ++ [(100, List.replicate n.toNat (.inl 0))]) := by
  simp only [xop]
  rw [if_pos ⟨trivial, h⟩]
end GN
def tx73 (ph : xH) (a r w : Nat) : xH := ph.set a (8, [.inl (w : Int), .inr (.inl (some ph.length)), .inr (.inl (some (ph.length + 1)))]) ++ [(101, List.replicate (r * w) (.inl 0)), (100, List.replicate r (.inl (-1)))]
theorem rep_set (i m : Nat) (x y : xV) : (List.replicate i x ++ List.replicate (m + 1) y).set i x = List.replicate (i + 1) x ++ List.replicate m y := by
  rw [List.set_append_right _ _ (by simp), List.length_replicate, Nat.sub_self, List.replicate_succ, List.set_cons_zero, List.replicate_succ']
  simp
section T73
variable {d a r w : Nat} {b0 : xH} {A : List xV} {Q : xR → Prop}
theorem t73L (ha : a < b0.length) (hb : b0[a]? = some (8, [.inl (w : Int), .inr (.inl (some b0.length)), .inr (.inl (some (b0.length + 1)))])) (hr : r ≤ 100000) (hQ : Q (.inl none, b0 ++ [(101, A), (100, List.replicate r (.inl (-1)))], 0)) : ∀ (m i : Nat), i + m = r → xT d 73 35 (xlo [some (.inr (.inl (some a))), some (.inl (r : Int)), some (.inl (w : Int)), some (.inl (i : Int))]) [] (b0 ++ [(101, A), (100, List.replicate i (.inl (-1)) ++ List.replicate m (.inl 0))]) 0 Q := by
  intro m
  induction m with
  | zero =>
    intro i him
    have h1 : (b0 ++ [(101, A), (100, List.replicate i (.inl (-1)) ++ List.replicate 0 (.inl 0))])[a]? = some (8, [.inl (w : Int), .inr (.inl (some b0.length)), .inr (.inl (some (b0.length + 1)))]) := by rw [List.getElem?_append_left ha]; exact hb
    have h2 : (b0 ++ [(101, A), (100, List.replicate i (.inl (-1)) ++ List.replicate 0 (.inl 0))])[b0.length + 1]? = some (100, List.replicate i (.inl (-1)) ++ List.replicate 0 (.inl 0)) := by
      rw [List.getElem?_append_right (by omega), show b0.length + 1 - b0.length = 1 by omega]; rfl
    refine tK (l := xk_73) rfl rfl (fun _ _ _ _ _ => rfl) ?_
    refine tK (l := xk_73) rfl rfl (fun _ _ _ _ _ => rfl) ?_
    refine tK (l := xk_73) rfl rfl (gGet h1 rfl rfl) ?_
    refine tK (l := xk_73) rfl rfl (gAlen h2 (by decide) (by simp only [List.length_append, List.length_replicate]; omega)) ?_
    refine tIc_ge (l := xk_73) (pc' := 57) rfl rfl rfl (fun hc => ?_) (fun hc => ?_)
    · exfalso
      simp only [List.length_append, List.length_replicate] at hc
      omega
    · refine tRt (l := xk_73) rfl rfl (fun _ _ _ _ _ => rfl) ?_
      have e : i = r := by omega
      subst e
      simp only [List.replicate_zero, List.append_nil]
      exact hQ
  | succ m ih =>
    intro i him
    have h1 : (b0 ++ [(101, A), (100, List.replicate i (.inl (-1)) ++ List.replicate (m + 1) (.inl 0))])[a]? = some (8, [.inl (w : Int), .inr (.inl (some b0.length)), .inr (.inl (some (b0.length + 1)))]) := by rw [List.getElem?_append_left ha]; exact hb
    have h2 : (b0 ++ [(101, A), (100, List.replicate i (.inl (-1)) ++ List.replicate (m + 1) (.inl 0))])[b0.length + 1]? = some (100, List.replicate i (.inl (-1)) ++ List.replicate (m + 1) (.inl 0)) := by
      rw [List.getElem?_append_right (by omega), show b0.length + 1 - b0.length = 1 by omega]; rfl
    refine tK (l := xk_73) rfl rfl (fun _ _ _ _ _ => rfl) ?_
    refine tK (l := xk_73) rfl rfl (fun _ _ _ _ _ => rfl) ?_
    refine tK (l := xk_73) rfl rfl (gGet h1 rfl rfl) ?_
    refine tK (l := xk_73) rfl rfl (gAlen h2 (by decide) (by simp only [List.length_append, List.length_replicate]; omega)) ?_
    refine tIc_ge (l := xk_73) (pc' := 57) rfl rfl rfl (fun hc => ?_) (fun hc => ?_)
    · refine tK (l := xk_73) rfl rfl (fun _ _ _ _ _ => rfl) ?_
      refine tK (l := xk_73) rfl rfl (gGet h1 rfl rfl) ?_
      refine tK (l := xk_73) rfl rfl (fun _ _ _ _ _ => rfl) ?_
      refine tK (l := xk_73) rfl rfl (fun _ _ _ _ _ => rfl) ?_
      refine tK (l := xk_73) rfl rfl (gIast h2 (by omega) (by simp only [List.length_append, List.length_replicate]; omega)) ?_
      refine tSt (l := xk_73) rfl rfl (hIinc rfl (Nat.le_of_ble_eq_true rfl) ⟨by omega, by omega⟩) (Nat.le_of_ble_eq_true rfl) ?_
      refine tK (l := xk_73) rfl rfl (fun _ _ _ _ _ => rfl) ?_
      have e1 : ((i : Int)).toNat = i := Int.toNat_natCast i
      rw [e1, rep_set, List.set_append_right _ _ (by omega), show b0.length + 1 - b0.length = 1 by omega]
      have e2 : (i : Int) + 1 = ((i + 1 : Nat) : Int) := by omega
      have h9 := ih (i + 1) (by omega)
      rw [← e2] at h9
      exact h9
    · exfalso
      simp only [List.length_append, List.length_replicate] at hc
      omega
theorem t73 {ph : xH} {v0 v1 v2 : xV} (h : ph[a]? = some (8, [v0, v1, v2])) (hr : r ≤ 100000) (hw : w ≤ 100000) (hp : r * w ≤ 100000) (hQ : Q (.inl none, tx73 ph a r w, 0)) : xTC d 73 [.inr (.inl (some a)), .inl (r : Int), .inl (w : Int)] ph 0 Q := by
  have ha : a < ph.length := (List.getElem?_eq_some_iff.mp h).1
  have em : (r : Int) * (w : Int) = ((r * w : Nat) : Int) := (Int.natCast_mul r w).symm
  refine tEn (ls := [some (.inr (.inl (some a))), some (.inl (r : Int)), some (.inl (w : Int)), none]) (fun k => by match k with | 0 => rfl | 1 => rfl | 2 => rfl | 3 => rfl | k + 4 => rfl) ?_
  refine tK (l := xk_73) rfl rfl (fun _ _ _ _ _ => rfl) ?_
  refine tK (l := xk_73) rfl rfl (fun _ _ _ _ _ => rfl) ?_
  refine tK (l := xk_73) rfl rfl (fun _ _ _ _ _ => rfl) ?_
  refine tK (l := xk_73) rfl rfl (fun _ _ _ _ _ => rfl) ?_
  refine tK (l := xk_73) rfl rfl (gPut h rfl (by simp) rfl (Or.inr ⟨rfl, rfl⟩)) ?_
  have h1 : (ph.set a (8, [.inl (w : Int), v1, v2]))[a]? = some (8, [.inl (w : Int), v1, v2]) := List.getElem?_set_self ha
  show xT d 73 9 _ _ (ph.set a (8, [.inl (w : Int), v1, v2])) 0 Q
  refine tK (l := xk_73) rfl rfl (fun _ _ _ _ _ => rfl) ?_
  refine tK (l := xk_73) rfl rfl (fun _ _ _ _ _ => rfl) ?_
  refine tK (l := xk_73) rfl rfl (fun _ _ _ _ _ => rfl) ?_
  refine tK (l := xk_73) rfl rfl (fun _ _ _ _ _ => rfl) ?_
  refine tK (l := xk_73) rfl rfl (hMul ⟨by rw [em]; omega, by rw [em]; omega⟩) ?_
  rw [em]
  refine tK (l := xk_73) rfl rfl (fun _ _ _ _ _ => rfl) ?_
  have e1 : (if (0 : Int) < ((r * w : Nat) : Int) then ((r * w : Nat) : Int) else 0) = ((r * w : Nat) : Int) := by split <;> omega
  rw [e1]
  refine tK (l := xk_73) rfl rfl (gNewC ⟨by omega, by omega⟩) ?_
  rw [Int.toNat_natCast, List.length_set]
  have h2 : (ph.set a (8, [.inl (w : Int), v1, v2]) ++ [(101, List.replicate (r * w) (.inl 0))])[a]? = some (8, [.inl (w : Int), v1, v2]) := by rw [List.getElem?_append_left (by rw [List.length_set]; exact ha)]; exact h1
  refine tK (l := xk_73) rfl rfl (gPut h2 rfl (by simp) rfl (Or.inr ⟨rfl, rfl⟩)) ?_
  rw [List.set_append_left _ _ (by rw [List.length_set]; exact ha), List.set_set]
  show xT d 73 22 _ _ (ph.set a (8, [.inl (w : Int), .inr (.inl (some ph.length)), v2]) ++ [(101, List.replicate (r * w) (.inl 0))]) 0 Q
  refine tK (l := xk_73) rfl rfl (fun _ _ _ _ _ => rfl) ?_
  refine tK (l := xk_73) rfl rfl (fun _ _ _ _ _ => rfl) ?_
  refine tK (l := xk_73) rfl rfl (fun _ _ _ _ _ => rfl) ?_
  refine tK (l := xk_73) rfl rfl (fun _ _ _ _ _ => rfl) ?_
  have e2 : (if (0 : Int) < (r : Int) then (r : Int) else 0) = (r : Int) := by split <;> omega
  rw [e2]
  refine tK (l := xk_73) rfl rfl (gNewI ⟨by omega, by omega⟩) ?_
  rw [Int.toNat_natCast, List.length_append, List.length_set]
  have h3 : ((ph.set a (8, [.inl (w : Int), .inr (.inl (some ph.length)), v2]) ++ [(101, List.replicate (r * w) (.inl 0))]) ++ [(100, List.replicate r (.inl 0))])[a]? = some (8, [.inl (w : Int), .inr (.inl (some ph.length)), v2]) := by
    rw [List.append_assoc, List.getElem?_append_left (by rw [List.length_set]; exact ha)]
    exact List.getElem?_set_self ha
  refine tK (l := xk_73) rfl rfl (gPut h3 rfl (by simp) rfl (Or.inr ⟨rfl, rfl⟩)) ?_
  rw [List.append_assoc, List.set_append_left _ _ (by rw [List.length_set]; exact ha), List.set_set]
  refine tK (l := xk_73) rfl rfl (fun _ _ _ _ _ => rfl) ?_
  refine tSt (l := xk_73) rfl rfl (fun _ _ _ _ _ => rfl) (Nat.le_of_ble_eq_true rfl) ?_
  have l0 : (ph.set a (8, [.inl (w : Int), .inr (.inl (some ph.length)), .inr (.inl (some (ph.length + 1)))])).length = ph.length := List.length_set
  have h9 := t73L (d := d) (a := a) (r := r) (w := w) (b0 := ph.set a (8, [.inl (w : Int), .inr (.inl (some ph.length)), .inr (.inl (some (ph.length + 1)))])) (A := List.replicate (r * w) (.inl 0)) (Q := Q) (by rw [l0]; exact ha) (by rw [l0]; exact List.getElem?_set_self ha) hr hQ r 0 (by omega)
  exact h9
end T73
/-! ===== a runner that takes Texts.<init> as one step ===== -/
def yr : Nat → Nat → Nat → Nat → xL → List xV → xH → Option xR
  | 0, _, _, _, _, _, _ => none
  | n + 1, d, mi, pc, lv, st, ph => match xfetch mi pc with
    | none => none
    | some op => xop mi pc op lv st ph 0 (fun pc' lv' st' ph' => yr n d mi pc' lv' st' ph')
      (fun mi' as rest => match d with
        | 0 => none
        | d' + 1 => match Nat.beq mi' 73 with
          | true => match as with
            | [.inr (.inl (some a)), .inl (.ofNat r), .inl (.ofNat w)] => match ph[a]? with
              | some (8, [_, _, _]) => match Nat.ble r 100000 && (Nat.ble w 100000 && Nat.ble (r * w) 100000) with
                | true => yr n (d' + 1) mi (pc + 3) lv rest (tx73 ph a r w)
                | false => none
              | _ => none
            | _ => none
          | false => match yr n d' mi' 0 (xent as) [] ph with
            | some (.inl v, ph1, 0) => yr n (d' + 1) mi (pc + 3) lv (v.toList ++ rest) ph1
            | _ => none)
      (fun v => some (.inl v, ph, 0)) (fun _ => none) none
theorem yr_ok : ∀ (n d mi pc : Nat) (lv : xL) (st : List xV) (ph : xH) (r : xR), yr n d mi pc lv st ph = some r → xT d mi pc lv st ph 0 (fun x => x = r) := by
  intro n
  induction n with
  | zero => intro d mi pc lv st ph r h; cases h
  | succ n ih =>
    intro d mi pc lv st ph r h
    rw [yr] at h
    cases hf : xfetch mi pc with
    | none => rw [hf] at h; cases h
    | some op =>
      rw [hf] at h
      simp only at h
      rw [xop_dir] at h
      rw [xT_op hf, xop_dir]
      cases hd : xdir mi pc op lv st ph 0 with
      | inl q =>
        rw [hd] at h
        exact ih _ _ _ _ _ _ _ h
      | inr q =>
        cases q with
        | inl q =>
          rw [hd] at h
          simp only [xcase] at h
          show xTk d mi pc lv ph 0 (fun x => x = r) q.1 q.2.1 q.2.2
          obtain ⟨mi', as, rest⟩ := q
          cases d with
          | zero => cases h
          | succ d' =>
            simp only at h
            show xTC d' mi' as ph 0 (xKc (d' + 1) mi pc lv rest (fun x => x = r))
            split at h
            · rename_i hb
              have e73 : mi' = 73 := Nat.eq_of_beq_eq_true hb
              subst e73
              split at h
              · split at h
                · split at h
                  · rename_i a r0 w0 _ v0 v1 v2 hc _ hb2
                    rw [Bool.and_eq_true, Bool.and_eq_true] at hb2
                    refine t73 hc (Nat.le_of_ble_eq_true hb2.1) (Nat.le_of_ble_eq_true hb2.2.1) (Nat.le_of_ble_eq_true hb2.2.2) ?_
                    exact tKn (ih _ _ _ _ _ _ _ h)
                  · cases h
                · cases h
              · cases h
            · split at h
              · rename_i v ph1 hy
                refine xT_imp (ih _ _ _ _ _ _ _ hy) (fun q hq => ?_)
                rw [hq]
                exact ih _ _ _ _ _ _ _ h
              · cases h
        | inr q =>
          cases q with
          | inl v =>
            rw [hd] at h
            simp only [xcase] at h ⊢
            exact Option.some.inj h
          | inr q =>
            rw [hd] at h
            cases q with
            | inl E => cases h
            | inr u => cases h
