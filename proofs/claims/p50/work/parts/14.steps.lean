/-! ===== more steps: locals, calls ===== -/
def hLs : List (Option xV) → Nat → xV → List (Option xV)
  | [], _, _ => []
  | _ :: t, 0, v => some v :: t
  | o :: t, 1, v => xno2 o :: (match t with
    | [] => []
    | _ :: t' => some v :: t')
  | o :: t, k + 2, v => o :: hLs t (k + 1) v
def hLs2 : List (Option xV) → Nat → xV → List (Option xV)
  | [], _, _ => []
  | _ :: t, 0, v => some v :: (match t with
    | [] => []
    | _ :: t' => none :: t')
  | o :: t, 1, v => xno2 o :: (match t with
    | [] => []
    | _ :: t' => some v :: (match t' with
      | [] => []
      | _ :: t'' => none :: t''))
  | o :: t, k + 2, v => o :: hLs2 t (k + 1) v
theorem xlo_0 (o : Option xV) (t : List (Option xV)) : xlo (o :: t) 0 = o := rfl
theorem xlo_s (o : Option xV) (t : List (Option xV)) (k : Nat) : xlo (o :: t) (k + 1) = xlo t k := rfl
theorem xno2_n (o : Option xV) : (match o with
  | some (.inr (.inr _)) => none
  | o => o) = xno2 o := by
  unfold xno2
  rfl
theorem hLs_ok : ∀ (ls : List (Option xV)) (k : Nat) (v : xV), k < ls.length → xset (xlo ls) k v = xlo (hLs ls k v) := by
  intro ls
  induction ls with
  | nil => intro k v h; simp at h
  | cons o t ih =>
    intro k v h
    match k, h with
    | 0, _ =>
      funext j
      cases j with
      | zero => rfl
      | succ j =>
        show (if j + 1 = 0 then some v else if j + 1 + 1 = 0 then xno2 (xlo (o :: t) (j + 1)) else xlo (o :: t) (j + 1)) = xlo t j
        rw [if_neg (by omega), if_neg (by omega)]
        rfl
    | 1, h =>
      cases t with
      | nil => simp at h
      | cons o2 t2 =>
        funext j
        match j with
        | 0 => rfl
        | 1 => rfl
        | j + 2 =>
          show (if j + 2 = 1 then some v else if j + 2 + 1 = 1 then xno2 (xlo (o :: o2 :: t2) (j + 2)) else xlo (o :: o2 :: t2) (j + 2)) = xlo t2 j
          rw [if_neg (by omega), if_neg (by omega)]
          rfl
    | k + 2, h =>
      have h2 := ih (k + 1) v (by simp only [List.length_cons] at h; omega)
      funext j
      cases j with
      | zero =>
        show (if 0 = k + 2 then some v else if 0 + 1 = k + 2 then xno2 (xlo (o :: t) 0) else xlo (o :: t) 0) = o
        rw [if_neg (by omega), if_neg (by omega)]
        rfl
      | succ j =>
        have h3 := congrFun h2 j
        show (if j + 1 = k + 2 then some v else if j + 1 + 1 = k + 2 then xno2 (xlo (o :: t) (j + 1)) else xlo (o :: t) (j + 1)) = xlo (hLs t (k + 1) v) j
        rw [← h3]
        show _ = (if j = k + 1 then some v else if j + 1 = k + 1 then xno2 (xlo t j) else xlo t j)
        rw [xlo_s]
        by_cases e1 : j = k + 1
        · rw [if_pos (by omega), if_pos e1]
        · rw [if_neg (by omega), if_neg e1]
          by_cases e2 : j + 1 = k + 1
          · rw [if_pos (by omega), if_pos e2]
          · rw [if_neg (by omega), if_neg e2]
theorem hLs2_ok : ∀ (ls : List (Option xV)) (k : Nat) (v : xV), k + 1 < ls.length → xset2 (xlo ls) k v = xlo (hLs2 ls k v) := by
  intro ls
  induction ls with
  | nil => intro k v h; simp at h
  | cons o t ih =>
    intro k v h
    match k, h with
    | 0, h =>
      cases t with
      | nil => simp at h
      | cons o2 t2 =>
        funext j
        match j with
        | 0 => rfl
        | 1 => rfl
        | j + 2 =>
          show (if j + 2 = 0 then some v else if j + 2 = 0 + 1 then none else if j + 2 + 1 = 0 then xno2 (xlo (o :: o2 :: t2) (j + 2)) else xlo (o :: o2 :: t2) (j + 2)) = xlo t2 j
          rw [if_neg (by omega), if_neg (by omega), if_neg (by omega)]
          rfl
    | 1, h =>
      match t, h with
      | [], h => simp at h
      | [_], h => simp at h
      | o2 :: o3 :: t3, h =>
        funext j
        match j with
        | 0 => rfl
        | 1 => rfl
        | 2 => rfl
        | j + 3 =>
          show (if j + 3 = 1 then some v else if j + 3 = 1 + 1 then none else if j + 3 + 1 = 1 then xno2 (xlo (o :: o2 :: o3 :: t3) (j + 3)) else xlo (o :: o2 :: o3 :: t3) (j + 3)) = xlo t3 j
          rw [if_neg (by omega), if_neg (by omega), if_neg (by omega)]
          rfl
    | k + 2, h =>
      have h2 := ih (k + 1) v (by simp only [List.length_cons] at h; omega)
      funext j
      cases j with
      | zero =>
        show (if 0 = k + 2 then some v else if 0 = k + 2 + 1 then none else if 0 + 1 = k + 2 then xno2 (xlo (o :: t) 0) else xlo (o :: t) 0) = o
        rw [if_neg (by omega), if_neg (by omega), if_neg (by omega)]
        rfl
      | succ j =>
        have h3 := congrFun h2 j
        show (if j + 1 = k + 2 then some v else if j + 1 = k + 2 + 1 then none else if j + 1 + 1 = k + 2 then xno2 (xlo (o :: t) (j + 1)) else xlo (o :: t) (j + 1)) = xlo (hLs2 t (k + 1) v) j
        rw [← h3]
        show _ = (if j = k + 1 then some v else if j = k + 1 + 1 then none else if j + 1 = k + 1 then xno2 (xlo t j) else xlo t j)
        rw [xlo_s]
        by_cases e1 : j = k + 1
        · rw [if_pos (by omega), if_pos e1]
        · rw [if_neg (by omega), if_neg e1]
          by_cases e3 : j = k + 1 + 1
          · rw [if_pos (by omega), if_pos e3]
          · rw [if_neg (by omega), if_neg e3]
            by_cases e2 : j + 1 = k + 1
            · rw [if_pos (by omega), if_pos e2]
            · rw [if_neg (by omega), if_neg e2]
section HST2
variable {d mi pc pc' : Nat} {lv lv' : xL} {st st' : List xV} {ph ph' : xH} {g : Nat} {Q : xR → Prop} {op : Instr} {l : List (Nat × Instr)}
theorem tSt {ls : List (Option xV)} {k : Nat} {v : xV} (hc : xcode[mi]? = some l) (hf : xfind l pc = some op) (he : ∀ (K : Nat → xL → List xV → xH → Prop) (C : Nat → List xV → List xV → Prop) (Rt : Option xV → Prop) (Th : Nat → Prop) (z : Prop), xop mi pc op (xlo ls) st ph g K C Rt Th z = K pc' (xset (xlo ls) k v) st' ph') (hk : k + 1 ≤ ls.length) (h : xT d mi pc' (xlo (hLs ls k v)) st' ph' g Q) : xT d mi pc (xlo ls) st ph g Q :=
  tK hc hf he (by rw [hLs_ok ls k v hk]; exact h)
theorem tSt2 {ls : List (Option xV)} {k : Nat} {v : xV} (hc : xcode[mi]? = some l) (hf : xfind l pc = some op) (he : ∀ (K : Nat → xL → List xV → xH → Prop) (C : Nat → List xV → List xV → Prop) (Rt : Option xV → Prop) (Th : Nat → Prop) (z : Prop), xop mi pc op (xlo ls) st ph g K C Rt Th z = K pc' (xset2 (xlo ls) k v) st' ph') (hk : k + 2 ≤ ls.length) (h : xT d mi pc' (xlo (hLs2 ls k v)) st' ph' g Q) : xT d mi pc (xlo ls) st ph g Q :=
  tK hc hf he (by rw [hLs2_ok ls k v hk]; exact h)
theorem tKv {v : xV} {rest : List xV} (h : xT d mi (pc + 3) lv (v :: rest) ph g Q) : xKc d mi pc lv rest Q (.inl (some v), ph, g) := h
theorem tKn {rest : List xV} (h : xT d mi (pc + 3) lv rest ph g Q) : xKc d mi pc lv rest Q (.inl none, ph, g) := h
theorem tKx {E : Nat} {rest : List xV} (hh : xhh mi = []) (h : Q (.inr E, ph, g)) : xKc d mi pc lv rest Q (.inr E, ph, g) := by
  have e : xhan mi pc E = none := by unfold xhan; rw [hh]; rfl
  show (match xhan mi pc E with
    | some (pc', k) => xT d mi pc' (xclr lv k) [] ph g Q
    | none => Q (.inr E, ph, g))
  rw [e]; exact h
variable {zs : List xV} {a i c mi' : Nat} {as rest st0 : List xV}
theorem hInvV (hs : hSh zs ph) (hcal : xcal (xown mi) i = some mi') (hpop : xpop (xnp mi') st0 = some (as, .inr (.inl (some a)) :: rest)) (ho : xown mi' = c) (ht : hTg a = c) (hk : xsk mi' = 0) (hr : rest.length ≤ 4) (hz : xasz (.inr (.inl (some a)) :: as) ≤ xmaxL mi') (K : Nat → xL → List xV → xH → Prop) (C : Nat → List xV → List xV → Prop) (Rt : Option xV → Prop) (Th : Nat → Prop) (z : Prop) : xop mi pc (.invokevirtual i) lv st0 ph g K C Rt Th z = C mi' (.inr (.inl (some a)) :: as) rest := by
  have h104 : hTg a < 104 := by
    have h9 : ∀ mi, mi < 148 → xown mi < 104 := by decide +kernel
    by_cases hm : mi' < 148
    · have := h9 mi' hm; omega
    · exfalso
      have e : xmt[mi']? = none := List.getElem?_eq_none (by have : xmt.length = 148 := by decide +kernel
                                                             omega)
      unfold xsk at hk
      rw [e] at hk
      cases hk
  obtain ⟨vs, q1, -⟩ := hSh_at hs h104
  simp only [xop, hcal, hpop, q1]
  rw [if_pos ⟨by rw [ht, ho], hk, hr, hz⟩]
theorem hInvS (hm : xmat (xown mi) i = none) (hcal : xcal (xown mi) i = some mi') (hpop : xpop (xnp mi') st0 = some (as, rest)) (hk : xsk mi' = 1) (hr : rest.length ≤ 4) (hz : xasz as ≤ xmaxL mi') (K : Nat → xL → List xV → xH → Prop) (C : Nat → List xV → List xV → Prop) (Rt : Option xV → Prop) (Th : Nat → Prop) (z : Prop) : xop mi pc (.invokestatic i) lv st0 ph g K C Rt Th z = C mi' as rest := by
  simp only [xop, hm, hcal, hpop]
  rw [if_pos ⟨hk, hr, hz⟩]
end HST2
section HNN
variable {mi pc g n a v : Nat} {lv : xL} {st : List xV} {ph : xH} {zs : List xV} {x y : Int} {w : Int64}
theorem hIaldN (hs : hSh zs ph) (ht : hTg a = 100) (hx : x = (n : Int)) (h1 : n < hSz a) (K : Nat → xL → List xV → xH → Prop) (C : Nat → List xV → List xV → Prop) (Rt : Option xV → Prop) (Th : Nat → Prop) (z : Prop) : xop mi pc .iaload lv (.inl x :: .inr (.inl (some a)) :: st) ph g K C Rt Th z = K (pc + 1) lv (.inl (hRd ph a n) :: st) ph := by
  subst hx; exact hIald hs ht (by omega) (by omega) K C Rt Th z
theorem hCaldN (hs : hSh zs ph) (ht : hTg a = 101) (hx : x = (n : Int)) (h1 : n < hSz a) (K : Nat → xL → List xV → xH → Prop) (C : Nat → List xV → List xV → Prop) (Rt : Option xV → Prop) (Th : Nat → Prop) (z : Prop) : xop mi pc .caload lv (.inl x :: .inr (.inl (some a)) :: st) ph g K C Rt Th z = K (pc + 1) lv (.inl (hRd ph a n) :: st) ph := by
  subst hx; exact hCald hs ht (by omega) (by omega) K C Rt Th z
theorem hAaldN (hs : hSh zs ph) (ht : hTg a = 103) (hx : x = (n : Int)) (h1 : n < hSz a) (K : Nat → xL → List xV → xH → Prop) (C : Nat → List xV → List xV → Prop) (Rt : Option xV → Prop) (Th : Nat → Prop) (z : Prop) : xop mi pc .aaload lv (.inl x :: .inr (.inl (some a)) :: st) ph g K C Rt Th z = K (pc + 1) lv (.inr (.inl (some (hRs ph a n))) :: st) ph := by
  subst hx; exact hAald hs ht (by omega) (by omega) K C Rt Th z
theorem hIastN (hs : hSh zs ph) (ht : hTg a = 100) (hx : x = (n : Int)) (h1 : n < hSz a) (K : Nat → xL → List xV → xH → Prop) (C : Nat → List xV → List xV → Prop) (Rt : Option xV → Prop) (Th : Nat → Prop) (z : Prop) : xop mi pc .iastore lv (.inl y :: .inl x :: .inr (.inl (some a)) :: st) ph g K C Rt Th z = K (pc + 1) lv st (hUp ph a n y) := by
  subst hx; exact hIast hs ht (by omega) (by omega) K C Rt Th z
theorem hCastN (hs : hSh zs ph) (ht : hTg a = 101) (hx : x = (n : Int)) (h1 : n < hSz a) (hy : 0 ≤ y ∧ y ≤ 65535) (K : Nat → xL → List xV → xH → Prop) (C : Nat → List xV → List xV → Prop) (Rt : Option xV → Prop) (Th : Nat → Prop) (z : Prop) : xop mi pc .castore lv (.inl y :: .inl x :: .inr (.inl (some a)) :: st) ph g K C Rt Th z = K (pc + 1) lv st (hUp ph a n y) := by
  subst hx; exact hCast hs ht (by omega) (by omega) hy K C Rt Th z
theorem hAastN (hs : hSh zs ph) (ht : hTg a = 103) (hv : hTg v = 6) (hx : x = (n : Int)) (h1 : n < hSz a) (K : Nat → xL → List xV → xH → Prop) (C : Nat → List xV → List xV → Prop) (Rt : Option xV → Prop) (Th : Nat → Prop) (z : Prop) : xop mi pc .aastore lv (.inr (.inl (some v)) :: .inl x :: .inr (.inl (some a)) :: st) ph g K C Rt Th z = K (pc + 1) lv st (hUs ph a n v) := by
  subst hx; exact hAast hs ht hv (by omega) (by omega) K C Rt Th z
end HNN
theorem hShI1 {zs : List xV} {ph : xH} {a k t : Nat} (x : Int) (hs : hSh zs ph) (ht : hTg a = t) (hk : hKd t k = 0) : hSh zs (hUp ph a k x) := hShI x hs (by rw [ht]; exact hk)
theorem hShC1 {zs : List xV} {ph : xH} {a k t : Nat} (x : Int) (hs : hSh zs ph) (ht : hTg a = t) (hk : hKd t k = 6) (hx : 0 ≤ x ∧ x ≤ 65535) : hSh zs (hUp ph a k x) := hShC x hs (by rw [ht]; exact hk) hx
theorem hShL1 {zs : List xV} {ph : xH} {a k t : Nat} (x : Int64) (hs : hSh zs ph) (ht : hTg a = t) (hk : hKd t k = 3) : hSh zs (hUl ph a k x) := hShL x hs (by rw [ht]; exact hk)
theorem hShS1 {zs : List xV} {ph : xH} {a k t : Nat} (x : Nat) (hs : hSh zs ph) (ht : hTg a = t) (hk : hKd t k = 4) (hx : hTg x = 6) : hSh zs (hUs ph a k x) := hShS hs (by rw [ht]; exact hk) hx
theorem hAlen1 {mi pc g : Nat} {lv : xL} {st : List xV} {ph : xH} {zs : List xV} {a t : Nat} (hs : hSh zs ph) (ht : hTg a = t) (h1 : 100 ≤ t) (h2 : t < 104) (K : Nat → xL → List xV → xH → Prop) (C : Nat → List xV → List xV → Prop) (Rt : Option xV → Prop) (Th : Nat → Prop) (z : Prop) : xop mi pc .arraylength lv (.inr (.inl (some a)) :: st) ph g K C Rt Th z = K (pc + 1) lv (.inl (hSz a : Int) :: st) ph := hAlen hs (by omega) (by omega) K C Rt Th z
/-! ===== what stands beside what ===== -/
theorem hrf_8_1 {a : Nat} (h : hTg a = 8) : hRf a 1 = some (a + 1) := by unfold hRf; rw [h]; rfl
theorem htg_8_1 {a : Nat} (h : hTg a = 8) : hTg (a + 1) = 101 := of_decide_eq_true (hTg_all (fun a => decide (hTg a = 8 → hTg (a + 1) = 101)) (by decide +kernel) (hTg_in (by omega : hTg a < 104)).2) h
theorem hrf_8_2 {a : Nat} (h : hTg a = 8) : hRf a 2 = some (a + 2) := by unfold hRf; rw [h]; rfl
theorem htg_8_2 {a : Nat} (h : hTg a = 8) : hTg (a + 2) = 100 := of_decide_eq_true (hTg_all (fun a => decide (hTg a = 8 → hTg (a + 2) = 100)) (by decide +kernel) (hTg_in (by omega : hTg a < 104)).2) h
theorem hrf_7_2 {a : Nat} (h : hTg a = 7) : hRf a 2 = some (a + 1) := by unfold hRf; rw [h]; rfl
theorem htg_7_2 {a : Nat} (h : hTg a = 7) : hTg (a + 1) = 100 := of_decide_eq_true (hTg_all (fun a => decide (hTg a = 7 → hTg (a + 1) = 100)) (by decide +kernel) (hTg_in (by omega : hTg a < 104)).2) h
theorem hrf_7_3 {a : Nat} (h : hTg a = 7) : hRf a 3 = some (a + 2) := by unfold hRf; rw [h]; rfl
theorem htg_7_3 {a : Nat} (h : hTg a = 7) : hTg (a + 2) = 100 := of_decide_eq_true (hTg_all (fun a => decide (hTg a = 7 → hTg (a + 2) = 100)) (by decide +kernel) (hTg_in (by omega : hTg a < 104)).2) h
theorem hrf_7_4 {a : Nat} (h : hTg a = 7) : hRf a 4 = some (a + 3) := by unfold hRf; rw [h]; rfl
theorem htg_7_4 {a : Nat} (h : hTg a = 7) : hTg (a + 3) = 100 := of_decide_eq_true (hTg_all (fun a => decide (hTg a = 7 → hTg (a + 3) = 100)) (by decide +kernel) (hTg_in (by omega : hTg a < 104)).2) h
theorem hrf_7_5 {a : Nat} (h : hTg a = 7) : hRf a 5 = some (a + 4) := by unfold hRf; rw [h]; rfl
theorem htg_7_5 {a : Nat} (h : hTg a = 7) : hTg (a + 4) = 100 := of_decide_eq_true (hTg_all (fun a => decide (hTg a = 7 → hTg (a + 4) = 100)) (by decide +kernel) (hTg_in (by omega : hTg a < 104)).2) h
theorem hrf_7_6 {a : Nat} (h : hTg a = 7) : hRf a 6 = some (a + 5) := by unfold hRf; rw [h]; rfl
theorem htg_7_6 {a : Nat} (h : hTg a = 7) : hTg (a + 5) = 100 := of_decide_eq_true (hTg_all (fun a => decide (hTg a = 7 → hTg (a + 5) = 100)) (by decide +kernel) (hTg_in (by omega : hTg a < 104)).2) h
theorem hrf_7_7 {a : Nat} (h : hTg a = 7) : hRf a 7 = some (a + 6) := by unfold hRf; rw [h]; rfl
theorem htg_7_7 {a : Nat} (h : hTg a = 7) : hTg (a + 6) = 100 := of_decide_eq_true (hTg_all (fun a => decide (hTg a = 7 → hTg (a + 6) = 100)) (by decide +kernel) (hTg_in (by omega : hTg a < 104)).2) h
theorem hrf_3_0 {a : Nat} (h : hTg a = 3) : hRf a 0 = some (a + 1) := by unfold hRf; rw [h]; rfl
theorem htg_3_0 {a : Nat} (h : hTg a = 3) : hTg (a + 1) = 8 := of_decide_eq_true (hTg_all (fun a => decide (hTg a = 3 → hTg (a + 1) = 8)) (by decide +kernel) (hTg_in (by omega : hTg a < 104)).2) h
theorem hrf_3_1 {a : Nat} (h : hTg a = 3) : hRf a 1 = some (a + 4) := by unfold hRf; rw [h]; rfl
theorem htg_3_1 {a : Nat} (h : hTg a = 3) : hTg (a + 4) = 100 := of_decide_eq_true (hTg_all (fun a => decide (hTg a = 3 → hTg (a + 4) = 100)) (by decide +kernel) (hTg_in (by omega : hTg a < 104)).2) h
theorem hrf_6_0 {a : Nat} (h : hTg a = 6) : hRf a 0 = some (a + 1) := by unfold hRf; rw [h]; rfl
theorem htg_6_0 {a : Nat} (h : hTg a = 6) : hTg (a + 1) = 8 := of_decide_eq_true (hTg_all (fun a => decide (hTg a = 6 → hTg (a + 1) = 8)) (by decide +kernel) (hTg_in (by omega : hTg a < 104)).2) h
theorem hrf_6_1 {a : Nat} (h : hTg a = 6) : hRf a 1 = some (a + 4) := by unfold hRf; rw [h]; rfl
theorem htg_6_1 {a : Nat} (h : hTg a = 6) : hTg (a + 4) = 3 := of_decide_eq_true (hTg_all (fun a => decide (hTg a = 6 → hTg (a + 4) = 3)) (by decide +kernel) (hTg_in (by omega : hTg a < 104)).2) h
theorem hTx_sz {a : Nat} (h : hTg a = 8) : hSz (a + 1) = hRw a * hWd a ∧ hSz (a + 2) = hRw a ∧ hRw a ≤ 410 ∧ 0 < hRw a ∧ hWd a ≤ 200 ∧ 0 < hWd a ∧ hRw a * hWd a ≤ 9840 := of_decide_eq_true (hTg_all (fun a => decide (hTg a = 8 → hSz (a + 1) = hRw a * hWd a ∧ hSz (a + 2) = hRw a ∧ hRw a ≤ 410 ∧ 0 < hRw a ∧ hWd a ≤ 200 ∧ 0 < hWd a ∧ hRw a * hWd a ≤ 9840)) (by decide +kernel) (hTg_in (by omega : hTg a < 104)).2) h
theorem hCs_8 {a : Nat} (h : hTg a = 8) : hCs a = (hWd a : Int) := by unfold hCs; rw [if_pos h]
theorem hTp_sz {a : Nat} (h : hTg a = 7) : hSz (a + 1) = 60 ∧ hSz (a + 2) = 60 ∧ hSz (a + 3) = 60 ∧ hSz (a + 4) = 60 ∧ hSz (a + 5) = 60 ∧ hSz (a + 6) = 60 := of_decide_eq_true (hTg_all (fun a => decide (hTg a = 7 → hSz (a + 1) = 60 ∧ hSz (a + 2) = 60 ∧ hSz (a + 3) = 60 ∧ hSz (a + 4) = 60 ∧ hSz (a + 5) = 60 ∧ hSz (a + 6) = 60)) (by decide +kernel) (hTg_in (by omega : hTg a < 104)).2) h
theorem hCs_7 {a : Nat} (h : hTg a = 7) : hCs a = (hLv a : Int) := by unfold hCs; rw [if_neg (by omega)]
theorem hOc_sz {a : Nat} (h : hTg a = 3) : hSz (a + 4) = 5 ∧ hWd (a + 1) = 200 ∧ hRw (a + 1) = 1 := of_decide_eq_true (hTg_all (fun a => decide (hTg a = 3 → hSz (a + 4) = 5 ∧ hWd (a + 1) = 200 ∧ hRw (a + 1) = 1)) (by decide +kernel) (hTg_in (by omega : hTg a < 104)).2) h
theorem hSt_sz {a : Nat} (h : hTg a = 6) : hWd (a + 1) = 24 ∧ hRw (a + 1) = 8 := of_decide_eq_true (hTg_all (fun a => decide (hTg a = 6 → hWd (a + 1) = 24 ∧ hRw (a + 1) = 8)) (by decide +kernel) (hTg_in (by omega : hTg a < 104)).2) h
section HBR
variable {d mi pc pc' : Nat} {lv : xL} {st : List xV} {ph : xH} {g : Nat} {Q : xR → Prop} {l : List (Nat × Instr)} {x y off : Int}
theorem tIf_eq (hc : xcode[mi]? = some l) (hf : xfind l pc = some (.ifCond .eq off)) (hp : xpc pc off = pc') (h1 : x = 0 → xT d mi pc' lv st ph g Q) (h2 : ¬ x = 0 → xT d mi (pc + 3) lv st ph g Q) : xT d mi pc lv (.inl x :: st) ph g Q := by
  have hf' : xfetch mi pc = some (.ifCond .eq off) := by unfold xfetch; rw [hc]; exact hf
  rw [xT_op hf']
  simp only [xop, xcmp, hp]
  by_cases h : x = 0
  · rw [if_pos h]; exact h1 h
  · rw [if_neg h]; exact h2 h
theorem tIc_eq (hc : xcode[mi]? = some l) (hf : xfind l pc = some (.if_icmp .eq off)) (hp : xpc pc off = pc') (h1 : x = y → xT d mi pc' lv st ph g Q) (h2 : ¬ x = y → xT d mi (pc + 3) lv st ph g Q) : xT d mi pc lv (.inl y :: .inl x :: st) ph g Q := by
  have hf' : xfetch mi pc = some (.if_icmp .eq off) := by unfold xfetch; rw [hc]; exact hf
  rw [xT_op hf']
  simp only [xop, xcmp, hp]
  by_cases h : x = y
  · rw [if_pos h]; exact h1 h
  · rw [if_neg h]; exact h2 h
theorem tIf_ne (hc : xcode[mi]? = some l) (hf : xfind l pc = some (.ifCond .ne off)) (hp : xpc pc off = pc') (h1 : x = 0 → xT d mi (pc + 3) lv st ph g Q) (h2 : ¬ x = 0 → xT d mi pc' lv st ph g Q) : xT d mi pc lv (.inl x :: st) ph g Q := by
  have hf' : xfetch mi pc = some (.ifCond .ne off) := by unfold xfetch; rw [hc]; exact hf
  rw [xT_op hf']
  simp only [xop, xcmp, hp]
  by_cases h : x = 0
  · rw [if_pos h]; exact h1 h
  · rw [if_neg h]; exact h2 h
theorem tIc_ne (hc : xcode[mi]? = some l) (hf : xfind l pc = some (.if_icmp .ne off)) (hp : xpc pc off = pc') (h1 : x = y → xT d mi (pc + 3) lv st ph g Q) (h2 : ¬ x = y → xT d mi pc' lv st ph g Q) : xT d mi pc lv (.inl y :: .inl x :: st) ph g Q := by
  have hf' : xfetch mi pc = some (.if_icmp .ne off) := by unfold xfetch; rw [hc]; exact hf
  rw [xT_op hf']
  simp only [xop, xcmp, hp]
  by_cases h : x = y
  · rw [if_pos h]; exact h1 h
  · rw [if_neg h]; exact h2 h
theorem tIf_lt (hc : xcode[mi]? = some l) (hf : xfind l pc = some (.ifCond .lt off)) (hp : xpc pc off = pc') (h1 : x < 0 → xT d mi pc' lv st ph g Q) (h2 : ¬ x < 0 → xT d mi (pc + 3) lv st ph g Q) : xT d mi pc lv (.inl x :: st) ph g Q := by
  have hf' : xfetch mi pc = some (.ifCond .lt off) := by unfold xfetch; rw [hc]; exact hf
  rw [xT_op hf']
  simp only [xop, xcmp, hp]
  by_cases h : x < 0
  · rw [if_pos h]; exact h1 h
  · rw [if_neg h]; exact h2 h
theorem tIc_lt (hc : xcode[mi]? = some l) (hf : xfind l pc = some (.if_icmp .lt off)) (hp : xpc pc off = pc') (h1 : x < y → xT d mi pc' lv st ph g Q) (h2 : ¬ x < y → xT d mi (pc + 3) lv st ph g Q) : xT d mi pc lv (.inl y :: .inl x :: st) ph g Q := by
  have hf' : xfetch mi pc = some (.if_icmp .lt off) := by unfold xfetch; rw [hc]; exact hf
  rw [xT_op hf']
  simp only [xop, xcmp, hp]
  by_cases h : x < y
  · rw [if_pos h]; exact h1 h
  · rw [if_neg h]; exact h2 h
theorem tIf_ge (hc : xcode[mi]? = some l) (hf : xfind l pc = some (.ifCond .ge off)) (hp : xpc pc off = pc') (h1 : x < 0 → xT d mi (pc + 3) lv st ph g Q) (h2 : ¬ x < 0 → xT d mi pc' lv st ph g Q) : xT d mi pc lv (.inl x :: st) ph g Q := by
  have hf' : xfetch mi pc = some (.ifCond .ge off) := by unfold xfetch; rw [hc]; exact hf
  rw [xT_op hf']
  simp only [xop, xcmp, hp]
  by_cases h : x < 0
  · rw [if_pos h]; exact h1 h
  · rw [if_neg h]; exact h2 h
theorem tIc_ge (hc : xcode[mi]? = some l) (hf : xfind l pc = some (.if_icmp .ge off)) (hp : xpc pc off = pc') (h1 : x < y → xT d mi (pc + 3) lv st ph g Q) (h2 : ¬ x < y → xT d mi pc' lv st ph g Q) : xT d mi pc lv (.inl y :: .inl x :: st) ph g Q := by
  have hf' : xfetch mi pc = some (.if_icmp .ge off) := by unfold xfetch; rw [hc]; exact hf
  rw [xT_op hf']
  simp only [xop, xcmp, hp]
  by_cases h : x < y
  · rw [if_pos h]; exact h1 h
  · rw [if_neg h]; exact h2 h
theorem tIf_gt (hc : xcode[mi]? = some l) (hf : xfind l pc = some (.ifCond .gt off)) (hp : xpc pc off = pc') (h1 : 0 < x → xT d mi pc' lv st ph g Q) (h2 : ¬ 0 < x → xT d mi (pc + 3) lv st ph g Q) : xT d mi pc lv (.inl x :: st) ph g Q := by
  have hf' : xfetch mi pc = some (.ifCond .gt off) := by unfold xfetch; rw [hc]; exact hf
  rw [xT_op hf']
  simp only [xop, xcmp, hp]
  by_cases h : 0 < x
  · rw [if_pos h]; exact h1 h
  · rw [if_neg h]; exact h2 h
theorem tIc_gt (hc : xcode[mi]? = some l) (hf : xfind l pc = some (.if_icmp .gt off)) (hp : xpc pc off = pc') (h1 : y < x → xT d mi pc' lv st ph g Q) (h2 : ¬ y < x → xT d mi (pc + 3) lv st ph g Q) : xT d mi pc lv (.inl y :: .inl x :: st) ph g Q := by
  have hf' : xfetch mi pc = some (.if_icmp .gt off) := by unfold xfetch; rw [hc]; exact hf
  rw [xT_op hf']
  simp only [xop, xcmp, hp]
  by_cases h : y < x
  · rw [if_pos h]; exact h1 h
  · rw [if_neg h]; exact h2 h
theorem tIf_le (hc : xcode[mi]? = some l) (hf : xfind l pc = some (.ifCond .le off)) (hp : xpc pc off = pc') (h1 : 0 < x → xT d mi (pc + 3) lv st ph g Q) (h2 : ¬ 0 < x → xT d mi pc' lv st ph g Q) : xT d mi pc lv (.inl x :: st) ph g Q := by
  have hf' : xfetch mi pc = some (.ifCond .le off) := by unfold xfetch; rw [hc]; exact hf
  rw [xT_op hf']
  simp only [xop, xcmp, hp]
  by_cases h : 0 < x
  · rw [if_pos h]; exact h1 h
  · rw [if_neg h]; exact h2 h
theorem tIc_le (hc : xcode[mi]? = some l) (hf : xfind l pc = some (.if_icmp .le off)) (hp : xpc pc off = pc') (h1 : y < x → xT d mi (pc + 3) lv st ph g Q) (h2 : ¬ y < x → xT d mi pc' lv st ph g Q) : xT d mi pc lv (.inl y :: .inl x :: st) ph g Q := by
  have hf' : xfetch mi pc = some (.if_icmp .le off) := by unfold xfetch; rw [hc]; exact hf
  rw [xT_op hf']
  simp only [xop, xcmp, hp]
  by_cases h : y < x
  · rw [if_pos h]; exact h1 h
  · rw [if_neg h]; exact h2 h
end HBR
