/-! ===== outcomes and states ===== -/
abbrev OC : Type := List Int × Int × List Int × Int × Int × Int × Int
abbrev SS : Type := (Nat → Option (List Int)) × OC × Int × Int × Int
def hOc (ph : xH) (o : Nat) (c : OC) : Prop := hTW ph (o + 1) ∧ hTo ph (o + 1) 0 = some c.1 ∧ hRd ph o 2 = (c.2.2.1.length : Int) ∧ c.2.2.1.length ≤ 5 ∧ (∀ (k : Nat) (x : Int), c.2.2.1[k]? = some x → hRd ph (o + 4) k = x) ∧ hRd ph o 3 = c.2.1 ∧ hRd ph o 4 = c.2.2.2.1 ∧ hRd ph o 5 = c.2.2.2.2.1 ∧ hRd ph o 6 = c.2.2.2.2.2.1 ∧ hRd ph o 7 = c.2.2.2.2.2.2
def hSt (ph : xH) (s : Nat) (c : SS) : Prop := hTW ph (s + 1) ∧ (∀ n, n < 8 → hTo ph (s + 1) n = c.1 n) ∧ hOc ph (s + 4) c.2.1 ∧ hRd ph s 2 = c.2.2.1 ∧ hRd ph s 3 = c.2.2.2.1 ∧ hRd ph s 4 = c.2.2.2.2
theorem hOc_all {o : Nat} (h : hTg o = 3) : o = 44 ∨ o = 77 ∨ o = 86 ∨ o = 97 ∨ o = 106 ∨ o = 115 ∨ o = 124 ∨ o = 133 ∨ o = 142 := by
  have h1 := hTg_all (fun a => decide (hTg a = 3 → a ∈ [44, 77, 86, 97, 106, 115, 124, 133, 142])) (by decide +kernel) (hTg_in (by omega : hTg o < 104)).2
  have h2 := of_decide_eq_true h1 h
  simpa only [List.mem_cons, List.not_mem_nil, or_false] using h2
theorem hSt_all {o : Nat} (h : hTg o = 6) : o = 73 ∨ o = 82 ∨ o = 93 ∨ o = 102 ∨ o = 111 ∨ o = 120 ∨ o = 129 ∨ o = 138 := by
  have h1 := hTg_all (fun a => decide (hTg a = 6 → a ∈ [73, 82, 93, 102, 111, 120, 129, 138])) (by decide +kernel) (hTg_in (by omega : hTg o < 104)).2
  have h2 := of_decide_eq_true h1 h
  simpa only [List.mem_cons, List.not_mem_nil, or_false] using h2
def oS (o : Nat) : List Nat := [o, o + 2, o + 3, o + 4]
def sS (s : Nat) : List Nat := [s, s + 2, s + 3, s + 4, s + 6, s + 7, s + 8]
theorem hOc.eq {ph ph2 : xH} {o : Nat} {c : OC} (h : hOc ph o c) (hf : ∀ a k, a = o ∨ a = o + 2 ∨ a = o + 3 ∨ a = o + 4 → hRd ph2 a k = hRd ph a k) : hOc ph2 o c := by
  obtain ⟨h1, h2, h3, h4, h5, h6, h7, h8, h9, h10⟩ := h
  refine ⟨fun r hr => by rw [hf _ _ (by omega)]; exact h1 r hr, ?_, by rw [hf _ _ (by omega)]; exact h3, h4, fun k x hx => by rw [hf _ _ (by omega)]; exact h5 k x hx, by rw [hf _ _ (by omega)]; exact h6, by rw [hf _ _ (by omega)]; exact h7, by rw [hf _ _ (by omega)]; exact h8, by rw [hf _ _ (by omega)]; exact h9, by rw [hf _ _ (by omega)]; exact h10⟩
  rw [hTo_eq (fun k => hf _ _ (by omega)) (hf _ _ (by omega))]
  exact h2
theorem hSt.eq {ph ph2 : xH} {s : Nat} {c : SS} (h : hSt ph s c) (hf : ∀ a k, s ≤ a → a ≤ s + 8 → hRd ph2 a k = hRd ph a k) : hSt ph2 s c := by
  obtain ⟨h1, h2, h3, h4, h5, h6⟩ := h
  refine ⟨fun r hr => by rw [hf _ _ (by omega) (by omega)]; exact h1 r hr, fun n hn => ?_, h3.eq (fun a k ha => hf a k (by omega) (by omega)), by rw [hf _ _ (by omega) (by omega)]; exact h4, by rw [hf _ _ (by omega) (by omega)]; exact h5, by rw [hf _ _ (by omega) (by omega)]; exact h6⟩
  rw [hTo_eq (fun k => hf _ _ (by omega) (by omega)) (hf _ _ (by omega) (by omega))]
  exact h2 n hn
theorem hFr.at {S : List Nat} {ph ph2 : xH} (h : hFr S ph ph2) {a : Nat} (ha : a ∉ S) (k : Nat) : hRd ph2 a k = hRd ph a k := h.1 a k ha
section STS
variable {d : Nat} {ph : xH} {zs : List xV} {g : Nat} {Q : xR → Prop} {o f s q : Nat}
theorem s27 {c : OC} (hs : hSh zs ph) (ho : hTg o = 3) (hf : hTg f = 3) (hne : o ≠ f) (hw : hTW ph (o + 1)) (h : hOc ph f c) (hQ : ∀ ph2, hSh zs ph2 → hOc ph2 o c → hFr (oS o) ph ph2 → Q (.inl none, ph2, g)) : xTC (d + 3) 27 [.inr (.inl (some o)), .inr (.inl (some f))] ph g Q := by
  have hz := hOc_sz ho
  have hzf := hOc_sz hf
  have szo : hSz o = 8 := by rw [hSz_c ho (by decide)]; rfl
  have t1 := htg_3_0 ho
  have t2 := htg_3_0 hf
  have t4 := htg_3_1 ho
  have t5 := htg_3_1 hf
  have hap : o + 5 ≤ f ∨ f + 5 ≤ o := by
    have k1 := hOc_all ho
    have k2 := hOc_all hf
    omega
  have n1 : ∀ a, f ≤ a → a ≤ f + 4 → a ∉ oS o := fun a h1 h2 => by simp only [oS, List.mem_cons, List.not_mem_nil, or_false]; omega
  refine tEn (ls := [some (.inr (.inl (some o))), some (.inr (.inl (some f))), none]) (fun k => by match k with | 0 => rfl | 1 => rfl | 2 => rfl | k + 3 => rfl) ?_
  refine tK (l := xk_27) rfl rfl (fun _ _ _ _ _ => rfl) ?_
  refine tK (l := xk_27) rfl rfl (hGetR (o := some (o + 1)) hs rfl ho rfl (by decide) (by decide) (hrf_3_0 ho)) ?_
  refine tK (l := xk_27) rfl rfl (fun _ _ _ _ _ => rfl) ?_
  refine tK (l := xk_27) rfl rfl (hGetR (o := some (f + 1)) hs rfl hf rfl (by decide) (by decide) (hrf_3_0 hf)) ?_
  refine tCa (l := xk_27) rfl rfl (hInvV (c := 8) hs rfl rfl rfl (htg_3_0 ho) rfl (Nat.le_of_ble_eq_true rfl) (Nat.le_of_ble_eq_true rfl)) ?_
  refine s77 hs t1 t2 (by omega) hw h.1 (by rw [hz.2.2, hzf.2.2]) (by rw [hz.2.1, hzf.2.1]) (fun ph1 hs1 fr1 hw1 ho1 => ?_)
  refine tKn ?_
  refine tK (l := xk_27) rfl rfl (fun _ _ _ _ _ => rfl) ?_
  refine tSt (l := xk_27) rfl rfl (fun _ _ _ _ _ => rfl) (Nat.le_of_ble_eq_true rfl) ?_
  have fr1 : hFr (oS o) ph ph1 := fr1.mono (by intro x hx; simp only [oS, List.mem_cons, List.not_mem_nil, or_false] at hx ⊢; omega)
  have loop : ∀ (m i : Nat) (phi : xH), i + m = 5 → hSh zs phi → hFr [o + 4] ph1 phi → (∀ k, k < i → hRd phi (o + 4) k = hRd ph (f + 4) k) → xT (d + 3) 27 13 (xlo [some (.inr (.inl (some o))), some (.inr (.inl (some f))), some (.inl (i : Int))]) [] phi g Q := by
    intro m
    induction m with
    | zero =>
      intro i phi him hs fr2 hi
      have fr9 : hFr (oS o) ph phi := fr1.trans (fr2.mono (by intro x hx; simp only [oS, List.mem_cons, List.not_mem_nil, or_false] at hx ⊢; omega))
      have u1 : hSh zs (hUp phi o 2 (hRd ph f 2)) := hShI1 _ hs ho rfl
      have u2 : hSh zs (hUp (hUp phi o 2 (hRd ph f 2)) o 3 (hRd ph f 3)) := hShI1 _ u1 ho rfl
      have u3 : hSh zs (hUp (hUp (hUp phi o 2 (hRd ph f 2)) o 3 (hRd ph f 3)) o 4 (hRd ph f 4)) := hShI1 _ u2 ho rfl
      have u4 : hSh zs (hUp (hUp (hUp (hUp phi o 2 (hRd ph f 2)) o 3 (hRd ph f 3)) o 4 (hRd ph f 4)) o 5 (hRd ph f 5)) := hShI1 _ u3 ho rfl
      have u5 : hSh zs (hUp (hUp (hUp (hUp (hUp phi o 2 (hRd ph f 2)) o 3 (hRd ph f 3)) o 4 (hRd ph f 4)) o 5 (hRd ph f 5)) o 6 (hRd ph f 6)) := hShI1 _ u4 ho rfl
      have u6 : hSh zs (hUp (hUp (hUp (hUp (hUp (hUp phi o 2 (hRd ph f 2)) o 3 (hRd ph f 3)) o 4 (hRd ph f 4)) o 5 (hRd ph f 5)) o 6 (hRd ph f 6)) o 7 (hRd ph f 7)) := hShI1 _ u5 ho rfl
      have v2 : hRd phi f 2 = hRd ph f 2 := by rw [fr9.at (n1 f (by omega) (by omega)) 2]
      have v3 : hRd (hUp phi o 2 (hRd ph f 2)) f 3 = hRd ph f 3 := by rw [hRd_up hs (a := o) (k := 2) (x := (hRd ph f 2)) (by rw [ho]; rfl) (by omega), if_neg (by omega), fr9.at (n1 f (by omega) (by omega)) 3]
      have v4 : hRd (hUp (hUp phi o 2 (hRd ph f 2)) o 3 (hRd ph f 3)) f 4 = hRd ph f 4 := by rw [hRd_up u1 (a := o) (k := 3) (x := (hRd ph f 3)) (by rw [ho]; rfl) (by omega), if_neg (by omega), hRd_up hs (a := o) (k := 2) (x := (hRd ph f 2)) (by rw [ho]; rfl) (by omega), if_neg (by omega), fr9.at (n1 f (by omega) (by omega)) 4]
      have v5 : hRd (hUp (hUp (hUp phi o 2 (hRd ph f 2)) o 3 (hRd ph f 3)) o 4 (hRd ph f 4)) f 5 = hRd ph f 5 := by rw [hRd_up u2 (a := o) (k := 4) (x := (hRd ph f 4)) (by rw [ho]; rfl) (by omega), if_neg (by omega), hRd_up u1 (a := o) (k := 3) (x := (hRd ph f 3)) (by rw [ho]; rfl) (by omega), if_neg (by omega), hRd_up hs (a := o) (k := 2) (x := (hRd ph f 2)) (by rw [ho]; rfl) (by omega), if_neg (by omega), fr9.at (n1 f (by omega) (by omega)) 5]
      have v6 : hRd (hUp (hUp (hUp (hUp phi o 2 (hRd ph f 2)) o 3 (hRd ph f 3)) o 4 (hRd ph f 4)) o 5 (hRd ph f 5)) f 6 = hRd ph f 6 := by rw [hRd_up u3 (a := o) (k := 5) (x := (hRd ph f 5)) (by rw [ho]; rfl) (by omega), if_neg (by omega), hRd_up u2 (a := o) (k := 4) (x := (hRd ph f 4)) (by rw [ho]; rfl) (by omega), if_neg (by omega), hRd_up u1 (a := o) (k := 3) (x := (hRd ph f 3)) (by rw [ho]; rfl) (by omega), if_neg (by omega), hRd_up hs (a := o) (k := 2) (x := (hRd ph f 2)) (by rw [ho]; rfl) (by omega), if_neg (by omega), fr9.at (n1 f (by omega) (by omega)) 6]
      have v7 : hRd (hUp (hUp (hUp (hUp (hUp phi o 2 (hRd ph f 2)) o 3 (hRd ph f 3)) o 4 (hRd ph f 4)) o 5 (hRd ph f 5)) o 6 (hRd ph f 6)) f 7 = hRd ph f 7 := by rw [hRd_up u4 (a := o) (k := 6) (x := (hRd ph f 6)) (by rw [ho]; rfl) (by omega), if_neg (by omega), hRd_up u3 (a := o) (k := 5) (x := (hRd ph f 5)) (by rw [ho]; rfl) (by omega), if_neg (by omega), hRd_up u2 (a := o) (k := 4) (x := (hRd ph f 4)) (by rw [ho]; rfl) (by omega), if_neg (by omega), hRd_up u1 (a := o) (k := 3) (x := (hRd ph f 3)) (by rw [ho]; rfl) (by omega), if_neg (by omega), hRd_up hs (a := o) (k := 2) (x := (hRd ph f 2)) (by rw [ho]; rfl) (by omega), if_neg (by omega), fr9.at (n1 f (by omega) (by omega)) 7]
      have rd : ∀ b j, hRd (hUp (hUp (hUp (hUp (hUp (hUp phi o 2 (hRd ph f 2)) o 3 (hRd ph f 3)) o 4 (hRd ph f 4)) o 5 (hRd ph f 5)) o 6 (hRd ph f 6)) o 7 (hRd ph f 7)) b j = if b = o ∧ j = 7 then hRd ph f 7 else if b = o ∧ j = 6 then hRd ph f 6 else if b = o ∧ j = 5 then hRd ph f 5 else if b = o ∧ j = 4 then hRd ph f 4 else if b = o ∧ j = 3 then hRd ph f 3 else if b = o ∧ j = 2 then hRd ph f 2 else hRd phi b j := fun b j => by rw [hRd_up u5 (a := o) (k := 7) (x := (hRd ph f 7)) (by rw [ho]; rfl) (by omega), hRd_up u4 (a := o) (k := 6) (x := (hRd ph f 6)) (by rw [ho]; rfl) (by omega), hRd_up u3 (a := o) (k := 5) (x := (hRd ph f 5)) (by rw [ho]; rfl) (by omega), hRd_up u2 (a := o) (k := 4) (x := (hRd ph f 4)) (by rw [ho]; rfl) (by omega), hRd_up u1 (a := o) (k := 3) (x := (hRd ph f 3)) (by rw [ho]; rfl) (by omega), hRd_up hs (a := o) (k := 2) (x := (hRd ph f 2)) (by rw [ho]; rfl) (by omega)]
      have frt : hFr [o] phi (hUp (hUp (hUp (hUp (hUp (hUp phi o 2 (hRd ph f 2)) o 3 (hRd ph f 3)) o 4 (hRd ph f 4)) o 5 (hRd ph f 5)) o 6 (hRd ph f 6)) o 7 (hRd ph f 7)) := (((((hUp_fr (S := [o]) (a := o) (k := 2) (x := (hRd ph f 2)) hs (by rw [ho]; rfl) (by omega) (by simp)).trans (hUp_fr (S := [o]) (a := o) (k := 3) (x := (hRd ph f 3)) u1 (by rw [ho]; rfl) (by omega) (by simp))).trans (hUp_fr (S := [o]) (a := o) (k := 4) (x := (hRd ph f 4)) u2 (by rw [ho]; rfl) (by omega) (by simp))).trans (hUp_fr (S := [o]) (a := o) (k := 5) (x := (hRd ph f 5)) u3 (by rw [ho]; rfl) (by omega) (by simp))).trans (hUp_fr (S := [o]) (a := o) (k := 6) (x := (hRd ph f 6)) u4 (by rw [ho]; rfl) (by omega) (by simp))).trans (hUp_fr (S := [o]) (a := o) (k := 7) (x := (hRd ph f 7)) u5 (by rw [ho]; rfl) (by omega) (by simp))
      obtain ⟨c1, c2, c3, c4, c5, c6, c7, c8, c9, c10⟩ := h
      refine tK (l := xk_27) rfl rfl (fun _ _ _ _ _ => rfl) ?_
      refine tK (l := xk_27) rfl rfl (fun _ _ _ _ _ => rfl) ?_
      refine tK (l := xk_27) rfl rfl (hGetR (o := some (o + 4)) hs rfl ho rfl (by decide) (by decide) (hrf_3_1 ho)) ?_
      refine tK (l := xk_27) rfl rfl (hAlen1 hs (htg_3_1 ho) (by decide) (by decide)) ?_
      refine tIc_ge (l := xk_27) (pc' := 39) rfl rfl rfl (fun hc => ?_) (fun hc => ?_)
      · exfalso
        omega
      · refine tK (l := xk_27) rfl rfl (fun _ _ _ _ _ => rfl) ?_
        refine tK (l := xk_27) rfl rfl (fun _ _ _ _ _ => rfl) ?_
        refine tK (l := xk_27) rfl rfl (hGetI hs rfl hf rfl (by decide) (by decide)) ?_
        rw [v2]
        refine tK (l := xk_27) rfl rfl (hPutV hs rfl ho (by decide) (by decide) rfl) ?_
        refine tK (l := xk_27) rfl rfl (fun _ _ _ _ _ => rfl) ?_
        refine tK (l := xk_27) rfl rfl (fun _ _ _ _ _ => rfl) ?_
        refine tK (l := xk_27) rfl rfl (hGetI (hShI1 _ hs ho rfl) rfl hf rfl (by decide) (by decide)) ?_
        rw [v3]
        refine tK (l := xk_27) rfl rfl (hPutV (hShI1 _ hs ho rfl) rfl ho (by decide) (by decide) rfl) ?_
        refine tK (l := xk_27) rfl rfl (fun _ _ _ _ _ => rfl) ?_
        refine tK (l := xk_27) rfl rfl (fun _ _ _ _ _ => rfl) ?_
        refine tK (l := xk_27) rfl rfl (hGetI (hShI1 _ (hShI1 _ hs ho rfl) ho rfl) rfl hf rfl (by decide) (by decide)) ?_
        rw [v4]
        refine tK (l := xk_27) rfl rfl (hPutV (hShI1 _ (hShI1 _ hs ho rfl) ho rfl) rfl ho (by decide) (by decide) rfl) ?_
        refine tK (l := xk_27) rfl rfl (fun _ _ _ _ _ => rfl) ?_
        refine tK (l := xk_27) rfl rfl (fun _ _ _ _ _ => rfl) ?_
        refine tK (l := xk_27) rfl rfl (hGetI (hShI1 _ (hShI1 _ (hShI1 _ hs ho rfl) ho rfl) ho rfl) rfl hf rfl (by decide) (by decide)) ?_
        rw [v5]
        refine tK (l := xk_27) rfl rfl (hPutV (hShI1 _ (hShI1 _ (hShI1 _ hs ho rfl) ho rfl) ho rfl) rfl ho (by decide) (by decide) rfl) ?_
        refine tK (l := xk_27) rfl rfl (fun _ _ _ _ _ => rfl) ?_
        refine tK (l := xk_27) rfl rfl (fun _ _ _ _ _ => rfl) ?_
        refine tK (l := xk_27) rfl rfl (hGetI (hShI1 _ (hShI1 _ (hShI1 _ (hShI1 _ hs ho rfl) ho rfl) ho rfl) ho rfl) rfl hf rfl (by decide) (by decide)) ?_
        rw [v6]
        refine tK (l := xk_27) rfl rfl (hPutV (hShI1 _ (hShI1 _ (hShI1 _ (hShI1 _ hs ho rfl) ho rfl) ho rfl) ho rfl) rfl ho (by decide) (by decide) rfl) ?_
        refine tK (l := xk_27) rfl rfl (fun _ _ _ _ _ => rfl) ?_
        refine tK (l := xk_27) rfl rfl (fun _ _ _ _ _ => rfl) ?_
        refine tK (l := xk_27) rfl rfl (hGetI (hShI1 _ (hShI1 _ (hShI1 _ (hShI1 _ (hShI1 _ hs ho rfl) ho rfl) ho rfl) ho rfl) ho rfl) rfl hf rfl (by decide) (by decide)) ?_
        rw [v7]
        refine tK (l := xk_27) rfl rfl (hPutV (hShI1 _ (hShI1 _ (hShI1 _ (hShI1 _ (hShI1 _ hs ho rfl) ho rfl) ho rfl) ho rfl) ho rfl) rfl ho (by decide) (by decide) rfl) ?_
        refine tRt (l := xk_27) rfl rfl (fun _ _ _ _ _ => rfl) ?_
        have frA : hFr [o, o + 4] ph1 (hUp (hUp (hUp (hUp (hUp (hUp phi o 2 (hRd ph f 2)) o 3 (hRd ph f 3)) o 4 (hRd ph f 4)) o 5 (hRd ph f 5)) o 6 (hRd ph f 6)) o 7 (hRd ph f 7)) := (fr2.mono (by intro x hx; simp only [List.mem_cons, List.not_mem_nil, or_false] at hx ⊢; omega)).trans (frt.mono (by intro x hx; simp only [List.mem_cons, List.not_mem_nil, or_false] at hx ⊢; omega))
        have z2 : o + 1 + 1 ∉ [o, o + 4] := by simp only [List.mem_cons, List.not_mem_nil, or_false]; omega
        have z3 : o + 1 + 2 ∉ [o, o + 4] := by simp only [List.mem_cons, List.not_mem_nil, or_false]; omega
        refine hQ _ u6 ⟨frA.tw z3 hw1, by rw [frA.to z2 z3, ho1 0 (by omega)]; exact c2, by rw [rd, if_neg (by omega), if_neg (by omega), if_neg (by omega), if_neg (by omega), if_neg (by omega), if_pos ⟨rfl, rfl⟩]; exact c3, c4, fun k x hx => ?_, by rw [rd, if_neg (by omega), if_neg (by omega), if_neg (by omega), if_neg (by omega), if_pos ⟨rfl, rfl⟩]; exact c6, by rw [rd, if_neg (by omega), if_neg (by omega), if_neg (by omega), if_pos ⟨rfl, rfl⟩]; exact c7, by rw [rd, if_neg (by omega), if_neg (by omega), if_pos ⟨rfl, rfl⟩]; exact c8, by rw [rd, if_neg (by omega), if_pos ⟨rfl, rfl⟩]; exact c9, by rw [rd, if_pos ⟨rfl, rfl⟩]; exact c10⟩ (fr9.trans (frt.mono (by intro x hx; simp only [oS, List.mem_cons, List.not_mem_nil, or_false] at hx ⊢; omega)))
        have hk := (List.getElem?_eq_some_iff.mp hx).1
        rw [rd, if_neg (by omega), if_neg (by omega), if_neg (by omega), if_neg (by omega), if_neg (by omega), if_neg (by omega), hi k (by omega)]
        exact c5 k x hx
    | succ m ih =>
      intro i phi him hs fr2 hi
      have fr9 : hFr (oS o) ph phi := fr1.trans (fr2.mono (by intro x hx; simp only [oS, List.mem_cons, List.not_mem_nil, or_false] at hx ⊢; omega))
      refine tK (l := xk_27) rfl rfl (fun _ _ _ _ _ => rfl) ?_
      refine tK (l := xk_27) rfl rfl (fun _ _ _ _ _ => rfl) ?_
      refine tK (l := xk_27) rfl rfl (hGetR (o := some (o + 4)) hs rfl ho rfl (by decide) (by decide) (hrf_3_1 ho)) ?_
      refine tK (l := xk_27) rfl rfl (hAlen1 hs (htg_3_1 ho) (by decide) (by decide)) ?_
      refine tIc_ge (l := xk_27) (pc' := 39) rfl rfl rfl (fun hc => ?_) (fun hc => ?_)
      · refine tK (l := xk_27) rfl rfl (fun _ _ _ _ _ => rfl) ?_
        refine tK (l := xk_27) rfl rfl (hGetR (o := some (o + 4)) hs rfl ho rfl (by decide) (by decide) (hrf_3_1 ho)) ?_
        refine tK (l := xk_27) rfl rfl (fun _ _ _ _ _ => rfl) ?_
        refine tK (l := xk_27) rfl rfl (fun _ _ _ _ _ => rfl) ?_
        refine tK (l := xk_27) rfl rfl (fun _ _ _ _ _ => rfl) ?_
        refine tCa (l := xk_27) rfl rfl (hInvV (c := 3) hs rfl rfl rfl hf rfl (Nat.le_of_ble_eq_true rfl) (Nat.le_of_ble_eq_true rfl)) ?_
        refine s28 hs hf (by omega) ?_
        refine tKv ?_
        first | refine tK (l := xk_27) rfl rfl (hIastN hs (htg_3_1 ho) rfl (by omega)) ?_ | refine tK (l := xk_27) rfl rfl (hIast hs (htg_3_1 ho) (by omega) (by omega)) ?_
        refine tSt (l := xk_27) rfl rfl (hIinc rfl (Nat.le_of_ble_eq_true rfl) ⟨by omega, by omega⟩) (Nat.le_of_ble_eq_true rfl) ?_
        refine tK (l := xk_27) rfl rfl (fun _ _ _ _ _ => rfl) ?_
        have hk4 : hKi (hTg (o + 4)) i = true := by rw [t4]; rfl
        refine ih (i + 1) _ (by omega) (hShI1 _ hs (htg_3_1 ho) rfl) (fr2.trans (hUp_fr hs hk4 (by omega) (by simp))) (fun k hk => ?_)
        rw [hRd_up hs hk4 (by omega)]
        by_cases e : k = i
        · rw [if_pos ⟨rfl, e⟩, e]; exact fr9.at (n1 (f + 4) (by omega) (by omega)) i
        · rw [if_neg (by omega)]; exact hi k (by omega)
      · exfalso
        omega
  exact loop 5 0 ph1 rfl hs1 hFr.refl (fun k hk => absurd hk (by omega))
end STS
