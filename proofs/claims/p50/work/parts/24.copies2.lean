/-! ===== Template.readFrom; whole copies ===== -/
theorem hTp.eq {zs : List xV} {ph ph2 : xH} {T : Nat} {s : PSt} (h : hTp zs ph T s) (hs : hSh zs ph2) (hf : ∀ a k, ¬ (a = T ∧ 12 ≤ k) → hRd ph2 a k = hRd ph a k) : hTp zs ph2 T s := by
  obtain ⟨-, h8, h9, h10, h11, hA, hM, hO⟩ := h
  refine ⟨hs, by rw [hf _ _ (by omega)]; exact h8, by rw [hf _ _ (by omega)]; exact h9, by rw [hf _ _ (by omega)]; exact h10, by rw [hf _ _ (by omega)]; exact h11, fun i p hp => ?_, fun i p hp hk hl => ?_, hTpO_eq (fun r _ => hf _ _ (by omega)) hO⟩
  · rw [hf _ _ (by omega), hf _ _ (by omega), hf _ _ (by omega), hf _ _ (by omega)]
    exact hA i p hp
  · rw [hf _ _ (by omega)]
    exact hM i p hp hk hl
section CP2
variable {d : Nat} {ph : xH} {zs : List xV} {g : Nat} {Q : xR → Prop} {T t r : Nat}
theorem s52 {txt : List Int} (hs : hSh zs ph) (ht : hTg T = 7) (htt : hTg t = 8) (hw : hTW ph t) (hr : r < hRw t) (hto : hTo ph t r = some txt) (hl : txt.length ≤ 60) (hQ : ∀ ph2, hRes zs ph2 T txt → hFr (tS T) ph ph2 → Q (.inl none, ph2, g)) : xTC (d + 2) 52 [.inr (.inl (some T)), .inr (.inl (some t)), .inl (r : Int)] ph g Q := by
  obtain ⟨n1, n2⟩ := hTpt ht htt
  have hch := hTo_ch hs htt hto
  have sz : hSz T = 14 := by rw [hSz_c ht (by decide)]; rfl
  have loop : ∀ (l : List Int) (i : Nat) (s : PSt) (phi : xH), i + l.length = txt.length → txt.drop i = l → hTp zs phi T s → pIn i s → hRd phi T 13 = (txt.length : Int) → hRd phi T 12 = (txt.length : Int) → pAll i l s = pRes txt → hFr (tS T) ph phi → xT (d + 2) 52 39 (xlo [some (.inr (.inl (some T))), some (.inr (.inl (some t))), some (.inl (r : Int)), some (.inl (i : Int))]) [] phi g Q := by
    intro l
    induction l with
    | nil =>
      intro i s phi him hdr hP hin h13 h12 he hf
      have hs := hP.1
      have hi : i = txt.length := by simpa using him
      refine tK (l := xk_52) rfl rfl (fun _ _ _ _ _ => rfl) ?_
      refine tK (l := xk_52) rfl rfl (fun _ _ _ _ _ => rfl) ?_
      refine tK (l := xk_52) rfl rfl (hGetI hs rfl ht rfl (by decide) (by decide)) ?_
      refine tIc_ge (l := xk_52) (pc' := 73) rfl rfl rfl (fun hc => ?_) (fun hc => ?_)
      · exfalso
        have h9 : (i : Int) < hRd phi T 13 := hc
        omega
      · refine tRt (l := xk_52) rfl rfl (fun _ _ _ _ _ => rfl) ?_
        refine hQ phi ⟨hs, ?_, h13, fun s2 e2 => ?_⟩ hf
        · rw [← he, h12, ← hi]; rfl
        · rw [← he] at e2
          cases e2
          exact hP
    | cons c cs ih =>
      intro i s phi him hdr hP hin h13 h12 he hf
      have hs := hP.1
      simp only [List.length_cons] at him
      have hck : txt[i]? = some c := by
        have := congrArg (fun l => l[0]?) hdr
        simpa using this
      have hdr2 : txt.drop (i + 1) = cs := by rw [← List.drop_drop, hdr]; rfl
      have hcc := hch c (List.mem_of_getElem? hck)
      refine tK (l := xk_52) rfl rfl (fun _ _ _ _ _ => rfl) ?_
      refine tK (l := xk_52) rfl rfl (fun _ _ _ _ _ => rfl) ?_
      refine tK (l := xk_52) rfl rfl (hGetI hs rfl ht rfl (by decide) (by decide)) ?_
      refine tIc_ge (l := xk_52) (pc' := 73) rfl rfl rfl (fun hc => ?_) (fun hc => ?_)
      · refine tK (l := xk_52) rfl rfl (fun _ _ _ _ _ => rfl) ?_
        refine tK (l := xk_52) rfl rfl (fun _ _ _ _ _ => rfl) ?_
        refine tK (l := xk_52) rfl rfl (fun _ _ _ _ _ => rfl) ?_
        refine tK (l := xk_52) rfl rfl (fun _ _ _ _ _ => rfl) ?_
        refine tK (l := xk_52) rfl rfl (fun _ _ _ _ _ => rfl) ?_
        refine tCa (l := xk_52) rfl rfl (hInvV (c := 8) hs rfl rfl rfl htt rfl (Nat.le_of_ble_eq_true rfl) (Nat.le_of_ble_eq_true rfl)) ?_
        refine a76 hs htt (hf.tw n2 hw) hr (by rw [hf.to n1 n2]; exact hto) hck ?_
        refine tKv ?_
        refine tCa (l := xk_52) rfl rfl (hInvV (c := 7) hs rfl rfl rfl ht rfl (Nat.le_of_ble_eq_true rfl) (Nat.le_of_ble_eq_true rfl)) ?_
        refine s53 hP ht hin (by omega) (by omega) (fun ph2 s2 e2 t2 f2 => ?_) (fun ph2 e2 u2 f2 => ?_)
        · refine tKv ?_
          refine tIf_ne (l := xk_52) (pc' := 67) rfl rfl rfl (fun hc => ?_) (fun hc => ?_)
          · exact absurd hc (by decide)
          · refine tSt (l := xk_52) rfl rfl (hIinc rfl (Nat.le_of_ble_eq_true rfl) ⟨by omega, by omega⟩) (Nat.le_of_ble_eq_true rfl) ?_
            refine tK (l := xk_52) rfl rfl (fun _ _ _ _ _ => rfl) ?_
            refine ih (i + 1) s2 ph2 (by omega) hdr2 t2 (pRd_in hin e2) (by rw [f2.2 13 (by omega)]; exact h13) (by rw [f2.2 12 (by omega)]; exact h12) ?_ (hf.trans f2.1)
            rw [← he]
            simp only [pAll, e2]
        · refine tKv ?_
          refine tIf_ne (l := xk_52) (pc' := 67) rfl rfl rfl (fun hc => ?_) (fun hc => ?_)
          · refine tK (l := xk_52) rfl rfl (fun _ _ _ _ _ => rfl) ?_
            refine tK (l := xk_52) rfl rfl (fun _ _ _ _ _ => rfl) ?_
            refine tK (l := xk_52) rfl rfl (hPutV u2 rfl ht (by decide) (by decide) rfl) ?_
            refine tRt (l := xk_52) rfl rfl (fun _ _ _ _ _ => rfl) ?_
            have e9 : pRes txt = (i, none) := by rw [← he]; simp only [pAll, e2]
            have rd : ∀ a j, hRd (hUp ph2 T 12 (i : Int)) a j = if a = T ∧ j = 12 then (i : Int) else hRd ph2 a j := fun a j => hRd_up u2 (by rw [ht]; rfl) (by omega) a j
            refine hQ _ ⟨hShI1 _ u2 ht rfl, ?_, ?_, fun s2 e3 => ?_⟩ (hf.trans (f2.1.trans (hUp_fr u2 (by rw [ht]; rfl) (by omega) (by simp [tS]))))
            · rw [rd, if_pos ⟨rfl, rfl⟩, e9]
            · rw [rd, if_neg (by omega), f2.2 13 (by omega)]; exact h13
            · rw [e9] at e3; cases e3
          · exact absurd rfl hc
      · exfalso
        have h9 : ¬ (i : Int) < hRd phi T 13 := hc
        omega
  refine tEn (ls := [some (.inr (.inl (some T))), some (.inr (.inl (some t))), some (.inl (r : Int)), none]) (fun k => by match k with | 0 => rfl | 1 => rfl | 2 => rfl | 3 => rfl | k + 4 => rfl) ?_
  have u1 : hSh zs (hUp ph T 8 0) := hShI1 _ hs ht rfl
  have u2 : hSh zs (hUp (hUp ph T 8 0) T 9 0) := hShI1 _ u1 ht rfl
  have u3 : hSh zs (hUp (hUp (hUp ph T 8 0) T 9 0) T 10 0) := hShI1 _ u2 ht rfl
  have u4 : hSh zs (hUp (hUp (hUp (hUp ph T 8 0) T 9 0) T 10 0) T 11 0) := hShI1 _ u3 ht rfl
  have u5 : hSh zs (hUp (hUp (hUp (hUp (hUp ph T 8 0) T 9 0) T 10 0) T 11 0) T 13 (txt.length : Int)) := hShI1 _ u4 ht rfl
  have u6 : hSh zs (hUp (hUp (hUp (hUp (hUp (hUp ph T 8 0) T 9 0) T 10 0) T 11 0) T 13 (txt.length : Int)) T 12 (txt.length : Int)) := hShI1 _ u5 ht rfl
  have fr4 : hFr (tS T) ph (hUp (hUp (hUp (hUp ph T 8 0) T 9 0) T 10 0) T 11 0) := (((hUp_fr (S := (tS T)) (a := T) (k := 8) (x := 0) hs (by rw [ht]; rfl) (by omega) (by simp [tS])).trans (hUp_fr (S := (tS T)) (a := T) (k := 9) (x := 0) u1 (by rw [ht]; rfl) (by omega) (by simp [tS]))).trans (hUp_fr (S := (tS T)) (a := T) (k := 10) (x := 0) u2 (by rw [ht]; rfl) (by omega) (by simp [tS]))).trans (hUp_fr (S := (tS T)) (a := T) (k := 11) (x := 0) u3 (by rw [ht]; rfl) (by omega) (by simp [tS]))
  have fr6 : hFr (tS T) ph (hUp (hUp (hUp (hUp (hUp (hUp ph T 8 0) T 9 0) T 10 0) T 11 0) T 13 (txt.length : Int)) T 12 (txt.length : Int)) := (((((hUp_fr (S := (tS T)) (a := T) (k := 8) (x := 0) hs (by rw [ht]; rfl) (by omega) (by simp [tS])).trans (hUp_fr (S := (tS T)) (a := T) (k := 9) (x := 0) u1 (by rw [ht]; rfl) (by omega) (by simp [tS]))).trans (hUp_fr (S := (tS T)) (a := T) (k := 10) (x := 0) u2 (by rw [ht]; rfl) (by omega) (by simp [tS]))).trans (hUp_fr (S := (tS T)) (a := T) (k := 11) (x := 0) u3 (by rw [ht]; rfl) (by omega) (by simp [tS]))).trans (hUp_fr (S := (tS T)) (a := T) (k := 13) (x := (txt.length : Int)) u4 (by rw [ht]; rfl) (by omega) (by simp [tS]))).trans (hUp_fr (S := (tS T)) (a := T) (k := 12) (x := (txt.length : Int)) u5 (by rw [ht]; rfl) (by omega) (by simp [tS]))
  have rd : ∀ b j, hRd (hUp (hUp (hUp (hUp (hUp (hUp ph T 8 0) T 9 0) T 10 0) T 11 0) T 13 (txt.length : Int)) T 12 (txt.length : Int)) b j = if b = T ∧ j = 12 then (txt.length : Int) else if b = T ∧ j = 13 then (txt.length : Int) else if b = T ∧ j = 11 then 0 else if b = T ∧ j = 10 then 0 else if b = T ∧ j = 9 then 0 else if b = T ∧ j = 8 then 0 else hRd ph b j := fun b j => by rw [hRd_up u5 (a := T) (k := 12) (x := (txt.length : Int)) (by rw [ht]; rfl) (by omega), hRd_up u4 (a := T) (k := 13) (x := (txt.length : Int)) (by rw [ht]; rfl) (by omega), hRd_up u3 (a := T) (k := 11) (x := 0) (by rw [ht]; rfl) (by omega), hRd_up u2 (a := T) (k := 10) (x := 0) (by rw [ht]; rfl) (by omega), hRd_up u1 (a := T) (k := 9) (x := 0) (by rw [ht]; rfl) (by omega), hRd_up hs (a := T) (k := 8) (x := 0) (by rw [ht]; rfl) (by omega)]
  have e13 : hRd (hUp (hUp (hUp (hUp (hUp ph T 8 0) T 9 0) T 10 0) T 11 0) T 13 (txt.length : Int)) T 13 = (txt.length : Int) := by rw [hRd_up u4 (a := T) (k := 13) (x := (txt.length : Int)) (by rw [ht]; rfl) (by omega), if_pos ⟨rfl, rfl⟩]
  refine tK (l := xk_52) rfl rfl (fun _ _ _ _ _ => rfl) ?_
  refine tK (l := xk_52) rfl rfl (fun _ _ _ _ _ => rfl) ?_
  refine tK (l := xk_52) rfl rfl (hPutV hs rfl ht (by decide) (by decide) rfl) ?_
  refine tK (l := xk_52) rfl rfl (fun _ _ _ _ _ => rfl) ?_
  refine tK (l := xk_52) rfl rfl (fun _ _ _ _ _ => rfl) ?_
  refine tK (l := xk_52) rfl rfl (hPutV (hShI1 _ hs ht rfl) rfl ht (by decide) (by decide) rfl) ?_
  refine tK (l := xk_52) rfl rfl (fun _ _ _ _ _ => rfl) ?_
  refine tK (l := xk_52) rfl rfl (fun _ _ _ _ _ => rfl) ?_
  refine tK (l := xk_52) rfl rfl (hPutV (hShI1 _ (hShI1 _ hs ht rfl) ht rfl) rfl ht (by decide) (by decide) rfl) ?_
  refine tK (l := xk_52) rfl rfl (fun _ _ _ _ _ => rfl) ?_
  refine tK (l := xk_52) rfl rfl (fun _ _ _ _ _ => rfl) ?_
  refine tK (l := xk_52) rfl rfl (hPutV (hShI1 _ (hShI1 _ (hShI1 _ hs ht rfl) ht rfl) ht rfl) rfl ht (by decide) (by decide) rfl) ?_
  refine tK (l := xk_52) rfl rfl (fun _ _ _ _ _ => rfl) ?_
  refine tK (l := xk_52) rfl rfl (fun _ _ _ _ _ => rfl) ?_
  refine tK (l := xk_52) rfl rfl (fun _ _ _ _ _ => rfl) ?_
  refine tCa (l := xk_52) rfl rfl (hInvV (c := 8) (hShI1 _ (hShI1 _ (hShI1 _ (hShI1 _ hs ht rfl) ht rfl) ht rfl) ht rfl) rfl rfl rfl htt rfl (Nat.le_of_ble_eq_true rfl) (Nat.le_of_ble_eq_true rfl)) ?_
  refine a75 u4 htt (fr4.tw n2 hw) hr ((fr4.to n1 n2).trans hto) ?_
  refine tKv ?_
  simp only [hLo]
  refine tK (l := xk_52) rfl rfl (hPutV u4 rfl ht (by decide) (by decide) rfl) ?_
  refine tK (l := xk_52) rfl rfl (fun _ _ _ _ _ => rfl) ?_
  refine tK (l := xk_52) rfl rfl (fun _ _ _ _ _ => rfl) ?_
  refine tK (l := xk_52) rfl rfl (hGetI (hShI1 _ u4 ht rfl) rfl ht rfl (by decide) (by decide)) ?_
  rw [e13]
  refine tK (l := xk_52) rfl rfl (hPutV (hShI1 _ u4 ht rfl) rfl ht (by decide) (by decide) rfl) ?_
  refine tK (l := xk_52) rfl rfl (fun _ _ _ _ _ => rfl) ?_
  refine tSt (l := xk_52) rfl rfl (fun _ _ _ _ _ => rfl) (Nat.le_of_ble_eq_true rfl) ?_
  refine loop txt 0 (0, [], [], 0) _ (by simp) rfl ⟨u6, ?_, ?_, ?_, ?_, fun i p hp => absurd hp (by simp), fun i p hp => absurd hp (by simp), trivial⟩ pIn0 ?_ ?_ rfl fr6
  · rw [rd, if_neg (by omega), if_neg (by omega), if_neg (by omega), if_neg (by omega), if_neg (by omega), if_pos ⟨rfl, rfl⟩]; rfl
  · rw [rd, if_neg (by omega), if_neg (by omega), if_neg (by omega), if_neg (by omega), if_pos ⟨rfl, rfl⟩]; rfl
  · rw [rd, if_neg (by omega), if_neg (by omega), if_neg (by omega), if_pos ⟨rfl, rfl⟩]; rfl
  · rw [rd, if_neg (by omega), if_neg (by omega), if_pos ⟨rfl, rfl⟩]; rfl
  · rw [rd, if_neg (by omega), if_pos ⟨rfl, rfl⟩]
  · rw [rd, if_pos ⟨rfl, rfl⟩]
theorem s77 {f : Nat} (hs : hSh zs ph) (htt : hTg t = 8) (hff : hTg f = 8) (hne : t ≠ f) (hw : hTW ph t) (hwf : hTW ph f) (hrw : hRw t = hRw f) (hwd : hWd t = hWd f) (hQ : ∀ ph2, hSh zs ph2 → hFr [t + 1, t + 2] ph ph2 → hTW ph2 t → (∀ r, r < hRw t → hTo ph2 t r = hTo ph f r) → Q (.inl none, ph2, g)) : xTC (d + 2) 77 [.inr (.inl (some t)), .inr (.inl (some f))] ph g Q := by
  have hz := hTx_sz htt
  obtain ⟨q1, q2, q3, q4⟩ := hTg_apart htt hff hne
  have m1 : f + 1 ∉ [t + 1, t + 2] := by simp only [List.mem_cons, List.not_mem_nil, or_false]; omega
  have m2 : f + 2 ∉ [t + 1, t + 2] := by simp only [List.mem_cons, List.not_mem_nil, or_false]; omega
  have loop : ∀ (m i : Nat) (phi : xH), i + m = hRw t → hSh zs phi → hFr [t + 1, t + 2] ph phi → hTW phi t → (∀ r, r < i → hTo phi t r = hTo ph f r) → xT (d + 2) 77 2 (xlo [some (.inr (.inl (some t))), some (.inr (.inl (some f))), some (.inl (i : Int))]) [] phi g Q := by
    intro m
    induction m with
    | zero =>
      intro i phi him hs hf hwi hi
      refine tK (l := xk_77) rfl rfl (fun _ _ _ _ _ => rfl) ?_
      refine tK (l := xk_77) rfl rfl (fun _ _ _ _ _ => rfl) ?_
      refine tK (l := xk_77) rfl rfl (hGetR (o := some (t + 2)) hs rfl htt rfl (by decide) (by decide) (hrf_8_2 htt)) ?_
      refine tK (l := xk_77) rfl rfl (hAlen1 hs (htg_8_2 htt) (by decide) (by decide)) ?_
      refine tIc_ge (l := xk_77) (pc' := 24) rfl rfl rfl (fun hc => ?_) (fun hc => ?_)
      · exfalso
        omega
      · refine tRt (l := xk_77) rfl rfl (fun _ _ _ _ _ => rfl) ?_
        exact hQ phi hs hf hwi (fun r hr => hi r (by omega))
    | succ m ih =>
      intro i phi him hs hf hwi hi
      refine tK (l := xk_77) rfl rfl (fun _ _ _ _ _ => rfl) ?_
      refine tK (l := xk_77) rfl rfl (fun _ _ _ _ _ => rfl) ?_
      refine tK (l := xk_77) rfl rfl (hGetR (o := some (t + 2)) hs rfl htt rfl (by decide) (by decide) (hrf_8_2 htt)) ?_
      refine tK (l := xk_77) rfl rfl (hAlen1 hs (htg_8_2 htt) (by decide) (by decide)) ?_
      refine tIc_ge (l := xk_77) (pc' := 24) rfl rfl rfl (fun hc => ?_) (fun hc => ?_)
      · refine tK (l := xk_77) rfl rfl (fun _ _ _ _ _ => rfl) ?_
        refine tK (l := xk_77) rfl rfl (fun _ _ _ _ _ => rfl) ?_
        refine tK (l := xk_77) rfl rfl (fun _ _ _ _ _ => rfl) ?_
        refine tK (l := xk_77) rfl rfl (fun _ _ _ _ _ => rfl) ?_
        refine tCa (l := xk_77) rfl rfl (hInvV (c := 8) hs rfl rfl rfl htt rfl (Nat.le_of_ble_eq_true rfl) (Nat.le_of_ble_eq_true rfl)) ?_
        refine a78 (q := i) hs htt hff hwi (hf.tw m2 hwf) (by omega) (by omega) (hf.to m1 m2) (fun s9 hs9 => by have := hTo_len hwf (show i < hRw f by omega) hs9; omega) (fun ph2 t2 => ?_)
        refine tKn ?_
        refine tSt (l := xk_77) rfl rfl (hIinc rfl (Nat.le_of_ble_eq_true rfl) ⟨by omega, by omega⟩) (Nat.le_of_ble_eq_true rfl) ?_
        refine tK (l := xk_77) rfl rfl (fun _ _ _ _ _ => rfl) ?_
        refine ih (i + 1) ph2 (by omega) t2.sh (hf.trans (t2.fr (by simp) (by simp))) t2.tw (fun r hr => ?_)
        by_cases e : r = i
        · rw [e]; exact t2.row
        · rw [t2.rows (by omega) e]; exact hi r (by omega)
      · exfalso
        omega
  refine tEn (ls := [some (.inr (.inl (some t))), some (.inr (.inl (some f))), none]) (fun k => by match k with | 0 => rfl | 1 => rfl | 2 => rfl | k + 3 => rfl) ?_
  refine tK (l := xk_77) rfl rfl (fun _ _ _ _ _ => rfl) ?_
  refine tSt (l := xk_77) rfl rfl (fun _ _ _ _ _ => rfl) (Nat.le_of_ble_eq_true rfl) ?_
  exact loop (hRw t) 0 ph (by omega) hs hFr.refl hw (fun r hr => absurd hr (by omega))
end CP2
