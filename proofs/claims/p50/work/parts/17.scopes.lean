/-! ===== what stays ===== -/
def hFr (S : List Nat) (ph ph2 : xH) : Prop := (∀ a k, a ∉ S → hRd ph2 a k = hRd ph a k) ∧ (∀ a k, hRl ph2 a k = hRl ph a k) ∧ (∀ a k, hRs ph2 a k = hRs ph a k)
theorem hFr.refl {S : List Nat} {ph : xH} : hFr S ph ph := ⟨fun _ _ _ => rfl, fun _ _ => rfl, fun _ _ => rfl⟩
theorem hFr.trans {S : List Nat} {a b c : xH} (h1 : hFr S a b) (h2 : hFr S b c) : hFr S a c := ⟨fun x k h => (h2.1 x k h).trans (h1.1 x k h), fun x k => (h2.2.1 x k).trans (h1.2.1 x k), fun x k => (h2.2.2 x k).trans (h1.2.2 x k)⟩
theorem hFr.mono {S T : List Nat} {a b : xH} (h : hFr S a b) (hST : ∀ x ∈ S, x ∈ T) : hFr T a b := ⟨fun x k hx => h.1 x k (fun q => hx (hST x q)), h.2.1, h.2.2⟩
theorem hFr.to {S : List Nat} {ph ph2 : xH} {t r : Nat} (h : hFr S ph ph2) (h1 : t + 1 ∉ S) (h2 : t + 2 ∉ S) : hTo ph2 t r = hTo ph t r := hTo_eq (fun k => h.1 _ k h1) (h.1 _ r h2)
theorem hFr.tw {S : List Nat} {ph ph2 : xH} {t : Nat} (h : hFr S ph ph2) (h2 : t + 2 ∉ S) (hw : hTW ph t) : hTW ph2 t := fun r hr => by rw [h.1 _ r h2]; exact hw r hr
theorem hTs.fr {zs : List xV} {ph ph2 : xH} {t r : Nat} {v : Option (List Int)} {S : List Nat} (h : hTs zs ph ph2 t r v) (h1 : t + 1 ∈ S) (h2 : t + 2 ∈ S) : hFr S ph ph2 := ⟨fun a k ha => h.2.1 a k (fun e => ha (e ▸ h1)) (fun e => ha (e ▸ h2)), h.2.2.1, h.2.2.2.1⟩
theorem hUp_fr {zs : List xV} {ph : xH} {a k : Nat} {x : Int} {S : List Nat} (hs : hSh zs ph) (hk : hKi (hTg a) k = true) (hz : k < hSz a) (h : a ∈ S) : hFr S ph (hUp ph a k x) :=
  ⟨fun b j hb => by rw [hRd_up hs hk hz]; exact if_neg (fun q => hb (by rw [q.1]; exact h)), fun b j => hRl_up hs hk b j, fun b j => hRs_up hs hk b j⟩
/-! ===== scopes ===== -/
abbrev xSc : Type := Nat → Option (List Int)
def hSl (ph : xH) : List xSc → Prop
  | [] => True
  | f :: t => (∀ n, n < 10 → hTo ph 50 (t.length * 10 + n) = f n) ∧ hSl ph t
def hSC (zs : List xV) (ph : xH) (scs : List xSc) : Prop := hSh zs ph ∧ hTW ph 50 ∧ hRd ph 49 1 = (scs.length : Int) ∧ scs.length ≤ 41 ∧ hSl ph scs
def lk : List xSc → Nat → Option (List Int)
  | [], _ => none
  | f :: t, n => match f n with
    | some v => some v
    | none => lk t n
def lkR : List xSc → Nat → Option Nat
  | [], _ => none
  | f :: t, n => match f n with
    | some _ => some (t.length * 10 + n)
    | none => lkR t n
def lkI : Option Nat → Int
  | none => -1
  | some r => (r : Int)
def dg (p : Nat) : List Int := if p < 10 then [48 + (p : Int)] else [48 + (p : Int) / 10, 48 + (p : Int) % 10]
def psc (p : Nat) (c : Int) : xSc := fun n => if n = 8 then some (dg p) else if n = 9 then some [c] else none
def scU (f : xSc) (n : Nat) (v : Option (List Int)) : xSc := fun j => if j = n then v else f j
theorem hSl_eq {ph ph2 : xH} : ∀ {scs : List xSc}, (∀ r, r < scs.length * 10 → hTo ph2 50 r = hTo ph 50 r) → hSl ph scs → hSl ph2 scs := by
  intro scs
  induction scs with
  | nil => intro _ _; trivial
  | cons f t ih =>
    intro h ⟨h1, h2⟩
    simp only [List.length_cons] at h
    exact ⟨fun n hn => by rw [h _ (by omega)]; exact h1 n hn, ih (fun r hr => h r (by omega)) h2⟩
theorem hSC.fr {zs : List xV} {ph ph2 : xH} {scs : List xSc} {S : List Nat} (h : hSC zs ph scs) (hs : hSh zs ph2) (hf : hFr S ph ph2) (h1 : 49 ∉ S) (h2 : 51 ∉ S) (h3 : 52 ∉ S) : hSC zs ph2 scs :=
  ⟨hs, hf.tw h3 h.2.1, by rw [hf.1 _ _ h1]; exact h.2.2.1, h.2.2.2.1, hSl_eq (fun r _ => hf.to h2 h3) h.2.2.2.2⟩
theorem lkR_some : ∀ {scs : List xSc} {n r : Nat}, n < 10 → lkR scs n = some r → r < scs.length * 10 := by
  intro scs
  induction scs with
  | nil => intro n r _ h; cases h
  | cons f t ih =>
    intro n r hn h
    simp only [lkR] at h
    cases hf : f n with
    | some v => rw [hf] at h; cases h; simp; omega
    | none => rw [hf] at h; have := ih hn h; simp; omega
theorem lkR_to {ph : xH} : ∀ {scs : List xSc} {n r : Nat}, n < 10 → hSl ph scs → lkR scs n = some r → hTo ph 50 r = lk scs n ∧ (lk scs n).isSome = true := by
  intro scs
  induction scs with
  | nil => intro n r _ _ h; cases h
  | cons f t ih =>
    intro n r hn ⟨h1, h2⟩ h
    simp only [lkR] at h
    simp only [lk]
    cases hf : f n with
    | some v => rw [hf] at h; cases h; rw [h1 n hn, hf]; exact ⟨rfl, rfl⟩
    | none => rw [hf] at h; exact ih hn h2 h
theorem lkR_none : ∀ {scs : List xSc} {n : Nat}, lkR scs n = none → lk scs n = none := by
  intro scs
  induction scs with
  | nil => intro n _; rfl
  | cons f t ih =>
    intro n h
    simp only [lkR] at h
    simp only [lk]
    cases hf : f n with
    | some v => rw [hf] at h; cases h
    | none => rw [hf] at h; exact ih h
theorem lk_lkR : ∀ {scs : List xSc} {n : Nat} {v : List Int}, lk scs n = some v → ∃ r, lkR scs n = some r := by
  intro scs n v h
  cases e : lkR scs n with
  | none => rw [lkR_none e] at h; cases h
  | some r => exact ⟨r, rfl⟩
section SCP
variable {d : Nat} {ph : xH} {zs : List xV} {g : Nat} {Q : xR → Prop} {scs : List xSc} {n : Nat}
theorem s43 (hs : hSh zs ph) {m : Nat} {x : Int} (hm : hRd ph 49 1 = (m : Int) + 1) (hm2 : m ≤ 41) (hx : 0 ≤ x ∧ x ≤ 100) (hQ : Q (.inl (some (.inl ((m : Int) * 10 + x))), ph, g)) : xTC d 43 [.inr (.inl (some 49)), .inl x] ph g Q := by
  refine tEn (ls := [some (.inr (.inl (some 49))), some (.inl x)]) (fun k => by match k with | 0 => rfl | 1 => rfl | k + 2 => rfl) ?_
  refine tK (l := xk_43) rfl rfl (fun _ _ _ _ _ => rfl) ?_
  refine tK (l := xk_43) rfl rfl (hGetI hs rfl rfl rfl (by decide) (by decide)) ?_
  refine tK (l := xk_43) rfl rfl (fun _ _ _ _ _ => rfl) ?_
  refine tK (l := xk_43) rfl rfl (hSub ⟨by omega, by omega⟩) ?_
  refine tK (l := xk_43) rfl rfl (fun _ _ _ _ _ => rfl) ?_
  refine tK (l := xk_43) rfl rfl (hMul ⟨by omega, by omega⟩) ?_
  refine tK (l := xk_43) rfl rfl (fun _ _ _ _ _ => rfl) ?_
  refine tK (l := xk_43) rfl rfl (hAdd ⟨by omega, by omega⟩) ?_
  refine tRt (l := xk_43) rfl rfl (fun _ _ _ _ _ => rfl) ?_
  have e : (hRd ph 49 1 - 1) * 10 + x = (m : Int) * 10 + x := by rw [hm]; omega
  rw [e]; exact hQ
theorem s46 {f : xSc} (h : hSC zs ph (f :: scs)) (hQ : ∀ ph2, hSC zs ph2 scs → hFr [49] ph ph2 → Q (.inl none, ph2, g)) : xTC d 46 [.inr (.inl (some 49))] ph g Q := by
  obtain ⟨hs, hw, h1, h2, h3⟩ := id h
  simp only [List.length_cons] at h1 h2
  refine tEn (ls := [some (.inr (.inl (some 49)))]) (fun k => by match k with | 0 => rfl | k + 1 => rfl) ?_
  refine tK (l := xk_46) rfl rfl (fun _ _ _ _ _ => rfl) ?_
  refine tK (l := xk_46) rfl rfl (fun _ _ _ _ _ => rfl) ?_
  refine tK (l := xk_46) rfl rfl (fun _ _ _ _ _ => rfl) ?_
  refine tK (l := xk_46) rfl rfl (hGetI hs rfl rfl rfl (by decide) (by decide)) ?_
  refine tK (l := xk_46) rfl rfl (fun _ _ _ _ _ => rfl) ?_
  refine tK (l := xk_46) rfl rfl (hSub ⟨by omega, by omega⟩) ?_
  refine tK (l := xk_46) rfl rfl (fun _ _ _ _ _ => rfl) ?_
  refine tK (l := xk_46) rfl rfl (hPutV hs rfl rfl (by decide) (by decide) rfl) ?_
  refine tRt (l := xk_46) rfl rfl (fun _ _ _ _ _ => rfl) ?_
  have e : (if (0 : Int) < hRd ph 49 1 - 1 then hRd ph 49 1 - 1 else 0) = (scs.length : Int) := by split <;> omega
  rw [e]
  have hf : hFr [49] ph (hUp ph 49 1 (scs.length : Int)) := hUp_fr hs rfl (by decide) (by decide)
  refine hQ _ ⟨(hShI1 _ hs rfl rfl), hf.tw (by decide) hw, ?_, by omega, hSl_eq (fun r _ => hf.to (by decide) (by decide)) h3.2⟩ hf
  rw [hRd_up hs rfl (by decide), if_pos ⟨rfl, rfl⟩]
theorem s45 (h : hSC zs ph scs) (hn : n < 10) (hQ : Q (.inl (some (.inl (lkI (lkR scs n)))), ph, g)) : xTC (d + 1) 45 [.inr (.inl (some 49)), .inl (n : Int)] ph g Q := by
  obtain ⟨hs, hw, h1, h2, h3⟩ := h
  have hz : hRw 50 = 410 := by decide +kernel
  have loop : ∀ (l : List xSc) (o3 : Option xV), l.length ≤ 41 → hSl ph l → lkR l n = lkR scs n → xT (d + 1) 45 7 (xlo [some (.inr (.inl (some 49))), some (.inl (n : Int)), some (.inl ((l.length : Int) - 1)), o3]) [] ph g Q := by
    intro l
    induction l with
    | nil =>
      intro o3 hl hsl he
      refine tK (l := xk_45) rfl rfl (fun _ _ _ _ _ => rfl) ?_
      refine tIf_lt (l := xk_45) (pc' := 38) rfl rfl rfl (fun hc => ?_) (fun hc => ?_)
      · refine tK (l := xk_45) rfl rfl (fun _ _ _ _ _ => rfl) ?_
        refine tRt (l := xk_45) rfl rfl (fun _ _ _ _ _ => rfl) ?_
        rw [← he] at hQ; exact hQ
      · exfalso; have : ¬ ((([] : List xSc).length : Int) - 1 < 0) := hc; simp at this
    | cons f t ih =>
      intro o3 hl hsl he
      simp only [List.length_cons] at hl
      have e : (((f :: t).length : Nat) : Int) - 1 = (t.length : Int) := by simp
      rw [e]
      have hv := hsl.1 n hn
      have hlo : ∀ v : List Int, hLo (some v) = (v.length : Int) := fun _ => rfl
      refine tK (l := xk_45) rfl rfl (fun _ _ _ _ _ => rfl) ?_
      refine tIf_lt (l := xk_45) (pc' := 38) rfl rfl rfl (fun hc => ?_) (fun hc => ?_)
      · exfalso; omega
      · refine tK (l := xk_45) rfl rfl (fun _ _ _ _ _ => rfl) ?_
        refine tK (l := xk_45) rfl rfl (fun _ _ _ _ _ => rfl) ?_
        refine tK (l := xk_45) rfl rfl (hMul ⟨by omega, by omega⟩) ?_
        refine tK (l := xk_45) rfl rfl (fun _ _ _ _ _ => rfl) ?_
        refine tK (l := xk_45) rfl rfl (hAdd ⟨by omega, by omega⟩) ?_
        refine tSt (l := xk_45) rfl rfl (fun _ _ _ _ _ => rfl) (Nat.le_of_ble_eq_true rfl) ?_
        refine tK (l := xk_45) rfl rfl (fun _ _ _ _ _ => rfl) ?_
        refine tK (l := xk_45) rfl rfl (hGetR (o := some 50) hs rfl rfl rfl (by decide) (by decide) rfl) ?_
        refine tK (l := xk_45) rfl rfl (fun _ _ _ _ _ => rfl) ?_
        have e3 : (t.length : Int) * 10 + (n : Int) = ((t.length * 10 + n : Nat) : Int) := by push_cast; rfl
        rw [e3]
        refine tCa (l := xk_45) rfl rfl (hInvV (c := 8) hs rfl rfl rfl rfl rfl (Nat.le_of_ble_eq_true rfl) (Nat.le_of_ble_eq_true rfl)) ?_
        refine a75 (r := t.length * 10 + n) hs rfl hw (by omega) rfl ?_
        refine tKv ?_
        rw [hv]
        cases hfn : f n with
        | none =>
          refine tK (l := xk_45) rfl rfl (fun _ _ _ _ _ => rfl) ?_
          refine tIc_eq (l := xk_45) (pc' := 32) rfl rfl rfl (fun hc => ?_) (fun hc => ?_)
          · refine tSt (l := xk_45) rfl rfl (hIinc rfl (Nat.le_of_ble_eq_true rfl) ⟨by omega, by omega⟩) (Nat.le_of_ble_eq_true rfl) ?_
            refine tK (l := xk_45) rfl rfl (fun _ _ _ _ _ => rfl) ?_
            have e2 : (t.length : Int) + -1 = (t.length : Int) - 1 := by omega
            rw [e2]
            exact ih _ (by omega) hsl.2 (by rw [← he]; simp only [lkR, hfn])
          · exact absurd rfl hc
        | some v =>
          refine tK (l := xk_45) rfl rfl (fun _ _ _ _ _ => rfl) ?_
          refine tIc_eq (l := xk_45) (pc' := 32) rfl rfl rfl (fun hc => ?_) (fun hc => ?_)
          · exfalso
            have h9 : ((v.length : Nat) : Int) = -1 := hc
            omega
          · refine tK (l := xk_45) rfl rfl (fun _ _ _ _ _ => rfl) ?_
            refine tRt (l := xk_45) rfl rfl (fun _ _ _ _ _ => rfl) ?_
            rw [← he] at hQ
            simp only [lkR, hfn, lkI] at hQ
            exact hQ
  refine tEn (ls := [some (.inr (.inl (some 49))), some (.inl (n : Int)), none, none]) (fun k => by match k with | 0 => rfl | 1 => rfl | 2 => rfl | 3 => rfl | k + 4 => rfl) ?_
  refine tK (l := xk_45) rfl rfl (fun _ _ _ _ _ => rfl) ?_
  refine tK (l := xk_45) rfl rfl (hGetI hs rfl rfl rfl (by decide) (by decide)) ?_
  refine tK (l := xk_45) rfl rfl (fun _ _ _ _ _ => rfl) ?_
  refine tK (l := xk_45) rfl rfl (hSub ⟨by omega, by omega⟩) ?_
  refine tSt (l := xk_45) rfl rfl (fun _ _ _ _ _ => rfl) (Nat.le_of_ble_eq_true rfl) ?_
  rw [h1]
  exact loop scs none h2 h3 rfl
theorem hTs.sh {zs : List xV} {ph ph2 : xH} {t r : Nat} {v : Option (List Int)} (h : hTs zs ph ph2 t r v) : hSh zs ph2 := h.1
theorem hTs.row {zs : List xV} {ph ph2 : xH} {t r : Nat} {v : Option (List Int)} (h : hTs zs ph ph2 t r v) : hTo ph2 t r = v := h.2.2.2.2.1
theorem hTs.rows {zs : List xV} {ph ph2 : xH} {t r j : Nat} {v : Option (List Int)} (h : hTs zs ph ph2 t r v) (hj : j < hRw t) (hn : j ≠ r) : hTo ph2 t j = hTo ph t j := h.2.2.2.2.2.1 j hj hn
theorem hTs.tw {zs : List xV} {ph ph2 : xH} {t r : Nat} {v : Option (List Int)} (h : hTs zs ph ph2 t r v) : hTW ph2 t := h.2.2.2.2.2.2
theorem hRw50 : hRw 50 = 410 := by decide +kernel
theorem hWd50 : hWd 50 = 24 := by decide +kernel
theorem hRow {m n : Nat} : (m : Int) * 10 + (n : Int) = ((m * 10 + n : Nat) : Int) := by push_cast; rfl
theorem s42 (h : hSC zs ph scs) (hl : scs.length ≤ 40) (hQ : ∀ ph2, hSC zs ph2 ((fun _ => none) :: scs) → hFr [49, 51, 52] ph ph2 → (∀ r, r < scs.length * 10 → hTo ph2 50 r = hTo ph 50 r) → Q (.inl (some (.inl 1)), ph2, g)) : xTC (d + 1) 42 [.inr (.inl (some 49))] ph g Q := by
  obtain ⟨hs, hw, h1, h2, h3⟩ := id h
  have hz := hRw50
  have loop : ∀ (m i : Nat) (phi : xH), i + m = 10 → hSh zs phi → hTW phi 50 → hRd phi 49 1 = (scs.length : Int) + 1 → (∀ r, r < scs.length * 10 → hTo phi 50 r = hTo ph 50 r) → (∀ j, j < i → hTo phi 50 (scs.length * 10 + j) = none) → hFr [49, 51, 52] ph phi → xT (d + 1) 42 23 (xlo [some (.inr (.inl (some 49))), some (.inl (i : Int))]) [] phi g Q := by
    intro m
    induction m with
    | zero =>
      intro i phi him hs hw e1 e2 e3 e4
      refine tK (l := xk_42) rfl rfl (fun _ _ _ _ _ => rfl) ?_
      refine tK (l := xk_42) rfl rfl (fun _ _ _ _ _ => rfl) ?_
      refine tIc_ge (l := xk_42) (pc' := 47) rfl rfl rfl (fun hc => ?_) (fun hc => ?_)
      · exfalso; omega
      · refine tK (l := xk_42) rfl rfl (fun _ _ _ _ _ => rfl) ?_
        refine tRt (l := xk_42) rfl rfl (fun _ _ _ _ _ => rfl) ?_
        refine hQ phi ⟨hs, hw, by rw [e1]; simp, by simp; omega, ⟨fun n hn => e3 n (by omega), hSl_eq e2 h3⟩⟩ e4 e2
    | succ m ih =>
      intro i phi him hs hw e1 e2 e3 e4
      refine tK (l := xk_42) rfl rfl (fun _ _ _ _ _ => rfl) ?_
      refine tK (l := xk_42) rfl rfl (fun _ _ _ _ _ => rfl) ?_
      refine tIc_ge (l := xk_42) (pc' := 47) rfl rfl rfl (fun hc => ?_) (fun hc => ?_)
      · refine tK (l := xk_42) rfl rfl (fun _ _ _ _ _ => rfl) ?_
        refine tK (l := xk_42) rfl rfl (hGetR (o := some 50) hs rfl rfl rfl (by decide) (by decide) rfl) ?_
        refine tK (l := xk_42) rfl rfl (fun _ _ _ _ _ => rfl) ?_
        refine tK (l := xk_42) rfl rfl (fun _ _ _ _ _ => rfl) ?_
        refine tCa (l := xk_42) rfl rfl (hInvV (c := 5) hs rfl rfl rfl rfl rfl (Nat.le_of_ble_eq_true rfl) (Nat.le_of_ble_eq_true rfl)) ?_
        refine s43 hs e1 (by omega) ⟨by omega, by omega⟩ ?_
        refine tKv ?_
        rw [hRow]
        refine tCa (l := xk_42) rfl rfl (hInvV (c := 8) hs rfl rfl rfl rfl rfl (Nat.le_of_ble_eq_true rfl) (Nat.le_of_ble_eq_true rfl)) ?_
        refine a80 hs rfl hw (by omega) (fun ph2 hts => ?_)
        refine tKn ?_
        refine tSt (l := xk_42) rfl rfl (hIinc rfl (Nat.le_of_ble_eq_true rfl) ⟨by omega, by omega⟩) (Nat.le_of_ble_eq_true rfl) ?_
        refine tK (l := xk_42) rfl rfl (fun _ _ _ _ _ => rfl) ?_
        refine ih (i + 1) ph2 (by omega) hts.sh hts.tw (by rw [(hts.fr (S := [51, 52]) (by decide) (by decide)).1 _ _ (by decide)]; exact e1) (fun r hr => by rw [hts.rows (by omega) (by omega)]; exact e2 r hr) (fun j hj => ?_) (e4.trans (hts.fr (by decide) (by decide)))
        by_cases e : j = i
        · rw [e]; exact hts.row
        · rw [hts.rows (by omega) (by omega)]; exact e3 j (by omega)
      · exfalso; omega
  refine tEn (ls := [some (.inr (.inl (some 49))), none]) (fun k => by match k with | 0 => rfl | 1 => rfl | k + 2 => rfl) ?_
  refine tK (l := xk_42) rfl rfl (fun _ _ _ _ _ => rfl) ?_
  refine tK (l := xk_42) rfl rfl (hGetI hs rfl rfl rfl (by decide) (by decide)) ?_
  refine tK (l := xk_42) rfl rfl (fun _ _ _ _ _ => rfl) ?_
  refine tIc_le (l := xk_42) (pc' := 11) rfl rfl rfl (fun hc => ?_) (fun hc => ?_)
  · exfalso; omega
  · refine tK (l := xk_42) rfl rfl (fun _ _ _ _ _ => rfl) ?_
    refine tK (l := xk_42) rfl rfl (fun _ _ _ _ _ => rfl) ?_
    refine tK (l := xk_42) rfl rfl (hGetI hs rfl rfl rfl (by decide) (by decide)) ?_
    refine tK (l := xk_42) rfl rfl (fun _ _ _ _ _ => rfl) ?_
    refine tK (l := xk_42) rfl rfl (hAdd ⟨by omega, by omega⟩) ?_
    refine tK (l := xk_42) rfl rfl (hPutV hs rfl rfl (by decide) (by decide) rfl) ?_
    refine tK (l := xk_42) rfl rfl (fun _ _ _ _ _ => rfl) ?_
    refine tSt (l := xk_42) rfl rfl (fun _ _ _ _ _ => rfl) (Nat.le_of_ble_eq_true rfl) ?_
    rw [h1]
    have hf : hFr [49, 51, 52] ph (hUp ph 49 1 ((scs.length : Int) + 1)) := hUp_fr hs rfl (by decide) (by decide)
    have hg : hFr [49] ph (hUp ph 49 1 ((scs.length : Int) + 1)) := hUp_fr hs rfl (by decide) (by decide)
    exact loop 10 0 _ rfl (hShI1 _ hs rfl rfl) (hg.tw (by decide) hw) (by rw [hRd_up hs rfl (by decide), if_pos ⟨rfl, rfl⟩]) (fun r _ => hg.to (by decide) (by decide)) (fun j hj => by omega) hf
theorem s44 {f0 : xSc} {f q : Nat} {v : Option (List Int)} (h : hSC zs ph (f0 :: scs)) (hn : n < 10) (hf : hTg f = 8) (hwf : hTW ph f) (hq : q < hRw f) (hv : hTo ph f q = v) (hl : ∀ s, v = some s → s.length ≤ 24) (hQ : ∀ ph2, hSC zs ph2 (scU f0 n v :: scs) → hFr [51, 52] ph ph2 → (∀ r, r < scs.length * 10 → hTo ph2 50 r = hTo ph 50 r) → Q (.inl none, ph2, g)) : xTC (d + 2) 44 [.inr (.inl (some 49)), .inl (n : Int), .inr (.inl (some f)), .inl (q : Int)] ph g Q := by
  obtain ⟨hs, hw, h1, h2, h3⟩ := id h
  simp only [List.length_cons] at h1 h2
  have hz := hRw50
  refine tEn (ls := [some (.inr (.inl (some 49))), some (.inl (n : Int)), some (.inr (.inl (some f))), some (.inl (q : Int))]) (fun k => by match k with | 0 => rfl | 1 => rfl | 2 => rfl | 3 => rfl | k + 4 => rfl) ?_
  refine tK (l := xk_44) rfl rfl (fun _ _ _ _ _ => rfl) ?_
  refine tK (l := xk_44) rfl rfl (hGetR (o := some 50) hs rfl rfl rfl (by decide) (by decide) rfl) ?_
  refine tK (l := xk_44) rfl rfl (fun _ _ _ _ _ => rfl) ?_
  refine tK (l := xk_44) rfl rfl (fun _ _ _ _ _ => rfl) ?_
  refine tCa (l := xk_44) rfl rfl (hInvV (c := 5) hs rfl rfl rfl rfl rfl (Nat.le_of_ble_eq_true rfl) (Nat.le_of_ble_eq_true rfl)) ?_
  refine s43 hs (m := scs.length) (by rw [h1]; simp) (by omega) ⟨by omega, by omega⟩ ?_
  refine tKv ?_
  rw [hRow]
  refine tK (l := xk_44) rfl rfl (fun _ _ _ _ _ => rfl) ?_
  refine tK (l := xk_44) rfl rfl (fun _ _ _ _ _ => rfl) ?_
  refine tCa (l := xk_44) rfl rfl (hInvV (c := 8) hs rfl rfl rfl rfl rfl (Nat.le_of_ble_eq_true rfl) (Nat.le_of_ble_eq_true rfl)) ?_
  refine a78 hs rfl hf hw hwf (by omega) hq hv (by rw [hWd50]; exact hl) (fun ph2 hts => ?_)
  refine tKn ?_
  refine tRt (l := xk_44) rfl rfl (fun _ _ _ _ _ => rfl) ?_
  have hfr := hts.fr (S := [51, 52]) (by decide) (by decide)
  refine hQ _ ⟨hts.sh, hts.tw, by rw [hfr.1 _ _ (by decide), h1]; simp, by simp; omega, ⟨fun j hj => ?_, hSl_eq (fun r hr => hts.rows (by omega) (by omega)) h3.2⟩⟩ hfr (fun r hr => hts.rows (by omega) (by omega))
  unfold scU
  by_cases e : j = n
  · rw [e, if_pos rfl]; exact hts.row
  · rw [if_neg e, hts.rows (by omega) (by omega)]; exact h3.1 j hj
theorem s47 {r p : Nat} {mt : List Int} {c : Int} (h : hSC zs ph scs) (hl : scs.length ≤ 40) (hr : r < scs.length * 10) (hmt : hTo ph 50 r = some mt) (hc9 : mt[p]? = some c) (hQ : ∀ ph2, hSC zs ph2 (psc p c :: scs) → hFr [49, 51, 52] ph ph2 → (∀ r, r < scs.length * 10 → hTo ph2 50 r = hTo ph 50 r) → Q (.inl (some (.inl 1)), ph2, g)) : xTC (d + 2) 47 [.inr (.inl (some 49)), .inl (r : Int), .inl (p : Int)] ph g Q := by
  obtain ⟨hs, hw, h1, h2, h3⟩ := id h
  have hz := hRw50
  have hw24 := hWd50
  have hml : mt.length ≤ 24 := by have := hTo_len hw (show r < hRw 50 by omega) hmt; omega
  have hpl : p < mt.length := (List.getElem?_eq_some_iff.mp hc9).1
  have hcc : 0 ≤ c ∧ c ≤ 65535 := hTo_ch hs rfl hmt c (List.mem_of_getElem? hc9)
  refine tEn (ls := [some (.inr (.inl (some 49))), some (.inl (r : Int)), some (.inl (p : Int)), none, none]) (fun k => by match k with | 0 => rfl | 1 => rfl | 2 => rfl | 3 => rfl | 4 => rfl | k + 5 => rfl) ?_
  refine tK (l := xk_47) rfl rfl (fun _ _ _ _ _ => rfl) ?_
  refine tCa (l := xk_47) rfl rfl (hInvV (c := 5) hs rfl rfl rfl rfl rfl (Nat.le_of_ble_eq_true rfl) (Nat.le_of_ble_eq_true rfl)) ?_
  refine s42 h hl (fun ph1 q1 f1 r1 => ?_)
  refine tKv ?_
  obtain ⟨hs1, hw1, h11, h12, h13⟩ := id q1
  simp only [List.length_cons] at h11 h12
  refine tIf_ne (l := xk_47) (pc' := 9) rfl rfl rfl (fun hc => ?_) (fun hc => ?_)
  · exact absurd hc (by decide)
  · refine tK (l := xk_47) rfl rfl (fun _ _ _ _ _ => rfl) ?_
    refine tK (l := xk_47) rfl rfl (fun _ _ _ _ _ => rfl) ?_
    refine tCa (l := xk_47) rfl rfl (hInvV (c := 5) hs1 rfl rfl rfl rfl rfl (Nat.le_of_ble_eq_true rfl) (Nat.le_of_ble_eq_true rfl)) ?_
    refine s43 hs1 (m := scs.length) (by rw [h11]; simp) (by omega) ⟨by omega, by omega⟩ ?_
    refine tKv ?_
    rw [show (scs.length : Int) * 10 + 8 = ((scs.length * 10 + 8 : Nat) : Int) by push_cast; rfl]
    refine tSt (l := xk_47) rfl rfl (fun _ _ _ _ _ => rfl) (Nat.le_of_ble_eq_true rfl) ?_
    refine tK (l := xk_47) rfl rfl (fun _ _ _ _ _ => rfl) ?_
    refine tK (l := xk_47) rfl rfl (hGetR (o := some 50) hs1 rfl rfl rfl (by decide) (by decide) rfl) ?_
    refine tK (l := xk_47) rfl rfl (fun _ _ _ _ _ => rfl) ?_
    refine tCa (l := xk_47) rfl rfl (hInvV (c := 8) hs1 rfl rfl rfl rfl rfl (Nat.le_of_ble_eq_true rfl) (Nat.le_of_ble_eq_true rfl)) ?_
    refine a74 hs1 rfl hw1 (r := scs.length * 10 + 8) (by omega) (fun ph2 t2 => ?_)
    refine tKn ?_
    have g2 := t2.fr (S := [49, 51, 52]) (by decide) (by decide)
    have e1 : hRd ph2 49 1 = (scs.length : Int) + 1 := by rw [(t2.fr (S := [51, 52]) (by decide) (by decide)).1 _ _ (by decide), h11]; simp
    refine tK (l := xk_47) rfl rfl (fun _ _ _ _ _ => rfl) ?_
    refine tK (l := xk_47) rfl rfl (fun _ _ _ _ _ => rfl) ?_
    refine tIc_lt (l := xk_47) (pc' := 49) rfl rfl rfl (fun hc => ?_) (fun hc => ?_)
    · refine tK (l := xk_47) rfl rfl (fun _ _ _ _ _ => rfl) ?_
      refine tK (l := xk_47) rfl rfl (hGetR (o := some 50) t2.sh rfl rfl rfl (by decide) (by decide) rfl) ?_
      refine tK (l := xk_47) rfl rfl (fun _ _ _ _ _ => rfl) ?_
      refine tK (l := xk_47) rfl rfl (fun _ _ _ _ _ => rfl) ?_
      refine tK (l := xk_47) rfl rfl (fun _ _ _ _ _ => rfl) ?_
      refine tK (l := xk_47) rfl rfl (fun _ _ _ _ _ => rfl) ?_
      refine tK (l := xk_47) rfl rfl (hRem ⟨by omega, by omega⟩) ?_
      refine tK (l := xk_47) rfl rfl (hAdd ⟨by omega, by omega⟩) ?_
      refine tCa (l := xk_47) rfl rfl (hInvV (c := 8) t2.sh rfl rfl rfl rfl rfl (Nat.le_of_ble_eq_true rfl) (Nat.le_of_ble_eq_true rfl)) ?_
      refine a79 t2.sh rfl t2.tw (r := scs.length * 10 + 8) (s := []) (by omega) t2.row (by rw [hw24]; simp) ⟨by omega, by omega⟩ (fun ph6 t6 => ?_)
      refine tKv ?_
      refine tK (l := xk_47) rfl rfl (fun _ _ _ _ _ => rfl) ?_
      have ff : hFr [49, 51, 52] ph ph6 := f1.trans (g2.trans (t6.fr (by decide) (by decide)))
      have rr : ∀ j, j < scs.length * 10 → hTo ph6 50 j = hTo ph 50 j := fun j hj => by rw [t6.rows (by omega) (by omega), t2.rows (by omega) (by omega)]; exact r1 j hj
      have e9 : hRd ph6 49 1 = (scs.length : Int) + 1 := by rw [(t6.fr (S := [51, 52]) (by decide) (by decide)).1 _ _ (by decide)]; exact e1
      have nn : ∀ n, n < 10 → n ≠ 8 → hTo ph6 50 (scs.length * 10 + n) = none := fun n hn h8 => by rw [t6.rows (by omega) (by omega), t2.rows (by omega) (by omega)]; exact h13.1 n hn
      have kk : hTo ph6 50 (scs.length * 10 + 8) = some (dg p) := by rw [t6.row]; unfold dg; rw [if_pos (by omega)]; simp; omega
      refine tK (l := xk_47) rfl rfl (fun _ _ _ _ _ => rfl) ?_
      refine tK (l := xk_47) rfl rfl (fun _ _ _ _ _ => rfl) ?_
      refine tCa (l := xk_47) rfl rfl (hInvV (c := 5) t6.sh rfl rfl rfl rfl rfl (Nat.le_of_ble_eq_true rfl) (Nat.le_of_ble_eq_true rfl)) ?_
      refine s43 t6.sh (m := scs.length) e9 (by omega) ⟨by omega, by omega⟩ ?_
      refine tKv ?_
      rw [show (scs.length : Int) * 10 + 9 = ((scs.length * 10 + 9 : Nat) : Int) by push_cast; rfl]
      refine tSt (l := xk_47) rfl rfl (fun _ _ _ _ _ => rfl) (Nat.le_of_ble_eq_true rfl) ?_
      refine tK (l := xk_47) rfl rfl (fun _ _ _ _ _ => rfl) ?_
      refine tK (l := xk_47) rfl rfl (hGetR (o := some 50) t6.sh rfl rfl rfl (by decide) (by decide) rfl) ?_
      refine tK (l := xk_47) rfl rfl (fun _ _ _ _ _ => rfl) ?_
      refine tCa (l := xk_47) rfl rfl (hInvV (c := 8) t6.sh rfl rfl rfl rfl rfl (Nat.le_of_ble_eq_true rfl) (Nat.le_of_ble_eq_true rfl)) ?_
      refine a74 t6.sh rfl t6.tw (r := scs.length * 10 + 9) (by omega) (fun ph4 t4 => ?_)
      refine tKn ?_
      refine tK (l := xk_47) rfl rfl (fun _ _ _ _ _ => rfl) ?_
      refine tK (l := xk_47) rfl rfl (hGetR (o := some 50) t4.sh rfl rfl rfl (by decide) (by decide) rfl) ?_
      refine tK (l := xk_47) rfl rfl (fun _ _ _ _ _ => rfl) ?_
      refine tK (l := xk_47) rfl rfl (fun _ _ _ _ _ => rfl) ?_
      refine tK (l := xk_47) rfl rfl (hGetR (o := some 50) t4.sh rfl rfl rfl (by decide) (by decide) rfl) ?_
      refine tK (l := xk_47) rfl rfl (fun _ _ _ _ _ => rfl) ?_
      refine tK (l := xk_47) rfl rfl (fun _ _ _ _ _ => rfl) ?_
      refine tCa (l := xk_47) rfl rfl (hInvV (c := 8) t4.sh rfl rfl rfl rfl rfl (Nat.le_of_ble_eq_true rfl) (Nat.le_of_ble_eq_true rfl)) ?_
      refine a76 t4.sh rfl t4.tw (r := r) (k := p) (s := mt) (x := c) (by omega) (by rw [t4.rows (by omega) (by omega)]; rw [rr r (by omega)]; exact hmt) hc9 ?_
      refine tKv ?_
      refine tCa (l := xk_47) rfl rfl (hInvV (c := 8) t4.sh rfl rfl rfl rfl rfl (Nat.le_of_ble_eq_true rfl) (Nat.le_of_ble_eq_true rfl)) ?_
      refine a79 t4.sh rfl t4.tw (r := scs.length * 10 + 9) (s := []) (by omega) t4.row (by rw [hw24]; simp) hcc (fun ph5 t5 => ?_)
      refine tKv ?_
      refine tK (l := xk_47) rfl rfl (fun _ _ _ _ _ => rfl) ?_
      refine tK (l := xk_47) rfl rfl (fun _ _ _ _ _ => rfl) ?_
      refine tRt (l := xk_47) rfl rfl (fun _ _ _ _ _ => rfl) ?_
      have f9 : hFr [49, 51, 52] ph ph5 := (ff.trans (t4.fr (by decide) (by decide))).trans (t5.fr (by decide) (by decide))
      have q9 : ∀ j, j < 410 → j ≠ scs.length * 10 + 9 → hTo ph5 50 j = hTo ph6 50 j := fun j hj hn => by rw [t5.rows (by omega) hn, t4.rows (by omega) hn]
      refine hQ ph5 ⟨t5.sh, t5.tw, ?_, by simp; omega, ⟨fun n hn => ?_, hSl_eq (fun j hj => by rw [q9 j (by omega) (by omega)]; exact rr j hj) h3⟩⟩ f9 (fun j hj => by rw [q9 j (by omega) (by omega)]; exact rr j hj)
      · rw [(t5.fr (S := [51, 52]) (by decide) (by decide)).1 _ _ (by decide), (t4.fr (S := [51, 52]) (by decide) (by decide)).1 _ _ (by decide), e9]; simp
      · unfold psc
        by_cases e8 : n = 8
        · rw [if_pos e8, e8, q9 _ (by omega) (by omega)]; exact kk
        · rw [if_neg e8]
          by_cases en : n = 9
          · rw [if_pos en, en, t5.row]; rfl
          · rw [if_neg en, q9 _ (by omega) (by omega)]; exact nn n hn e8
    · refine tK (l := xk_47) rfl rfl (fun _ _ _ _ _ => rfl) ?_
      refine tK (l := xk_47) rfl rfl (hGetR (o := some 50) t2.sh rfl rfl rfl (by decide) (by decide) rfl) ?_
      refine tK (l := xk_47) rfl rfl (fun _ _ _ _ _ => rfl) ?_
      refine tK (l := xk_47) rfl rfl (fun _ _ _ _ _ => rfl) ?_
      refine tK (l := xk_47) rfl rfl (fun _ _ _ _ _ => rfl) ?_
      refine tK (l := xk_47) rfl rfl (fun _ _ _ _ _ => rfl) ?_
      refine tK (l := xk_47) rfl rfl (hDiv ⟨by omega, by omega⟩) ?_
      refine tK (l := xk_47) rfl rfl (fun _ _ _ _ _ => rfl) ?_
      refine tK (l := xk_47) rfl rfl (hRem ⟨by omega, by omega⟩) ?_
      refine tK (l := xk_47) rfl rfl (hAdd ⟨by omega, by omega⟩) ?_
      refine tCa (l := xk_47) rfl rfl (hInvV (c := 8) t2.sh rfl rfl rfl rfl rfl (Nat.le_of_ble_eq_true rfl) (Nat.le_of_ble_eq_true rfl)) ?_
      refine a79 t2.sh rfl t2.tw (r := scs.length * 10 + 8) (s := []) (by omega) t2.row (by rw [hw24]; simp) ⟨by omega, by omega⟩ (fun ph3 t3 => ?_)
      refine tKv ?_
      refine tK (l := xk_47) rfl rfl (fun _ _ _ _ _ => rfl) ?_
      have hd : (p : Int) / 10 % 10 = (p : Int) / 10 := by omega
      refine tK (l := xk_47) rfl rfl (fun _ _ _ _ _ => rfl) ?_
      refine tK (l := xk_47) rfl rfl (hGetR (o := some 50) t3.sh rfl rfl rfl (by decide) (by decide) rfl) ?_
      refine tK (l := xk_47) rfl rfl (fun _ _ _ _ _ => rfl) ?_
      refine tK (l := xk_47) rfl rfl (fun _ _ _ _ _ => rfl) ?_
      refine tK (l := xk_47) rfl rfl (fun _ _ _ _ _ => rfl) ?_
      refine tK (l := xk_47) rfl rfl (fun _ _ _ _ _ => rfl) ?_
      refine tK (l := xk_47) rfl rfl (hRem ⟨by omega, by omega⟩) ?_
      refine tK (l := xk_47) rfl rfl (hAdd ⟨by omega, by omega⟩) ?_
      refine tCa (l := xk_47) rfl rfl (hInvV (c := 8) t3.sh rfl rfl rfl rfl rfl (Nat.le_of_ble_eq_true rfl) (Nat.le_of_ble_eq_true rfl)) ?_
      refine a79 t3.sh rfl t3.tw (r := scs.length * 10 + 8) (s := [48 + (p : Int) / 10 % 10]) (by omega) t3.row (by rw [hw24]; simp) ⟨by omega, by omega⟩ (fun ph6 t6 => ?_)
      refine tKv ?_
      refine tK (l := xk_47) rfl rfl (fun _ _ _ _ _ => rfl) ?_
      have ff : hFr [49, 51, 52] ph ph6 := f1.trans ((g2.trans (t3.fr (by decide) (by decide))).trans (t6.fr (by decide) (by decide)))
      have rr : ∀ j, j < scs.length * 10 → hTo ph6 50 j = hTo ph 50 j := fun j hj => by rw [t6.rows (by omega) (by omega), t3.rows (by omega) (by omega), t2.rows (by omega) (by omega)]; exact r1 j hj
      have e9 : hRd ph6 49 1 = (scs.length : Int) + 1 := by rw [(t6.fr (S := [51, 52]) (by decide) (by decide)).1 _ _ (by decide), (t3.fr (S := [51, 52]) (by decide) (by decide)).1 _ _ (by decide)]; exact e1
      have nn : ∀ n, n < 10 → n ≠ 8 → hTo ph6 50 (scs.length * 10 + n) = none := fun n hn h8 => by rw [t6.rows (by omega) (by omega), t3.rows (by omega) (by omega), t2.rows (by omega) (by omega)]; exact h13.1 n hn
      have kk : hTo ph6 50 (scs.length * 10 + 8) = some (dg p) := by rw [t6.row]; unfold dg; rw [if_neg (by omega), hd]; rfl
      refine tK (l := xk_47) rfl rfl (fun _ _ _ _ _ => rfl) ?_
      refine tK (l := xk_47) rfl rfl (fun _ _ _ _ _ => rfl) ?_
      refine tCa (l := xk_47) rfl rfl (hInvV (c := 5) t6.sh rfl rfl rfl rfl rfl (Nat.le_of_ble_eq_true rfl) (Nat.le_of_ble_eq_true rfl)) ?_
      refine s43 t6.sh (m := scs.length) e9 (by omega) ⟨by omega, by omega⟩ ?_
      refine tKv ?_
      rw [show (scs.length : Int) * 10 + 9 = ((scs.length * 10 + 9 : Nat) : Int) by push_cast; rfl]
      refine tSt (l := xk_47) rfl rfl (fun _ _ _ _ _ => rfl) (Nat.le_of_ble_eq_true rfl) ?_
      refine tK (l := xk_47) rfl rfl (fun _ _ _ _ _ => rfl) ?_
      refine tK (l := xk_47) rfl rfl (hGetR (o := some 50) t6.sh rfl rfl rfl (by decide) (by decide) rfl) ?_
      refine tK (l := xk_47) rfl rfl (fun _ _ _ _ _ => rfl) ?_
      refine tCa (l := xk_47) rfl rfl (hInvV (c := 8) t6.sh rfl rfl rfl rfl rfl (Nat.le_of_ble_eq_true rfl) (Nat.le_of_ble_eq_true rfl)) ?_
      refine a74 t6.sh rfl t6.tw (r := scs.length * 10 + 9) (by omega) (fun ph4 t4 => ?_)
      refine tKn ?_
      refine tK (l := xk_47) rfl rfl (fun _ _ _ _ _ => rfl) ?_
      refine tK (l := xk_47) rfl rfl (hGetR (o := some 50) t4.sh rfl rfl rfl (by decide) (by decide) rfl) ?_
      refine tK (l := xk_47) rfl rfl (fun _ _ _ _ _ => rfl) ?_
      refine tK (l := xk_47) rfl rfl (fun _ _ _ _ _ => rfl) ?_
      refine tK (l := xk_47) rfl rfl (hGetR (o := some 50) t4.sh rfl rfl rfl (by decide) (by decide) rfl) ?_
      refine tK (l := xk_47) rfl rfl (fun _ _ _ _ _ => rfl) ?_
      refine tK (l := xk_47) rfl rfl (fun _ _ _ _ _ => rfl) ?_
      refine tCa (l := xk_47) rfl rfl (hInvV (c := 8) t4.sh rfl rfl rfl rfl rfl (Nat.le_of_ble_eq_true rfl) (Nat.le_of_ble_eq_true rfl)) ?_
      refine a76 t4.sh rfl t4.tw (r := r) (k := p) (s := mt) (x := c) (by omega) (by rw [t4.rows (by omega) (by omega)]; rw [rr r (by omega)]; exact hmt) hc9 ?_
      refine tKv ?_
      refine tCa (l := xk_47) rfl rfl (hInvV (c := 8) t4.sh rfl rfl rfl rfl rfl (Nat.le_of_ble_eq_true rfl) (Nat.le_of_ble_eq_true rfl)) ?_
      refine a79 t4.sh rfl t4.tw (r := scs.length * 10 + 9) (s := []) (by omega) t4.row (by rw [hw24]; simp) hcc (fun ph5 t5 => ?_)
      refine tKv ?_
      refine tK (l := xk_47) rfl rfl (fun _ _ _ _ _ => rfl) ?_
      refine tK (l := xk_47) rfl rfl (fun _ _ _ _ _ => rfl) ?_
      refine tRt (l := xk_47) rfl rfl (fun _ _ _ _ _ => rfl) ?_
      have f9 : hFr [49, 51, 52] ph ph5 := (ff.trans (t4.fr (by decide) (by decide))).trans (t5.fr (by decide) (by decide))
      have q9 : ∀ j, j < 410 → j ≠ scs.length * 10 + 9 → hTo ph5 50 j = hTo ph6 50 j := fun j hj hn => by rw [t5.rows (by omega) hn, t4.rows (by omega) hn]
      refine hQ ph5 ⟨t5.sh, t5.tw, ?_, by simp; omega, ⟨fun n hn => ?_, hSl_eq (fun j hj => by rw [q9 j (by omega) (by omega)]; exact rr j hj) h3⟩⟩ f9 (fun j hj => by rw [q9 j (by omega) (by omega)]; exact rr j hj)
      · rw [(t5.fr (S := [51, 52]) (by decide) (by decide)).1 _ _ (by decide), (t4.fr (S := [51, 52]) (by decide) (by decide)).1 _ _ (by decide), e9]; simp
      · unfold psc
        by_cases e8 : n = 8
        · rw [if_pos e8, e8, q9 _ (by omega) (by omega)]; exact kk
        · rw [if_neg e8]
          by_cases en : n = 9
          · rw [if_pos en, en, t5.row]; rfl
          · rw [if_neg en, q9 _ (by omega) (by omega)]; exact nn n hn e8
end SCP
