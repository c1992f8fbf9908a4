/-! ===== ByText: its ground ===== -/
def sgK (k : Nat) : Int := if k = 0 then 94 else if k = 5 then 42 else if k = 6 then 63 else 61
def nsc : List Fm → Nat
  | [] => 0
  | f :: fs => if f.1 = 0 ∨ f.1 = 5 then nsc fs + 1 else nsc fs
def hBs (ph : xH) : List Fm → Prop
  | [] => True
  | f :: fs => hBs ph fs ∧ (f.1 = 0 ∨ fs ≠ []) ∧ (f.1 = 0 → hTo ph 65 (cP (f :: fs)).length = some f.2.2.2.2.2 ∧ f.2.2.2.2.2.length ≤ 60) ∧
      (fs ≠ [] → hRd ph 68 (fs.length - 1) = sgK f.1 ∧ (f.1 = 0 → hRd ph 70 (fs.length - 1) = (cX fs : Int)) ∧ (f.1 = 7 → hRd ph 69 (fs.length - 1) = (f.2.2.2.1 : Int)) ∧
        (f.1 = 5 → hRd ph 70 (fs.length - 1) = (f.2.2.1 : Int) ∧ hRd ph 72 (fs.length - 1) = (f.2.2.2.2.1 : Int) ∧ ∃ r0 : Nat, hRd ph 71 (fs.length - 1) = (r0 : Int) ∧ r0 < nsc fs * 10 ∧ hTo ph 50 r0 = some f.2.2.2.2.2))
def hBT (zs : List xV) (ph : xH) (fs : List Fm) (rs : RS) : Prop := hRN zs ph rs ∧ fs ≠ [] ∧ hBs ph fs ∧ rs.1.length = nsc fs ∧ hTW ph 65 ∧ hRd ph 57 4 = ((cP fs).length : Int) ∧ (cP fs).length ≤ 4 ∧ hRd ph 57 5 = (cX fs : Int) ∧ hRd ph 57 11 + 1 = (fs.length : Int) ∧ fs.length ≤ 40
def bT (a : Nat) : Prop := a = 43 ∨ a = 44 ∨ a = 46 ∨ a = 47 ∨ a = 49 ∨ a = 51 ∨ a = 52 ∨ a = 54 ∨ a = 55 ∨ (57 ≤ a ∧ a ≤ 72)
def TB (zs : List xV) (ph : xH) (d : Cf) : Prop := hRN zs ph d.2.1 ∧ (d.2.2.1 = 0 → hBT zs ph d.1 d.2.1) ∧ hTW ph 65
theorem nsc_le {f : Fm} {fs : List Fm} : nsc fs ≤ nsc (f :: fs) := by
  simp only [nsc]
  split <;> omega
theorem nsc_s {f : Fm} {fs : List Fm} (h : f.1 = 0 ∨ f.1 = 5) : nsc (f :: fs) = nsc fs + 1 := by
  simp only [nsc]
  rw [if_pos h]
theorem nsc_n {f : Fm} {fs : List Fm} (h : ¬ (f.1 = 0 ∨ f.1 = 5)) : nsc (f :: fs) = nsc fs := by
  simp only [nsc]
  rw [if_neg h]
theorem nsc_fsN {fs : List Fm} {x : Nat} : nsc (fsN fs x) = nsc fs := by
  cases fs with
  | nil => rfl
  | cons f fs => rfl
theorem hBs.eq {ph ph2 : xH} : ∀ {fs : List Fm}, (∀ a k, 68 ≤ a → a ≤ 72 → k + 1 < fs.length → hRd ph2 a k = hRd ph a k) → (∀ l, l ≤ (cP fs).length → hTo ph2 65 l = hTo ph 65 l) → (∀ r, r < (nsc fs - 1) * 10 → hTo ph2 50 r = hTo ph 50 r) → hBs ph fs → hBs ph2 fs := by
  intro fs
  induction fs with
  | nil => intro _ _ _ _; trivial
  | cons f fs ih =>
    intro h1 h2 h3 ⟨b1, b2, b3, b4⟩
    simp only [List.length_cons] at h1
    refine ⟨ih (fun a k q1 q2 q3 => h1 a k q1 q2 (by omega)) (fun l hl => h2 l (Nat.le_trans hl cP_le)) (fun r hr => h3 r (by have := nsc_le (f := f) (fs := fs); omega)) b1, b2, fun h => by rw [h2 _ (Nat.le_refl _)]; exact b3 h, fun hne => ?_⟩
    have hl := List.length_pos_iff.mpr hne
    have e : ∀ a, 68 ≤ a → a ≤ 72 → hRd ph2 a (fs.length - 1) = hRd ph a (fs.length - 1) := fun a q1 q2 => h1 a _ q1 q2 (by omega)
    obtain ⟨c1, c2, c3, c4⟩ := b4 hne
    refine ⟨by rw [e 68 (by omega) (by omega)]; exact c1, fun h => by rw [e 70 (by omega) (by omega)]; exact c2 h, fun h => by rw [e 69 (by omega) (by omega)]; exact c3 h, fun h => ?_⟩
    obtain ⟨d1, d2, r0, d3, d4, d5⟩ := c4 h
    exact ⟨by rw [e 70 (by omega) (by omega)]; exact d1, by rw [e 72 (by omega) (by omega)]; exact d2, r0, by rw [e 71 (by omega) (by omega)]; exact d3, d4, by rw [h3 r0 (by rw [nsc_s (Or.inr h)]; omega)]; exact d5⟩
theorem hBs_fsN {ph : xH} {fs : List Fm} {x : Nat} : hBs ph (fsN fs x) ↔ hBs ph fs := by
  cases fs with
  | nil => exact Iff.rfl
  | cons f fs => exact Iff.rfl
theorem hBs_cT {ph : xH} : ∀ {fs : List Fm}, fs ≠ [] → hBs ph fs → hTo ph 65 (cP fs).length = some (cT fs) ∧ (cT fs).length ≤ 60 := by
  intro fs
  induction fs with
  | nil => intro h; exact absurd rfl h
  | cons f fs ih =>
    intro _ ⟨b1, b2, b3, b4⟩
    by_cases h : f.1 = 0
    · have e : cT (f :: fs) = f.2.2.2.2.2 := by simp only [cT]; rw [if_pos h]
      rw [e]
      exact b3 h
    · have e : cT (f :: fs) = cT fs := by simp only [cT]; rw [if_neg h]
      rw [e, cP_k h]
      exact ih (b2.resolve_left h) b1
theorem cT_k {f : Fm} {fs : List Fm} (h : f.1 ≠ 0) : cT (f :: fs) = cT fs := by simp only [cT]; rw [if_neg h]
section BTX
variable {d : Nat} {ph : xH} {zs : List xV} {g : Nat} {Q : xR → Prop} {fs : List Fm} {rs : RS}
theorem hBT.fr {S : List Nat} {ph2 : xH} {rs2 : RS} (h : hBT zs ph fs rs) (hr : hRN zs ph2 rs2) (hf : hFr S ph ph2) (hS : ∀ a ∈ S, a ∈ [43, 44, 46, 47, 54, 55]) (hl : rs2.1.length = rs.1.length) : hBT zs ph2 fs rs2 := by
  obtain ⟨b1, b2, b3, b4, b5, b6, b7, b8, b9, b10⟩ := h
  have n : ∀ a, a ∉ [43, 44, 46, 47, 54, 55] → a ∉ S := fun a ha hq => ha (hS a hq)
  have na : ∀ a, 57 ≤ a → a ∉ S := fun a ha => n a (by simp only [List.mem_cons, List.not_mem_nil, or_false]; omega)
  refine ⟨hr, b2, b3.eq (fun a k q1 q2 _ => hf.at (na a (by omega)) k) (fun l _ => hf.to (na _ (by decide)) (na _ (by decide))) (fun r _ => hf.to (n _ (by decide)) (n _ (by decide))), by rw [hl]; exact b4, hf.tw (na _ (by decide)) b5, by rw [hf.at (na _ (by decide))]; exact b6, b7, by rw [hf.at (na _ (by decide))]; exact b8, by rw [hf.at (na _ (by decide))]; exact b9, b10⟩
/-- only the place changed -/
def hA5 (zs : List xV) (ph ph2 : xH) (y : Nat) : Prop := hSh zs ph2 ∧ hFr [57] ph ph2 ∧ hRd ph2 57 5 = (y : Int) ∧ ∀ k, k ≠ 5 → hRd ph2 57 k = hRd ph 57 k
theorem hA5_up {y : Nat} (hs : hSh zs ph) : hA5 zs ph (hUp ph 57 5 (y : Int)) y := by
  have rd := hRd_up (x := (y : Int)) hs (show hKi (hTg 57) 5 = true from rfl) (by decide)
  exact ⟨hShI1 _ hs rfl rfl, hUp_fr hs rfl (by decide) (by decide), by rw [rd, if_pos ⟨rfl, rfl⟩], fun k hk => by rw [rd, if_neg (fun q => hk q.2)]⟩
theorem hA5.trans {y z : Nat} {pha phb phc : xH} (h1 : hA5 zs pha phb y) (h2 : hA5 zs phb phc z) : hA5 zs pha phc z :=
  ⟨h2.1, h1.2.1.trans h2.2.1, h2.2.2.1, fun k hk => (h2.2.2.2 k hk).trans (h1.2.2.2 k hk)⟩
theorem hBT.at {y : Nat} {ph2 : xH} (h : hBT zs ph fs rs) (h5 : hA5 zs ph ph2 y) : hBT zs ph2 (fsN fs y) rs := by
  obtain ⟨b1, b2, b3, b4, b5, b6, b7, b8, b9, b10⟩ := h
  obtain ⟨s1, f1, a5, ak⟩ := h5
  refine ⟨b1.fr s1 f1 (by decide), fsN_ne b2, hBs_fsN.mpr (b3.eq (fun a k q1 q2 _ => f1.at (by simp only [List.mem_cons, List.not_mem_nil, or_false]; omega) k) (fun l _ => f1.to (by decide) (by decide)) (fun r _ => f1.to (by decide) (by decide))), by rw [nsc_fsN]; exact b4, f1.tw (by decide) b5, ?_, by rw [cP_fsN]; exact b7, ?_, ?_, by rw [fsN_len]; exact b10⟩
  · rw [ak 4 (by decide), cP_fsN]; exact b6
  · rw [a5, cX_fsN b2]
  · rw [ak 11 (by decide), fsN_len]; exact b9
theorem hFr.bt {S : List Nat} {pha phb : xH} (h : hFr S pha phb) (hS : ∀ a ∈ S, a ∈ [43, 44, 46, 47, 49, 51, 52, 54, 55, 57, 59, 60, 61, 62, 63, 64, 58, 66, 67, 68, 69, 70, 71, 72]) : hFd bT pha phb := h.fd (fun a ha => by
  have := hS a ha
  simp only [List.mem_cons, List.not_mem_nil, or_false] at this
  unfold bT
  omega)
/-! what a text tells at a place, also behind its end -/
def chA (t : List Int) (k : Nat) : Int := (t[k]?).getD 0
theorem chA_some {t : List Int} {k : Nat} {c : Int} (h : t[k]? = some c) : chA t k = c := by
  unfold chA
  rw [h]
  rfl
theorem chA_in {zs : List xV} {ph : xH} {t r k : Nat} {s : List Int} (hs : hSh zs ph) (ht : hTg t = 8) (h : hTo ph t r = some s) : 0 ≤ chA s k ∧ chA s k ≤ 65535 := by
  unfold chA
  cases e : s[k]? with
  | none => decide
  | some c => exact hTo_ch hs ht h c (List.mem_of_getElem? e)
theorem a76n {t r k : Nat} {s : List Int} (hs : hSh zs ph) (ht : hTg t = 8) (hw : hTW ph t) (hr : r < hRw t) (hv : hTo ph t r = some s) (hk : s.length ≤ k) (hQ : Q (.inl (some (.inl 0)), ph, g)) : xTC d 76 [.inr (.inl (some t)), .inl (r : Int), .inl (k : Int)] ph g Q := by
  have hz := hTx_sz ht
  have hwr := hw r hr
  have hm := hRWI ht hr
  have hv1 := (hTo_some hv).1
  refine tEn (ls := [some (.inr (.inl (some t))), some (.inl (r : Int)), some (.inl (k : Int)), none]) (fun k => by match k with | 0 => rfl | 1 => rfl | 2 => rfl | 3 => rfl | k + 4 => rfl) ?_
  refine tK (l := xk_76) rfl rfl (fun _ _ _ _ _ => rfl) ?_
  refine tIf_lt (l := xk_76) (pc' := 27) rfl rfl rfl (fun hc => ?_) (fun hc => ?_)
  · refine tK (l := xk_76) rfl rfl (fun _ _ _ _ _ => rfl) ?_
    refine tRt (l := xk_76) rfl rfl (fun _ _ _ _ _ => rfl) ?_
    first | exact hQ | (exfalso; omega)
  · refine tK (l := xk_76) rfl rfl (fun _ _ _ _ _ => rfl) ?_
    refine tK (l := xk_76) rfl rfl (fun _ _ _ _ _ => rfl) ?_
    refine tK (l := xk_76) rfl rfl (hGetR (o := some (t + 2)) hs rfl ht rfl (by decide) (by decide) (hrf_8_2 ht)) ?_
    refine tK (l := xk_76) rfl rfl (hAlen1 hs (htg_8_2 ht) (by decide) (by decide)) ?_
    refine tIc_ge (l := xk_76) (pc' := 27) rfl rfl rfl (fun hc => ?_) (fun hc => ?_)
    · refine tK (l := xk_76) rfl rfl (fun _ _ _ _ _ => rfl) ?_
      refine tIf_lt (l := xk_76) (pc' := 27) rfl rfl rfl (fun hc => ?_) (fun hc => ?_)
      · refine tK (l := xk_76) rfl rfl (fun _ _ _ _ _ => rfl) ?_
        refine tRt (l := xk_76) rfl rfl (fun _ _ _ _ _ => rfl) ?_
        first | exact hQ | (exfalso; omega)
      · refine tK (l := xk_76) rfl rfl (fun _ _ _ _ _ => rfl) ?_
        refine tK (l := xk_76) rfl rfl (fun _ _ _ _ _ => rfl) ?_
        refine tK (l := xk_76) rfl rfl (hGetR (o := some (t + 2)) hs rfl ht rfl (by decide) (by decide) (hrf_8_2 ht)) ?_
        refine tK (l := xk_76) rfl rfl (fun _ _ _ _ _ => rfl) ?_
        first | refine tK (l := xk_76) rfl rfl (hIaldN hs (htg_8_2 ht) rfl (by omega)) ?_ | refine tK (l := xk_76) rfl rfl (hIald hs (htg_8_2 ht) (by omega) (by omega)) ?_
        refine tIc_lt (l := xk_76) (pc' := 29) rfl rfl rfl (fun hc => ?_) (fun hc => ?_)
        · refine tK (l := xk_76) rfl rfl (fun _ _ _ _ _ => rfl) ?_
          refine tK (l := xk_76) rfl rfl (fun _ _ _ _ _ => rfl) ?_
          refine tK (l := xk_76) rfl rfl (hGetC hs rfl ht rfl (by decide) (by decide) (hCs_8 ht)) ?_
          refine tK (l := xk_76) rfl rfl (hMul ⟨by omega, by omega⟩) ?_
          refine tK (l := xk_76) rfl rfl (fun _ _ _ _ _ => rfl) ?_
          refine tK (l := xk_76) rfl rfl (hAdd ⟨by omega, by omega⟩) ?_
          refine tSt (l := xk_76) rfl rfl (fun _ _ _ _ _ => rfl) (Nat.le_of_ble_eq_true rfl) ?_
          refine tK (l := xk_76) rfl rfl (fun _ _ _ _ _ => rfl) ?_
          refine tIf_lt (l := xk_76) (pc' := 60) rfl rfl rfl (fun hc => ?_) (fun hc => ?_)
          · refine tK (l := xk_76) rfl rfl (fun _ _ _ _ _ => rfl) ?_
            refine tRt (l := xk_76) rfl rfl (fun _ _ _ _ _ => rfl) ?_
            first | exact hQ | (exfalso; omega)
          · refine tK (l := xk_76) rfl rfl (fun _ _ _ _ _ => rfl) ?_
            refine tK (l := xk_76) rfl rfl (fun _ _ _ _ _ => rfl) ?_
            refine tK (l := xk_76) rfl rfl (hGetR (o := some (t + 1)) hs rfl ht rfl (by decide) (by decide) (hrf_8_1 ht)) ?_
            refine tK (l := xk_76) rfl rfl (hAlen1 hs (htg_8_1 ht) (by decide) (by decide)) ?_
            refine tIc_ge (l := xk_76) (pc' := 60) rfl rfl rfl (fun hc => ?_) (fun hc => ?_)
            · refine tK (l := xk_76) rfl rfl (fun _ _ _ _ _ => rfl) ?_
              refine tK (l := xk_76) rfl rfl (hGetR (o := some (t + 1)) hs rfl ht rfl (by decide) (by decide) (hrf_8_1 ht)) ?_
              refine tK (l := xk_76) rfl rfl (fun _ _ _ _ _ => rfl) ?_
              first | refine tK (l := xk_76) rfl rfl (hCaldN hs (htg_8_1 ht) rfl (by omega)) ?_ | refine tK (l := xk_76) rfl rfl (hCald hs (htg_8_1 ht) (by omega) (by omega)) ?_
              refine tK (l := xk_76) rfl rfl (fun _ _ _ _ _ => rfl) ?_
              refine tRt (l := xk_76) rfl rfl (fun _ _ _ _ _ => rfl) ?_
              first | exact hQ | (exfalso; omega)
            · refine tK (l := xk_76) rfl rfl (fun _ _ _ _ _ => rfl) ?_
              refine tRt (l := xk_76) rfl rfl (fun _ _ _ _ _ => rfl) ?_
              first | exact hQ | (exfalso; omega)
        · refine tK (l := xk_76) rfl rfl (fun _ _ _ _ _ => rfl) ?_
          refine tRt (l := xk_76) rfl rfl (fun _ _ _ _ _ => rfl) ?_
          first | exact hQ | (exfalso; omega)
    · refine tK (l := xk_76) rfl rfl (fun _ _ _ _ _ => rfl) ?_
      refine tRt (l := xk_76) rfl rfl (fun _ _ _ _ _ => rfl) ?_
      first | exact hQ | (exfalso; omega)
theorem a76g {t r k : Nat} {s : List Int} (hs : hSh zs ph) (ht : hTg t = 8) (hw : hTW ph t) (hr : r < hRw t) (hv : hTo ph t r = some s) (hQ : Q (.inl (some (.inl (chA s k))), ph, g)) : xTC d 76 [.inr (.inl (some t)), .inl (r : Int), .inl (k : Int)] ph g Q := by
  by_cases hk : k < s.length
  · have e := List.getElem?_eq_getElem hk
    rw [chA_some e] at hQ
    exact a76 hs ht hw hr hv e hQ
  · have e : chA s k = 0 := by unfold chA; rw [List.getElem?_eq_none (by omega)]; rfl
    rw [e] at hQ
    exact a76n hs ht hw hr hv (by omega) hQ
theorem hRw65 : hRw 65 = 5 ∧ hWd 65 = 60 := by decide +kernel
theorem s11 {L x a : Nat} {t : List Int} (hs : hSh zs ph) (hw : hTW ph 65) (hL : L < 5) (h4 : hRd ph 57 4 = (L : Int)) (h5 : hRd ph 57 5 = (x : Int)) (hx : x ≤ 1000) (ha : a ≤ 1000) (hv : hTo ph 65 L = some t) (hQ : Q (.inl (some (.inl (chA t (x + a)))), ph, g)) : xTC (d + 1) 11 [.inr (.inl (some 57)), .inl (a : Int)] ph g Q := by
  have hz := hRw65
  refine tEn (ls := [some (.inr (.inl (some 57))), some (.inl (a : Int))]) (fun k => by match k with | 0 => rfl | 1 => rfl | k + 2 => rfl) ?_
  refine tK (l := xk_11) rfl rfl (fun _ _ _ _ _ => rfl) ?_
  refine tK (l := xk_11) rfl rfl (hGetR (o := some 65) hs rfl rfl rfl (by decide) (by decide) rfl) ?_
  refine tK (l := xk_11) rfl rfl (fun _ _ _ _ _ => rfl) ?_
  refine tK (l := xk_11) rfl rfl (hGetI hs rfl rfl rfl (by decide) (by decide)) ?_
  refine tK (l := xk_11) rfl rfl (fun _ _ _ _ _ => rfl) ?_
  refine tK (l := xk_11) rfl rfl (hGetI hs rfl rfl rfl (by decide) (by decide)) ?_
  refine tK (l := xk_11) rfl rfl (fun _ _ _ _ _ => rfl) ?_
  refine tK (l := xk_11) rfl rfl (hAdd ⟨by omega, by omega⟩) ?_
  refine tCa (l := xk_11) rfl rfl (hInvV (c := 8) hs rfl rfl rfl rfl rfl (Nat.le_of_ble_eq_true rfl) (Nat.le_of_ble_eq_true rfl)) ?_
  rw [h4, h5, show (x : Int) + (a : Int) = ((x + a : Nat) : Int) by push_cast; rfl]
  refine a76g hs rfl hw (by omega) hv ?_
  refine tKv ?_
  refine tRt (l := xk_11) rfl rfl (fun _ _ _ _ _ => rfl) ?_
  exact hQ
/-! going over the parts of a block, character by character -/
def Skp (t : List Int) : Nat → Nat → Nat → Nat → Nat → Prop
  | 0, x, o, y, o2 => x = y ∧ o = o2
  | m + 1, x, o, y, o2 => 0 < o ∧ ∃ c, t[x]? = some c ∧ Skp t m (if c = 126 then x + 2 else x + 1) (if c = 123 then o + 1 else if c = 125 then o - 1 else o) y o2
theorem Skp.trans {t : List Int} : ∀ {m n x o y o2 z o3 : Nat}, Skp t m x o y o2 → Skp t n y o2 z o3 → Skp t (m + n) x o z o3 := by
  intro m
  induction m with
  | zero =>
    intro n x o y o2 z o3 h1 h2
    obtain ⟨rfl, rfl⟩ := h1
    rw [Nat.zero_add]
    exact h2
  | succ m ih =>
    intro n x o y o2 z o3 ⟨h1, c, h2, h3⟩ h4
    rw [Nat.succ_add]
    exact ⟨h1, c, h2, ih h3 h4⟩
theorem Skp_p {t : List Int} {x o : Nat} {c : Int} (ho : 0 < o) (h : t[x]? = some c) (h1 : c ≠ 123) (h2 : c ≠ 125) (h3 : c ≠ 126) : Skp t 1 x o (x + 1) o :=
  ⟨ho, c, h, by rw [if_neg h3], by rw [if_neg h1, if_neg h2]⟩
theorem Skp_o {t : List Int} {x o : Nat} (ho : 0 < o) (h : t[x]? = some 123) : Skp t 1 x o (x + 1) (o + 1) := ⟨ho, 123, h, rfl, rfl⟩
theorem Skp_c {t : List Int} {x o : Nat} (h : t[x]? = some 125) : Skp t 1 x (o + 1) (x + 1) o := ⟨Nat.succ_pos _, 125, h, rfl, rfl⟩
theorem nmF_ch {c : Int} {n : Nat} (h : nmF c = (n : Int)) : c ≠ 123 ∧ c ≠ 125 ∧ c ≠ 126 := by
  unfold nmF at h
  split at h
  · omega
  · split at h
    · omega
    · split at h <;> omega
theorem kdF_ch {c : Int} (h : kdF c ≠ 2) : c ≠ 123 ∧ c ≠ 125 ∧ c ≠ 126 := by
  refine ⟨?_, ?_, ?_⟩ <;> (rintro rfl; exact h rfl)
theorem Skp_sg : ∀ {n : Nat} {t : List Int} {ps : List PP} {p q x y o : Nat}, 0 < o → Sg n t ps p q x y → ∃ m, m ≤ y - x ∧ x ≤ y ∧ Skp t m x o y o := by
  intro n
  induction n with
  | zero => intro t ps p q x y o _ h; exact absurd h (fun q => q)
  | succ n ih =>
    intro t ps p q x y o ho h
    rcases h with ⟨-, rfl⟩ | ⟨k, cd, nm, bh, h1, h2, h3, ⟨w, h4, h5, h6⟩ | ⟨h4, e, h5, h6, h7⟩⟩
    · exact ⟨0, Nat.zero_le _, Nat.le_refl _, rfl, rfl⟩
    · obtain ⟨m, m1, m2, m3⟩ := ih ho h6
      have one : ∃ m, m ≤ w ∧ Skp t m x o (x + w) o := by
        rcases h4 with ⟨-, rfl, q1, q2, q3, q4⟩ | ⟨-, rfl, q1, q2⟩ | ⟨-, rfl, q1, ⟨c, q2, -, q3⟩, q4⟩ | ⟨q0, rfl, q1, ⟨c, q2, q3⟩, ⟨c2, q4, q5⟩, q6⟩
        · exact ⟨1, Nat.le_refl _, Skp_p ho q1 q2 q3 q4⟩
        · exact ⟨1, by omega, ho, 126, q1, rfl, rfl⟩
        · obtain ⟨e1, e2, e3⟩ := nmF_ch q3
          exact ⟨1 + (1 + 1), by omega, (Skp_o ho q1).trans ((Skp_p (Nat.succ_pos _) q2 e1 e2 e3).trans (Skp_c q4))⟩
        · obtain ⟨e1, e2, e3⟩ := nmF_ch q5
          obtain ⟨d1, d2, d3⟩ := kdF_ch (c := c) (by omega)
          exact ⟨1 + (1 + (1 + 1)), by omega, (Skp_o ho q1).trans ((Skp_p (Nat.succ_pos _) q2 d1 d2 d3).trans ((Skp_p (Nat.succ_pos _) q4 e1 e2 e3).trans (Skp_c q6)))⟩
      obtain ⟨m', n1, n2⟩ := one
      exact ⟨m' + m, by omega, by omega, n2.trans m3⟩
    · obtain ⟨m, m1, m2, m3⟩ := ih (Nat.succ_pos o) h5
      obtain ⟨m', n1, n2, n3⟩ := ih ho h7
      obtain ⟨b1, b2, ⟨c, b3, b4⟩, ⟨c2, b5, b6⟩, b7⟩ := h4
      obtain ⟨e1, e2, e3⟩ := nmF_ch b6
      obtain ⟨d1, d2, d3⟩ := kdF_ch (c := c) (by omega)
      refine ⟨(1 + (1 + (1 + 1))) + (m + (1 + m')), by omega, by omega, Skp.trans ((Skp_o ho b2).trans ((Skp_p (Nat.succ_pos _) b3 d1 d2 d3).trans ((Skp_p (Nat.succ_pos _) b5 e1 e2 e3).trans (Skp_p (Nat.succ_pos _) b7 (by decide) (by decide) (by decide))))) (m3.trans ((Skp_c h6).trans n3))⟩
theorem s18 {m x y L : Nat} {t : List Int} (hs : hSh zs ph) (hw : hTW ph 65) (hL : L < 5) (h4 : hRd ph 57 4 = (L : Int)) (h5 : hRd ph 57 5 = (x : Int)) (hv : hTo ph 65 L = some t) (htl : t.length ≤ 60) (hm : m ≤ 60) (hsk : Skp t m x 1 y 0) (hQ : ∀ ph2, hA5 zs ph ph2 y → Q (.inl none, ph2, g)) : xTC (d + 2) 18 [.inr (.inl (some 57))] ph g Q := by
  have loop : ∀ (r i x o : Nat) (phi : xH) (o3 : Option xV), i + r ≤ 60 → o ≤ i + 1 → Skp t r x o y 0 → hA5 zs ph phi x → hTW phi 65 → hRd phi 57 4 = (L : Int) → hTo phi 65 L = some t → xT (d + 2) 18 4 (xlo [some (.inr (.inl (some 57))), some (.inl (o : Int)), some (.inl (i : Int)), o3]) [] phi g Q := by
    intro r
    induction r with
    | zero =>
      intro i x o phi o3 hir ho hsk ha hw e4 hv
      have hs := ha.1
      obtain ⟨rfl, rfl⟩ := hsk
      refine tK (l := xk_18) rfl rfl (fun _ _ _ _ _ => rfl) ?_
      refine tK (l := xk_18) rfl rfl (fun _ _ _ _ _ => rfl) ?_
      refine tIc_ge (l := xk_18) (pc' := 67) rfl rfl rfl (fun hc => ?_) (fun hc => ?_)
      · refine tK (l := xk_18) rfl rfl (fun _ _ _ _ _ => rfl) ?_
        refine tIf_le (l := xk_18) (pc' := 67) rfl rfl rfl (fun hc => ?_) (fun hc => ?_)
        · exact absurd hc (by decide)
        · refine tRt (l := xk_18) rfl rfl (fun _ _ _ _ _ => rfl) ?_
          exact hQ phi ha
      · refine tRt (l := xk_18) rfl rfl (fun _ _ _ _ _ => rfl) ?_
        exact hQ phi ha
    | succ r ih =>
      intro i x o phi o3 hir ho hsk ha hw e4 hv
      have hs := ha.1
      have e5 := ha.2.2.1
      obtain ⟨ho0, c, hc9, hsk⟩ := hsk
      have hx := (List.getElem?_eq_some_iff.mp hc9).1
      refine tK (l := xk_18) rfl rfl (fun _ _ _ _ _ => rfl) ?_
      refine tK (l := xk_18) rfl rfl (fun _ _ _ _ _ => rfl) ?_
      refine tIc_ge (l := xk_18) (pc' := 67) rfl rfl rfl (fun hc => ?_) (fun hc => ?_)
      · have hc7 := hc
        refine tK (l := xk_18) rfl rfl (fun _ _ _ _ _ => rfl) ?_
        refine tIf_le (l := xk_18) (pc' := 67) rfl rfl rfl (fun hc => ?_) (fun hc => ?_)
        · have hc11 := hc
          refine tK (l := xk_18) rfl rfl (fun _ _ _ _ _ => rfl) ?_
          refine tK (l := xk_18) rfl rfl (fun _ _ _ _ _ => rfl) ?_
          refine tCa (l := xk_18) rfl rfl (hInvV (c := 1) hs rfl rfl rfl rfl rfl (Nat.le_of_ble_eq_true rfl) (Nat.le_of_ble_eq_true rfl)) ?_
          refine s11 (a := 0) hs hw hL e4 e5 (by omega) (by omega) hv ?_
          refine tKv ?_
          rw [show chA t (x + 0) = c from chA_some hc9]
          refine tSt (l := xk_18) rfl rfl (fun _ _ _ _ _ => rfl) (Nat.le_of_ble_eq_true rfl) ?_
          refine tK (l := xk_18) rfl rfl (fun _ _ _ _ _ => rfl) ?_
          refine tK (l := xk_18) rfl rfl (fun _ _ _ _ _ => rfl) ?_
          refine tIc_ne (l := xk_18) (pc' := 32) rfl rfl rfl (fun hc => ?_) (fun hc => ?_)
          · have hc23 := hc
            refine tSt (l := xk_18) rfl rfl (hIinc rfl (Nat.le_of_ble_eq_true rfl) ⟨by omega, by omega⟩) (Nat.le_of_ble_eq_true rfl) ?_
            refine tK (l := xk_18) rfl rfl (fun _ _ _ _ _ => rfl) ?_
            refine tK (l := xk_18) rfl rfl (fun _ _ _ _ _ => rfl) ?_
            refine tK (l := xk_18) rfl rfl (fun _ _ _ _ _ => rfl) ?_
            refine tK (l := xk_18) rfl rfl (hGetI hs rfl rfl rfl (by decide) (by decide)) ?_
            rw [e5]
            refine tK (l := xk_18) rfl rfl (fun _ _ _ _ _ => rfl) ?_
            refine tK (l := xk_18) rfl rfl (fun _ _ _ _ _ => rfl) ?_
            refine tIc_ne (l := xk_18) (pc' := 56) rfl rfl rfl (fun hc => ?_) (fun hc => ?_)
            · have hc49 := hc
              exfalso
              have h1 : c = 123 := hc23
              have h2 : c = 126 := hc
              omega
            · have hc49 := hc
              refine tK (l := xk_18) rfl rfl (fun _ _ _ _ _ => rfl) ?_
              refine tK (l := xk_18) rfl rfl (hAdd ⟨by omega, by omega⟩) ?_
              refine tK (l := xk_18) rfl rfl (hPutV hs rfl rfl (by decide) (by decide) rfl) ?_
              refine tSt (l := xk_18) rfl rfl (hIinc rfl (Nat.le_of_ble_eq_true rfl) ⟨by omega, by omega⟩) (Nat.le_of_ble_eq_true rfl) ?_
              refine tK (l := xk_18) rfl rfl (fun _ _ _ _ _ => rfl) ?_
              have a5 : hA5 zs phi (hUp phi 57 5 ((x : Int) + 1)) (x + 1) := hA5_up hs
              rw [if_neg (show ¬ c = 126 from hc49), if_pos (show c = 123 from hc23)] at hsk
              exact ih (i + 1) (x + 1) (o + 1) _ _ (by omega) (by omega) hsk (ha.trans a5) (a5.2.1.tw (by decide) hw) (by rw [a5.2.2.2 4 (by decide)]; exact e4) ((a5.2.1.to (by decide) (by decide)).trans hv)
          · have hc23 := hc
            refine tK (l := xk_18) rfl rfl (fun _ _ _ _ _ => rfl) ?_
            refine tK (l := xk_18) rfl rfl (fun _ _ _ _ _ => rfl) ?_
            refine tIc_ne (l := xk_18) (pc' := 41) rfl rfl rfl (fun hc => ?_) (fun hc => ?_)
            · have hc35 := hc
              refine tSt (l := xk_18) rfl rfl (hIinc rfl (Nat.le_of_ble_eq_true rfl) ⟨by omega, by omega⟩) (Nat.le_of_ble_eq_true rfl) ?_
              refine tK (l := xk_18) rfl rfl (fun _ _ _ _ _ => rfl) ?_
              refine tK (l := xk_18) rfl rfl (fun _ _ _ _ _ => rfl) ?_
              refine tK (l := xk_18) rfl rfl (hGetI hs rfl rfl rfl (by decide) (by decide)) ?_
              rw [e5]
              refine tK (l := xk_18) rfl rfl (fun _ _ _ _ _ => rfl) ?_
              refine tK (l := xk_18) rfl rfl (fun _ _ _ _ _ => rfl) ?_
              refine tIc_ne (l := xk_18) (pc' := 56) rfl rfl rfl (fun hc => ?_) (fun hc => ?_)
              · have hc49 := hc
                exfalso
                have h1 : c = 125 := hc35
                have h2 : c = 126 := hc
                omega
              · have hc49 := hc
                refine tK (l := xk_18) rfl rfl (fun _ _ _ _ _ => rfl) ?_
                refine tK (l := xk_18) rfl rfl (hAdd ⟨by omega, by omega⟩) ?_
                refine tK (l := xk_18) rfl rfl (hPutV hs rfl rfl (by decide) (by decide) rfl) ?_
                refine tSt (l := xk_18) rfl rfl (hIinc rfl (Nat.le_of_ble_eq_true rfl) ⟨by omega, by omega⟩) (Nat.le_of_ble_eq_true rfl) ?_
                refine tK (l := xk_18) rfl rfl (fun _ _ _ _ _ => rfl) ?_
                have a5 : hA5 zs phi (hUp phi 57 5 ((x : Int) + 1)) (x + 1) := hA5_up hs
                rw [show (o : Int) + -1 = ((o - 1 : Nat) : Int) by omega]
                rw [if_neg (show ¬ c = 126 from hc49), if_neg (show ¬ c = 123 from hc23), if_pos (show c = 125 from hc35)] at hsk
                exact ih (i + 1) (x + 1) (o - 1) _ _ (by omega) (by omega) hsk (ha.trans a5) (a5.2.1.tw (by decide) hw) (by rw [a5.2.2.2 4 (by decide)]; exact e4) ((a5.2.1.to (by decide) (by decide)).trans hv)
            · have hc35 := hc
              refine tK (l := xk_18) rfl rfl (fun _ _ _ _ _ => rfl) ?_
              refine tK (l := xk_18) rfl rfl (fun _ _ _ _ _ => rfl) ?_
              refine tK (l := xk_18) rfl rfl (hGetI hs rfl rfl rfl (by decide) (by decide)) ?_
              rw [e5]
              refine tK (l := xk_18) rfl rfl (fun _ _ _ _ _ => rfl) ?_
              refine tK (l := xk_18) rfl rfl (fun _ _ _ _ _ => rfl) ?_
              refine tIc_ne (l := xk_18) (pc' := 56) rfl rfl rfl (fun hc => ?_) (fun hc => ?_)
              · have hc49 := hc
                refine tK (l := xk_18) rfl rfl (fun _ _ _ _ _ => rfl) ?_
                refine tK (l := xk_18) rfl rfl (fun _ _ _ _ _ => rfl) ?_
                refine tK (l := xk_18) rfl rfl (hAdd ⟨by omega, by omega⟩) ?_
                refine tK (l := xk_18) rfl rfl (hPutV hs rfl rfl (by decide) (by decide) rfl) ?_
                refine tSt (l := xk_18) rfl rfl (hIinc rfl (Nat.le_of_ble_eq_true rfl) ⟨by omega, by omega⟩) (Nat.le_of_ble_eq_true rfl) ?_
                refine tK (l := xk_18) rfl rfl (fun _ _ _ _ _ => rfl) ?_
                have a5 : hA5 zs phi (hUp phi 57 5 ((x : Int) + 2)) (x + 2) := hA5_up hs
                rw [if_pos (show c = 126 from hc49), if_neg (show ¬ c = 123 from hc23), if_neg (show ¬ c = 125 from hc35)] at hsk
                exact ih (i + 1) (x + 2) o _ _ (by omega) (by omega) hsk (ha.trans a5) (a5.2.1.tw (by decide) hw) (by rw [a5.2.2.2 4 (by decide)]; exact e4) ((a5.2.1.to (by decide) (by decide)).trans hv)
              · have hc49 := hc
                refine tK (l := xk_18) rfl rfl (fun _ _ _ _ _ => rfl) ?_
                refine tK (l := xk_18) rfl rfl (hAdd ⟨by omega, by omega⟩) ?_
                refine tK (l := xk_18) rfl rfl (hPutV hs rfl rfl (by decide) (by decide) rfl) ?_
                refine tSt (l := xk_18) rfl rfl (hIinc rfl (Nat.le_of_ble_eq_true rfl) ⟨by omega, by omega⟩) (Nat.le_of_ble_eq_true rfl) ?_
                refine tK (l := xk_18) rfl rfl (fun _ _ _ _ _ => rfl) ?_
                have a5 : hA5 zs phi (hUp phi 57 5 ((x : Int) + 1)) (x + 1) := hA5_up hs
                rw [if_neg (show ¬ c = 126 from hc49), if_neg (show ¬ c = 123 from hc23), if_neg (show ¬ c = 125 from hc35)] at hsk
                exact ih (i + 1) (x + 1) o _ _ (by omega) (by omega) hsk (ha.trans a5) (a5.2.1.tw (by decide) hw) (by rw [a5.2.2.2 4 (by decide)]; exact e4) ((a5.2.1.to (by decide) (by decide)).trans hv)
        · have hc11 := hc
          exfalso; omega
      · have hc7 := hc
        exfalso; omega
  refine tEn (ls := [some (.inr (.inl (some 57))), none, none, none]) (fun k => by match k with | 0 => rfl | 1 => rfl | 2 => rfl | 3 => rfl | k + 4 => rfl) ?_
  refine tK (l := xk_18) rfl rfl (fun _ _ _ _ _ => rfl) ?_
  refine tSt (l := xk_18) rfl rfl (fun _ _ _ _ _ => rfl) (Nat.le_of_ble_eq_true rfl) ?_
  refine tK (l := xk_18) rfl rfl (fun _ _ _ _ _ => rfl) ?_
  refine tSt (l := xk_18) rfl rfl (fun _ _ _ _ _ => rfl) (Nat.le_of_ble_eq_true rfl) ?_
  exact loop m 0 x 1 ph none (by omega) (by omega) hsk ⟨hs, hFr.refl, h5, fun _ _ => rfl⟩ hw h4 hv
theorem hSz68 : hSz 68 = 40 ∧ hSz 69 = 40 ∧ hSz 70 = 40 ∧ hSz 71 = 40 ∧ hSz 72 = 40 := by decide +kernel
theorem s16 {m : Nat} {sg nm rw9 : Int} (hs : hSh zs ph) (h11 : hRd ph 57 11 = (m : Int)) (hm : m < 40) (hQ : ∀ ph2, hSh zs ph2 → hFr [57, 68, 69, 70, 71, 72] ph ph2 → (∀ b j, hRd ph2 b j = if b = 57 ∧ j = 11 then (m : Int) + 1 else if b = 72 ∧ j = m then 0 else if b = 71 ∧ j = m then rw9 else if b = 70 ∧ j = m then hRd ph 57 5 else if b = 69 ∧ j = m then nm else if b = 68 ∧ j = m then sg else hRd ph b j) → Q (.inl (some (.inl 1)), ph2, g)) : xTC d 16 [.inr (.inl (some 57)), .inl sg, .inl nm, .inl rw9] ph g Q := by
  obtain ⟨z1, z2, z3, z4, z5⟩ := hSz68
  have u1 : hSh zs (hUp ph 68 m sg) := hShI1 _ hs rfl rfl
  have u2 : hSh zs (hUp (hUp ph 68 m sg) 69 m nm) := hShI1 _ u1 rfl rfl
  have u3 : hSh zs (hUp (hUp (hUp ph 68 m sg) 69 m nm) 70 m (hRd ph 57 5)) := hShI1 _ u2 rfl rfl
  have u4 : hSh zs (hUp (hUp (hUp (hUp ph 68 m sg) 69 m nm) 70 m (hRd ph 57 5)) 71 m rw9) := hShI1 _ u3 rfl rfl
  have u5 : hSh zs (hUp (hUp (hUp (hUp (hUp ph 68 m sg) 69 m nm) 70 m (hRd ph 57 5)) 71 m rw9) 72 m 0) := hShI1 _ u4 rfl rfl
  have u6 : hSh zs (hUp (hUp (hUp (hUp (hUp (hUp ph 68 m sg) 69 m nm) 70 m (hRd ph 57 5)) 71 m rw9) 72 m 0) 57 11 ((m : Int) + 1)) := hShI1 _ u5 rfl rfl
  have v5 : hRd (hUp (hUp ph 68 m sg) 69 m nm) 57 5 = hRd ph 57 5 := by rw [hRd_up u1 (a := 69) (k := m) (x := nm) rfl (by omega), if_neg (by omega), hRd_up hs (a := 68) (k := m) (x := sg) rfl (by omega), if_neg (by omega)]
  have v11 : hRd (hUp (hUp (hUp (hUp (hUp ph 68 m sg) 69 m nm) 70 m (hRd ph 57 5)) 71 m rw9) 72 m 0) 57 11 = (m : Int) := by rw [hRd_up u4 (a := 72) (k := m) (x := 0) rfl (by omega), if_neg (by omega), hRd_up u3 (a := 71) (k := m) (x := rw9) rfl (by omega), if_neg (by omega), hRd_up u2 (a := 70) (k := m) (x := (hRd ph 57 5)) rfl (by omega), if_neg (by omega), hRd_up u1 (a := 69) (k := m) (x := nm) rfl (by omega), if_neg (by omega), hRd_up hs (a := 68) (k := m) (x := sg) rfl (by omega), if_neg (by omega)]; exact h11
  refine tEn (ls := [some (.inr (.inl (some 57))), some (.inl sg), some (.inl nm), some (.inl rw9), none]) (fun k => by match k with | 0 => rfl | 1 => rfl | 2 => rfl | 3 => rfl | 4 => rfl | k + 5 => rfl) ?_
  refine tK (l := xk_16) rfl rfl (fun _ _ _ _ _ => rfl) ?_
  refine tK (l := xk_16) rfl rfl (hGetI hs rfl rfl rfl (by decide) (by decide)) ?_
  rw [h11]
  refine tSt (l := xk_16) rfl rfl (fun _ _ _ _ _ => rfl) (Nat.le_of_ble_eq_true rfl) ?_
  refine tK (l := xk_16) rfl rfl (fun _ _ _ _ _ => rfl) ?_
  refine tIf_lt (l := xk_16) (pc' := 61) rfl rfl rfl (fun hc => ?_) (fun hc => ?_)
  · refine tK (l := xk_16) rfl rfl (fun _ _ _ _ _ => rfl) ?_
    refine tRt (l := xk_16) rfl rfl (fun _ _ _ _ _ => rfl) ?_
    first | (exfalso; omega) | exact hQ _ u6 ((((((hUp_fr (S := [57, 68, 69, 70, 71, 72]) (a := 68) (k := m) (x := sg) hs rfl (by omega) (by simp [tS])).trans (hUp_fr (S := [57, 68, 69, 70, 71, 72]) (a := 69) (k := m) (x := nm) u1 rfl (by omega) (by simp [tS]))).trans (hUp_fr (S := [57, 68, 69, 70, 71, 72]) (a := 70) (k := m) (x := (hRd ph 57 5)) u2 rfl (by omega) (by simp [tS]))).trans (hUp_fr (S := [57, 68, 69, 70, 71, 72]) (a := 71) (k := m) (x := rw9) u3 rfl (by omega) (by simp [tS]))).trans (hUp_fr (S := [57, 68, 69, 70, 71, 72]) (a := 72) (k := m) (x := 0) u4 rfl (by omega) (by simp [tS]))).trans (hUp_fr (S := [57, 68, 69, 70, 71, 72]) (a := 57) (k := 11) (x := ((m : Int) + 1)) u5 rfl (by decide) (by simp [tS]))) (fun b j => by rw [hRd_up u5 (a := 57) (k := 11) (x := ((m : Int) + 1)) rfl (by decide), hRd_up u4 (a := 72) (k := m) (x := 0) rfl (by omega), hRd_up u3 (a := 71) (k := m) (x := rw9) rfl (by omega), hRd_up u2 (a := 70) (k := m) (x := (hRd ph 57 5)) rfl (by omega), hRd_up u1 (a := 69) (k := m) (x := nm) rfl (by omega), hRd_up hs (a := 68) (k := m) (x := sg) rfl (by omega)])
  · refine tK (l := xk_16) rfl rfl (fun _ _ _ _ _ => rfl) ?_
    refine tK (l := xk_16) rfl rfl (fun _ _ _ _ _ => rfl) ?_
    refine tK (l := xk_16) rfl rfl (hGetR (o := some 68) hs rfl rfl rfl (by decide) (by decide) rfl) ?_
    refine tK (l := xk_16) rfl rfl (hAlen hs (by decide) (by decide)) ?_
    refine tIc_ge (l := xk_16) (pc' := 61) rfl rfl rfl (fun hc => ?_) (fun hc => ?_)
    · refine tK (l := xk_16) rfl rfl (fun _ _ _ _ _ => rfl) ?_
      refine tK (l := xk_16) rfl rfl (fun _ _ _ _ _ => rfl) ?_
      refine tK (l := xk_16) rfl rfl (hGetR (o := some 69) hs rfl rfl rfl (by decide) (by decide) rfl) ?_
      refine tK (l := xk_16) rfl rfl (hAlen hs (by decide) (by decide)) ?_
      refine tIc_ge (l := xk_16) (pc' := 61) rfl rfl rfl (fun hc => ?_) (fun hc => ?_)
      · refine tK (l := xk_16) rfl rfl (fun _ _ _ _ _ => rfl) ?_
        refine tK (l := xk_16) rfl rfl (fun _ _ _ _ _ => rfl) ?_
        refine tK (l := xk_16) rfl rfl (hGetR (o := some 70) hs rfl rfl rfl (by decide) (by decide) rfl) ?_
        refine tK (l := xk_16) rfl rfl (hAlen hs (by decide) (by decide)) ?_
        refine tIc_ge (l := xk_16) (pc' := 61) rfl rfl rfl (fun hc => ?_) (fun hc => ?_)
        · refine tK (l := xk_16) rfl rfl (fun _ _ _ _ _ => rfl) ?_
          refine tK (l := xk_16) rfl rfl (fun _ _ _ _ _ => rfl) ?_
          refine tK (l := xk_16) rfl rfl (hGetR (o := some 71) hs rfl rfl rfl (by decide) (by decide) rfl) ?_
          refine tK (l := xk_16) rfl rfl (hAlen hs (by decide) (by decide)) ?_
          refine tIc_ge (l := xk_16) (pc' := 61) rfl rfl rfl (fun hc => ?_) (fun hc => ?_)
          · refine tK (l := xk_16) rfl rfl (fun _ _ _ _ _ => rfl) ?_
            refine tK (l := xk_16) rfl rfl (fun _ _ _ _ _ => rfl) ?_
            refine tK (l := xk_16) rfl rfl (hGetR (o := some 72) hs rfl rfl rfl (by decide) (by decide) rfl) ?_
            refine tK (l := xk_16) rfl rfl (hAlen hs (by decide) (by decide)) ?_
            refine tIc_lt (l := xk_16) (pc' := 63) rfl rfl rfl (fun hc => ?_) (fun hc => ?_)
            · refine tK (l := xk_16) rfl rfl (fun _ _ _ _ _ => rfl) ?_
              refine tK (l := xk_16) rfl rfl (hGetR (o := some 68) hs rfl rfl rfl (by decide) (by decide) rfl) ?_
              refine tK (l := xk_16) rfl rfl (fun _ _ _ _ _ => rfl) ?_
              refine tK (l := xk_16) rfl rfl (fun _ _ _ _ _ => rfl) ?_
              first | refine tK (l := xk_16) rfl rfl (hIastN hs rfl rfl (by omega)) ?_ | refine tK (l := xk_16) rfl rfl (hIast hs rfl (by omega) (by omega)) ?_
              refine tK (l := xk_16) rfl rfl (fun _ _ _ _ _ => rfl) ?_
              refine tK (l := xk_16) rfl rfl (hGetR (o := some 69) (hShI1 _ hs rfl rfl) rfl rfl rfl (by decide) (by decide) rfl) ?_
              refine tK (l := xk_16) rfl rfl (fun _ _ _ _ _ => rfl) ?_
              refine tK (l := xk_16) rfl rfl (fun _ _ _ _ _ => rfl) ?_
              first | refine tK (l := xk_16) rfl rfl (hIastN (hShI1 _ hs rfl rfl) rfl rfl (by omega)) ?_ | refine tK (l := xk_16) rfl rfl (hIast (hShI1 _ hs rfl rfl) rfl (by omega) (by omega)) ?_
              refine tK (l := xk_16) rfl rfl (fun _ _ _ _ _ => rfl) ?_
              refine tK (l := xk_16) rfl rfl (hGetR (o := some 70) (hShI1 _ (hShI1 _ hs rfl rfl) rfl rfl) rfl rfl rfl (by decide) (by decide) rfl) ?_
              refine tK (l := xk_16) rfl rfl (fun _ _ _ _ _ => rfl) ?_
              refine tK (l := xk_16) rfl rfl (fun _ _ _ _ _ => rfl) ?_
              refine tK (l := xk_16) rfl rfl (hGetI (hShI1 _ (hShI1 _ hs rfl rfl) rfl rfl) rfl rfl rfl (by decide) (by decide)) ?_
              rw [v5]
              first | refine tK (l := xk_16) rfl rfl (hIastN (hShI1 _ (hShI1 _ hs rfl rfl) rfl rfl) rfl rfl (by omega)) ?_ | refine tK (l := xk_16) rfl rfl (hIast (hShI1 _ (hShI1 _ hs rfl rfl) rfl rfl) rfl (by omega) (by omega)) ?_
              refine tK (l := xk_16) rfl rfl (fun _ _ _ _ _ => rfl) ?_
              refine tK (l := xk_16) rfl rfl (hGetR (o := some 71) (hShI1 _ (hShI1 _ (hShI1 _ hs rfl rfl) rfl rfl) rfl rfl) rfl rfl rfl (by decide) (by decide) rfl) ?_
              refine tK (l := xk_16) rfl rfl (fun _ _ _ _ _ => rfl) ?_
              refine tK (l := xk_16) rfl rfl (fun _ _ _ _ _ => rfl) ?_
              first | refine tK (l := xk_16) rfl rfl (hIastN (hShI1 _ (hShI1 _ (hShI1 _ hs rfl rfl) rfl rfl) rfl rfl) rfl rfl (by omega)) ?_ | refine tK (l := xk_16) rfl rfl (hIast (hShI1 _ (hShI1 _ (hShI1 _ hs rfl rfl) rfl rfl) rfl rfl) rfl (by omega) (by omega)) ?_
              refine tK (l := xk_16) rfl rfl (fun _ _ _ _ _ => rfl) ?_
              refine tK (l := xk_16) rfl rfl (hGetR (o := some 72) (hShI1 _ (hShI1 _ (hShI1 _ (hShI1 _ hs rfl rfl) rfl rfl) rfl rfl) rfl rfl) rfl rfl rfl (by decide) (by decide) rfl) ?_
              refine tK (l := xk_16) rfl rfl (fun _ _ _ _ _ => rfl) ?_
              refine tK (l := xk_16) rfl rfl (fun _ _ _ _ _ => rfl) ?_
              first | refine tK (l := xk_16) rfl rfl (hIastN (hShI1 _ (hShI1 _ (hShI1 _ (hShI1 _ hs rfl rfl) rfl rfl) rfl rfl) rfl rfl) rfl rfl (by omega)) ?_ | refine tK (l := xk_16) rfl rfl (hIast (hShI1 _ (hShI1 _ (hShI1 _ (hShI1 _ hs rfl rfl) rfl rfl) rfl rfl) rfl rfl) rfl (by omega) (by omega)) ?_
              refine tK (l := xk_16) rfl rfl (fun _ _ _ _ _ => rfl) ?_
              refine tK (l := xk_16) rfl rfl (fun _ _ _ _ _ => rfl) ?_
              refine tK (l := xk_16) rfl rfl (hGetI (hShI1 _ (hShI1 _ (hShI1 _ (hShI1 _ (hShI1 _ hs rfl rfl) rfl rfl) rfl rfl) rfl rfl) rfl rfl) rfl rfl rfl (by decide) (by decide)) ?_
              rw [v11]
              refine tK (l := xk_16) rfl rfl (fun _ _ _ _ _ => rfl) ?_
              refine tK (l := xk_16) rfl rfl (hAdd ⟨by omega, by omega⟩) ?_
              refine tK (l := xk_16) rfl rfl (hPutV (hShI1 _ (hShI1 _ (hShI1 _ (hShI1 _ (hShI1 _ hs rfl rfl) rfl rfl) rfl rfl) rfl rfl) rfl rfl) rfl rfl (by decide) (by decide) rfl) ?_
              refine tK (l := xk_16) rfl rfl (fun _ _ _ _ _ => rfl) ?_
              refine tRt (l := xk_16) rfl rfl (fun _ _ _ _ _ => rfl) ?_
              first | (exfalso; omega) | exact hQ _ u6 ((((((hUp_fr (S := [57, 68, 69, 70, 71, 72]) (a := 68) (k := m) (x := sg) hs rfl (by omega) (by simp [tS])).trans (hUp_fr (S := [57, 68, 69, 70, 71, 72]) (a := 69) (k := m) (x := nm) u1 rfl (by omega) (by simp [tS]))).trans (hUp_fr (S := [57, 68, 69, 70, 71, 72]) (a := 70) (k := m) (x := (hRd ph 57 5)) u2 rfl (by omega) (by simp [tS]))).trans (hUp_fr (S := [57, 68, 69, 70, 71, 72]) (a := 71) (k := m) (x := rw9) u3 rfl (by omega) (by simp [tS]))).trans (hUp_fr (S := [57, 68, 69, 70, 71, 72]) (a := 72) (k := m) (x := 0) u4 rfl (by omega) (by simp [tS]))).trans (hUp_fr (S := [57, 68, 69, 70, 71, 72]) (a := 57) (k := 11) (x := ((m : Int) + 1)) u5 rfl (by decide) (by simp [tS]))) (fun b j => by rw [hRd_up u5 (a := 57) (k := 11) (x := ((m : Int) + 1)) rfl (by decide), hRd_up u4 (a := 72) (k := m) (x := 0) rfl (by omega), hRd_up u3 (a := 71) (k := m) (x := rw9) rfl (by omega), hRd_up u2 (a := 70) (k := m) (x := (hRd ph 57 5)) rfl (by omega), hRd_up u1 (a := 69) (k := m) (x := nm) rfl (by omega), hRd_up hs (a := 68) (k := m) (x := sg) rfl (by omega)])
            · refine tK (l := xk_16) rfl rfl (fun _ _ _ _ _ => rfl) ?_
              refine tRt (l := xk_16) rfl rfl (fun _ _ _ _ _ => rfl) ?_
              first | (exfalso; omega) | exact hQ _ u6 ((((((hUp_fr (S := [57, 68, 69, 70, 71, 72]) (a := 68) (k := m) (x := sg) hs rfl (by omega) (by simp [tS])).trans (hUp_fr (S := [57, 68, 69, 70, 71, 72]) (a := 69) (k := m) (x := nm) u1 rfl (by omega) (by simp [tS]))).trans (hUp_fr (S := [57, 68, 69, 70, 71, 72]) (a := 70) (k := m) (x := (hRd ph 57 5)) u2 rfl (by omega) (by simp [tS]))).trans (hUp_fr (S := [57, 68, 69, 70, 71, 72]) (a := 71) (k := m) (x := rw9) u3 rfl (by omega) (by simp [tS]))).trans (hUp_fr (S := [57, 68, 69, 70, 71, 72]) (a := 72) (k := m) (x := 0) u4 rfl (by omega) (by simp [tS]))).trans (hUp_fr (S := [57, 68, 69, 70, 71, 72]) (a := 57) (k := 11) (x := ((m : Int) + 1)) u5 rfl (by decide) (by simp [tS]))) (fun b j => by rw [hRd_up u5 (a := 57) (k := 11) (x := ((m : Int) + 1)) rfl (by decide), hRd_up u4 (a := 72) (k := m) (x := 0) rfl (by omega), hRd_up u3 (a := 71) (k := m) (x := rw9) rfl (by omega), hRd_up u2 (a := 70) (k := m) (x := (hRd ph 57 5)) rfl (by omega), hRd_up u1 (a := 69) (k := m) (x := nm) rfl (by omega), hRd_up hs (a := 68) (k := m) (x := sg) rfl (by omega)])
          · refine tK (l := xk_16) rfl rfl (fun _ _ _ _ _ => rfl) ?_
            refine tRt (l := xk_16) rfl rfl (fun _ _ _ _ _ => rfl) ?_
            first | (exfalso; omega) | exact hQ _ u6 ((((((hUp_fr (S := [57, 68, 69, 70, 71, 72]) (a := 68) (k := m) (x := sg) hs rfl (by omega) (by simp [tS])).trans (hUp_fr (S := [57, 68, 69, 70, 71, 72]) (a := 69) (k := m) (x := nm) u1 rfl (by omega) (by simp [tS]))).trans (hUp_fr (S := [57, 68, 69, 70, 71, 72]) (a := 70) (k := m) (x := (hRd ph 57 5)) u2 rfl (by omega) (by simp [tS]))).trans (hUp_fr (S := [57, 68, 69, 70, 71, 72]) (a := 71) (k := m) (x := rw9) u3 rfl (by omega) (by simp [tS]))).trans (hUp_fr (S := [57, 68, 69, 70, 71, 72]) (a := 72) (k := m) (x := 0) u4 rfl (by omega) (by simp [tS]))).trans (hUp_fr (S := [57, 68, 69, 70, 71, 72]) (a := 57) (k := 11) (x := ((m : Int) + 1)) u5 rfl (by decide) (by simp [tS]))) (fun b j => by rw [hRd_up u5 (a := 57) (k := 11) (x := ((m : Int) + 1)) rfl (by decide), hRd_up u4 (a := 72) (k := m) (x := 0) rfl (by omega), hRd_up u3 (a := 71) (k := m) (x := rw9) rfl (by omega), hRd_up u2 (a := 70) (k := m) (x := (hRd ph 57 5)) rfl (by omega), hRd_up u1 (a := 69) (k := m) (x := nm) rfl (by omega), hRd_up hs (a := 68) (k := m) (x := sg) rfl (by omega)])
        · refine tK (l := xk_16) rfl rfl (fun _ _ _ _ _ => rfl) ?_
          refine tRt (l := xk_16) rfl rfl (fun _ _ _ _ _ => rfl) ?_
          first | (exfalso; omega) | exact hQ _ u6 ((((((hUp_fr (S := [57, 68, 69, 70, 71, 72]) (a := 68) (k := m) (x := sg) hs rfl (by omega) (by simp [tS])).trans (hUp_fr (S := [57, 68, 69, 70, 71, 72]) (a := 69) (k := m) (x := nm) u1 rfl (by omega) (by simp [tS]))).trans (hUp_fr (S := [57, 68, 69, 70, 71, 72]) (a := 70) (k := m) (x := (hRd ph 57 5)) u2 rfl (by omega) (by simp [tS]))).trans (hUp_fr (S := [57, 68, 69, 70, 71, 72]) (a := 71) (k := m) (x := rw9) u3 rfl (by omega) (by simp [tS]))).trans (hUp_fr (S := [57, 68, 69, 70, 71, 72]) (a := 72) (k := m) (x := 0) u4 rfl (by omega) (by simp [tS]))).trans (hUp_fr (S := [57, 68, 69, 70, 71, 72]) (a := 57) (k := 11) (x := ((m : Int) + 1)) u5 rfl (by decide) (by simp [tS]))) (fun b j => by rw [hRd_up u5 (a := 57) (k := 11) (x := ((m : Int) + 1)) rfl (by decide), hRd_up u4 (a := 72) (k := m) (x := 0) rfl (by omega), hRd_up u3 (a := 71) (k := m) (x := rw9) rfl (by omega), hRd_up u2 (a := 70) (k := m) (x := (hRd ph 57 5)) rfl (by omega), hRd_up u1 (a := 69) (k := m) (x := nm) rfl (by omega), hRd_up hs (a := 68) (k := m) (x := sg) rfl (by omega)])
      · refine tK (l := xk_16) rfl rfl (fun _ _ _ _ _ => rfl) ?_
        refine tRt (l := xk_16) rfl rfl (fun _ _ _ _ _ => rfl) ?_
        first | (exfalso; omega) | exact hQ _ u6 ((((((hUp_fr (S := [57, 68, 69, 70, 71, 72]) (a := 68) (k := m) (x := sg) hs rfl (by omega) (by simp [tS])).trans (hUp_fr (S := [57, 68, 69, 70, 71, 72]) (a := 69) (k := m) (x := nm) u1 rfl (by omega) (by simp [tS]))).trans (hUp_fr (S := [57, 68, 69, 70, 71, 72]) (a := 70) (k := m) (x := (hRd ph 57 5)) u2 rfl (by omega) (by simp [tS]))).trans (hUp_fr (S := [57, 68, 69, 70, 71, 72]) (a := 71) (k := m) (x := rw9) u3 rfl (by omega) (by simp [tS]))).trans (hUp_fr (S := [57, 68, 69, 70, 71, 72]) (a := 72) (k := m) (x := 0) u4 rfl (by omega) (by simp [tS]))).trans (hUp_fr (S := [57, 68, 69, 70, 71, 72]) (a := 57) (k := 11) (x := ((m : Int) + 1)) u5 rfl (by decide) (by simp [tS]))) (fun b j => by rw [hRd_up u5 (a := 57) (k := 11) (x := ((m : Int) + 1)) rfl (by decide), hRd_up u4 (a := 72) (k := m) (x := 0) rfl (by omega), hRd_up u3 (a := 71) (k := m) (x := rw9) rfl (by omega), hRd_up u2 (a := 70) (k := m) (x := (hRd ph 57 5)) rfl (by omega), hRd_up u1 (a := 69) (k := m) (x := nm) rfl (by omega), hRd_up hs (a := 68) (k := m) (x := sg) rfl (by omega)])
    · refine tK (l := xk_16) rfl rfl (fun _ _ _ _ _ => rfl) ?_
      refine tRt (l := xk_16) rfl rfl (fun _ _ _ _ _ => rfl) ?_
      first | (exfalso; omega) | exact hQ _ u6 ((((((hUp_fr (S := [57, 68, 69, 70, 71, 72]) (a := 68) (k := m) (x := sg) hs rfl (by omega) (by simp [tS])).trans (hUp_fr (S := [57, 68, 69, 70, 71, 72]) (a := 69) (k := m) (x := nm) u1 rfl (by omega) (by simp [tS]))).trans (hUp_fr (S := [57, 68, 69, 70, 71, 72]) (a := 70) (k := m) (x := (hRd ph 57 5)) u2 rfl (by omega) (by simp [tS]))).trans (hUp_fr (S := [57, 68, 69, 70, 71, 72]) (a := 71) (k := m) (x := rw9) u3 rfl (by omega) (by simp [tS]))).trans (hUp_fr (S := [57, 68, 69, 70, 71, 72]) (a := 72) (k := m) (x := 0) u4 rfl (by omega) (by simp [tS]))).trans (hUp_fr (S := [57, 68, 69, 70, 71, 72]) (a := 57) (k := 11) (x := ((m : Int) + 1)) u5 rfl (by decide) (by simp [tS]))) (fun b j => by rw [hRd_up u5 (a := 57) (k := 11) (x := ((m : Int) + 1)) rfl (by decide), hRd_up u4 (a := 72) (k := m) (x := 0) rfl (by omega), hRd_up u3 (a := 71) (k := m) (x := rw9) rfl (by omega), hRd_up u2 (a := 70) (k := m) (x := (hRd ph 57 5)) rfl (by omega), hRd_up u1 (a := 69) (k := m) (x := nm) rfl (by omega), hRd_up hs (a := 68) (k := m) (x := sg) rfl (by omega)])
end BTX
