/-! ===== characters ===== -/
def oks (l : List Int) : Prop := ∀ c ∈ l, 0 ≤ c ∧ c ≤ 65535
def okR (rs : RS) : Prop := (∀ f ∈ rs.1, ∀ n v, f n = some v → oks v) ∧ (∀ s ∈ rs.2.1, oks s) ∧ oks rs.2.2.1
def okF (fs : List Fm) : Prop := ∀ f ∈ fs, oks f.2.2.2.2.2 ∧ f.2.2.2.2.2.length ≤ 60
def okC (c : Cf) : Prop := okF c.1 ∧ okR c.2.1
theorem oks_app {a : List Int} {c : Int} (h : oks a) (hc : 0 ≤ c ∧ c ≤ 65535) : oks (a ++ [c]) := by
  intro x hx
  rcases List.mem_append.mp hx with h1 | h1
  · exact h x h1
  · rw [List.mem_singleton.mp h1]; exact hc
theorem ok_lk : ∀ {scs : List xSc} {n : Nat} {v : List Int}, (∀ f ∈ scs, ∀ n v, f n = some v → oks v) → lk scs n = some v → oks v := by
  intro scs
  induction scs with
  | nil => intro n v _ h; cases h
  | cons f t ih =>
    intro n v h h2
    simp only [lk] at h2
    cases hf : f n with
    | some w => rw [hf] at h2; cases h2; exact h f List.mem_cons_self n _ hf
    | none => rw [hf] at h2; exact ih (fun f hf => h f (List.mem_cons_of_mem _ hf)) h2
theorem ok_cT {fs : List Fm} (h : okF fs) : oks (cT fs) := by
  induction fs with
  | nil => intro c hc; simp [cT] at hc
  | cons f fs ih =>
    simp only [cT]
    split
    · exact (h f List.mem_cons_self).1
    · exact ih (fun f hf => h f (List.mem_cons_of_mem _ hf))
theorem ok_fsN {fs : List Fm} {x : Nat} (h : okF fs) : okF (fsN fs x) := by
  cases fs with
  | nil => exact h
  | cons f fs =>
    intro g hg
    rcases List.mem_cons.mp hg with rfl | hg
    · exact h f List.mem_cons_self
    · exact h g (List.mem_cons_of_mem _ hg)
theorem ok_prF {c k : Int} {s : RS} (h : okR s) (hc : 0 ≤ c ∧ c ≤ 65535) : okR (prF c k s).1 := by
  obtain ⟨sc, stg, ou, st, pl, es, vl⟩ := s
  obtain ⟨h1, h2, h3⟩ := h
  cases stg with
  | nil =>
    simp only [prF]
    (repeat' split) <;> first | exact ⟨h1, h2, h3⟩ | exact ⟨h1, h2, oks_app h3 hc⟩
  | cons t ts =>
    simp only [prF]
    split
    · exact ⟨h1, h2, h3⟩
    · refine ⟨h1, fun s hs => ?_, h3⟩
      rcases List.mem_cons.mp hs with rfl | hs
      · exact oks_app (h2 t List.mem_cons_self) hc
      · exact h2 s (List.mem_cons_of_mem _ hs)
theorem ok_pvF (e : Bool) (k : Int) : ∀ (v : List Int) (s : RS), okR s → oks v → okR (pvF e k v s).1 := by
  intro v
  induction v with
  | nil => intro s h _; exact h
  | cons c cs ih =>
    intro s h hv
    have hc := hv c List.mem_cons_self
    have hcs : oks cs := fun x hx => hv x (List.mem_cons_of_mem _ hx)
    have two : ∀ s1 : RS, okR s1 → okR (match prF c k s1 with
        | (s2, 0) => pvF e k cs s2
        | q => q).1 := by
      intro s1 h1
      have h2 := ok_prF (k := k) h1 hc
      cases hp : prF c k s1 with | mk s2 r2 => ?_
      rw [hp] at h2
      cases r2 with
      | zero => exact ih s2 h2 hcs
      | succ r2 => exact h2
    cases he : (e && spc c) with
    | false => rw [pvF_cons he]; exact two s h
    | true =>
      rw [pvF_conE he]
      have h2 := ok_prF (c := 126) (k := k) h (by decide)
      cases hp : prF 126 k s with | mk s2 r2 => ?_
      rw [hp] at h2
      cases r2 with
      | zero => exact two s2 h2
      | succ r2 => exact h2
theorem ok_dg {p : Nat} (h : p ≤ 60) : oks (dg p) := by
  unfold dg
  split
  · intro c hc
    simp only [List.mem_cons, List.not_mem_nil, or_false] at hc
    omega
  · intro c hc
    simp only [List.mem_cons, List.not_mem_nil, or_false] at hc
    rcases hc with rfl | rfl <;> omega
theorem ok_psc {p : Nat} {c : Int} (h : p ≤ 60) (hc : 0 ≤ c ∧ c ≤ 65535) : ∀ n v, psc p c n = some v → oks v := by
  intro n v hv
  unfold psc at hv
  split at hv
  · cases hv; exact ok_dg h
  · split at hv
    · cases hv
      intro x hx
      rw [List.mem_singleton.mp hx]; exact hc
    · cases hv
theorem ok_push {scs : List xSc} {f : xSc} (h : ∀ f ∈ scs, ∀ n v, f n = some v → oks v) (hf : ∀ n v, f n = some v → oks v) : ∀ g ∈ f :: scs, ∀ n v, g n = some v → oks v := by
  intro g hg
  rcases List.mem_cons.mp hg with rfl | hg
  · exact hf
  · exact h g hg
theorem ok_oP {fs : List Fm} {x y : Nat} {q : RS × Nat} (hF : okF fs) (hq : okR q.1) : okC (oP fs x y q) := by
  unfold oP
  split
  · exact ⟨ok_fsN hF, hq⟩
  · exact ⟨hF, hq⟩
theorem ok_cons {f : Fm} {fs : List Fm} (h : okF fs) (h1 : oks f.2.2.2.2.2) (h2 : f.2.2.2.2.2.length ≤ 60) : okF (f :: fs) := by
  intro g hg
  rcases List.mem_cons.mp hg with rfl | hg
  · exact ⟨h1, h2⟩
  · exact h g hg
theorem Sto_ok {c d : Cf} (h : Sto c d) (hc : okC c) : okC d := by
  rcases h with ⟨fs, rs, k, cd, nm, rfl, hne, hsh, h⟩ | ⟨f, g, gs, rs, rfl, h⟩
  · obtain ⟨hF, hR⟩ := hc
    have hF : okF fs := hF
    have hR : okR rs := hR
    have hR2 : okR (ctS rs) := hR
    rcases h with ⟨-, rfl⟩ | ⟨-, ⟨w, hw⟩, h⟩ | ⟨-, -, h⟩
    · exact ⟨hF, hR⟩
    · rcases h with ⟨hk, rfl⟩ | ⟨-, -, rfl⟩ | ⟨-, v, hv, rfl⟩ | ⟨-, -, rfl⟩ | ⟨-, v, -, -, rfl⟩ | ⟨-, v, -, h5, -, -, rfl⟩ | ⟨-, v, hv, h5, -, h24, -, -, rfl⟩
      · refine ok_oP hF (ok_prF hR2 ?_)
        have hmem : cd ∈ cT fs := by
          rcases hw with q | q | q | q
          · exact List.mem_of_getElem? q.2.2.1
          · exact List.mem_of_getElem? q.2.2.2
          · omega
          · omega
        exact ok_cT hF cd hmem
      · exact ⟨hF, hR2⟩
      · exact ok_oP hF (ok_pvF _ _ _ _ hR2 (ok_lk hR2.1 hv))
      · exact ⟨hF, hR2⟩
      · exact ⟨hF, hR2⟩
      · exact ⟨hF, hR2⟩
      · exact ⟨ok_cons (ok_fsN hF) (ok_lk hR2.1 hv) (by simp only; omega), ok_push hR2.1 (fun n v h => by cases h), hR2.2⟩
    · have hnil : oks ([] : List Int) := fun c hc => by simp at hc
      rcases h with ⟨-, -, rfl⟩ | ⟨-, n, ps, p, q, e, -, -, rfl⟩ | ⟨-, -, -, c, v, hv, h23, rfl⟩ | ⟨-, -, -, rfl⟩ | ⟨-, -, -, rfl⟩
      · exact ⟨hF, hR2⟩
      · exact ⟨ok_fsN hF, hR2⟩
      · have hl := ok_lk hR2.1 hv
        exact ⟨ok_cons (ok_fsN hF) hl (by simp only [List.length_cons]; omega), ok_push hR2.1 (ok_psc (Nat.zero_le _) (hl c List.mem_cons_self)), hR2.2⟩
      · exact ⟨ok_cons (ok_fsN hF) hnil (Nat.zero_le _), hR2⟩
      · refine ⟨ok_cons (ok_fsN hF) hnil (Nat.zero_le _), hR2.1, fun s hs => ?_, hR2.2.2⟩
        rcases List.mem_cons.mp hs with rfl | hs
        · exact hnil
        · exact hR2.2.1 s hs
  · obtain ⟨hF, hR⟩ := hc
    have hF : okF (f :: g :: gs) := hF
    have hR : okR rs := hR
    have hf := hF f List.mem_cons_self
    have hF2 : okF (g :: gs) := fun q hq => hF q (List.mem_cons_of_mem _ hq)
    have pop : ∀ {f0 : xSc} {sc : List xSc}, rs.1 = f0 :: sc → ∀ f ∈ sc, ∀ n v, f n = some v → oks v := fun hr f hf => hR.1 f (by rw [hr]; exact List.mem_cons_of_mem _ hf)
    rcases h with ⟨-, -, f0, sc, hr, rfl⟩ | ⟨-, -, f0, sc, hr, ⟨c2, h1, rfl⟩ | ⟨-, rfl⟩⟩ | ⟨-, -, rfl⟩ | ⟨-, -, -, f0, sc, s0, sg, hr, hr2, rfl⟩
    · exact ⟨hF2, pop hr, hR.2⟩
    · have hl := (List.getElem?_eq_some_iff.mp h1).1
      exact ⟨ok_cons hF2 hf.1 hf.2, ok_push (pop hr) (ok_psc (by omega) (hf.1 c2 (List.mem_of_getElem? h1))), hR.2⟩
    · exact ⟨ok_fsN hF2, pop hr, hR.2⟩
    · exact ⟨ok_fsN hF2, hR⟩
    · have h0 : ∀ n v, f0 n = some v → oks v := hR.1 f0 (by rw [hr]; exact List.mem_cons_self)
      have hs0 : oks s0 := hR.2.1 s0 (by rw [hr2]; exact List.mem_cons_self)
      refine ⟨ok_fsN hF2, ok_push (pop hr) (fun n v hv => ?_), fun s hs => hR.2.1 s (by rw [hr2]; exact List.mem_cons_of_mem _ hs), hR.2.2⟩
      unfold scU at hv
      split at hv
      · cases hv; exact hs0
      · exact h0 n v hv
theorem Rn_ok {c d : Cf} (h : Rn c d) (hc : okC c) : okC d := by
  obtain ⟨n, h⟩ := h
  induction n generalizing c with
  | zero => cases h; exact hc
  | succ n ih =>
    obtain ⟨e, h1, h2⟩ := h
    exact ih (Sto_ok h1 hc) h2
/-! ===== the model: a loop ===== -/
section MGO
variable {d : Nat} {ph : xH} {zs : List xV} {g : Nat} {Q : xR → Prop} {fs : List Fm} {rs : RS}
theorem hMC.at {y m : Nat} (h : hMC zs ph fs rs) (hm : fs.length = m + 1) : hMC zs (hUp ph 162 m (y : Int)) (fsN fs y) rs ∧ hFM [] [162] ph (hUp ph 162 m (y : Int)) := by
  obtain ⟨a1, a2, a3, a4, a5, a6, a7, a8⟩ := h
  obtain ⟨y1, y2, y3, y4, y5, y6, y7, y8, y9⟩ := hSzO
  have hs := a1.1
  have rd := hRd_up (x := (y : Int)) hs (show hKi (hTg 162) m = true from rfl) (by omega)
  have f1 : hFM [] [162] ph (hUp ph 162 m (y : Int)) := hFM_a hs rfl (by omega) (by decide) (by decide)
  have hn := a1.fr (hShI1 _ hs rfl rfl) f1
  cases fs with
  | nil => exact absurd rfl a2
  | cons f gs =>
    simp only [List.length_cons, Nat.add_right_cancel_iff] at hm
    subst hm
    exact ⟨⟨hn, List.cons_ne_nil _ _, a3.next rd, by rw [f1.fl (by decide), a4, fsN_len], by rw [fsN_len]; exact a5, by rw [cP_fsN]; exact a6.fr f1, a7.fr f1, by rw [nsc_fsN]; exact a8⟩, f1⟩
/-- the text in which what is open last stands -/
theorem hMC.text (h : hMC zs ph fs rs) : (∀ (i : Nat) (c : Int), (cT fs)[i]? = some c → hRd ph 152 (frO (cP fs).length + i) = c) ∧ (cT fs).length ≤ 60 ∧ frO (cP fs).length + (cT fs).length ≤ 156 ∧ (cP fs).length ≤ 4 := by
  obtain ⟨a1, a2, a3, a4, a5, a6, a7, a8⟩ := h
  have hmt := hMf_cT a2 a3
  have hL := a6.2.1
  rw [List.length_reverse] at hL
  have hfb := (frO_b hL).1
  refine ⟨hmt.1, ?_, ?_, hL⟩
  · by_cases e : (cP fs).length = 0
    · exact (hmt.2.1 e).2
    · have := (hmt.2.2 (by omega)).2; omega
  · by_cases e : (cP fs).length = 0
    · have := (hmt.2.1 e).2
      rw [e]; unfold frO; rw [if_pos rfl]; omega
    · have := (hmt.2.2 (by omega)).2; omega
theorem hMC.skip {e n p q x : Nat} {ps : List PP} (h : hMC zs ph (fsN fs (x + 4)) rs) (hok : oks (cT fs)) (hsg : Sg n (cT fs) ps p q (x + 4) e) (he : (cT fs)[e]? = some 125) (hQ : Q (.inl (some (.inl ((e + 1 : Nat) : Int))), ph, g)) : xTC d 201 [.inr (.inl (some 147)), .inl (frO (cP fs).length : Int), .inl ((x + 4 : Nat) : Int)] ph g Q := by
  obtain ⟨m, m1, m2, m3⟩ := Tk_sg (o := 1) Nat.zero_lt_one hsg
  have hel := (List.getElem?_eq_some_iff.mp he).1
  obtain ⟨t1, t2, t3, t4⟩ := h.text
  rw [cT_fsN, cP_fsN] at t1 t3
  rw [cT_fsN] at t2
  rw [cP_fsN] at t4
  exact s201 h.1.1 t1 t2 (by omega) hok (m := m + 1) (by omega) (by omega) (m3.trans ⟨Nat.zero_lt_one, Or.inr (Or.inr (Or.inl ⟨he, rfl, rfl⟩))⟩) hQ
theorem s200_e {x nm a : Nat} {D : Cf} (h : hMC zs ph (fsN fs (x + 4)) rs) (hok : oks (cT fs)) (ha : a + 25 ≤ 16000) (hv : hMv ph 155 a (some [])) {n p q e : Nat} {ps : List PP} (hsg : Sg n (cT fs) ps p q (x + 4) e) (he : (cT fs)[e]? = some 125) (hD : D = RU (fsN fs (e + 1)) rs) (hQ : ∀ ph2, TM zs ph2 D → hFM mF mA ph ph2 → Q (.inl none, ph2, g)) : xTC (d + 4) 200 [.inr (.inl (some 147)), .inl (a : Int), .inl (frO (cP fs).length : Int), .inl ((x + 4 : Nat) : Int), .inl (nm : Int)] ph g Q := by
  obtain ⟨z1, z2, z3, z4, z5, z6, z7, z8⟩ := hSzM
  obtain ⟨y1, y2, y3, y4, y5, y6, y7, y8, y9⟩ := hSzO
  obtain ⟨a1, a2, a3, a4, a5, a6, a7, a8⟩ := id h
  have hs := a1.1
  obtain ⟨hv1, hv2⟩ := hv
  have hne : fs ≠ [] := by rintro rfl; exact a2 rfl
  have hfp := List.length_pos_iff.mpr hne
  obtain ⟨m, hm⟩ : ∃ m, fs.length = m + 1 := ⟨fs.length - 1, by omega⟩
  have hm9 : (fsN fs (x + 4)).length = m + 1 := by rw [fsN_len]; exact hm
  have e43 : hRd ph 147 43 = ((m + 1 : Nat) : Int) := by rw [a4, hm9]
  have ek : ((m + 1 : Nat) : Int) - 1 = (m : Int) := by omega
  have hv1 : hRd ph 155 a = 0 := hv1
  refine tEn (ls := [some (.inr (.inl (some 147))), some (.inl (a : Int)), some (.inl (frO (cP fs).length : Int)), some (.inl ((x + 4 : Nat) : Int)), some (.inl (nm : Int)), none, none, none]) (fun k => by match k with | 0 => rfl | 1 => rfl | 2 => rfl | 3 => rfl | 4 => rfl | 5 => rfl | 6 => rfl | 7 => rfl | k + 8 => rfl) ?_
  refine tK (l := xk_200) rfl rfl (fun _ _ _ _ _ => rfl) ?_
  refine tK (l := xk_200) rfl rfl (hGetR (o := some 155) hs rfl rfl rfl (by decide) (by decide) rfl) ?_
  refine tK (l := xk_200) rfl rfl (fun _ _ _ _ _ => rfl) ?_
  first | refine tK (l := xk_200) rfl rfl (hIaldN hs rfl rfl (by omega)) ?_ | refine tK (l := xk_200) rfl rfl (hIald hs rfl (by omega) (by omega)) ?_
  rw [hv1]
  refine tSt (l := xk_200) rfl rfl (fun _ _ _ _ _ => rfl) (Nat.le_of_ble_eq_true rfl) ?_
  refine tK (l := xk_200) rfl rfl (fun _ _ _ _ _ => rfl) ?_
  refine tIf_ne (l := xk_200) (pc' := 31) rfl rfl rfl (fun hc => ?_) (fun hc => ?_)
  · refine tK (l := xk_200) rfl rfl (fun _ _ _ _ _ => rfl) ?_
    refine tK (l := xk_200) rfl rfl (hGetR (o := some 162) hs rfl rfl rfl (by decide) (by decide) rfl) ?_
    refine tK (l := xk_200) rfl rfl (fun _ _ _ _ _ => rfl) ?_
    refine tK (l := xk_200) rfl rfl (hGetI hs rfl rfl rfl (by decide) (by decide)) ?_
    rw [e43]
    refine tK (l := xk_200) rfl rfl (fun _ _ _ _ _ => rfl) ?_
    refine tK (l := xk_200) rfl rfl (hSub ⟨by omega, by omega⟩) ?_
    rw [ek]
    refine tK (l := xk_200) rfl rfl (fun _ _ _ _ _ => rfl) ?_
    refine tK (l := xk_200) rfl rfl (fun _ _ _ _ _ => rfl) ?_
    refine tK (l := xk_200) rfl rfl (fun _ _ _ _ _ => rfl) ?_
    refine tCa (l := xk_200) rfl rfl (hInvV (c := 10) hs rfl rfl rfl rfl rfl (Nat.le_of_ble_eq_true rfl) (Nat.le_of_ble_eq_true rfl)) ?_
    refine h.skip hok hsg he ?_
    refine tKv ?_
    first | refine tK (l := xk_200) rfl rfl (hIastN hs rfl rfl (by omega)) ?_ | refine tK (l := xk_200) rfl rfl (hIast hs rfl (by omega) (by omega)) ?_
    refine tRt (l := xk_200) rfl rfl (fun _ _ _ _ _ => rfl) ?_
    subst hD
    obtain ⟨k1, k2⟩ := h.at (y := e + 1) hm9
    rw [fsN_fsN] at k1
    exact hQ _ (TMr k1 rfl) k2.big
  · exact absurd rfl hc
theorem s200_p {x nm a : Nat} {D : Cf} (h : hMC zs ph (fsN fs (x + 4)) rs) (hok : oks (cT fs)) (ha : a + 25 ≤ 16000) {c : Int} {w : List Int} (hv : hMv ph 155 a (some (c :: w))) (hfl : fs.length ≤ 39) (hsc : rs.1.length ≤ 40) (hD : D = RU ((5, x + 4, x + 4, nm, 0, c :: w) :: fsN fs (x + 4)) (spS rs (psc 0 c))) (hQ : ∀ ph2, TM zs ph2 D → hFM mF mA ph ph2 → Q (.inl none, ph2, g)) : xTC (d + 4) 200 [.inr (.inl (some 147)), .inl (a : Int), .inl (frO (cP fs).length : Int), .inl ((x + 4 : Nat) : Int), .inl (nm : Int)] ph g Q := by
  obtain ⟨z1, z2, z3, z4, z5, z6, z7, z8⟩ := hSzM
  obtain ⟨y1, y2, y3, y4, y5, y6, y7, y8, y9⟩ := hSzO
  obtain ⟨a1, a2, a3, a4, a5, a6, a7, a8⟩ := id h
  have hs := a1.1
  obtain ⟨hv1, hv2⟩ := hv
  have hne : fs ≠ [] := by rintro rfl; exact a2 rfl
  have hfp := List.length_pos_iff.mpr hne
  obtain ⟨m, hm⟩ : ∃ m, fs.length = m + 1 := ⟨fs.length - 1, by omega⟩
  have hm9 : (fsN fs (x + 4)).length = m + 1 := by rw [fsN_len]; exact hm
  have e43 : hRd ph 147 43 = ((m + 1 : Nat) : Int) := by rw [a4, hm9]
  have ek : ((m + 1 : Nat) : Int) - 1 = (m : Int) := by omega
  obtain ⟨hv24, hv2⟩ := hv2 _ rfl
  simp only [List.length_cons] at hv24
  have hv1 : hRd ph 155 a = (w.length : Int) + 1 := by have : hRd ph 155 a = (((c :: w).length : Nat) : Int) := hv1; rw [this]; simp
  refine tEn (ls := [some (.inr (.inl (some 147))), some (.inl (a : Int)), some (.inl (frO (cP fs).length : Int)), some (.inl ((x + 4 : Nat) : Int)), some (.inl (nm : Int)), none, none, none]) (fun k => by match k with | 0 => rfl | 1 => rfl | 2 => rfl | 3 => rfl | 4 => rfl | 5 => rfl | 6 => rfl | 7 => rfl | k + 8 => rfl) ?_
  refine tK (l := xk_200) rfl rfl (fun _ _ _ _ _ => rfl) ?_
  refine tK (l := xk_200) rfl rfl (hGetR (o := some 155) hs rfl rfl rfl (by decide) (by decide) rfl) ?_
  refine tK (l := xk_200) rfl rfl (fun _ _ _ _ _ => rfl) ?_
  first | refine tK (l := xk_200) rfl rfl (hIaldN hs rfl rfl (by omega)) ?_ | refine tK (l := xk_200) rfl rfl (hIald hs rfl (by omega) (by omega)) ?_
  rw [hv1]
  refine tSt (l := xk_200) rfl rfl (fun _ _ _ _ _ => rfl) (Nat.le_of_ble_eq_true rfl) ?_
  refine tK (l := xk_200) rfl rfl (fun _ _ _ _ _ => rfl) ?_
  refine tIf_ne (l := xk_200) (pc' := 31) rfl rfl rfl (fun hc => ?_) (fun hc => ?_)
  · exfalso
    have h9 : (w.length : Int) + 1 = 0 := hc
    omega
  · refine tK (l := xk_200) rfl rfl (fun _ _ _ _ _ => rfl) ?_
    refine tK (l := xk_200) rfl rfl (fun _ _ _ _ _ => rfl) ?_
    refine tK (l := xk_200) rfl rfl (fun _ _ _ _ _ => rfl) ?_
    refine tK (l := xk_200) rfl rfl (fun _ _ _ _ _ => rfl) ?_
    refine tK (l := xk_200) rfl rfl (fun _ _ _ _ _ => rfl) ?_
    refine tCa (l := xk_200) rfl rfl (hInvV (c := 10) hs rfl rfl rfl rfl rfl (Nat.le_of_ble_eq_true rfl) (Nat.le_of_ble_eq_true rfl)) ?_
    refine s189 (m := m + 1) (fo := frO (cP fs).length) (nx := x + 4) hs e43 (by omega) (fun ph2 hs2 f2 rd2 => ?_)
    refine tKn ?_
    have e43b : hRd ph2 147 43 = ((m + 1 : Nat) : Int) + 1 := by rw [rd2, if_pos ⟨rfl, rfl⟩]
    have ek2 : ((m + 1 : Nat) : Int) + 1 - 1 = ((m + 1 : Nat) : Int) := by omega
    have s3 : hSh zs (hUp ph2 166 (m + 1) ((w.length : Int) + 1)) := hShI1 _ hs2 rfl rfl
    have rd3 := hRd_up (x := (w.length : Int) + 1) hs2 (show hKi (hTg 166) (m + 1) = true from rfl) (by omega)
    have f3 : hFM [] [166] ph2 (hUp ph2 166 (m + 1) ((w.length : Int) + 1)) := hFM_a hs2 rfl (by omega) (by decide) (by decide)
    refine tK (l := xk_200) rfl rfl (fun _ _ _ _ _ => rfl) ?_
    refine tK (l := xk_200) rfl rfl (hGetI hs2 rfl rfl rfl (by decide) (by decide)) ?_
    rw [e43b]
    refine tK (l := xk_200) rfl rfl (fun _ _ _ _ _ => rfl) ?_
    refine tK (l := xk_200) rfl rfl (hSub ⟨by omega, by omega⟩) ?_
    rw [ek2]
    refine tSt (l := xk_200) rfl rfl (fun _ _ _ _ _ => rfl) (Nat.le_of_ble_eq_true rfl) ?_
    refine tK (l := xk_200) rfl rfl (fun _ _ _ _ _ => rfl) ?_
    refine tK (l := xk_200) rfl rfl (hGetR (o := some 166) hs2 rfl rfl rfl (by decide) (by decide) rfl) ?_
    refine tK (l := xk_200) rfl rfl (fun _ _ _ _ _ => rfl) ?_
    refine tK (l := xk_200) rfl rfl (fun _ _ _ _ _ => rfl) ?_
    first | refine tK (l := xk_200) rfl rfl (hIastN hs2 rfl rfl (by omega)) ?_ | refine tK (l := xk_200) rfl rfl (hIast hs2 rfl (by omega) (by omega)) ?_
    refine tK (l := xk_200) rfl rfl (fun _ _ _ _ _ => rfl) ?_
    refine tSt (l := xk_200) rfl rfl (fun _ _ _ _ _ => rfl) (Nat.le_of_ble_eq_true rfl) ?_
    have loop : ∀ (n i : Nat) (phi : xH), i + n = w.length + 1 → hSh zs phi → hFM [] [167] (hUp ph2 166 (m + 1) ((w.length : Int) + 1)) phi → (∀ j, j < 24 * (m + 1) → hRd phi 167 j = hRd ph2 167 j) → (∀ (k : Nat) (c2 : Int), k < i → (c :: w)[k]? = some c2 → hRd phi 167 (24 * (m + 1) + k) = c2) → xT (d + 4) 200 61 (xlo [some (.inr (.inl (some 147))), some (.inl (a : Int)), some (.inl (frO (cP fs).length : Int)), some (.inl ((x + 4 : Nat) : Int)), some (.inl (nm : Int)), some (.inl ((w.length : Int) + 1)), some (.inl ((m + 1 : Nat) : Int)), some (.inl (i : Int))]) [] phi g Q := by
      intro n
      induction n with
      | zero =>
        intro i phi him hs hf hlow hnew
        refine tK (l := xk_200) rfl rfl (fun _ _ _ _ _ => rfl) ?_
        refine tK (l := xk_200) rfl rfl (fun _ _ _ _ _ => rfl) ?_
        refine tIc_ge (l := xk_200) (pc' := 98) rfl rfl rfl (fun hc => ?_) (fun hc => ?_)
        · exfalso; omega
        · refine tK (l := xk_200) rfl rfl (fun _ _ _ _ _ => rfl) ?_
          refine tK (l := xk_200) rfl rfl (fun _ _ _ _ _ => rfl) ?_
          refine tCa (l := xk_200) rfl rfl (hInvV (c := 10) hs rfl rfl rfl rfl rfl (Nat.le_of_ble_eq_true rfl) (Nat.le_of_ble_eq_true rfl)) ?_
          have f23 : hFM [43] [160, 161, 162, 163, 164, 165, 166, 167] ph phi := ((f2.mono (by decide) (by decide)).trans (f3.mono (by decide) (by decide))).trans (hf.mono (by decide) (by decide))
          have n3 : hMN zs phi (rs.1, rs.2) := a1.fr hs f23
          have f3f : hFM [] [166, 167] ph2 phi := (f3.mono (by decide) (by decide)).trans (hf.mono (by decide) (by decide))
          refine s192 (m := m + 1) (p := 0) (b := x + 4) (c := c) n3 hsc (by omega) (by rw [f3f.at (by decide), rd2, if_neg (by omega), if_neg (by omega), if_pos ⟨rfl, rfl⟩]; rfl) (Nat.zero_le _) (hnew 0 c (by omega) rfl) (by rw [f3f.at (by decide), rd2, if_neg (by omega), if_neg (by omega), if_neg (by omega), if_neg (by omega), if_pos ⟨rfl, rfl⟩]) (fun ph4 r4 f4 l4 e4 => ?_)
          refine tKn ?_
          refine tRt (l := xk_200) rfl rfl (fun _ _ _ _ _ => rfl) ?_
          subst hD
          have fF : hFM [28] [155, 162, 166, 167] ph2 ph4 := (f3f.mono (by decide) (by decide)).trans (f4.mono (by decide) (by decide))
          have g62 : hRd ph2 162 (m + 1) = ((x + 4 : Nat) : Int) := by rw [rd2, if_neg (by omega), if_neg (by omega), if_neg (by omega), if_neg (by omega), if_neg (by omega), if_pos ⟨rfl, rfl⟩]
          have key := h.push (f := (5, x + 4, x + 4, nm, 0, c :: w)) (rs3 := spS rs (psc 0 c)) hm9 (by omega) (by rw [cP_fsN]; exact rd2) r4 fF (by decide) (by decide) (fun j hj => by rw [f4.at (by decide), hf.at (by decide), rd3, if_neg (by omega)]) (fun j hj => by rw [f4.at (by decide)]; exact hlow j hj) (fun j hj => ?_) (by simp) rfl (fun q => absurd q (by simp)) (fun _ => ⟨rfl, rfl, by rw [f4.at (by decide), hf.at (by decide), rd3, if_pos ⟨rfl, rfl⟩]; simp, by simp only [List.length_cons]; omega, fun k c2 hk => ?_⟩) (by rw [nsc_s (Or.inr rfl)]; simp only [spS, List.length_cons]; omega)
          rotate_left
          · by_cases ej : j = m + 1
            · rw [ej, e4, g62]
            · rw [l4 j ej, f3f.at (by decide)]
          · rw [f4.at (by decide)]; exact hnew k c2 (by have := (List.getElem?_eq_some_iff.mp hk).1; simp only [List.length_cons] at this; omega) hk
          exact hQ ph4 (TMr key rfl) (f2.big.trans fF.big)
      | succ n ih =>
        intro i phi him hs hf hlow hnew
        obtain ⟨c2, hc9⟩ : ∃ c2, (c :: w)[i]? = some c2 := ⟨_, List.getElem?_eq_getElem (by simp only [List.length_cons]; omega)⟩
        have e55 : hRd phi 155 (a + 1 + i) = c2 := by rw [hf.at (by decide), f3.at (by decide), f2.at (by decide)]; exact hv2 i c2 hc9
        refine tK (l := xk_200) rfl rfl (fun _ _ _ _ _ => rfl) ?_
        refine tK (l := xk_200) rfl rfl (fun _ _ _ _ _ => rfl) ?_
        refine tIc_ge (l := xk_200) (pc' := 98) rfl rfl rfl (fun hc => ?_) (fun hc => ?_)
        · refine tK (l := xk_200) rfl rfl (fun _ _ _ _ _ => rfl) ?_
          refine tK (l := xk_200) rfl rfl (hGetR (o := some 167) hs rfl rfl rfl (by decide) (by decide) rfl) ?_
          refine tK (l := xk_200) rfl rfl (fun _ _ _ _ _ => rfl) ?_
          refine tK (l := xk_200) rfl rfl (fun _ _ _ _ _ => rfl) ?_
          refine tK (l := xk_200) rfl rfl (hMul ⟨by omega, by omega⟩) ?_
          refine tK (l := xk_200) rfl rfl (fun _ _ _ _ _ => rfl) ?_
          refine tK (l := xk_200) rfl rfl (hAdd ⟨by omega, by omega⟩) ?_
          rw [show (24 : Int) * ((m + 1 : Nat) : Int) + (i : Int) = ((24 * (m + 1) + i : Nat) : Int) by omega]
          refine tK (l := xk_200) rfl rfl (fun _ _ _ _ _ => rfl) ?_
          refine tK (l := xk_200) rfl rfl (hGetR (o := some 155) hs rfl rfl rfl (by decide) (by decide) rfl) ?_
          refine tK (l := xk_200) rfl rfl (fun _ _ _ _ _ => rfl) ?_
          refine tK (l := xk_200) rfl rfl (fun _ _ _ _ _ => rfl) ?_
          refine tK (l := xk_200) rfl rfl (hAdd ⟨by omega, by omega⟩) ?_
          rw [show (a : Int) + 1 = ((a + 1 : Nat) : Int) by omega]
          refine tK (l := xk_200) rfl rfl (fun _ _ _ _ _ => rfl) ?_
          refine tK (l := xk_200) rfl rfl (hAdd ⟨by omega, by omega⟩) ?_
          rw [show ((a + 1 : Nat) : Int) + (i : Int) = ((a + 1 + i : Nat) : Int) by omega]
          first | refine tK (l := xk_200) rfl rfl (hIaldN hs rfl rfl (by omega)) ?_ | refine tK (l := xk_200) rfl rfl (hIald hs rfl (by omega) (by omega)) ?_
          rw [e55]
          first | refine tK (l := xk_200) rfl rfl (hIastN hs rfl rfl (by omega)) ?_ | refine tK (l := xk_200) rfl rfl (hIast hs rfl (by omega) (by omega)) ?_
          refine tSt (l := xk_200) rfl rfl (hIinc rfl (Nat.le_of_ble_eq_true rfl) ⟨by omega, by omega⟩) (Nat.le_of_ble_eq_true rfl) ?_
          refine tK (l := xk_200) rfl rfl (fun _ _ _ _ _ => rfl) ?_
          have rd := hRd_up (x := c2) hs (show hKi (hTg 167) (24 * (m + 1) + i) = true from rfl) (by omega)
          refine ih (i + 1) _ (by omega) (hShI1 _ hs rfl rfl) (hf.trans (hFM_a hs rfl (by omega) (by decide) (by decide))) (fun j hj => by rw [rd, if_neg (by omega)]; exact hlow j hj) (fun k c3 hk hc3 => ?_)
          rw [rd]
          by_cases e : k = i
          · rw [if_pos ⟨rfl, by rw [e]⟩]; subst e; rw [hc9] at hc3; exact Option.some.inj hc3
          · rw [if_neg (by omega)]; exact hnew k c3 (by omega) hc3
        · exfalso; omega
    exact loop (w.length + 1) 0 _ (by omega) s3 hFM.refl (fun j hj => by rw [rd3, if_neg (by omega)]) (fun k c2 hk => absurd hk (by omega))
end MGO
