/-! ===== ByParts ===== -/
def bP (L : Nat) (a : Nat) : Prop := a = 43 ∨ a = 44 ∨ a = 46 ∨ a = 47 ∨ a = 48 ∨ a = 49 ∨ a = 51 ∨ a = 52 ∨ a = 54 ∨ a = 55 ∨ (8 ≤ a ∧ a + 7 * L < 36)
def h43 (ph : xH) : Prop := hRd ph 44 3 = 0 ∧ hRd ph 44 2 = 0
theorem h43.fr {S : List Nat} {ph ph2 : xH} (h : h43 ph) (hf : hFr S ph ph2) (h1 : 44 ∉ S) : h43 ph2 := ⟨by rw [hf.1 _ _ h1]; exact h.1, by rw [hf.1 _ _ h1]; exact h.2⟩
theorem h43.f4 {S : List Nat} {ph ph2 : xH} (h : h43 ph) (hf : hF4 S ph ph2) : h43 ph2 := ⟨by rw [hf.2 3 (by decide)]; exact h.1, by rw [hf.2 2 (by decide)]; exact h.2⟩
def hBR (zs : List xV) (ph : xH) (L : Nat) (fs : List Fm) (rs : RS) (deep : Nat) : Prop :=
  hRN zs ph rs ∧ fs ≠ [] ∧ (cP fs).length = L ∧ hPp ph (36 - 7 * L) (pPs (cT fs)) ∧ (cT fs).length ≤ 60 ∧ h43 ph ∧ hPl ph (cP fs).reverse ∧ rs.1.length ≤ deep + 1 ∧ 0 < rs.1.length ∧ rs.2.1.length ≤ deep ∧ fs.length ≤ deep + 1 ∧ L ≤ 4 ∧ deep ≤ 33 ∧ (∀ c ∈ cT fs, 0 ≤ c ∧ c ≤ 65535)
/-- the parts were rendered -/
def okB (zs : List xV) (L : Nat) (c0 : Cf) (fs : List Fm) (y : Nat) (rs : RS) (ph ph2 : xH) (rs2 : RS) : Prop :=
  hRN zs ph2 rs2 ∧ Rn c0 (RU (fsN fs y) rs2) ∧ hFd (bP L) ph ph2 ∧ h43 ph2 ∧ rs2.1.length = rs.1.length ∧ rs2.2.1.length = rs.2.1.length ∧ (∀ r, r < (rs.1.length - 1) * 10 → hTo ph2 50 r = hTo ph 50 r) ∧ (∀ k, k < L → hRd ph2 48 k = hRd ph 48 k)
/-- a failure that stands in the outcome -/
def badB (zs : List xV) (L : Nat) (c0 : Cf) (m : Nat) (ph ph2 : xH) (r : Nat) : Prop :=
  r ≠ 0 ∧ ∃ rs1 rs2 fs2 pls, Rn c0 (fs2, rs1, r, pls) ∧ hRN zs ph2 rs2 ∧ rs2.1.length = m ∧ rs1.2.2 = rs2.2.2 ∧ hRd ph2 44 3 = (r : Int) ∧ hRd ph2 44 2 = (pls.length : Int) ∧ hPl ph2 pls ∧ hFd (bP L) ph ph2
/-- a failure that doesn't stand in the outcome yet -/
def unB (zs : List xV) (L : Nat) (c0 : Cf) (m : Nat) (fs : List Fm) (x : Nat) (ph ph2 : xH) (r : Nat) : Prop :=
  r ≠ 0 ∧ ∃ rs1 rs2, Rn c0 (FL fs rs1 r x) ∧ hRN zs ph2 rs2 ∧ rs2.1.length = m ∧ rs1.2.2 = rs2.2.2 ∧ h43 ph2 ∧ hFd (bP L) ph ph2 ∧ (∀ k, k < L → hRd ph2 48 k = hRd ph 48 k)
def BPn (zs : List xV) (d n L : Nat) : Prop := ∀ (ph : xH) (g : Nat) (Q : xR → Prop) (fs : List Fm) (rs : RS) (p q x y deep : Nat), hBR zs ph L fs rs deep → Sg n (cT fs) (pPs (cT fs)) p q x y → cX fs = x → q ≤ (pPs (cT fs)).length → 5 * deep + (y - x) ≤ 60 + 25 * L →
  (∀ ph2 rs2, okB zs L (RU fs rs) fs y rs ph ph2 rs2 → Q (.inl (some (.inl 0)), ph2, g)) → (∀ ph2 r, badB zs L (RU fs rs) rs.1.length ph ph2 r → Q (.inl (some (.inl (r : Int))), ph2, g)) →
  xTC d 1 [.inr (.inl (some 56)), .inr (.inl (some (36 - 7 * L))), .inl (p : Int), .inl (q : Int), .inl (deep : Int)] ph g Q
theorem hTgL {L : Nat} (h : L ≤ 4) : hTg (36 - 7 * L) = 7 ∧ hLv (36 - 7 * L) = L := by
  match L, h with
  | 0, _ => decide +kernel
  | 1, _ => decide +kernel
  | 2, _ => decide +kernel
  | 3, _ => decide +kernel
  | 4, _ => decide +kernel
  | L + 5, h => exact absurd h (by omega)
theorem Sg_mono : ∀ {n : Nat} {t : List Int} {ps : List PP} {p q x y : Nat}, Sg n t ps p q x y → ∀ m, n ≤ m → Sg m t ps p q x y := by
  intro n
  induction n with
  | zero => intro t ps p q x y h; exact absurd h (fun q => q)
  | succ n ih =>
    intro t ps p q x y h m hm
    match m, hm with
    | 0, hm => exact absurd hm (by omega)
    | m + 1, hm =>
      rcases h with ⟨rfl, rfl⟩ | ⟨k, cd, nm, bh, h1, h2, h3, ⟨w, h4, h5, h6⟩ | ⟨h4, e, h5, h6, h7⟩⟩
      · exact Or.inl ⟨rfl, rfl⟩
      · exact Or.inr ⟨k, cd, nm, bh, h1, h2, h3, Or.inl ⟨w, h4, h5, ih h6 m (by omega)⟩⟩
      · exact Or.inr ⟨k, cd, nm, bh, h1, h2, h3, Or.inr ⟨h4, e, ih h5 m (by omega), h6, ih h7 m (by omega)⟩⟩
section BYP
variable {d : Nat} {ph : xH} {zs : List xV} {g : Nat} {Q : xR → Prop} {L n j : Nat} {fs : List Fm} {rs : RS}
theorem s5 {k x y deep bh nm x0 : Nat} {cd : Int} (ih : BPn zs d n L) (hb : hBR zs ph L fs rs (deep + 1)) (hp : (pPs (cT fs))[j]? = some (k, x0, cd, nm, bh)) (hsg : Sg n (cT fs) (pPs (cT fs)) (j + 1) bh x y) (hx : cX fs = x) (hq : bh ≤ (pPs (cT fs)).length) (hd : 5 * (deep + 1) + (y - x) ≤ 60 + 25 * L) (hOk : ∀ ph2 rs2, okB zs L (RU fs rs) fs y rs ph ph2 rs2 → Q (.inl (some (.inl 0)), ph2, g)) (hBad : ∀ ph2 r, badB zs L (RU fs rs) rs.1.length ph ph2 r → Q (.inl (some (.inl (r : Int))), ph2, g)) : xTC (d + 1) 5 [.inr (.inl (some 56)), .inr (.inl (some (36 - 7 * L))), .inl (j : Int), .inl (deep : Int)] ph g Q := by
  obtain ⟨b1, b2, b3, hpp, b5, b6, b7, b8, b9, b10, b11, b12, b13, b14⟩ := id hb
  have hs := b1.1.1
  have ht := (hTgL b12).1
  have hj := (List.getElem?_eq_some_iff.mp hp).1
  have hl := hpp.2.1
  refine tEn (ls := [some (.inr (.inl (some 56))), some (.inr (.inl (some (36 - 7 * L)))), some (.inl (j : Int)), some (.inl (deep : Int))]) (fun k => by match k with | 0 => rfl | 1 => rfl | 2 => rfl | 3 => rfl | k + 4 => rfl) ?_
  refine tK (l := xk_5) rfl rfl (fun _ _ _ _ _ => rfl) ?_
  refine tK (l := xk_5) rfl rfl (fun _ _ _ _ _ => rfl) ?_
  refine tK (l := xk_5) rfl rfl (fun _ _ _ _ _ => rfl) ?_
  refine tK (l := xk_5) rfl rfl (fun _ _ _ _ _ => rfl) ?_
  refine tK (l := xk_5) rfl rfl (hAdd ⟨by omega, by omega⟩) ?_
  refine tK (l := xk_5) rfl rfl (fun _ _ _ _ _ => rfl) ?_
  refine tK (l := xk_5) rfl rfl (fun _ _ _ _ _ => rfl) ?_
  refine tCa (l := xk_5) rfl rfl (hInvV (c := 7) hs rfl rfl rfl ht rfl (Nat.le_of_ble_eq_true rfl) (Nat.le_of_ble_eq_true rfl)) ?_
  refine s67 hs ht hpp hp ?_
  refine tKv ?_
  refine tK (l := xk_5) rfl rfl (fun _ _ _ _ _ => rfl) ?_
  refine tK (l := xk_5) rfl rfl (fun _ _ _ _ _ => rfl) ?_
  refine tK (l := xk_5) rfl rfl (hAdd ⟨by omega, by omega⟩) ?_
  refine tCa (l := xk_5) rfl rfl (hInvV (c := 0) hs rfl rfl rfl rfl rfl (Nat.le_of_ble_eq_true rfl) (Nat.le_of_ble_eq_true rfl)) ?_
  refine ih ph g _ fs rs (j + 1) bh x y (deep + 1) hb hsg hx hq hd (fun ph2 rs2 k2 => ?_) (fun ph2 r k2 => ?_)
  · refine tKv ?_
    refine tRt (l := xk_5) rfl rfl (fun _ _ _ _ _ => rfl) ?_
    exact hOk ph2 rs2 k2
  · refine tKv ?_
    refine tRt (l := xk_5) rfl rfl (fun _ _ _ _ _ => rfl) ?_
    exact hBad ph2 r k2
theorem hBR.blk {deep k a b nm ps z : Nat} {tx : List Int} {ph2 : xH} {rs2 : RS} (h : hBR zs ph L fs rs deep) (hk : k ≠ 0) (hd : deep ≤ 32) (hr : hRN zs ph2 rs2) (hf : hFd (bP L) ph ph2) (h48 : ∀ k, k < L → hRd ph2 48 k = hRd ph 48 k) (h3 : h43 ph2) (hl : rs2.1.length ≤ deep + 2) (hl0 : 0 < rs2.1.length) (hg : rs2.2.1.length ≤ deep + 1) : hBR zs ph2 L ((k, a, b, nm, ps, tx) :: fsN fs z) rs2 (deep + 1) := by
  obtain ⟨b1, b2, b3, b4, b5, b6, b7, b8, b9, b10, b11, b12, b13, b14⟩ := h
  have ec : cP ((k, a, b, nm, ps, tx) :: fsN fs z) = cP fs := by
    simp only [cP]
    rw [if_neg (fun q => hk q.1), cP_fsN]
  have et : cT ((k, a, b, nm, ps, tx) :: fsN fs z) = cT fs := by
    simp only [cT]
    rw [if_neg hk, cT_fsN]
  refine ⟨hr, List.cons_ne_nil _ _, by rw [ec]; exact b3, ?_, by rw [et]; exact b5, h3, ?_, hl, hl0, hg, by simp only [List.length_cons, fsN_len]; omega, b12, by omega, by rw [et]; exact b14⟩
  · rw [et]
    have hT : ∀ a ∈ tS (36 - 7 * L), ¬ bP L a := by
      intro a ha
      simp only [tS, List.mem_cons, List.not_mem_nil, or_false] at ha
      have h9 : ¬ (8 ≤ a ∧ a + 7 * L < 36) := by omega
      have h8 : 8 ≤ a := by omega
      have h10 : a < 43 := by omega
      unfold bP
      omega
    refine ⟨by rw [hf.1 _ _ (hT _ (by simp [tS]))]; exact b4.1, b4.2.1, fun i p hp => ?_⟩
    rw [hf.1 _ _ (hT (36 - 7 * L + 1) (by simp [tS])), hf.1 _ _ (hT (36 - 7 * L + 2) (by simp [tS])), hf.1 _ _ (hT (36 - 7 * L + 3) (by simp [tS])), hf.1 _ _ (hT (36 - 7 * L + 4) (by simp [tS])), hf.1 _ _ (hT (36 - 7 * L + 5) (by simp [tS]))]
    exact b4.2.2 i p hp
  · rw [ec]
    intro k x hx
    have hk9 := (List.getElem?_eq_some_iff.mp hx).1
    rw [List.length_reverse] at hk9
    rw [h48 k (by omega)]
    exact b7 k x hx
theorem hFd.refl {P : Nat → Prop} {a : xH} : hFd P a a := ⟨fun _ _ _ => rfl, fun _ _ => rfl, fun _ _ => rfl⟩
theorem hPp.fr2 {pha phb : xH} {ps : List PP} (h : hPp pha (36 - 7 * L) ps) (hL : L ≤ 4) (hf : hFd (bP L) pha phb) : hPp phb (36 - 7 * L) ps := by
  have hT : ∀ a ∈ tS (36 - 7 * L), ¬ bP L a := by
    intro a ha
    simp only [tS, List.mem_cons, List.not_mem_nil, or_false] at ha
    have h9 : ¬ (8 ≤ a ∧ a + 7 * L < 36) := by omega
    have h10 : a < 43 := by omega
    unfold bP
    omega
  refine ⟨by rw [hf.1 _ _ (hT _ (by simp [tS]))]; exact h.1, h.2.1, fun i p hp => ?_⟩
  rw [hf.1 _ _ (hT (36 - 7 * L + 1) (by simp [tS])), hf.1 _ _ (hT (36 - 7 * L + 2) (by simp [tS])), hf.1 _ _ (hT (36 - 7 * L + 3) (by simp [tS])), hf.1 _ _ (hT (36 - 7 * L + 4) (by simp [tS])), hf.1 _ _ (hT (36 - 7 * L + 5) (by simp [tS]))]
  exact h.2.2 i p hp
theorem hBR.re {deep : Nat} {ph2 : xH} {rs2 : RS} (h : hBR zs ph L fs rs deep) (hr : hRN zs ph2 rs2) (hf : hFd (bP L) ph ph2) (h48 : ∀ k, k < L → hRd ph2 48 k = hRd ph 48 k) (h3 : h43 ph2) (hl : rs2.1.length = rs.1.length) (hg : rs2.2.1.length = rs.2.1.length) : hBR zs ph2 L fs rs2 deep := by
  obtain ⟨b1, b2, b3, b4, b5, b6, b7, b8, b9, b10, b11, b12, b13, b14⟩ := h
  refine ⟨hr, b2, b3, b4.fr2 b12 hf, b5, h3, ?_, by omega, by omega, by omega, b11, b12, b13, b14⟩
  intro k x hx
  have hk9 := (List.getElem?_eq_some_iff.mp hx).1
  rw [List.length_reverse] at hk9
  rw [h48 k (by omega)]
  exact b7 k x hx
theorem badB.pre {c0 c1 : Cf} {m : Nat} {pha phb phc : xH} {r : Nat} (h : badB zs L c1 m phb phc r) (h1 : Rn c0 c1) (h2 : hFd (bP L) pha phb) : badB zs L c0 m pha phc r := by
  obtain ⟨hr, rs1, rs2, fs2, pls, a1, a2, a0, a3, a4, a5, a6, a7⟩ := h
  exact ⟨hr, rs1, rs2, fs2, pls, h1.trans a1, a2, a0, a3, a4, a5, a6, h2.trans a7⟩
theorem s6 {x y deep bh nm e : Nat} {cd : Int} {c0 : Cf} (ih : BPn zs (d + 2) n L) (hb : hBR zs ph L fs rs deep) (hd : deep ≤ 32) (hp : (pPs (cT fs))[j]? = some (6, x, cd, nm, bh)) (hnm : nm < 10) (hsg : Sg n (cT fs) (pPs (cT fs)) (j + 1) bh (x + 4) e) (he : (cT fs)[e]? = some 125) (hq : bh ≤ (pPs (cT fs)).length) (hd5 : 5 * deep + (e + 1 - x) ≤ 60 + 25 * L) (h0 : ∀ d, PBlk fs x 6 nm rs d → Rn c0 d) (hOk : ∀ ph2 rs2, okB zs L c0 fs (e + 1) rs ph ph2 rs2 → Q (.inl (some (.inl 0)), ph2, g)) (hBad : ∀ ph2 r, badB zs L c0 rs.1.length ph ph2 r → Q (.inl (some (.inl (r : Int))), ph2, g)) : xTC (d + 4) 6 [.inr (.inl (some 56)), .inr (.inl (some (36 - 7 * L))), .inl (j : Int), .inl (deep : Int)] ph g Q := by
  obtain ⟨b1, b2, b3, hpp, b5, b6, b7, b8, b9, b10, b11, b12, b13, b14⟩ := id hb
  have hs := b1.1.1
  have ht := (hTgL b12).1
  have hj := (List.getElem?_eq_some_iff.mp hp).1
  have hl := hpp.2.1
  have hle := Sg_le hsg
  refine tEn (ls := [some (.inr (.inl (some 56))), some (.inr (.inl (some (36 - 7 * L)))), some (.inl (j : Int)), some (.inl (deep : Int))]) (fun k => by match k with | 0 => rfl | 1 => rfl | 2 => rfl | 3 => rfl | k + 4 => rfl) ?_
  refine tK (l := xk_6) rfl rfl (fun _ _ _ _ _ => rfl) ?_
  refine tK (l := xk_6) rfl rfl (hGetR (o := some 43) hs rfl rfl rfl (by decide) (by decide) rfl) ?_
  refine tK (l := xk_6) rfl rfl (fun _ _ _ _ _ => rfl) ?_
  refine tK (l := xk_6) rfl rfl (fun _ _ _ _ _ => rfl) ?_
  refine tCa (l := xk_6) rfl rfl (hInvV (c := 7) hs rfl rfl rfl ht rfl (Nat.le_of_ble_eq_true rfl) (Nat.le_of_ble_eq_true rfl)) ?_
  refine s65 hs ht hpp hp (by simp) ?_
  refine tKv ?_
  refine tCa (l := xk_6) rfl rfl (hInvV (c := 4) hs rfl rfl rfl rfl rfl (Nat.le_of_ble_eq_true rfl) (Nat.le_of_ble_eq_true rfl)) ?_
  refine s37 b1.1 hnm ?_
  refine tKv ?_
  refine tIf_ne (l := xk_6) (pc' := 17) rfl rfl rfl (fun hc => ?_) (fun hc => ?_)
  · have hc12 := hc
    refine tK (l := xk_6) rfl rfl (fun _ _ _ _ _ => rfl) ?_
    refine tRt (l := xk_6) rfl rfl (fun _ _ _ _ _ => rfl) ?_
    have hc1 : lk rs.1 nm = none ∨ lk rs.1 nm = some [] := by
      cases e1 : lk rs.1 nm with
      | none => exact Or.inl rfl
      | some v => cases v with
        | nil => exact Or.inr rfl
        | cons c v => exact absurd hc12 (by rw [e1]; simp [hoF])
    exact hOk ph rs ⟨b1, h0 _ (Or.inr (Or.inl ⟨Or.inr ⟨rfl, hc1⟩, n, pPs (cT fs), j + 1, bh, e, hsg, he, rfl⟩)), hFd.refl, b6, rfl, rfl, fun _ _ => rfl, fun _ _ => rfl⟩
  · have hc12 := hc
    refine tK (l := xk_6) rfl rfl (fun _ _ _ _ _ => rfl) ?_
    refine tK (l := xk_6) rfl rfl (fun _ _ _ _ _ => rfl) ?_
    refine tK (l := xk_6) rfl rfl (fun _ _ _ _ _ => rfl) ?_
    refine tK (l := xk_6) rfl rfl (fun _ _ _ _ _ => rfl) ?_
    refine tCa (l := xk_6) rfl rfl (hInvV (c := 0) hs rfl rfl rfl rfl rfl (Nat.le_of_ble_eq_true rfl) (Nat.le_of_ble_eq_true rfl)) ?_
    have hc1 : ∃ c v, lk rs.1 nm = some (c :: v) := by
      cases e1 : lk rs.1 nm with
      | none => exact absurd (by rw [e1]; rfl) hc12
      | some v => cases v with
        | nil => exact absurd (by rw [e1]; rfl) hc12
        | cons c v => exact ⟨c, v, rfl⟩
    have hr1 : Rn c0 (RU ((6, x + 4, x + 4, nm, 0, []) :: fsN fs (x + 4)) rs) := h0 _ (Or.inr (Or.inr (Or.inr (Or.inl ⟨rfl, by omega, hc1, rfl⟩))))
    have hb1 : hBR zs ph L ((6, x + 4, x + 4, nm, 0, []) :: fsN fs (x + 4)) rs (deep + 1) := hb.blk (by decide) hd b1 hFd.refl (fun _ _ => rfl) b6 (by omega) b9 (by omega)
    have et : cT ((6, x + 4, x + 4, nm, 0, []) :: fsN fs (x + 4)) = cT fs := by simp only [cT]; rw [if_neg (by decide), cT_fsN]
    refine s5 (bh := bh) (x := x + 4) (y := e) (cd := cd) (nm := nm) (x0 := x) (k := 6) ih hb1 (by rw [et]; exact hp) (by rw [et]; exact hsg) rfl (by rw [et]; exact hq) (by omega) (fun ph2 rs2 k2 => ?_) (fun ph2 r k2 => ?_)
    · refine tKv ?_
      refine tRt (l := xk_6) rfl rfl (fun _ _ _ _ _ => rfl) ?_
      obtain ⟨k1, k2, k3, k4, k5, k6, k7, k8⟩ := k2
      refine hOk ph2 rs2 ⟨k1, (hr1.trans k2).trans (Rn.one (Or.inr ?_)), k3, k4, k5, k6, k7, k8⟩
      cases hfs : fs with
      | nil => exact absurd hfs b2
      | cons f gs =>
        refine ⟨(6, e, x + 4, nm, 0, []), (f.1, x + 4, f.2.2), gs, rs2, rfl, Or.inr (Or.inr (Or.inl ⟨rfl, ?_, rfl⟩))⟩
        have e9 : cT ((f.1, x + 4, f.2.2) :: gs) = cT fs := by rw [hfs]; rfl
        rw [e9]; exact he
    · refine tKv ?_
      refine tRt (l := xk_6) rfl rfl (fun _ _ _ _ _ => rfl) ?_
      exact hBad ph2 r (k2.pre hr1 hFd.refl)
theorem s7 {x y deep bh nm e : Nat} {cd : Int} {c0 : Cf} (ih : BPn zs (d + 2) n L) (hb : hBR zs ph L fs rs deep) (hd : deep ≤ 32) (hp : (pPs (cT fs))[j]? = some (7, x, cd, nm, bh)) (hnm : nm < 10) (hsg : Sg n (cT fs) (pPs (cT fs)) (j + 1) bh (x + 4) e) (he : (cT fs)[e]? = some 125) (hq : bh ≤ (pPs (cT fs)).length) (hd5 : 5 * deep + (e + 1 - x) ≤ 60 + 25 * L) (h0 : ∀ d, PBlk fs x 7 nm rs d → Rn c0 d) (hOk : ∀ ph2 rs2, okB zs L c0 fs (e + 1) rs ph ph2 rs2 → Q (.inl (some (.inl 0)), ph2, g)) (hBad : ∀ ph2 r, badB zs L c0 rs.1.length ph ph2 r → Q (.inl (some (.inl (r : Int))), ph2, g)) : xTC (d + 4) 7 [.inr (.inl (some 56)), .inr (.inl (some (36 - 7 * L))), .inl (j : Int), .inl (deep : Int)] ph g Q := by
  obtain ⟨b1, b2, b3, hpp, b5, b6, b7, b8, b9, b10, b11, b12, b13, b14⟩ := id hb
  have hs := b1.1.1
  have ht := (hTgL b12).1
  have hj := (List.getElem?_eq_some_iff.mp hp).1
  have hl := hpp.2.1
  have hle := Sg_le hsg
  refine tEn (ls := [some (.inr (.inl (some 56))), some (.inr (.inl (some (36 - 7 * L)))), some (.inl (j : Int)), some (.inl (deep : Int)), none]) (fun k => by match k with | 0 => rfl | 1 => rfl | 2 => rfl | 3 => rfl | 4 => rfl | k + 5 => rfl) ?_
  refine tK (l := xk_7) rfl rfl (fun _ _ _ _ _ => rfl) ?_
  refine tK (l := xk_7) rfl rfl (hGetR (o := some 43) hs rfl rfl rfl (by decide) (by decide) rfl) ?_
  refine tCa (l := xk_7) rfl rfl (hInvV (c := 4) hs rfl rfl rfl rfl rfl (Nat.le_of_ble_eq_true rfl) (Nat.le_of_ble_eq_true rfl)) ?_
  obtain ⟨sc, stg, ou, st, pl, es, vl⟩ := rs
  simp only at b8 b9 b10
  refine s38 b1 (by omega) (fun ph1 r1 f1 => ?_)
  refine tKv ?_
  refine tSt (l := xk_7) rfl rfl (fun _ _ _ _ _ => rfl) (Nat.le_of_ble_eq_true rfl) ?_
  refine tK (l := xk_7) rfl rfl (fun _ _ _ _ _ => rfl) ?_
  refine tIf_ne (l := xk_7) (pc' := 23) rfl rfl rfl (fun hc => ?_) (fun hc => ?_)
  · have hc11 := hc
    refine tK (l := xk_7) rfl rfl (fun _ _ _ _ _ => rfl) ?_
    refine tK (l := xk_7) rfl rfl (fun _ _ _ _ _ => rfl) ?_
    refine tK (l := xk_7) rfl rfl (fun _ _ _ _ _ => rfl) ?_
    refine tK (l := xk_7) rfl rfl (fun _ _ _ _ _ => rfl) ?_
    refine tCa (l := xk_7) rfl rfl (hInvV (c := 0) r1.1.1 rfl rfl rfl rfl rfl (Nat.le_of_ble_eq_true rfl) (Nat.le_of_ble_eq_true rfl)) ?_
    have g1 : hFd (bP L) ph ph1 := f1.fd (by intro x hx; simp only [List.mem_cons, List.not_mem_nil, or_false] at hx; unfold bP; omega)
    have w48 : ∀ k, k < L → hRd ph1 48 k = hRd ph 48 k := fun k _ => f1.at (by decide) k
    have w44 : h43 ph1 := b6.fr f1 (by decide)
    have hr1 : Rn c0 (RU ((7, x + 4, x + 4, nm, 0, []) :: fsN fs (x + 4)) (sc, [] :: stg, ou, st, pl, es, vl)) := h0 _ (Or.inr (Or.inr (Or.inr (Or.inr ⟨rfl, by omega, by simp only; omega, rfl⟩))))
    have hb1 : hBR zs ph1 L ((7, x + 4, x + 4, nm, 0, []) :: fsN fs (x + 4)) (sc, [] :: stg, ou, st, pl, es, vl) (deep + 1) := hb.blk (by decide) hd r1 g1 w48 w44 (by simp only; omega) b9 (by simp only [List.length_cons]; omega)
    have et : cT ((7, x + 4, x + 4, nm, 0, []) :: fsN fs (x + 4)) = cT fs := by simp only [cT]; rw [if_neg (by decide), cT_fsN]
    refine s5 (bh := bh) (x := x + 4) (y := e) (cd := cd) (nm := nm) (x0 := x) (k := 7) ih hb1 (by rw [et]; exact hp) (by rw [et]; exact hsg) rfl (by rw [et]; exact hq) (by omega) (fun ph2 rs2 k2 => ?_) (fun ph2 r k2 => ?_)
    · refine tKv ?_
      obtain ⟨r2, k2, k3, k4, k5, k6, k7, k8⟩ := k2
      refine tSt (l := xk_7) rfl rfl (fun _ _ _ _ _ => rfl) (Nat.le_of_ble_eq_true rfl) ?_
      refine tK (l := xk_7) rfl rfl (fun _ _ _ _ _ => rfl) ?_
      refine tIf_ne (l := xk_7) (pc' := 40) rfl rfl rfl (fun hc => ?_) (fun hc => ?_)
      · have hc25 := hc
        refine tK (l := xk_7) rfl rfl (fun _ _ _ _ _ => rfl) ?_
        refine tK (l := xk_7) rfl rfl (hGetR (o := some 43) r2.1.1 rfl rfl rfl (by decide) (by decide) rfl) ?_
        refine tK (l := xk_7) rfl rfl (fun _ _ _ _ _ => rfl) ?_
        refine tK (l := xk_7) rfl rfl (fun _ _ _ _ _ => rfl) ?_
        refine tCa (l := xk_7) rfl rfl (hInvV (c := 7) r2.1.1 rfl rfl rfl ht rfl (Nat.le_of_ble_eq_true rfl) (Nat.le_of_ble_eq_true rfl)) ?_
        have hpp2 := hpp.fr2 b12 (g1.trans k3)
        refine s65 r2.1.1 ht hpp2 hp (by simp) ?_
        refine tKv ?_
        refine tCa (l := xk_7) rfl rfl (hInvV (c := 4) r2.1.1 rfl rfl rfl rfl rfl (Nat.le_of_ble_eq_true rfl) (Nat.le_of_ble_eq_true rfl)) ?_
        obtain ⟨sc2, stg2, ou2, st2, pl2, es2, vl2⟩ := rs2
        simp only [List.length_cons] at k5 k6
        cases sc2 with
        | nil => simp only [List.length_nil] at k5; omega
        | cons f0 sc2 =>
        cases stg2 with
        | nil => simp at k6
        | cons s0 stg2 =>
        simp only [List.length_cons] at k5 k6
        refine s39 r2 hnm (fun ph3 r3 f3 w3 => ?_)
        refine tKn ?_
        refine tK (l := xk_7) rfl rfl (fun _ _ _ _ _ => rfl) ?_
        refine tRt (l := xk_7) rfl rfl (fun _ _ _ _ _ => rfl) ?_
        have g3 : hFd (bP L) ph2 ph3 := f3.fd (by intro x hx; simp only [List.mem_cons, List.not_mem_nil, or_false] at hx; unfold bP; omega)
        refine hOk ph3 _ ⟨r3, (hr1.trans k2).trans (Rn.one (Or.inr ?_)), (g1.trans k3).trans g3, k4.fr f3 (by decide), by simp only [List.length_cons]; omega, by simp only; omega, fun r hr => ?_, fun k hk => by rw [f3.at (by decide) k, k8 k hk]; exact w48 k hk⟩
        · cases hfs : fs with
          | nil => exact absurd hfs b2
          | cons f gs =>
            refine ⟨(7, e, x + 4, nm, 0, []), (f.1, x + 4, f.2.2), gs, (f0 :: sc2, s0 :: stg2, ou2, st2, pl2, es2, vl2), rfl, Or.inr (Or.inr (Or.inr ⟨rfl, ?_, hnm, f0, sc2, s0, stg2, rfl, rfl, rfl⟩))⟩
            have e9 : cT ((f.1, x + 4, f.2.2) :: gs) = cT fs := by rw [hfs]; rfl
            rw [e9]; exact he
        · simp only at hr
          rw [w3 r (by omega), k7 r (by simp only; omega)]
          exact f1.to (by decide) (by decide)
      · have hc25 := hc
        exact absurd rfl hc
    · refine tKv ?_
      refine tSt (l := xk_7) rfl rfl (fun _ _ _ _ _ => rfl) (Nat.le_of_ble_eq_true rfl) ?_
      refine tK (l := xk_7) rfl rfl (fun _ _ _ _ _ => rfl) ?_
      refine tIf_ne (l := xk_7) (pc' := 40) rfl rfl rfl (fun hc => ?_) (fun hc => ?_)
      · have hc25 := hc
        exact absurd (show ((r : Nat) : Int) = 0 from hc) (by have := k2.1; omega)
      · have hc25 := hc
        refine tK (l := xk_7) rfl rfl (fun _ _ _ _ _ => rfl) ?_
        refine tRt (l := xk_7) rfl rfl (fun _ _ _ _ _ => rfl) ?_
        exact hBad ph2 r (k2.pre hr1 g1)
  · have hc11 := hc
    exact absurd rfl hc
end BYP
