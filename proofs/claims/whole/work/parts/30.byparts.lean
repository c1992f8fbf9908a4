/-! ===== ByParts ===== -/
def bP (L : Nat) (a : Nat) : Prop := a = 43 ∨ a = 44 ∨ a = 46 ∨ a = 47 ∨ a = 48 ∨ a = 49 ∨ a = 51 ∨ a = 52 ∨ a = 54 ∨ a = 55 ∨ (8 ≤ a ∧ a + 7 * L < 36)
def hBR (zs : List xV) (ph : xH) (L : Nat) (fs : List Fm) (rs : RS) (deep : Nat) : Prop :=
  hRN zs ph rs ∧ fs ≠ [] ∧ (cP fs).length = L ∧ hPp ph (36 - 7 * L) (pPs (cT fs)) ∧ (cT fs).length ≤ 60 ∧ hRd ph 44 3 = 0 ∧ hPl ph (cP fs).reverse ∧ rs.1.length ≤ deep + 1 ∧ 0 < rs.1.length ∧ rs.2.1.length ≤ deep ∧ fs.length ≤ deep + 1 ∧ L ≤ 4 ∧ deep ≤ 33
/-- the parts were rendered -/
def okB (zs : List xV) (L : Nat) (fs : List Fm) (y : Nat) (rs : RS) (ph ph2 : xH) (rs2 : RS) : Prop :=
  hRN zs ph2 rs2 ∧ Rn (RU fs rs) (RU (fsN fs y) rs2) ∧ hFd (bP L) ph ph2 ∧ hRd ph2 44 3 = 0 ∧ rs2.1.length = rs.1.length ∧ rs2.2.1.length = rs.2.1.length ∧ (∀ r, r < (rs.1.length - 1) * 10 → hTo ph2 50 r = hTo ph 50 r) ∧ (∀ k, k < L → hRd ph2 48 k = hRd ph 48 k)
/-- a failure that stands in the outcome -/
def badB (zs : List xV) (L : Nat) (fs : List Fm) (rs : RS) (ph ph2 : xH) (r : Nat) : Prop :=
  r ≠ 0 ∧ ∃ rs1 rs2 fs2 pls, Rn (RU fs rs) (fs2, rs1, r, pls) ∧ hRN zs ph2 rs2 ∧ rs1.2.2 = rs2.2.2 ∧ hRd ph2 44 3 = (r : Int) ∧ hRd ph2 44 2 = (pls.length : Int) ∧ hPl ph2 pls ∧ hFd (bP L) ph ph2
/-- a failure that doesn't stand in the outcome yet -/
def unB (zs : List xV) (L : Nat) (fs : List Fm) (x : Nat) (rs : RS) (ph ph2 : xH) (r : Nat) : Prop :=
  r ≠ 0 ∧ ∃ rs1 rs2, Rn (RU fs rs) (FL fs rs1 r x) ∧ hRN zs ph2 rs2 ∧ rs1.2.2 = rs2.2.2 ∧ hRd ph2 44 3 = 0 ∧ hFd (bP L) ph ph2 ∧ (∀ k, k < L → hRd ph2 48 k = hRd ph 48 k)
def BPn (zs : List xV) (d n L : Nat) : Prop := ∀ (ph : xH) (g : Nat) (Q : xR → Prop) (fs : List Fm) (rs : RS) (p q x y deep : Nat), hBR zs ph L fs rs deep → Sg n (cT fs) (pPs (cT fs)) p q x y → cX fs = x → q ≤ (pPs (cT fs)).length → 5 * deep + (y - x) ≤ 60 + 25 * L →
  (∀ ph2 rs2, okB zs L fs y rs ph ph2 rs2 → Q (.inl (some (.inl 0)), ph2, g)) → (∀ ph2 r, badB zs L fs rs ph ph2 r → Q (.inl (some (.inl (r : Int))), ph2, g)) →
  xTC d 1 [.inr (.inl (some 56)), .inr (.inl (some (36 - 7 * L))), .inl (p : Int), .inl (q : Int), .inl (deep : Int)] ph g Q
theorem hTgL {L : Nat} (h : L ≤ 4) : hTg (36 - 7 * L) = 7 ∧ hLv (36 - 7 * L) = L := by
  match L, h with
  | 0, _ => decide +kernel
  | 1, _ => decide +kernel
  | 2, _ => decide +kernel
  | 3, _ => decide +kernel
  | 4, _ => decide +kernel
  | L + 5, h => exact absurd h (by omega)
theorem Sg_mono : ∀ {n : Nat} {t : List Int} {ps : List PP} {p q x y : Nat}, Sg n t ps p q x y → ∀ m, n ≤ m → Sg m t ps p q x y := by
  intro n
  induction n with
  | zero => intro t ps p q x y h; exact absurd h (fun q => q)
  | succ n ih =>
    intro t ps p q x y h m hm
    match m, hm with
    | 0, hm => exact absurd hm (by omega)
    | m + 1, hm =>
      rcases h with ⟨rfl, rfl⟩ | ⟨k, cd, nm, bh, h1, h2, h3, ⟨w, h4, h5, h6⟩ | ⟨h4, e, h5, h6, h7⟩⟩
      · exact Or.inl ⟨rfl, rfl⟩
      · exact Or.inr ⟨k, cd, nm, bh, h1, h2, h3, Or.inl ⟨w, h4, h5, ih h6 m (by omega)⟩⟩
      · exact Or.inr ⟨k, cd, nm, bh, h1, h2, h3, Or.inr ⟨h4, e, ih h5 m (by omega), h6, ih h7 m (by omega)⟩⟩
section BYP
variable {d : Nat} {ph : xH} {zs : List xV} {g : Nat} {Q : xR → Prop} {L n j : Nat} {fs : List Fm} {rs : RS}
theorem s5 {k x y deep bh nm x0 : Nat} {cd : Int} (ih : BPn zs d n L) (hb : hBR zs ph L fs rs (deep + 1)) (hp : (pPs (cT fs))[j]? = some (k, x0, cd, nm, bh)) (hsg : Sg n (cT fs) (pPs (cT fs)) (j + 1) bh x y) (hx : cX fs = x) (hq : bh ≤ (pPs (cT fs)).length) (hd : 5 * (deep + 1) + (y - x) ≤ 60 + 25 * L) (hOk : ∀ ph2 rs2, okB zs L fs y rs ph ph2 rs2 → Q (.inl (some (.inl 0)), ph2, g)) (hBad : ∀ ph2 r, badB zs L fs rs ph ph2 r → Q (.inl (some (.inl (r : Int))), ph2, g)) : xTC (d + 1) 5 [.inr (.inl (some 56)), .inr (.inl (some (36 - 7 * L))), .inl (j : Int), .inl (deep : Int)] ph g Q := by
  obtain ⟨b1, b2, b3, hpp, b5, b6, b7, b8, b9, b10, b11, b12, b13⟩ := id hb
  have hs := b1.1.1
  have ht := (hTgL b12).1
  have hj := (List.getElem?_eq_some_iff.mp hp).1
  have hl := hpp.2.1
  refine tEn (ls := [some (.inr (.inl (some 56))), some (.inr (.inl (some (36 - 7 * L)))), some (.inl (j : Int)), some (.inl (deep : Int))]) (fun k => by match k with | 0 => rfl | 1 => rfl | 2 => rfl | 3 => rfl | k + 4 => rfl) ?_
  refine tK (l := xk_5) rfl rfl (fun _ _ _ _ _ => rfl) ?_
  refine tK (l := xk_5) rfl rfl (fun _ _ _ _ _ => rfl) ?_
  refine tK (l := xk_5) rfl rfl (fun _ _ _ _ _ => rfl) ?_
  refine tK (l := xk_5) rfl rfl (fun _ _ _ _ _ => rfl) ?_
  refine tK (l := xk_5) rfl rfl (hAdd ⟨by omega, by omega⟩) ?_
  refine tK (l := xk_5) rfl rfl (fun _ _ _ _ _ => rfl) ?_
  refine tK (l := xk_5) rfl rfl (fun _ _ _ _ _ => rfl) ?_
  refine tCa (l := xk_5) rfl rfl (hInvV (c := 7) hs rfl rfl rfl ht rfl (Nat.le_of_ble_eq_true rfl) (Nat.le_of_ble_eq_true rfl)) ?_
  refine s67 hs ht hpp hp ?_
  refine tKv ?_
  refine tK (l := xk_5) rfl rfl (fun _ _ _ _ _ => rfl) ?_
  refine tK (l := xk_5) rfl rfl (fun _ _ _ _ _ => rfl) ?_
  refine tK (l := xk_5) rfl rfl (hAdd ⟨by omega, by omega⟩) ?_
  refine tCa (l := xk_5) rfl rfl (hInvV (c := 0) hs rfl rfl rfl rfl rfl (Nat.le_of_ble_eq_true rfl) (Nat.le_of_ble_eq_true rfl)) ?_
  refine ih ph g _ fs rs (j + 1) bh x y (deep + 1) hb hsg hx hq hd (fun ph2 rs2 k2 => ?_) (fun ph2 r k2 => ?_)
  · refine tKv ?_
    refine tRt (l := xk_5) rfl rfl (fun _ _ _ _ _ => rfl) ?_
    exact hOk ph2 rs2 k2
  · refine tKv ?_
    refine tRt (l := xk_5) rfl rfl (fun _ _ _ _ _ => rfl) ?_
    exact hBad ph2 r k2
end BYP
