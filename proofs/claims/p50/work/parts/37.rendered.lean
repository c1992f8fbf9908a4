/-! ===== what a rendering comes to ===== -/
def fs0 (x : Nat) (t : List Int) : List Fm := [(0, x, 0, 0, 0, t)]
def rs0 (f : Nat → Option (List Int)) (w : Int) : RS := ([sc0 f w], [], [], 0, 0, 0, 0)
def Fin (t : List Int) (f : Nat → Option (List Int)) (w : Int) (d : Cf) : Prop := Rn (RU (fs0 0 t) (rs0 f w)) d ∧ (d.2.2.1 = 0 → d.1 = fs0 t.length t ∧ d.2.2.2 = [])
def ocD (d : Cf) : OC := (d.2.1.2.2.1, (d.2.2.1 : Int), d.2.2.2.map (fun x : Nat => (x : Int)), (d.2.1.2.2.2.1 : Int), (d.2.1.2.2.2.2.1 : Int), (d.2.1.2.2.2.2.2.1 : Int), (d.2.1.2.2.2.2.2.2 : Int))
theorem cP_le {f : Fm} {fs : List Fm} : (cP fs).length ≤ (cP (f :: fs)).length := by
  simp only [cP]
  split
  · simp
  · exact Nat.le_refl _
theorem cP_k {f : Fm} {fs : List Fm} (h : f.1 ≠ 0) : cP (f :: fs) = cP fs := by
  simp only [cP]
  rw [if_neg (fun q => h q.1)]
theorem oP_pl {fs : List Fm} {x y : Nat} {q : RS × Nat} (h4 : (cP fs).length ≤ 4) : (oP fs x y q).2.2.2.length ≤ 5 ∧ (cP (oP fs x y q).1).length ≤ 4 := by
  unfold oP
  split
  · exact ⟨Nat.zero_le _, by show (cP (fsN fs y)).length ≤ 4; rw [cP_fsN]; exact h4⟩
  · exact ⟨by show ((cP fs).reverse ++ [x]).length ≤ 5; simp; omega, h4⟩
theorem FL_pl {fs : List Fm} {rs : RS} {r x : Nat} (h4 : (cP fs).length ≤ 4) : (FL fs rs r x).2.2.2.length ≤ 5 ∧ (cP (FL fs rs r x).1).length ≤ 4 := ⟨by show ((cP fs).reverse ++ [x]).length ≤ 5; simp; omega, h4⟩
theorem Sto_pl {c d : Cf} (h : Sto c d) (h4 : (cP c.1).length ≤ 4) : d.2.2.2.length ≤ 5 ∧ (cP d.1).length ≤ 4 := by
  have ru : ∀ {fs : List Fm} {rs : RS}, (cP fs).length ≤ 4 → (RU fs rs).2.2.2.length ≤ 5 ∧ (cP (RU fs rs).1).length ≤ 4 := fun h => ⟨Nat.zero_le _, h⟩
  rcases h with ⟨fs, rs, k, cd, nm, rfl, hne, hsh, h⟩ | ⟨f, g, gs, rs, rfl, h⟩
  · have h4 : (cP fs).length ≤ 4 := h4
    rcases h with ⟨-, rfl⟩ | ⟨-, -, h⟩ | ⟨-, -, h⟩
    · exact FL_pl h4
    · rcases h with ⟨-, rfl⟩ | ⟨-, -, rfl⟩ | ⟨-, v, -, rfl⟩ | ⟨-, -, rfl⟩ | ⟨-, v, -, -, rfl⟩ | ⟨-, v, -, h5, -, -, rfl⟩ | ⟨-, v, -, h5, -, -, -, -, rfl⟩
      · exact oP_pl h4
      · exact FL_pl h4
      · exact oP_pl h4
      · exact FL_pl h4
      · exact FL_pl h4
      · exact ⟨by show ((cP fs).reverse ++ [_, _]).length ≤ 5; simp; omega, h4⟩
      · refine ru ?_
        simp only [cP]
        split
        · rw [cP_fsN]; simp only [List.length_cons]; omega
        · rw [cP_fsN]; exact h4
    · rcases h with ⟨-, -, rfl⟩ | ⟨-, n, ps, p, q, e, -, -, rfl⟩ | ⟨-, -, -, c, v, -, -, rfl⟩ | ⟨-, -, -, rfl⟩ | ⟨-, -, -, rfl⟩
      · exact FL_pl h4
      · exact ru (by rw [cP_fsN]; exact h4)
      · exact ru (by rw [cP_k (by simp), cP_fsN]; exact h4)
      · exact ru (by rw [cP_k (by simp), cP_fsN]; exact h4)
      · exact ru (by rw [cP_k (by simp), cP_fsN]; exact h4)
  · have h4 : (cP (g :: gs)).length ≤ 4 := Nat.le_trans cP_le h4
    rcases h with ⟨-, -, f0, sc, -, rfl⟩ | ⟨-, -, f0, sc, -, ⟨c2, -, rfl⟩ | ⟨-, rfl⟩⟩ | ⟨-, -, rfl⟩ | ⟨-, -, -, f0, sc, s0, sg, -, -, rfl⟩
    · exact ru h4
    · exact ru (by rw [cP_k (by simp)]; exact h4)
    · exact ru (by rw [cP_fsN]; exact h4)
    · exact ru (by rw [cP_fsN]; exact h4)
    · exact ru (by rw [cP_fsN]; exact h4)
theorem Run_pl : ∀ {n : Nat} {c d : Cf}, Run n c d → c.2.2.2.length ≤ 5 → (cP c.1).length ≤ 4 → d.2.2.2.length ≤ 5 := by
  intro n
  induction n with
  | zero => intro c d h h5 _; cases h; exact h5
  | succ n ih =>
    intro c d ⟨e, h1, h2⟩ _ h4
    obtain ⟨k1, k2⟩ := Sto_pl h1 h4
    exact ih h2 k1 k2
theorem hRN_oc {zs : List xV} {ph : xH} {rs : RS} {r : Nat} {pls : List Nat} (h : hRN zs ph rs) (h2 : hRd ph 44 2 = (pls.length : Int)) (h3 : hRd ph 44 3 = (r : Int)) (hpl : hPl ph pls) (h5 : pls.length ≤ 5) : hOc ph 44 (rs.2.2.1, (r : Int), pls.map (fun x : Nat => (x : Int)), (rs.2.2.2.1 : Int), (rs.2.2.2.2.1 : Int), (rs.2.2.2.2.2.1 : Int), (rs.2.2.2.2.2.2 : Int)) := by
  obtain ⟨a1, a2, a3, a4, a5, a6, a7, a8, a9, a10, a11, a12, a13⟩ := h
  refine ⟨a3, a7, by rw [h2]; simp, by simp; exact h5, fun k x hx => ?_, h3, a8, a10, a11, a12⟩
  simp only [List.getElem?_map, Option.map_eq_some_iff] at hx
  obtain ⟨y, hy, rfl⟩ := hx
  exact hpl k y hy
section RBP
variable {d : Nat} {ph : xH} {zs : List xV} {g : Nat} {Q : xR → Prop}
theorem s115 {w : Int} {t : List Int} {f : Nat → Option (List Int)} (hs : hSh zs ph) (hw50 : hTW ph 50) (hw53 : hTW ph 53) (hw45 : hTW ph 45) (hw74 : hTW ph 74) (hf : ∀ n, n < 8 → hTo ph 74 n = f n) (hr : hRes zs ph 36 t) (hwh : pWh t = true) (hl : t.length ≤ 60) (hcc : ∀ c ∈ t, 0 ≤ c ∧ c ≤ 65535) (hQ : ∀ ph2 D, Fin t f w D → hSh zs ph2 → hTW ph2 50 → hTW ph2 53 → hOc ph2 44 (ocD D) → hFd (bP 0) ph ph2 → Q (.inl none, ph2, g)) : xTC (d + 1219) 115 [.inr (.inl (some 1)), .inl w] ph g Q := by
  refine tEn (ls := [some (.inr (.inl (some 1))), some (.inl w)]) (fun k => by match k with | 0 => rfl | 1 => rfl | k + 2 => rfl) ?_
  refine tK (l := xk_115) rfl rfl (fun _ _ _ _ _ => rfl) ?_
  refine tK (l := xk_115) rfl rfl (hGetR (o := some 43) hs rfl rfl rfl (by decide) (by decide) rfl) ?_
  refine tK (l := xk_115) rfl rfl (fun _ _ _ _ _ => rfl) ?_
  refine tK (l := xk_115) rfl rfl (hGetR (o := some 73) hs rfl rfl rfl (by decide) (by decide) rfl) ?_
  refine tK (l := xk_115) rfl rfl (hGetR (o := some 74) hs rfl rfl rfl (by decide) (by decide) rfl) ?_
  refine tK (l := xk_115) rfl rfl (fun _ _ _ _ _ => rfl) ?_
  refine tCa (l := xk_115) rfl rfl (hInvV (c := 4) hs rfl rfl rfl rfl rfl (Nat.le_of_ble_eq_true rfl) (Nat.le_of_ble_eq_true rfl)) ?_
  refine s33 hs hw50 hw53 hw45 rfl (by decide) (by decide) hw74 (by decide) (by decide) (fun ph1 r1 e3 e2 f1 => ?_)
  refine tKn ?_
  have ef : sc0 (fun n => hTo ph 74 n) w = sc0 f w := funext (fun n => by unfold sc0; by_cases h9 : n < 8 ∧ (n : Int) ≠ w; rw [if_pos h9, if_pos h9]; exact hf n h9.1; rw [if_neg h9, if_neg h9])
  rw [ef] at r1
  have pp := (hr.fr r1.1.1 f1 (by decide)).pp hwh hl
  have hl6 := pp.2.1
  have epc : hRd ph1 36 8 = (((pPs t).length : Nat) : Int) := pp.1
  have g1 : hFd (bP 0) ph ph1 := f1.fd (by intro x hx; simp only [List.mem_cons, List.not_mem_nil, or_false] at hx; unfold bP; omega)
  have hb : hBR zs ph1 0 (fs0 0 t) (rs0 f w) 0 := ⟨r1, List.cons_ne_nil _ _, rfl, pp, hl, ⟨e3, e2⟩, fun k x hx => absurd hx (by simp [fs0, cP]), Nat.le_refl _, Nat.zero_lt_one, Nat.le_refl _, Nat.le_refl _, Nat.zero_le _, Nat.zero_le _, hcc⟩
  have hsg := Sg_fuel (pWh_sg hwh) 61 (by omega)
  refine tK (l := xk_115) rfl rfl (fun _ _ _ _ _ => rfl) ?_
  refine tK (l := xk_115) rfl rfl (hGetR (o := some 56) r1.1.1 rfl rfl rfl (by decide) (by decide) rfl) ?_
  refine tK (l := xk_115) rfl rfl (fun _ _ _ _ _ => rfl) ?_
  refine tK (l := xk_115) rfl rfl (hGetR (o := some 36) r1.1.1 rfl rfl rfl (by decide) (by decide) rfl) ?_
  refine tK (l := xk_115) rfl rfl (fun _ _ _ _ _ => rfl) ?_
  refine tK (l := xk_115) rfl rfl (fun _ _ _ _ _ => rfl) ?_
  refine tK (l := xk_115) rfl rfl (hGetR (o := some 36) r1.1.1 rfl rfl rfl (by decide) (by decide) rfl) ?_
  refine tCa (l := xk_115) rfl rfl (hInvV (c := 7) r1.1.1 rfl rfl rfl rfl rfl (Nat.le_of_ble_eq_true rfl) (Nat.le_of_ble_eq_true rfl)) ?_
  refine s63 r1.1.1 rfl ?_
  refine tKv ?_
  rw [epc]
  refine tK (l := xk_115) rfl rfl (fun _ _ _ _ _ => rfl) ?_
  refine tCa (l := xk_115) rfl rfl (hInvV (c := 0) r1.1.1 rfl rfl rfl rfl rfl (Nat.le_of_ble_eq_true rfl) (Nat.le_of_ble_eq_true rfl)) ?_
  refine BP_0 d ph1 g _ (fs0 0 t) (rs0 f w) 0 (pPs t).length 0 t.length 0 hb hsg rfl (Nat.le_refl _) (by omega) (fun ph2 rs2 k9 => ?_) (fun ph2 r k9 => ?_)
  · refine tKv ?_
    obtain ⟨k1, k2, k3, k4, k5, k6, k7, k8⟩ := k9
    refine tK (l := xk_115) rfl rfl (fun _ _ _ _ _ => rfl) ?_
    refine tRt (l := xk_115) rfl rfl (fun _ _ _ _ _ => rfl) ?_
    have e9 : ocD (RU (fs0 t.length t) rs2) = (rs2.2.2.1, ((0 : Nat) : Int), ([] : List Nat).map (fun x : Nat => (x : Int)), (rs2.2.2.2.1 : Int), (rs2.2.2.2.2.1 : Int), (rs2.2.2.2.2.2.1 : Int), (rs2.2.2.2.2.2.2 : Int)) := rfl
    refine hQ ph2 (RU (fs0 t.length t) rs2) ⟨k2, fun _ => ⟨rfl, rfl⟩⟩ k1.1.1 k1.1.2.1 k1.2.1 ?_ (g1.trans k3)
    rw [e9]
    exact hRN_oc k1 k4.2 k4.1 (fun k x hx => absurd hx (by simp)) (by simp)
  · refine tKv ?_
    obtain ⟨hr9, rs1, rs2, fs2, pls, a1, a2, a0, a3, a4, a5, a6, a7⟩ := k9
    refine tK (l := xk_115) rfl rfl (fun _ _ _ _ _ => rfl) ?_
    refine tRt (l := xk_115) rfl rfl (fun _ _ _ _ _ => rfl) ?_
    have e9 : ocD (fs2, rs1, r, pls) = (rs2.2.2.1, (r : Int), pls.map (fun x : Nat => (x : Int)), (rs2.2.2.2.1 : Int), (rs2.2.2.2.2.1 : Int), (rs2.2.2.2.2.2.1 : Int), (rs2.2.2.2.2.2.2 : Int)) := by simp only [ocD, a3]
    refine hQ ph2 (fs2, rs1, r, pls) ⟨a1, fun q => absurd q hr9⟩ a2.1.1 a2.1.2.1 a2.2.1 ?_ (g1.trans a7)
    rw [e9]
    obtain ⟨n9, a1⟩ := a1
    exact hRN_oc a2 a5 a4 a6 (Run_pl a1 (Nat.zero_le _) (Nat.zero_le _))
end RBP
