/-! ===== a rendering comes to one end alone ===== -/
theorem so {o : Option Int} {x y : Int} (h1 : o = some x) (h2 : o = some y) : x = y := Option.some.inj (h1.symm.trans h2)
theorem sim_sim {t : List Int} {x k1 k2 nm1 nm2 w1 w2 : Nat} {cd1 cd2 : Int} (h1 : hSim t x k1 cd1 nm1 w1) (h2 : hSim t x k2 cd2 nm2 w2) : k1 = k2 ∧ w1 = w2 ∧ (k1 ≤ 1 → cd1 = cd2) ∧ (2 ≤ k1 → nm1 = nm2) := by
  rcases h1 with ⟨a1, a2, a3, a4, a5, a6⟩ | ⟨a1, a2, a3, a4⟩ | ⟨a1, a2, a3, ⟨c, a4, a5, a6⟩, a7⟩ | ⟨a1, a2, a3, ⟨c, a4, a5⟩, ⟨e, a6, a7⟩, a8⟩
  · rcases h2 with ⟨b1, b2, b3, b4, b5, b6⟩ | ⟨b1, b2, b3, b4⟩ | ⟨b1, b2, b3, ⟨c2, b4, b5, b6⟩, b7⟩ | ⟨b1, b2, b3, ⟨c2, b4, b5⟩, ⟨e2, b6, b7⟩, b8⟩
    · exact ⟨by omega, by omega, fun _ => so a3 b3, fun q => by omega⟩
    · exact absurd (so a3 b3) a6
    · exact absurd (so a3 b3) a4
    · exact absurd (so a3 b3) a4
  · rcases h2 with ⟨b1, b2, b3, b4, b5, b6⟩ | ⟨b1, b2, b3, b4⟩ | ⟨b1, b2, b3, ⟨c2, b4, b5, b6⟩, b7⟩ | ⟨b1, b2, b3, ⟨c2, b4, b5⟩, ⟨e2, b6, b7⟩, b8⟩
    · exact absurd (so b3 a3) b6
    · exact ⟨by omega, by omega, fun _ => so a4 b4, fun q => by omega⟩
    · exact absurd (so a3 b3) (by decide)
    · exact absurd (so a3 b3) (by decide)
  · rcases h2 with ⟨b1, b2, b3, b4, b5, b6⟩ | ⟨b1, b2, b3, b4⟩ | ⟨b1, b2, b3, ⟨c2, b4, b5, b6⟩, b7⟩ | ⟨b1, b2, b3, ⟨c2, b4, b5⟩, ⟨e2, b6, b7⟩, b8⟩
    · exact absurd (so b3 a3) b4
    · exact absurd (so a3 b3) (by decide)
    · have e := so a4 b4
      subst e
      exact ⟨by omega, by omega, fun q => by omega, fun _ => by omega⟩
    · have e := so a4 b4
      subst e
      exfalso
      omega
  · rcases h2 with ⟨b1, b2, b3, b4, b5, b6⟩ | ⟨b1, b2, b3, b4⟩ | ⟨b1, b2, b3, ⟨c2, b4, b5, b6⟩, b7⟩ | ⟨b1, b2, b3, ⟨c2, b4, b5⟩, ⟨e2, b6, b7⟩, b8⟩
    · exact absurd (so b3 a3) b4
    · exact absurd (so a3 b3) (by decide)
    · have e := so a4 b4
      subst e
      exfalso
      omega
    · have e9 := so a4 b4
      subst e9
      have e8 := so a6 b6
      subst e8
      exact ⟨by omega, by omega, fun q => by omega, fun _ => by omega⟩
theorem sim_blk {t : List Int} {x k1 k2 nm1 nm2 w1 : Nat} {cd1 : Int} (h1 : hSim t x k1 cd1 nm1 w1) (h2 : hBlk t x k2 nm2) : False := by
  obtain ⟨b1, b2, ⟨c2, b3, b4⟩, -⟩ := h2
  rcases h1 with ⟨a1, a2, a3, a4, a5, a6⟩ | ⟨a1, a2, a3, a4⟩ | ⟨a1, a2, a3, ⟨c, a4, a5, a6⟩, a7⟩ | ⟨a1, a2, a3, ⟨c, a4, a5⟩, ⟨e, a6, a7⟩, a8⟩
  · exact absurd (so a3 b2) a4
  · exact absurd (so a3 b2) (by decide)
  · have e := so a4 b3
    subst e
    omega
  · have e := so a4 b3
    subst e
    omega
theorem blk_blk {t : List Int} {x k1 k2 nm1 nm2 : Nat} (h1 : hBlk t x k1 nm1) (h2 : hBlk t x k2 nm2) : k1 = k2 ∧ nm1 = nm2 := by
  obtain ⟨a1, a2, ⟨c, a3, a4⟩, ⟨e, a5, a6⟩, a7⟩ := h1
  obtain ⟨b1, b2, ⟨c2, b3, b4⟩, ⟨e2, b5, b6⟩, b7⟩ := h2
  have e9 := so a3 b3
  subst e9
  have e8 := so a5 b5
  subst e8
  omega
theorem sim_125 {t : List Int} {x k nm w : Nat} {cd : Int} (h : hSim t x k cd nm w) (h2 : t[x]? = some 125) : False := by
  rcases h with ⟨a1, a2, a3, a4, a5, a6⟩ | ⟨a1, a2, a3, a4⟩ | ⟨a1, a2, a3, -⟩ | ⟨a1, a2, a3, -⟩
  · exact absurd (so a3 h2) a5
  · exact absurd (so a3 h2) (by decide)
  · exact absurd (so a3 h2) (by decide)
  · exact absurd (so a3 h2) (by decide)
theorem blk_125 {t : List Int} {x k nm : Nat} (h : hBlk t x k nm) (h2 : t[x]? = some 125) : False := absurd (so h.2.1 h2) (by decide)
theorem Sg_end : ∀ {n : Nat} {t : List Int} {ps : List PP} {p q x e : Nat}, Sg n t ps p q x e → t[e]? = some 125 → ∀ {n2 : Nat} {ps2 : List PP} {p2 q2 e2 : Nat}, Sg n2 t ps2 p2 q2 x e2 → t[e2]? = some 125 → e = e2 := by
  intro n
  induction n with
  | zero => intro t ps p q x e h; exact absurd h (fun q => q)
  | succ n ih =>
    intro t ps p q x e h he n2 ps2 p2 q2 e2 h2 he2
    cases n2 with
    | zero => exact absurd h2 (fun q => q)
    | succ n2 =>
      rcases h with ⟨-, rfl⟩ | ⟨k, cd, nm, bh, -, -, -, h4⟩
      · rcases h2 with ⟨-, rfl⟩ | ⟨k2, cd2, nm2, bh2, -, -, -, g4⟩
        · rfl
        · rcases g4 with ⟨w, g4, -, -⟩ | ⟨g4, -⟩
          · exact (sim_125 g4 he).elim
          · exact (blk_125 g4 he).elim
      · rcases h2 with ⟨-, rfl⟩ | ⟨k2, cd2, nm2, bh2, -, -, -, g4⟩
        · rcases h4 with ⟨w, h4, -, -⟩ | ⟨h4, -⟩
          · exact (sim_125 h4 he2).elim
          · exact (blk_125 h4 he2).elim
        · rcases h4 with ⟨w, h4, -, h5⟩ | ⟨h4, e3, h5, h6, h7⟩
          · rcases g4 with ⟨w2, g4, -, g5⟩ | ⟨g4, -⟩
            · obtain ⟨-, rfl, -⟩ := sim_sim h4 g4
              exact ih h5 he g5 he2
            · exact (sim_blk h4 g4).elim
          · rcases g4 with ⟨w2, g4, -, g5⟩ | ⟨g4, e4, g5, g6, g7⟩
            · exact (sim_blk g4 h4).elim
            · have e5 := ih h5 h6 g5 g6
              subst e5
              exact ih h7 he g7 he2
theorem PSim_det {fs : List Fm} {x k nm nm2 : Nat} {cd cd2 : Int} {rs : RS} {d1 d2 : Cf} (hc : k ≤ 1 → cd = cd2) (hn : 2 ≤ k → nm = nm2) (h1 : PSim fs x k cd nm rs d1) (h2 : PSim fs x k cd2 nm2 rs d2) : d1 = d2 := by
  by_cases hk : k ≤ 1
  · have e := hc hk
    subst e
    rcases h1 with ⟨-, rfl⟩ | ⟨q, -⟩ | ⟨q, -⟩ | ⟨q, -⟩ | ⟨q, -⟩ | ⟨q, -⟩ | ⟨q, -⟩
    · rcases h2 with ⟨-, rfl⟩ | ⟨q, -⟩ | ⟨q, -⟩ | ⟨q, -⟩ | ⟨q, -⟩ | ⟨q, -⟩ | ⟨q, -⟩
      · rfl
      all_goals (exfalso; omega)
    all_goals (exfalso; omega)
  · have e := hn (by omega)
    subst e
    rcases h1 with ⟨q, -⟩ | ⟨q, a1, rfl⟩ | ⟨q, v, a1, rfl⟩ | ⟨q, a1, rfl⟩ | ⟨q, v, a1, a2, rfl⟩ | ⟨q, v, a1, a2, a3, a4, rfl⟩ | ⟨q, v, a1, a2, a3, a4, a5, a6, rfl⟩ <;> rcases h2 with ⟨q2, -⟩ | ⟨q2, b1, rfl⟩ | ⟨q2, v2, b1, rfl⟩ | ⟨q2, b1, rfl⟩ | ⟨q2, v2, b1, b2, rfl⟩ | ⟨q2, v2, b1, b2, b3, b4, rfl⟩ | ⟨q2, v2, b1, b2, b3, b4, b5, b6, rfl⟩ <;> first
      | rfl
      | (exfalso; omega)
      | (rw [a1] at b1; cases b1; done)
      | (rw [a1] at b1; cases b1; rfl)
      | (rw [a1] at b1; cases b1; exfalso; omega)
      | (rw [a1] at b1; cases b1; rw [a3] at b3; cases b3; done)
theorem PBlk_det {fs : List Fm} {x k nm : Nat} {rs : RS} {d1 d2 : Cf} (h1 : PBlk fs x k nm rs d1) (h2 : PBlk fs x k nm rs d2) : d1 = d2 := by
  rcases h1 with ⟨q, a1, rfl⟩ | ⟨q, n, ps, p, r, e, a1, a2, rfl⟩ | ⟨q, a1, a2, c, v, a3, a4, rfl⟩ | ⟨q, a1, ⟨c, v, a3⟩, rfl⟩ | ⟨q, a1, a2, rfl⟩ <;> rcases h2 with ⟨q2, b1, rfl⟩ | ⟨q2, n2, ps2, p2, r2, e2, b1, b2, rfl⟩ | ⟨q2, b1, b2, c2, v2, b3, b4, rfl⟩ | ⟨q2, b1, ⟨c2, v2, b3⟩, rfl⟩ | ⟨q2, b1, b2, rfl⟩ <;> first
    | rfl
    | (exfalso; omega)
    | (rw [Sg_end a1 a2 b1 b2])
    | (rw [a3] at b3; cases b3; rfl)
    | (exfalso; rcases q2 with ⟨z1, z2⟩ | ⟨z1, z2⟩ <;> first | omega | (rw [a1] at z2; cases z2; done))
    | (exfalso; rcases q with ⟨z1, z2⟩ | ⟨z1, z2⟩ <;> first | omega | (rw [b1] at z2; cases z2; done))
    | (rw [a1] at b3; cases b3; done)
    | (rw [b1] at a3; cases a3; done)
    | (exfalso; rcases q with ⟨z1, z2⟩ | ⟨z1, z2 | z2⟩ <;> first | omega | (rw [b3] at z2; cases z2; done))
    | (exfalso; rcases q2 with ⟨z1, z2⟩ | ⟨z1, z2 | z2⟩ <;> first | omega | (rw [a3] at z2; cases z2; done))
theorem StP_det {c d1 d2 : Cf} (h1 : StP c d1) (h2 : StP c d2) : d1 = d2 := by
  obtain ⟨fs, rs, k, cd, nm, rfl, hne, hsh, h1⟩ := h1
  obtain ⟨fs2, rs2, k2, cd2, nm2, hc, hne2, hsh2, h2⟩ := h2
  obtain ⟨rfl, rfl⟩ := RU_inj hc
  rcases h1 with ⟨a1, rfl⟩ | ⟨a1, ⟨w, a2⟩, a3⟩ | ⟨a1, a2, a3⟩
  · rcases h2 with ⟨b1, rfl⟩ | ⟨b1, -, -⟩ | ⟨b1, -, -⟩
    · rfl
    · omega
    · omega
  · rcases h2 with ⟨b1, rfl⟩ | ⟨b1, ⟨w2, b2⟩, b3⟩ | ⟨b1, b2, b3⟩
    · omega
    · obtain ⟨rfl, -, e3, e4⟩ := sim_sim a2 b2
      exact PSim_det e3 e4 a3 b3
    · exact (sim_blk a2 b2).elim
  · rcases h2 with ⟨b1, rfl⟩ | ⟨b1, ⟨w2, b2⟩, b3⟩ | ⟨b1, b2, b3⟩
    · omega
    · exact (sim_blk b2 a2).elim
    · obtain ⟨rfl, rfl⟩ := blk_blk a2 b2
      exact PBlk_det a3 b3
theorem StE_det {c d1 d2 : Cf} (h1 : StE c d1) (h2 : StE c d2) : d1 = d2 := by
  obtain ⟨f, g, gs, rs, rfl, h1⟩ := h1
  obtain ⟨f2, g2, gs2, rs2, hc, h2⟩ := h2
  obtain ⟨e, rfl⟩ := RU_inj hc
  cases e
  rcases h1 with ⟨a1, a2, f0, sc, a3, rfl⟩ | ⟨a1, a2, f0, sc, a3, ⟨c2, a4, rfl⟩ | ⟨a4, rfl⟩⟩ | ⟨a1, a2, rfl⟩ | ⟨a1, a2, a5, f0, sc, s0, sg, a3, a4, rfl⟩ <;> rcases h2 with ⟨b1, b2, g0, sd, b3, rfl⟩ | ⟨b1, b2, g0, sd, b3, ⟨c3, b4, rfl⟩ | ⟨b4, rfl⟩⟩ | ⟨b1, b2, rfl⟩ | ⟨b1, b2, b5, g0, sd, s1, sh, b3, b4, rfl⟩ <;> first
    | rfl
    | (exfalso; omega)
    | (rw [a3] at b3; cases b3; rfl)
    | (rw [a3] at b3; cases b3; rw [a4] at b4; cases b4; rfl)
    | (exfalso; have := (List.getElem?_eq_some_iff.mp a4).1; omega)
    | (exfalso; have := (List.getElem?_eq_some_iff.mp b4).1; omega)
theorem StP_StE {c d1 d2 : Cf} (h1 : StP c d1) (h2 : StE c d2) : False := by
  obtain ⟨fs, rs, k, cd, nm, rfl, hne, hsh, -⟩ := h1
  obtain ⟨f, g, gs, rs2, hc, h2⟩ := h2
  obtain ⟨rfl, rfl⟩ := RU_inj hc
  have hx : cX (f :: g :: gs) = f.2.1 := rfl
  rw [hx] at hsh
  have hlt : f.2.1 < (cT (f :: g :: gs)).length := by
    rcases hsh with ⟨w, hw⟩ | hw
    · exact hSim_lt hw
    · exact hBlk_lt hw
  have hno : f.1 ≠ 0 → (cT (g :: gs))[f.2.1]? = some 125 → False := by
    intro h0 h125
    have eT : cT (f :: g :: gs) = cT (g :: gs) := by
      show (if f.1 = 0 then f.2.2.2.2.2 else cT (g :: gs)) = _
      rw [if_neg h0]
    rw [eT] at hsh
    rcases hsh with ⟨w, hw⟩ | hw
    · exact sim_125 hw h125
    · exact blk_125 hw h125
  rcases h2 with ⟨a1, a2, -⟩ | ⟨a1, a2, -⟩ | ⟨a1, a2, -⟩ | ⟨a1, a2, -⟩
  · have eT : cT (f :: g :: gs) = f.2.2.2.2.2 := by
      show (if f.1 = 0 then f.2.2.2.2.2 else cT (g :: gs)) = _
      rw [if_pos a1]
    rw [eT] at hlt
    omega
  · exact hno (by omega) a2
  · exact hno (by omega) a2
  · exact hno (by omega) a2
theorem Sto_det {c d1 d2 : Cf} (h1 : Sto c d1) (h2 : Sto c d2) : d1 = d2 := by
  rcases h1 with h1 | h1
  · rcases h2 with h2 | h2
    · exact StP_det h1 h2
    · exact (StP_StE h1 h2).elim
  · rcases h2 with h2 | h2
    · exact (StP_StE h2 h1).elim
    · exact StE_det h1 h2
theorem Run_det {t : List Int} : ∀ {n m : Nat} {c d1 d2 : Cf}, Run n c d1 → Run m c d2 → (d1.2.2.1 = 0 → d1.1 = fs0 t.length t ∧ d1.2.2.2 = []) → (d2.2.2.1 = 0 → d2.1 = fs0 t.length t ∧ d2.2.2.2 = []) → d1 = d2 := by
  have stop : ∀ {d e : Cf}, (d.2.2.1 = 0 → d.1 = fs0 t.length t ∧ d.2.2.2 = []) → Sto d e → False := by
    intro d e hd hs
    rcases hs with h1 | ⟨f, g, gs, rs, hc, -⟩
    · have h0 : d.2.2.1 = 0 := by
        obtain ⟨fs, rs, -, -, -, rfl, -⟩ := h1
        rfl
      have hf := (hd h0).1
      obtain ⟨fs, rs, k, cd, nm, rfl, hne, hsh, -⟩ := h1
      have hf : fs = fs0 t.length t := hf
      subst hf
      have hsh : (∃ w, hSim t t.length k cd nm w) ∨ hBlk t t.length k nm := hsh
      rcases hsh with ⟨w, hw⟩ | hw
      · exact absurd (hSim_lt hw) (Nat.lt_irrefl _)
      · exact absurd (hBlk_lt hw) (Nat.lt_irrefl _)
    · subst hc
      have hf := (hd rfl).1
      have hf : f :: g :: gs = fs0 t.length t := hf
      simp [fs0] at hf
  intro n
  induction n with
  | zero =>
    intro m c d1 d2 h1 h2 hd1 hd2
    cases h1
    cases m with
    | zero => cases h2; rfl
    | succ m =>
      obtain ⟨e, h3, -⟩ := h2
      exact (stop hd1 h3).elim
  | succ n ih =>
    intro m c d1 d2 h1 h2 hd1 hd2
    obtain ⟨e, h3, h4⟩ := h1
    cases m with
    | zero =>
      cases h2
      exact (stop hd2 h3).elim
    | succ m =>
      obtain ⟨e2, h5, h6⟩ := h2
      have e3 := Sto_det h3 h5
      subst e3
      exact ih h4 h6 hd1 hd2
theorem Fin_det {t : List Int} {f : Nat → Option (List Int)} {w : Int} {D1 D2 : Cf} (h1 : Fin t f w D1) (h2 : Fin t f w D2) : D1 = D2 := by
  obtain ⟨⟨n, r1⟩, f1⟩ := h1
  obtain ⟨⟨m, r2⟩, f2⟩ := h2
  exact Run_det r1 r2 f1 f2
