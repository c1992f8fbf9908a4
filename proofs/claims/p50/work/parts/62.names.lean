/-! ===== the names as bits ===== -/
theorem bv_or0 (x y : BitVec 32) (h : x ||| y = 0#32) : x = 0#32 ∧ y = 0#32 := by
  constructor <;> apply BitVec.eq_of_getLsbD_eq <;> intro i hi
  · have h1 := congrArg (fun b : BitVec 32 => b.getLsbD i) h
    simp only [BitVec.getLsbD_or, BitVec.getLsbD_zero, Bool.or_eq_false_iff] at h1 ⊢
    exact h1.1
  · have h1 := congrArg (fun b : BitVec 32 => b.getLsbD i) h
    simp only [BitVec.getLsbD_or, BitVec.getLsbD_zero, Bool.or_eq_false_iff] at h1 ⊢
    exact h1.2
theorem bv_mask (x y m : BitVec 32) (hx : x &&& m = x) (hy : y &&& m = y) : (x ||| y) &&& m = x ||| y := by
  apply BitVec.eq_of_getLsbD_eq
  intro i hi
  have h1 := congrArg (fun b : BitVec 32 => b.getLsbD i) hx
  have h2 := congrArg (fun b : BitVec 32 => b.getLsbD i) hy
  simp only [BitVec.getLsbD_and, BitVec.getLsbD_or] at h1 h2 ⊢
  cases hx9 : x.getLsbD i <;> cases hy9 : y.getLsbD i <;> cases hm9 : m.getLsbD i <;> simp_all
theorem bv_sub1 (x y b : BitVec 32) (h : x &&& (y ^^^ 4294967295#32) = 0#32) : (x ||| b) &&& ((y ||| b) ^^^ 4294967295#32) = 0#32 := by
  apply BitVec.eq_of_getLsbD_eq
  intro i hi
  have h1 := congrArg (fun b : BitVec 32 => b.getLsbD i) h
  simp only [BitVec.getLsbD_and, BitVec.getLsbD_or, BitVec.getLsbD_xor, BitVec.getLsbD_zero] at h1 ⊢
  have h9 : (4294967295#32).getLsbD i = true := by
    rw [show (4294967295#32) = BitVec.allOnes 32 by decide, BitVec.getLsbD_allOnes]
    exact decide_eq_true hi
  rw [h9] at h1 ⊢
  cases hx9 : x.getLsbD i <;> cases hy9 : y.getLsbD i <;> cases hb9 : b.getLsbD i <;> simp_all
theorem bv_sub2 (x y b : BitVec 32) (h : x &&& (y ^^^ 4294967295#32) = 0#32) : x &&& ((y ||| b) ^^^ 4294967295#32) = 0#32 := by
  apply BitVec.eq_of_getLsbD_eq
  intro i hi
  have h1 := congrArg (fun b : BitVec 32 => b.getLsbD i) h
  simp only [BitVec.getLsbD_and, BitVec.getLsbD_or, BitVec.getLsbD_xor, BitVec.getLsbD_zero] at h1 ⊢
  have h9 : (4294967295#32).getLsbD i = true := by
    rw [show (4294967295#32) = BitVec.allOnes 32 by decide, BitVec.getLsbD_allOnes]
    exact decide_eq_true hi
  rw [h9] at h1 ⊢
  cases hx9 : x.getLsbD i <;> cases hy9 : y.getLsbD i <;> cases hb9 : b.getLsbD i <;> simp_all
def bt1 (n : Nat) : Int32 := Int32.ofInt 1 <<< (Int32.ofInt (n : Int) &&& 31)
theorem bt1_ok : ∀ n, n ≤ 9 → (bt1 n).toBitVec ≠ 0#32 ∧ (bt1 n).toBitVec &&& 1023#32 = (bt1 n).toBitVec := by
  intro n hn
  have h : ∀ n, n < 10 → (bt1 n).toBitVec ≠ 0#32 ∧ (bt1 n).toBitVec &&& 1023#32 = (bt1 n).toBitVec := by decide
  exact h n (by omega)
theorem oi_w (x : Int32) (n : Nat) : oi x.toInt (sl (n : Int)) = (x ||| bt1 n).toInt := by
  unfold oi sl
  rw [xi_of, xi_of]
  rfl
def uB : List PP → Int32 → Int32
  | [], m => m
  | p :: ps, m => uB ps (if p.1 = 0 ∨ p.1 = 1 then m else m ||| bt1 p.2.2.2.1)
def gB : List PP → Int32 → Int32
  | [], m => m
  | p :: ps, m => gB ps (if p.1 = 7 then m ||| bt1 p.2.2.2.1 else m)
theorem mkU_w : ∀ (ps : List PP) (m : Int32), mkU ps m.toInt = (uB ps m).toInt := by
  intro ps
  induction ps with
  | nil => intro m; rfl
  | cons p ps ih =>
    intro m
    simp only [mkU, uB]
    by_cases e : p.1 = 0 ∨ p.1 = 1
    · rw [if_pos e, if_pos e]; exact ih m
    · rw [if_neg e, if_neg e, oi_w]; exact ih _
theorem mkG_b : ∀ (ps : List PP) (m : Int32), mkG ps m.toInt = (gB ps m).toInt := by
  intro ps
  induction ps with
  | nil => intro m; rfl
  | cons p ps ih =>
    intro m
    simp only [mkG, gB]
    by_cases e : p.1 = 7
    · rw [if_pos e, if_pos e, oi_w]; exact ih _
    · rw [if_neg e, if_neg e]; exact ih m
theorem uB_0 : ∀ (ps : List PP) (m : Int32), (∀ r ∈ ps, r.1 ≤ 1 ∨ r.2.2.2.1 ≤ 9) → (uB ps m).toBitVec = 0#32 → m.toBitVec = 0#32 ∧ ∀ r ∈ ps, r.1 ≤ 1 := by
  intro ps
  induction ps with
  | nil => intro m _ h; exact ⟨h, fun r hr => by cases hr⟩
  | cons p ps ih =>
    intro m hp h
    have hps : ∀ r ∈ ps, r.1 ≤ 1 ∨ r.2.2.2.1 ≤ 9 := fun r hr => hp r (List.mem_cons_of_mem _ hr)
    simp only [uB] at h
    by_cases e : p.1 = 0 ∨ p.1 = 1
    · rw [if_pos e] at h
      obtain ⟨h1, h2⟩ := ih m hps h
      refine ⟨h1, fun r hr => ?_⟩
      rcases List.mem_cons.mp hr with rfl | hr
      · omega
      · exact h2 r hr
    · rw [if_neg e] at h
      obtain ⟨h1, h2⟩ := ih _ hps h
      have h3 := (bv_or0 _ _ (show m.toBitVec ||| (bt1 p.2.2.2.1).toBitVec = 0#32 from h1)).2
      rcases hp p List.mem_cons_self with q | q
      · omega
      · exact absurd h3 (bt1_ok _ q).1
theorem uB_m : ∀ (ps : List PP) (m : Int32), (∀ r ∈ ps, r.1 ≤ 1 ∨ r.2.2.2.1 ≤ 9) → m.toBitVec &&& 1023#32 = m.toBitVec → (uB ps m).toBitVec &&& 1023#32 = (uB ps m).toBitVec := by
  intro ps
  induction ps with
  | nil => intro m _ h; exact h
  | cons p ps ih =>
    intro m hp h
    have hps : ∀ r ∈ ps, r.1 ≤ 1 ∨ r.2.2.2.1 ≤ 9 := fun r hr => hp r (List.mem_cons_of_mem _ hr)
    simp only [uB]
    by_cases e : p.1 = 0 ∨ p.1 = 1
    · rw [if_pos e]; exact ih m hps h
    · rw [if_neg e]
      refine ih _ hps ?_
      rcases hp p List.mem_cons_self with q | q
      · omega
      · exact bv_mask _ _ _ h (bt1_ok _ q).2
theorem gB_u : ∀ (ps : List PP) (g u : Int32), g.toBitVec &&& (u.toBitVec ^^^ 4294967295#32) = 0#32 → (gB ps g).toBitVec &&& ((uB ps u).toBitVec ^^^ 4294967295#32) = 0#32 := by
  intro ps
  induction ps with
  | nil => intro g u h; exact h
  | cons p ps ih =>
    intro g u h
    simp only [uB, gB]
    by_cases e : p.1 = 0 ∨ p.1 = 1
    · rw [if_pos e, if_neg (by omega)]
      exact ih g u h
    · rw [if_neg e]
      by_cases e7 : p.1 = 7
      · rw [if_pos e7]
        exact ih _ _ (bv_sub1 _ _ _ h)
      · rw [if_neg e7]
        exact ih _ _ (bv_sub2 _ _ _ h)
theorem names_in {ps : List PP} (hp : ∀ r ∈ ps, r.1 ≤ 1 ∨ r.2.2.2.1 ≤ 9) : 0 ≤ mkU ps 0 ∧ mkU ps 0 < 1024 := by
  have h := uB_m ps 0 hp (by decide)
  have e := mkU_w ps 0
  have e0 : (0 : Int32).toInt = 0 := by decide
  rw [e0] at e
  rw [e]
  have h2 : (uB ps 0).toBitVec.toNat ≤ 1023 := by
    rw [← h, BitVec.toNat_and]
    exact Nat.le_trans Nat.and_le_right (by decide)
  have h3 : (uB ps 0).toInt = ((uB ps 0).toBitVec.toNat : Int) := by
    show (uB ps 0).toBitVec.toInt = _
    exact BitVec.toInt_eq_toNat_of_lt (by omega)
  rw [h3]
  omega
theorem names_none {ps : List PP} (hp : ∀ r ∈ ps, r.1 ≤ 1 ∨ r.2.2.2.1 ≤ 9) (h : mkU ps 0 = 0) : ∀ r ∈ ps, r.1 ≤ 1 := by
  have e := mkU_w ps 0
  have e0 : (0 : Int32).toInt = 0 := by decide
  rw [e0, h] at e
  refine (uB_0 ps 0 hp ?_).2
  have h2 : (uB ps 0) = 0 := Int32.toInt_inj.mp (by rw [← e]; exact e0.symm)
  rw [h2]
  rfl
theorem names_set (ps : List PP) : (Int32.ofInt (mkG ps 0) &&& (Int32.ofInt (mkU ps 0) ^^^ Int32.ofInt (-1))) = 0 := by
  have e := mkU_w ps 0
  have f := mkG_b ps 0
  have e0 : (0 : Int32).toInt = 0 := by decide
  rw [e0] at e f
  rw [e, f, xi_of, xi_of]
  apply Int32.toBitVec_inj.mp
  exact gB_u ps 0 0 (by decide)
/-! ===== a template without names ===== -/
theorem plain_run {t : List Int} {ps : List PP} {sc : List xSc} (hk : ∀ r ∈ ps, r.1 ≤ 1) : ∀ (m p x : Nat) (ou : List Int) (st pl es vl n : Nat) (D : Cf), Sg m t ps p ps.length x t.length → ou.length + (ps.length - p) ≤ 200 → st + (ps.length - p) ≤ 200 → Run n (RU (fs0 x t) (sc, [], ou, st, pl, es, vl)) D → (D.2.2.1 = 0 → D.1 = fs0 t.length t ∧ D.2.2.2 = []) → D.2.1.2.2.1.length = ou.length + (ps.length - p) ∧ D.2.2.1 = 0 ∧ D.2.1.2.2.2.1 = st + (ps.length - p) ∧ D.2.1.2.2.2.2.2.2 = vl := by
  intro m
  induction m with
  | zero => intro p x ou st pl es vl n D h; exact absurd h (fun q => q)
  | succ m ih =>
    intro p x ou st pl es vl n D h ho hst hr hf
    rcases h with ⟨e1, e2⟩ | ⟨k, cd, nm, bh, h1, h2, h3, h4⟩
    · rw [e1, Nat.sub_self]
      cases n with
      | zero => cases hr; exact ⟨rfl, rfl, rfl, rfl⟩
      | succ n =>
        exfalso
        obtain ⟨e, h1, -⟩ := hr
        rcases h1 with h1 | ⟨f, g, gs, rs', hc, -⟩
        · obtain ⟨c, hc, -⟩ := StP_ch h1
          have := (List.getElem?_eq_some_iff.mp hc).1
          subst e2
          exact absurd this (Nat.lt_irrefl _)
        · have := (RU_inj hc).1
          simp [fs0] at this
    · have hkk : k ≤ 1 := hk _ (List.mem_of_getElem? h1)
      have hp : p < ps.length := (List.getElem?_eq_some_iff.mp h1).1
      rcases h4 with ⟨w, hs, rfl, h5⟩ | ⟨hb, -⟩
      · have hx : x < t.length := hSim_lt hs
        cases n with
        | zero =>
          exfalso
          cases hr
          have := (hf rfl).1
          simp only [RU, fs0, List.cons.injEq, Prod.mk.injEq, and_true, true_and] at this
          omega
        | succ n =>
          obtain ⟨e, g1, g2⟩ := hr
          rcases g1 with ⟨fs', rs', k2, cd2, nm2, hc, hne, hsh, g⟩ | ⟨f, g, gs, rs', hc, -⟩
          · obtain ⟨rfl, rfl⟩ := RU_inj hc
            have hsh : (∃ w, hSim t x k2 cd2 nm2 w) ∨ hBlk t x k2 nm2 := hsh
            have hk2 : k2 = k ∧ cd2 = cd := by
              rcases hs with ⟨s1, s2, s3, s4, s5, s6⟩ | ⟨s1, s2, s3, s4⟩ | ⟨s1, -⟩ | ⟨s1, -⟩
              · rcases hsh with ⟨w2, q | q | q | q⟩ | q
                · have := q.2.2.1; rw [s3] at this; exact ⟨by omega, (Option.some.inj this).symm⟩
                · have := q.2.2.1; rw [s3] at this; exact absurd (Option.some.inj this) s6
                · have := q.2.2.1; rw [s3] at this; exact absurd (Option.some.inj this) s4
                · have := q.2.2.1; rw [s3] at this; exact absurd (Option.some.inj this) s4
                · have := q.2.1; rw [s3] at this; exact absurd (Option.some.inj this) s4
              · rcases hsh with ⟨w2, q | q | q | q⟩ | q
                · have := q.2.2.1; rw [s3] at this; exact absurd (Option.some.inj this).symm q.2.2.2.2.2
                · have := q.2.2.2; rw [s4] at this; exact ⟨by omega, (Option.some.inj this).symm⟩
                · have := q.2.2.1; rw [s3] at this; exact absurd (Option.some.inj this) (by decide)
                · have := q.2.2.1; rw [s3] at this; exact absurd (Option.some.inj this) (by decide)
                · have := q.2.1; rw [s3] at this; exact absurd (Option.some.inj this) (by decide)
              · omega
              · omega
            obtain ⟨rfl, rfl⟩ := hk2
            have hw : w = 1 + k2 := by
              rcases hs with ⟨s1, s2, -⟩ | ⟨s1, s2, -⟩ | ⟨s1, -⟩ | ⟨s1, -⟩ <;> omega
            have he : ∃ pl2 es2, e = RU (fs0 (x + w) t) (sc, [], ou ++ [cd2], st + 1, pl2, es2, vl) := by
              rcases g with ⟨h9, -⟩ | ⟨-, -, h9⟩ | ⟨-, h9, -⟩
              · simp only at h9; omega
              · rcases h9 with ⟨-, h9⟩ | ⟨q0, -⟩ | ⟨q0, -⟩ | ⟨q0, -⟩ | ⟨q0, -⟩ | ⟨q0, -⟩ | ⟨q0, -⟩
                · have hpr : ∃ pl2 es2, prF cd2 (k2 : Int) (ctS (sc, [], ou, st, pl, es, vl)) = ((sc, [], ou ++ [cd2], st + 1, pl2, es2, vl), 0) := by
                    have h0 : ¬ ou.length = 200 := by omega
                    rcases (by omega : k2 = 0 ∨ k2 = 1) with rfl | rfl
                    · refine ⟨pl + 1, es, ?_⟩
                      show prF cd2 0 (sc, [], ou, st + 1, pl, es, vl) = _
                      simp only [prF]
                      rw [if_neg h0]
                      rfl
                    · refine ⟨pl, es + 1, ?_⟩
                      show prF cd2 1 (sc, [], ou, st + 1, pl, es, vl) = _
                      simp only [prF]
                      rw [if_neg h0, if_neg (by decide)]
                      rfl
                  obtain ⟨pl2, es2, hpr⟩ := hpr
                  refine ⟨pl2, es2, ?_⟩
                  rw [h9, hpr, hw, show x + (1 + k2) = x + 1 + k2 by omega]
                  rfl
                all_goals (exfalso; omega)
              · exact absurd h9.1 (by omega)
            obtain ⟨pl2, es2, he⟩ := he
            rw [he] at g2
            have hol : (ou ++ [cd2]).length = ou.length + 1 := by simp
            obtain ⟨r1, r2, r3, r4⟩ := ih (p + 1) (x + w) (ou ++ [cd2]) (st + 1) pl2 es2 vl n D h5 (by omega) (by omega) g2 hf
            exact ⟨by omega, r2, by omega, r4⟩
          · have := (RU_inj hc).1
            simp [fs0] at this
      · exact absurd hb.1 (by omega)
theorem Fin_plain {t : List Int} {f : Nat → Option (List Int)} {w : Int} {D : Cf} (hw : pWh t = true) (hl : t.length ≤ 60) (hu : mkU (pPs t) 0 = 0) (h : Fin t f w D) : D.2.1.2.2.1.length = (pPs t).length ∧ D.2.2.1 = 0 ∧ D.2.1.2.2.2.1 = (pPs t).length ∧ D.2.1.2.2.2.2.2.2 = 0 := by
  obtain ⟨⟨n, hr⟩, hf⟩ := h
  have hle := (whole_facts hw).2.1
  obtain ⟨r1, r2, r3, r4⟩ := plain_run (names_none (whole_nm hw) hu) _ 0 0 [] 0 0 0 0 n D (pWh_sg hw) (by simp; omega) (by omega) hr hf
  exact ⟨by rw [r1]; simp, r2, by rw [r3]; omega, r4⟩
