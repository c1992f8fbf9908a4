/-! ===== the class's calls that change; escaped values ===== -/
def rnd (st : SS) (oc : OC) : SS := (st.1, oc, st.2.2.1 + 1, if oc.2.1 = 0 then st.2.2.2.1 else st.2.2.2.1 + 1, st.2.2.2.2 + (oc.1.length : Int))
theorem spc_no {c : Int} (h : spc c = false) : c ≠ 123 ∧ c ≠ 125 ∧ c ≠ 126 := by
  unfold spc at h
  simp at h
  exact ⟨h.1.1, h.1.2, h.2⟩
theorem esc_whole : ∀ (v : List Int) (i : Nat) (ps : List PP) (mo : Nat), ∃ j ps2 mo2, pAll i (esc v) (0, ps, [], mo) = (j, some (0, ps2, [], mo2)) := by
  intro v
  induction v with
  | nil => intro i ps mo; exact ⟨_, _, _, rfl⟩
  | cons c cs ih =>
    intro i ps mo
    simp only [esc]
    cases hs : spc c with
    | false =>
      rw [if_neg (by decide)]
      obtain ⟨h1, h2, h3⟩ := spc_no hs
      have e : pRd i c (0, ps, [], mo) = some (0, ps ++ [(0, i, c, 0, ps.length + 1)], [], if mo < ([] : List Nat).length then ([] : List Nat).length else mo) := by
        simp only [pRd]
        rw [if_neg h2, if_neg h3, if_neg h1]
      simp only [pAll, e]
      exact ih _ _ _
    | true =>
      rw [if_pos rfl]
      have e : pRd i 126 (0, ps, [], mo) = some (1, ps ++ [(1, i, 126, 0, ps.length + 1)], [], if mo < ([] : List Nat).length then ([] : List Nat).length else mo) := by
        simp only [pRd]
        rw [if_neg (by decide)]
        rfl
      have e2 : ∀ s : List PP × List Nat × Nat, pRd (i + 1) c (1, s) = some (0, pSet s.1 (s.1.length - 1) (fun p => (p.1, p.2.1, c, p.2.2.2)), s.2.1, s.2.2) := fun s => rfl
      simp only [pAll, e, e2]
      exact ih _ _ _
theorem esc_pWh (v : List Int) : pWh (esc v) = true := by
  obtain ⟨j, ps, mo, h⟩ := esc_whole v 0 [] 0
  exact pWh_iff.mpr ⟨ps, mo, by show (pAll 0 (esc v) (0, [], [], 0)).2 = _; rw [h]⟩
theorem esc_run : ∀ (v : List Int) (n : Nat) (a t : List Int) (sc : List xSc) (ou : List Int) (st pl es vl : Nat) (D : Cf), t = a ++ esc v → ou.length + v.length ≤ 200 → st + v.length ≤ 200 → Run n (RU (fs0 a.length t) (sc, [], ou, st, pl, es, vl)) D → (D.2.2.1 = 0 → D.1 = fs0 t.length t ∧ D.2.2.2 = []) → D.2.1.2.2.1 = ou ++ v ∧ D.2.2.1 = 0 := by
  intro v
  induction v with
  | nil =>
    intro n a t sc ou st pl es vl D ht ho hst hr hf
    simp only [esc, List.append_nil] at ht
    subst ht
    cases n with
    | zero => cases hr; exact ⟨(List.append_nil _).symm, rfl⟩
    | succ n =>
      obtain ⟨e, h1, -⟩ := hr
      rcases h1 with h1 | ⟨f, g, gs, rs', hc, -⟩
      · obtain ⟨c, hc, -⟩ := StP_ch h1
        have := (List.getElem?_eq_some_iff.mp hc).1
        exact absurd this (Nat.lt_irrefl _)
      · have := (RU_inj hc).1
        simp [fs0] at this
  | cons c cs ih =>
    intro n a t sc ou st pl es vl D ht ho hst hr hf
    simp only [List.length_cons] at ho hst
    have hxl : a.length < t.length := by
      rw [ht, List.length_append]
      have := (esc_len (c :: cs)).2
      simp only [List.length_cons] at this
      omega
    cases n with
    | zero =>
      cases hr
      have := (hf rfl).1
      simp only [RU, fs0, List.cons.injEq, Prod.mk.injEq, and_true, true_and] at this
      omega
    | succ n =>
      obtain ⟨e, h1, h2⟩ := hr
      rcases h1 with ⟨fs', rs', k, cd, nm, hc, hne, hsh, h⟩ | ⟨f, g, gs, rs', hc, -⟩
      · obtain ⟨rfl, rfl⟩ := RU_inj hc
        have hsh : (∃ w, hSim t a.length k cd nm w) ∨ hBlk t a.length k nm := hsh
        cases hs : spc c with
        | false =>
          obtain ⟨w1, w2, w3⟩ := spc_no hs
          have et : t = a ++ c :: esc cs := by rw [ht]; simp only [esc]; rw [if_neg (by rw [hs]; decide)]
          have hget : t[a.length]? = some c := by rw [et]; simp
          have hk : k = 0 ∧ cd = c := by
            rcases hsh with ⟨w, q | q | q | q⟩ | q
            · have := q.2.2.1; rw [hget] at this; exact ⟨q.1, (Option.some.inj this).symm⟩
            · have := q.2.2.1; rw [hget] at this; exact absurd (Option.some.inj this) w3
            · have := q.2.2.1; rw [hget] at this; exact absurd (Option.some.inj this) w1
            · have := q.2.2.1; rw [hget] at this; exact absurd (Option.some.inj this) w1
            · have := q.2.1; rw [hget] at this; exact absurd (Option.some.inj this) w1
          obtain ⟨rfl, rfl⟩ := hk
          have he : e = RU (fs0 (a ++ [cd]).length t) (sc, [], ou ++ [cd], st + 1, pl + 1, es, vl) := by
            rcases h with ⟨h9, -⟩ | ⟨-, -, h9⟩ | ⟨-, h9, -⟩
            · simp only at h9; omega
            · rcases h9 with ⟨-, h9⟩ | ⟨q0, -⟩ | ⟨q0, -⟩ | ⟨q0, -⟩ | ⟨q0, -⟩ | ⟨q0, -⟩ | ⟨q0, -⟩
              · have hp : prF cd ((0 : Nat) : Int) (ctS (sc, [], ou, st, pl, es, vl)) = ((sc, [], ou ++ [cd], st + 1, pl + 1, es, vl), 0) := by
                  show prF cd 0 (sc, [], ou, st + 1, pl, es, vl) = _
                  simp only [prF]
                  rw [if_neg (by omega)]
                  rfl
                rw [h9, hp, List.length_append]
                rfl
              all_goals exact absurd q0 (by decide)
            · exact absurd h9.1 (by decide)
          rw [he] at h2
          have := ih n (a ++ [cd]) t sc (ou ++ [cd]) (st + 1) (pl + 1) es vl D (by rw [et]; simp) (by simp; omega) (by omega) h2 hf
          rw [List.append_assoc] at this
          exact this
        | true =>
          have et : t = a ++ 126 :: c :: esc cs := by rw [ht]; simp only [esc]; rw [if_pos hs]
          have hget : t[a.length]? = some 126 := by rw [et]; simp
          have hget2 : t[a.length + 1]? = some c := by rw [et]; simp
          have hk : k = 1 ∧ cd = c := by
            rcases hsh with ⟨w, q | q | q | q⟩ | q
            · have := q.2.2.1; rw [hget] at this; exact absurd (Option.some.inj this).symm q.2.2.2.2.2
            · have := q.2.2.2; rw [hget2] at this; exact ⟨q.1, (Option.some.inj this).symm⟩
            · have := q.2.2.1; rw [hget] at this; exact absurd (Option.some.inj this) (by decide)
            · have := q.2.2.1; rw [hget] at this; exact absurd (Option.some.inj this) (by decide)
            · have := q.2.1; rw [hget] at this; exact absurd (Option.some.inj this) (by decide)
          obtain ⟨rfl, rfl⟩ := hk
          have he : e = RU (fs0 (a ++ [126, cd]).length t) (sc, [], ou ++ [cd], st + 1, pl, es + 1, vl) := by
            rcases h with ⟨h9, -⟩ | ⟨-, -, h9⟩ | ⟨-, h9, -⟩
            · simp only at h9; omega
            · rcases h9 with ⟨-, h9⟩ | ⟨q0, -⟩ | ⟨q0, -⟩ | ⟨q0, -⟩ | ⟨q0, -⟩ | ⟨q0, -⟩ | ⟨q0, -⟩
              · have hp : prF cd ((1 : Nat) : Int) (ctS (sc, [], ou, st, pl, es, vl)) = ((sc, [], ou ++ [cd], st + 1, pl, es + 1, vl), 0) := by
                  show prF cd 1 (sc, [], ou, st + 1, pl, es, vl) = _
                  simp only [prF]
                  rw [if_neg (by omega), if_neg (by decide)]
                  rfl
                rw [h9, hp, List.length_append]
                rfl
              all_goals exact absurd q0 (by decide)
            · exact absurd h9.1 (by decide)
          rw [he] at h2
          have := ih n (a ++ [126, cd]) t sc (ou ++ [cd]) (st + 1) pl (es + 1) vl D (by rw [et]; simp) (by simp; omega) (by omega) h2 hf
          rw [List.append_assoc] at this
          exact this
      · have := (RU_inj hc).1
        simp [fs0] at this
theorem esc_fin {v : List Int} {f : Nat → Option (List Int)} {w : Int} {D : Cf} (hl : v.length ≤ 24) (h : Fin (esc v) f w D) : (ocD D).1 = v := by
  obtain ⟨⟨n, h1⟩, h2⟩ := h
  exact (esc_run v n [] (esc v) _ [] 0 0 0 0 D rfl (by simp; omega) (by omega) h1 h2).1
section CL2
variable {d : Nat} {ph : xH} {zs : List xV} {g : Nat} {Q : xR → Prop} {c : KS}
theorem hKl.rn {ph2 : xH} (h : hKl zs ph c) (hs : hSh zs ph2) (w50 : hTW ph2 50) (w53 : hTW ph2 53) (w45 : hTW ph2 45) (hf : hFd (bP 0) ph ph2) : hKl zs ph2 c := by
  have f2 : hFd scP ph ph2 := hf.mono (fun a ha => by unfold bP at ha; unfold scP; omega)
  exact h.sc hs f2 ⟨hf.tw (by unfold bP; omega) h.2.2.1.1, w45, w50, w53, hf.tw (by unfold bP; omega) h.2.2.1.2.2.2.2⟩
theorem bP_cl {pha phb : xH} (hf : hFd (bP 0) pha phb) : hFd clP pha phb := hf.mono (fun a ha => by unfold bP at ha; unfold clP; omega)
theorem s115k {w : Int} {t : List Int} (h : hKl zs ph c) (hr : hRes zs ph 36 t) (hwh : pWh t = true) (hl : t.length ≤ 60) (hcc : oks t) (hQ : ∀ ph2 D, Fin t c.2.1.1 w D → hKl zs ph2 c → hOc ph2 44 (ocD D) → hFd (bP 0) ph ph2 → Q (.inl none, ph2, g)) : xTC (d + 1219) 115 [.inr (.inl (some 1)), .inl w] ph g Q :=
  s115 h.1 h.2.2.1.2.2.1 h.2.2.1.2.2.2.1 h.2.2.1.2.1 h.2.2.2.1.1 (fun n hn => h.2.2.2.1.2.1 n hn) hr hwh hl hcc (fun ph2 D hD hs w50 w53 ho hf => hQ ph2 D hD (h.rn hs w50 w53 ho.1 hf) ho hf)
theorem Fin_ex {w : Int} {t : List Int} (h : hKl zs ph c) (hr : hRes zs ph 36 t) (hwh : pWh t = true) (hl : t.length ≤ 60) (hcc : oks t) : ∃ D, Fin t c.2.1.1 w D := by
  have h9 : xTC (0 + 1219) 115 [.inr (.inl (some 1)), .inl w] ph 0 (fun _ => ∃ D, Fin t c.2.1.1 w D) := s115k h hr hwh hl hcc (fun ph2 D hD _ _ _ => ⟨D, hD⟩)
  obtain ⟨n, r, -, hq⟩ := h9
  exact hq
theorem c82 (h : hKl zs ph c) (hQ : ∀ ph2, hKl zs ph2 ([], c.2) → hFd clP ph ph2 → Q (.inl (some (.inl (c.1.length : Int))), ph2, g)) : xTC (d + 1) 82 [.inr (.inl (some 1))] ph g Q := by
  have hs := h.1
  refine tEn (ls := [some (.inr (.inl (some 1))), none]) (fun k => by match k with | 0 => rfl | 1 => rfl | k + 2 => rfl) ?_
  refine tK (l := xk_82) rfl rfl (fun _ _ _ _ _ => rfl) ?_
  refine tK (l := xk_82) rfl rfl (hGetR (o := some 2) hs rfl rfl rfl (by decide) (by decide) rfl) ?_
  refine tK (l := xk_82) rfl rfl (fun _ _ _ _ _ => rfl) ?_
  refine tCa (l := xk_82) rfl rfl (hInvV (c := 8) hs rfl rfl rfl rfl rfl (Nat.le_of_ble_eq_true rfl) (Nat.le_of_ble_eq_true rfl)) ?_
  refine a75 (r := 0) hs rfl h.2.1.1 (by decide) h.2.1.2 ?_
  refine tKv ?_
  simp only [hLo]
  refine tSt (l := xk_82) rfl rfl (fun _ _ _ _ _ => rfl) (Nat.le_of_ble_eq_true rfl) ?_
  refine tK (l := xk_82) rfl rfl (fun _ _ _ _ _ => rfl) ?_
  refine tK (l := xk_82) rfl rfl (hGetR (o := some 2) hs rfl rfl rfl (by decide) (by decide) rfl) ?_
  refine tK (l := xk_82) rfl rfl (fun _ _ _ _ _ => rfl) ?_
  refine tCa (l := xk_82) rfl rfl (hInvV (c := 8) hs rfl rfl rfl rfl rfl (Nat.le_of_ble_eq_true rfl) (Nat.le_of_ble_eq_true rfl)) ?_
  refine a74 (r := 0) hs rfl h.2.1.1 (by decide) (fun ph2 t2 => ?_)
  refine tKn ?_
  refine tK (l := xk_82) rfl rfl (fun _ _ _ _ _ => rfl) ?_
  refine tRt (l := xk_82) rfl rfl (fun _ _ _ _ _ => rfl) ?_
  obtain ⟨k1, k2⟩ := h.buf t2
  exact hQ ph2 k1 k2
theorem c126x (h : hKl zs ph c) {x : Int} (hx : ¬ (33 ≤ x ∧ x ≤ 126)) (hQ : Q (.inr 0, ph, g + 1)) : xTC (d + 1) 126 [.inr (.inl (some 1)), .inl x] ph g Q := by
  have hs := h.1
  refine tEn (ls := [some (.inr (.inl (some 1))), some (.inl x)]) (fun k => by match k with | 0 => rfl | 1 => rfl | k + 2 => rfl) ?_
  refine tK (l := xk_126) rfl rfl (fun _ _ _ _ _ => rfl) ?_
  refine tCa (l := xk_126) rfl rfl (hInvS rfl rfl rfl rfl (Nat.le_of_ble_eq_true rfl) (Nat.le_of_ble_eq_true rfl)) ?_
  refine s127x hx ?_
  refine tKx rfl ?_
  exact hQ
theorem c126n (h : hKl zs ph c) {x : Int} (hx : 33 ≤ x ∧ x ≤ 126) (hf : c.1.length = 60) (hQ : Q (.inr 1, ph, g + 1)) : xTC (d + 1) 126 [.inr (.inl (some 1)), .inl x] ph g Q := by
  have hs := h.1
  refine tEn (ls := [some (.inr (.inl (some 1))), some (.inl x)]) (fun k => by match k with | 0 => rfl | 1 => rfl | k + 2 => rfl) ?_
  refine tK (l := xk_126) rfl rfl (fun _ _ _ _ _ => rfl) ?_
  refine tCa (l := xk_126) rfl rfl (hInvS rfl rfl rfl rfl (Nat.le_of_ble_eq_true rfl) (Nat.le_of_ble_eq_true rfl)) ?_
  refine s127 hx ?_
  refine tKn ?_
  refine tK (l := xk_126) rfl rfl (fun _ _ _ _ _ => rfl) ?_
  refine tK (l := xk_126) rfl rfl (hGetR (o := some 2) hs rfl rfl rfl (by decide) (by decide) rfl) ?_
  refine tK (l := xk_126) rfl rfl (fun _ _ _ _ _ => rfl) ?_
  refine tK (l := xk_126) rfl rfl (fun _ _ _ _ _ => rfl) ?_
  refine tCa (l := xk_126) rfl rfl (hInvV (c := 8) hs rfl rfl rfl rfl rfl (Nat.le_of_ble_eq_true rfl) (Nat.le_of_ble_eq_true rfl)) ?_
  refine a79f (r := 0) hs rfl h.2.1.1 (by decide) h.2.1.2 (by have := hRw74; omega) ?_
  refine tKv ?_
  refine tIf_ne (l := xk_126) (pc' := 26) rfl rfl rfl (fun hc => ?_) (fun hc => ?_)
  · refine tTh (l := xk_126) rfl rfl (fun _ _ _ _ _ => rfl) ?_
    exact hQ
  · exact absurd rfl hc
theorem c126 (h : hKl zs ph c) {x : Int} (hx : 33 ≤ x ∧ x ≤ 126) (hf : c.1.length < 60) (hQ : ∀ ph2, hKl zs ph2 (c.1 ++ [x], c.2) → hFd clP ph ph2 → Q (.inl (some (.inl ((c.1 ++ [x]).length : Int))), ph2, g)) : xTC (d + 1) 126 [.inr (.inl (some 1)), .inl x] ph g Q := by
  have hs := h.1
  refine tEn (ls := [some (.inr (.inl (some 1))), some (.inl x)]) (fun k => by match k with | 0 => rfl | 1 => rfl | k + 2 => rfl) ?_
  refine tK (l := xk_126) rfl rfl (fun _ _ _ _ _ => rfl) ?_
  refine tCa (l := xk_126) rfl rfl (hInvS rfl rfl rfl rfl (Nat.le_of_ble_eq_true rfl) (Nat.le_of_ble_eq_true rfl)) ?_
  refine s127 hx ?_
  refine tKn ?_
  refine tK (l := xk_126) rfl rfl (fun _ _ _ _ _ => rfl) ?_
  refine tK (l := xk_126) rfl rfl (hGetR (o := some 2) hs rfl rfl rfl (by decide) (by decide) rfl) ?_
  refine tK (l := xk_126) rfl rfl (fun _ _ _ _ _ => rfl) ?_
  refine tK (l := xk_126) rfl rfl (fun _ _ _ _ _ => rfl) ?_
  refine tCa (l := xk_126) rfl rfl (hInvV (c := 8) hs rfl rfl rfl rfl rfl (Nat.le_of_ble_eq_true rfl) (Nat.le_of_ble_eq_true rfl)) ?_
  refine a79 (r := 0) hs rfl h.2.1.1 (by decide) h.2.1.2 (by have := hRw74; omega) (by omega) (fun ph2 t2 => ?_)
  refine tKv ?_
  refine tIf_ne (l := xk_126) (pc' := 26) rfl rfl rfl (fun hc => ?_) (fun hc => ?_)
  · exact absurd hc (by decide)
  · refine tK (l := xk_126) rfl rfl (fun _ _ _ _ _ => rfl) ?_
    refine tK (l := xk_126) rfl rfl (hGetR (o := some 2) t2.sh rfl rfl rfl (by decide) (by decide) rfl) ?_
    refine tK (l := xk_126) rfl rfl (fun _ _ _ _ _ => rfl) ?_
    refine tCa (l := xk_126) rfl rfl (hInvV (c := 8) t2.sh rfl rfl rfl rfl rfl (Nat.le_of_ble_eq_true rfl) (Nat.le_of_ble_eq_true rfl)) ?_
    refine a75 (r := 0) t2.sh rfl t2.tw (by decide) t2.row ?_
    refine tKv ?_
    simp only [hLo]
    refine tRt (l := xk_126) rfl rfl (fun _ _ _ _ _ => rfl) ?_
    obtain ⟨k1, k2⟩ := h.buf t2
    exact hQ ph2 k1 k2
theorem c128x (h : hKl zs ph c) {x y : Int} (hx : ¬ (0 ≤ x ∧ x < 8)) (hQ : Q (.inr 2, ph, g + 1)) : xTC (d + 1) 128 [.inr (.inl (some 1)), .inl x, .inl y] ph g Q := by
  have hs := h.1
  refine tEn (ls := [some (.inr (.inl (some 1))), some (.inl x), some (.inl y), none]) (fun k => by match k with | 0 => rfl | 1 => rfl | 2 => rfl | 3 => rfl | k + 4 => rfl) ?_
  refine tK (l := xk_128) rfl rfl (fun _ _ _ _ _ => rfl) ?_
  refine tCa (l := xk_128) rfl rfl (hInvS rfl rfl rfl rfl (Nat.le_of_ble_eq_true rfl) (Nat.le_of_ble_eq_true rfl)) ?_
  refine s108x hx ?_
  refine tKx rfl ?_
  exact hQ
theorem c128y (h : hKl zs ph c) {n : Nat} {y : Int} (hn : n < 8) (hy : ¬ (33 ≤ y ∧ y ≤ 126)) (hQ : Q (.inr 0, ph, g + 1)) : xTC (d + 1) 128 [.inr (.inl (some 1)), .inl (n : Int), .inl y] ph g Q := by
  have hs := h.1
  refine tEn (ls := [some (.inr (.inl (some 1))), some (.inl (n : Int)), some (.inl y), none]) (fun k => by match k with | 0 => rfl | 1 => rfl | 2 => rfl | 3 => rfl | k + 4 => rfl) ?_
  refine tK (l := xk_128) rfl rfl (fun _ _ _ _ _ => rfl) ?_
  refine tCa (l := xk_128) rfl rfl (hInvS rfl rfl rfl rfl (Nat.le_of_ble_eq_true rfl) (Nat.le_of_ble_eq_true rfl)) ?_
  refine s108 hn ?_
  refine tKn ?_
  refine tK (l := xk_128) rfl rfl (fun _ _ _ _ _ => rfl) ?_
  refine tCa (l := xk_128) rfl rfl (hInvS rfl rfl rfl rfl (Nat.le_of_ble_eq_true rfl) (Nat.le_of_ble_eq_true rfl)) ?_
  refine s127x hy ?_
  refine tKx rfl ?_
  exact hQ
theorem c128n (h : hKl zs ph c) {n : Nat} {y : Int} {v : List Int} (hn : n < 8) (hy : 33 ≤ y ∧ y ≤ 126) (hv : c.2.1.1 n = some v) (hf : v.length = 24) (hQ : Q (.inr 1, ph, g + 1)) : xTC (d + 1) 128 [.inr (.inl (some 1)), .inl (n : Int), .inl y] ph g Q := by
  have hs := h.1
  refine tEn (ls := [some (.inr (.inl (some 1))), some (.inl (n : Int)), some (.inl y), none]) (fun k => by match k with | 0 => rfl | 1 => rfl | 2 => rfl | 3 => rfl | k + 4 => rfl) ?_
  refine tK (l := xk_128) rfl rfl (fun _ _ _ _ _ => rfl) ?_
  refine tCa (l := xk_128) rfl rfl (hInvS rfl rfl rfl rfl (Nat.le_of_ble_eq_true rfl) (Nat.le_of_ble_eq_true rfl)) ?_
  refine s108 hn ?_
  refine tKn ?_
  refine tK (l := xk_128) rfl rfl (fun _ _ _ _ _ => rfl) ?_
  refine tCa (l := xk_128) rfl rfl (hInvS rfl rfl rfl rfl (Nat.le_of_ble_eq_true rfl) (Nat.le_of_ble_eq_true rfl)) ?_
  refine s127 hy ?_
  refine tKn ?_
  refine tK (l := xk_128) rfl rfl (fun _ _ _ _ _ => rfl) ?_
  refine tK (l := xk_128) rfl rfl (hGetR (o := some 73) hs rfl rfl rfl (by decide) (by decide) rfl) ?_
  refine tK (l := xk_128) rfl rfl (hGetR (o := some 74) hs rfl rfl rfl (by decide) (by decide) rfl) ?_
  refine tK (l := xk_128) rfl rfl (fun _ _ _ _ _ => rfl) ?_
  refine tCa (l := xk_128) rfl rfl (hInvV (c := 8) hs rfl rfl rfl rfl rfl (Nat.le_of_ble_eq_true rfl) (Nat.le_of_ble_eq_true rfl)) ?_
  refine a75 hs rfl (h.val hn).1 (by have := hRw74; omega) ((h.val hn).2.trans hv) ?_
  refine tKv ?_
  simp only [hLo]
  refine tSt (l := xk_128) rfl rfl (fun _ _ _ _ _ => rfl) (Nat.le_of_ble_eq_true rfl) ?_
  refine tK (l := xk_128) rfl rfl (fun _ _ _ _ _ => rfl) ?_
  refine tK (l := xk_128) rfl rfl (fun _ _ _ _ _ => rfl) ?_
  refine tIc_lt (l := xk_128) (pc' := 36) rfl rfl rfl (fun hc => ?_) (fun hc => ?_)
  · exfalso; omega
  · refine tTh (l := xk_128) rfl rfl (fun _ _ _ _ _ => rfl) ?_
    exact hQ
theorem c128 (h : hKl zs ph c) {n : Nat} {y : Int} {v : List Int} (hn : n < 8) (hy : 33 ≤ y ∧ y ≤ 126) (hv : c.2.1.1 n = some v) (hf : v.length < 24) (hQ : ∀ ph2, hKl zs ph2 (ndo c (setV c.2.1 n (some (v ++ [y])))) → hFd clP ph ph2 → Q (.inl (some (.inl ((v ++ [y]).length : Int))), ph2, g)) : xTC (d + 6) 128 [.inr (.inl (some 1)), .inl (n : Int), .inl y] ph g Q := by
  have hs := h.1
  refine tEn (ls := [some (.inr (.inl (some 1))), some (.inl (n : Int)), some (.inl y), none]) (fun k => by match k with | 0 => rfl | 1 => rfl | 2 => rfl | 3 => rfl | k + 4 => rfl) ?_
  refine tK (l := xk_128) rfl rfl (fun _ _ _ _ _ => rfl) ?_
  refine tCa (l := xk_128) rfl rfl (hInvS rfl rfl rfl rfl (Nat.le_of_ble_eq_true rfl) (Nat.le_of_ble_eq_true rfl)) ?_
  refine s108 hn ?_
  refine tKn ?_
  refine tK (l := xk_128) rfl rfl (fun _ _ _ _ _ => rfl) ?_
  refine tCa (l := xk_128) rfl rfl (hInvS rfl rfl rfl rfl (Nat.le_of_ble_eq_true rfl) (Nat.le_of_ble_eq_true rfl)) ?_
  refine s127 hy ?_
  refine tKn ?_
  refine tK (l := xk_128) rfl rfl (fun _ _ _ _ _ => rfl) ?_
  refine tK (l := xk_128) rfl rfl (hGetR (o := some 73) hs rfl rfl rfl (by decide) (by decide) rfl) ?_
  refine tK (l := xk_128) rfl rfl (hGetR (o := some 74) hs rfl rfl rfl (by decide) (by decide) rfl) ?_
  refine tK (l := xk_128) rfl rfl (fun _ _ _ _ _ => rfl) ?_
  refine tCa (l := xk_128) rfl rfl (hInvV (c := 8) hs rfl rfl rfl rfl rfl (Nat.le_of_ble_eq_true rfl) (Nat.le_of_ble_eq_true rfl)) ?_
  refine a75 hs rfl (h.val hn).1 (by have := hRw74; omega) ((h.val hn).2.trans hv) ?_
  refine tKv ?_
  simp only [hLo]
  refine tSt (l := xk_128) rfl rfl (fun _ _ _ _ _ => rfl) (Nat.le_of_ble_eq_true rfl) ?_
  refine tK (l := xk_128) rfl rfl (fun _ _ _ _ _ => rfl) ?_
  refine tK (l := xk_128) rfl rfl (fun _ _ _ _ _ => rfl) ?_
  refine tIc_lt (l := xk_128) (pc' := 36) rfl rfl rfl (fun hc => ?_) (fun hc => ?_)
  · refine tK (l := xk_128) rfl rfl (fun _ _ _ _ _ => rfl) ?_
    refine tK (l := xk_128) rfl rfl (hGetR (o := some 91) hs rfl rfl rfl (by decide) (by decide) rfl) ?_
    refine tK (l := xk_128) rfl rfl (fun _ _ _ _ _ => rfl) ?_
    refine tK (l := xk_128) rfl rfl (hGetR (o := some 73) hs rfl rfl rfl (by decide) (by decide) rfl) ?_
    refine tCa (l := xk_128) rfl rfl (hInvV (c := 2) hs rfl rfl rfl rfl rfl (Nat.le_of_ble_eq_true rfl) (Nat.le_of_ble_eq_true rfl)) ?_
    refine s23k h (fun ph1 k1 f1 => ?_)
    refine tKn ?_
    have g1 : hFd clP ph ph1 := f1.mono (fun a ha => by unfold clP; omega)
    obtain ⟨w1, t1⟩ := k1.val hn
    refine tK (l := xk_128) rfl rfl (fun _ _ _ _ _ => rfl) ?_
    refine tK (l := xk_128) rfl rfl (fun _ _ _ _ _ => rfl) ?_
    refine tIc_ne (l := xk_128) (pc' := 63) rfl rfl rfl (fun hc => ?_) (fun hc => ?_)
    · exfalso
      have h9 : (v.length : Int) = -1 := hc
      omega
    · refine tK (l := xk_128) rfl rfl (fun _ _ _ _ _ => rfl) ?_
      refine tK (l := xk_128) rfl rfl (hGetR (o := some 73) k1.1 rfl rfl rfl (by decide) (by decide) rfl) ?_
      refine tK (l := xk_128) rfl rfl (hGetR (o := some 74) k1.1 rfl rfl rfl (by decide) (by decide) rfl) ?_
      refine tK (l := xk_128) rfl rfl (fun _ _ _ _ _ => rfl) ?_
      refine tK (l := xk_128) rfl rfl (fun _ _ _ _ _ => rfl) ?_
      refine tCa (l := xk_128) rfl rfl (hInvV (c := 8) k1.1 rfl rfl rfl rfl rfl (Nat.le_of_ble_eq_true rfl) (Nat.le_of_ble_eq_true rfl)) ?_
      refine a79 k1.1 rfl w1 (by have := hRw74; omega) (t1.trans hv) (by have := hRw74; omega) (by omega) (fun ph3 t3 => ?_)
      refine tKv ?_
      obtain ⟨k3, g3⟩ := k1.setv hn t3
      refine tK (l := xk_128) rfl rfl (fun _ _ _ _ _ => rfl) ?_
      refine tK (l := xk_128) rfl rfl (fun _ _ _ _ _ => rfl) ?_
      refine tK (l := xk_128) rfl rfl (hGetR (o := some 73) t3.sh rfl rfl rfl (by decide) (by decide) rfl) ?_
      refine tK (l := xk_128) rfl rfl (hGetR (o := some 74) t3.sh rfl rfl rfl (by decide) (by decide) rfl) ?_
      refine tK (l := xk_128) rfl rfl (fun _ _ _ _ _ => rfl) ?_
      refine tCa (l := xk_128) rfl rfl (hInvV (c := 8) t3.sh rfl rfl rfl rfl rfl (Nat.le_of_ble_eq_true rfl) (Nat.le_of_ble_eq_true rfl)) ?_
      refine a75 t3.sh rfl t3.tw (by have := hRw74; omega) t3.row ?_
      refine tKv ?_
      simp only [hLo]
      refine tRt (l := xk_128) rfl rfl (fun _ _ _ _ _ => rfl) ?_
      exact hQ ph3 k3 (g1.trans g3)
  · exfalso; omega
theorem setV2 {st : SS} {n : Nat} {v w : Option (List Int)} : setV (setV st n v) n w = setV st n w := by
  unfold setV
  simp only [Prod.mk.injEq, and_true]
  funext j
  by_cases e : j = n
  · simp only [if_pos e]
  · simp only [if_neg e]
theorem c128e (h : hKl zs ph c) {n : Nat} {y : Int} (hn : n < 8) (hy : 33 ≤ y ∧ y ≤ 126) (hv : c.2.1.1 n = none) (hQ : ∀ ph2, hKl zs ph2 (ndo c (setV c.2.1 n (some [y]))) → hFd clP ph ph2 → Q (.inl (some (.inl 1)), ph2, g)) : xTC (d + 6) 128 [.inr (.inl (some 1)), .inl (n : Int), .inl y] ph g Q := by
  have hs := h.1
  refine tEn (ls := [some (.inr (.inl (some 1))), some (.inl (n : Int)), some (.inl y), none]) (fun k => by match k with | 0 => rfl | 1 => rfl | 2 => rfl | 3 => rfl | k + 4 => rfl) ?_
  refine tK (l := xk_128) rfl rfl (fun _ _ _ _ _ => rfl) ?_
  refine tCa (l := xk_128) rfl rfl (hInvS rfl rfl rfl rfl (Nat.le_of_ble_eq_true rfl) (Nat.le_of_ble_eq_true rfl)) ?_
  refine s108 hn ?_
  refine tKn ?_
  refine tK (l := xk_128) rfl rfl (fun _ _ _ _ _ => rfl) ?_
  refine tCa (l := xk_128) rfl rfl (hInvS rfl rfl rfl rfl (Nat.le_of_ble_eq_true rfl) (Nat.le_of_ble_eq_true rfl)) ?_
  refine s127 hy ?_
  refine tKn ?_
  refine tK (l := xk_128) rfl rfl (fun _ _ _ _ _ => rfl) ?_
  refine tK (l := xk_128) rfl rfl (hGetR (o := some 73) hs rfl rfl rfl (by decide) (by decide) rfl) ?_
  refine tK (l := xk_128) rfl rfl (hGetR (o := some 74) hs rfl rfl rfl (by decide) (by decide) rfl) ?_
  refine tK (l := xk_128) rfl rfl (fun _ _ _ _ _ => rfl) ?_
  refine tCa (l := xk_128) rfl rfl (hInvV (c := 8) hs rfl rfl rfl rfl rfl (Nat.le_of_ble_eq_true rfl) (Nat.le_of_ble_eq_true rfl)) ?_
  refine a75 hs rfl (h.val hn).1 (by have := hRw74; omega) ((h.val hn).2.trans hv) ?_
  refine tKv ?_
  simp only [hLo]
  refine tSt (l := xk_128) rfl rfl (fun _ _ _ _ _ => rfl) (Nat.le_of_ble_eq_true rfl) ?_
  refine tK (l := xk_128) rfl rfl (fun _ _ _ _ _ => rfl) ?_
  refine tK (l := xk_128) rfl rfl (fun _ _ _ _ _ => rfl) ?_
  refine tIc_lt (l := xk_128) (pc' := 36) rfl rfl rfl (fun hc => ?_) (fun hc => ?_)
  · refine tK (l := xk_128) rfl rfl (fun _ _ _ _ _ => rfl) ?_
    refine tK (l := xk_128) rfl rfl (hGetR (o := some 91) hs rfl rfl rfl (by decide) (by decide) rfl) ?_
    refine tK (l := xk_128) rfl rfl (fun _ _ _ _ _ => rfl) ?_
    refine tK (l := xk_128) rfl rfl (hGetR (o := some 73) hs rfl rfl rfl (by decide) (by decide) rfl) ?_
    refine tCa (l := xk_128) rfl rfl (hInvV (c := 2) hs rfl rfl rfl rfl rfl (Nat.le_of_ble_eq_true rfl) (Nat.le_of_ble_eq_true rfl)) ?_
    refine s23k h (fun ph1 k1 f1 => ?_)
    refine tKn ?_
    have g1 : hFd clP ph ph1 := f1.mono (fun a ha => by unfold clP; omega)
    obtain ⟨w1, t1⟩ := k1.val hn
    refine tK (l := xk_128) rfl rfl (fun _ _ _ _ _ => rfl) ?_
    refine tK (l := xk_128) rfl rfl (fun _ _ _ _ _ => rfl) ?_
    refine tIc_ne (l := xk_128) (pc' := 63) rfl rfl rfl (fun hc => ?_) (fun hc => ?_)
    · refine tK (l := xk_128) rfl rfl (fun _ _ _ _ _ => rfl) ?_
      refine tK (l := xk_128) rfl rfl (hGetR (o := some 73) k1.1 rfl rfl rfl (by decide) (by decide) rfl) ?_
      refine tK (l := xk_128) rfl rfl (hGetR (o := some 74) k1.1 rfl rfl rfl (by decide) (by decide) rfl) ?_
      refine tK (l := xk_128) rfl rfl (fun _ _ _ _ _ => rfl) ?_
      refine tCa (l := xk_128) rfl rfl (hInvV (c := 8) k1.1 rfl rfl rfl rfl rfl (Nat.le_of_ble_eq_true rfl) (Nat.le_of_ble_eq_true rfl)) ?_
      refine a74 k1.1 rfl w1 (by have := hRw74; omega) (fun ph2 t2 => ?_)
      refine tKn ?_
      obtain ⟨k2, g2⟩ := k1.setv hn t2
      refine tK (l := xk_128) rfl rfl (fun _ _ _ _ _ => rfl) ?_
      refine tK (l := xk_128) rfl rfl (hGetR (o := some 73) t2.sh rfl rfl rfl (by decide) (by decide) rfl) ?_
      refine tK (l := xk_128) rfl rfl (hGetR (o := some 74) t2.sh rfl rfl rfl (by decide) (by decide) rfl) ?_
      refine tK (l := xk_128) rfl rfl (fun _ _ _ _ _ => rfl) ?_
      refine tK (l := xk_128) rfl rfl (fun _ _ _ _ _ => rfl) ?_
      refine tCa (l := xk_128) rfl rfl (hInvV (c := 8) t2.sh rfl rfl rfl rfl rfl (Nat.le_of_ble_eq_true rfl) (Nat.le_of_ble_eq_true rfl)) ?_
      refine a79 t2.sh rfl t2.tw (by have := hRw74; omega) t2.row (by have := hRw74; simp; omega) (by omega) (fun ph3 t3 => ?_)
      refine tKv ?_
      obtain ⟨k3, g3⟩ := k2.setv hn t3
      refine tK (l := xk_128) rfl rfl (fun _ _ _ _ _ => rfl) ?_
      refine tK (l := xk_128) rfl rfl (fun _ _ _ _ _ => rfl) ?_
      refine tK (l := xk_128) rfl rfl (hGetR (o := some 73) t3.sh rfl rfl rfl (by decide) (by decide) rfl) ?_
      refine tK (l := xk_128) rfl rfl (hGetR (o := some 74) t3.sh rfl rfl rfl (by decide) (by decide) rfl) ?_
      refine tK (l := xk_128) rfl rfl (fun _ _ _ _ _ => rfl) ?_
      refine tCa (l := xk_128) rfl rfl (hInvV (c := 8) t3.sh rfl rfl rfl rfl rfl (Nat.le_of_ble_eq_true rfl) (Nat.le_of_ble_eq_true rfl)) ?_
      refine a75 t3.sh rfl t3.tw (by have := hRw74; omega) t3.row ?_
      refine tKv ?_
      simp only [hLo]
      refine tRt (l := xk_128) rfl rfl (fun _ _ _ _ _ => rfl) ?_
      rw [setV2] at k3
      exact hQ ph3 k3 ((g1.trans g2).trans g3)
    · exact absurd rfl hc
  · exact absurd (by decide) hc
theorem c129 (h : hKl zs ph c) {n : Nat} {v : List Int} (hn : n < 8) (hv : c.2.1.1 n = some v) (hQ : ∀ ph2, hKl zs ph2 (ndo c (setV c.2.1 n none)) → hFd clP ph ph2 → Q (.inl (some (.inl (v.length : Int))), ph2, g)) : xTC (d + 6) 129 [.inr (.inl (some 1)), .inl (n : Int)] ph g Q := by
  have hs := h.1
  refine tEn (ls := [some (.inr (.inl (some 1))), some (.inl (n : Int)), none]) (fun k => by match k with | 0 => rfl | 1 => rfl | 2 => rfl | k + 3 => rfl) ?_
  refine tK (l := xk_129) rfl rfl (fun _ _ _ _ _ => rfl) ?_
  refine tK (l := xk_129) rfl rfl (fun _ _ _ _ _ => rfl) ?_
  refine tCa (l := xk_129) rfl rfl (hInvV (c := 9) hs rfl rfl rfl rfl rfl (Nat.le_of_ble_eq_true rfl) (Nat.le_of_ble_eq_true rfl)) ?_
  refine s110 h hn hv ?_
  refine tKv ?_
  refine tSt (l := xk_129) rfl rfl (fun _ _ _ _ _ => rfl) (Nat.le_of_ble_eq_true rfl) ?_
  refine tK (l := xk_129) rfl rfl (fun _ _ _ _ _ => rfl) ?_
  refine tK (l := xk_129) rfl rfl (hGetR (o := some 91) hs rfl rfl rfl (by decide) (by decide) rfl) ?_
  refine tK (l := xk_129) rfl rfl (fun _ _ _ _ _ => rfl) ?_
  refine tK (l := xk_129) rfl rfl (hGetR (o := some 73) hs rfl rfl rfl (by decide) (by decide) rfl) ?_
  refine tCa (l := xk_129) rfl rfl (hInvV (c := 2) hs rfl rfl rfl rfl rfl (Nat.le_of_ble_eq_true rfl) (Nat.le_of_ble_eq_true rfl)) ?_
  refine s23k h (fun ph1 k1 f1 => ?_)
  refine tKn ?_
  have g1 : hFd clP ph ph1 := f1.mono (fun a ha => by unfold clP; omega)
  obtain ⟨w1, t1⟩ := k1.val hn
  refine tK (l := xk_129) rfl rfl (fun _ _ _ _ _ => rfl) ?_
  refine tK (l := xk_129) rfl rfl (hGetR (o := some 73) k1.1 rfl rfl rfl (by decide) (by decide) rfl) ?_
  refine tK (l := xk_129) rfl rfl (hGetR (o := some 74) k1.1 rfl rfl rfl (by decide) (by decide) rfl) ?_
  refine tK (l := xk_129) rfl rfl (fun _ _ _ _ _ => rfl) ?_
  refine tCa (l := xk_129) rfl rfl (hInvV (c := 8) k1.1 rfl rfl rfl rfl rfl (Nat.le_of_ble_eq_true rfl) (Nat.le_of_ble_eq_true rfl)) ?_
  refine a80 k1.1 rfl w1 (by have := hRw74; omega) (fun ph2 t2 => ?_)
  refine tKn ?_
  obtain ⟨k2, g2⟩ := k1.setv hn t2
  refine tK (l := xk_129) rfl rfl (fun _ _ _ _ _ => rfl) ?_
  refine tRt (l := xk_129) rfl rfl (fun _ _ _ _ _ => rfl) ?_
  exact hQ ph2 k2 (g1.trans g2)
theorem c130x (h : hKl zs ph c) {x : Int} (hx : ¬ (0 ≤ x ∧ x < 8)) (hQ : Q (.inr 2, ph, g + 1)) : xTC (d + 1) 130 [.inr (.inl (some 1)), .inl x] ph g Q := by
  have hs := h.1
  refine tEn (ls := [some (.inr (.inl (some 1))), some (.inl x), none]) (fun k => by match k with | 0 => rfl | 1 => rfl | 2 => rfl | k + 3 => rfl) ?_
  refine tK (l := xk_130) rfl rfl (fun _ _ _ _ _ => rfl) ?_
  refine tCa (l := xk_130) rfl rfl (hInvS rfl rfl rfl rfl (Nat.le_of_ble_eq_true rfl) (Nat.le_of_ble_eq_true rfl)) ?_
  refine s108x hx ?_
  refine tKx rfl ?_
  exact hQ
theorem c130 (h : hKl zs ph c) {n : Nat} (hn : n < 8) (hQ : ∀ ph2, hKl zs ph2 (ndo c (setV c.2.1 n (some []))) → hFd clP ph ph2 → Q (.inl (some (.inl (((c.2.1.1 n).getD []).length : Int))), ph2, g)) : xTC (d + 6) 130 [.inr (.inl (some 1)), .inl (n : Int)] ph g Q := by
  have hs := h.1
  have hmx : (if (0 : Int) < hLo (c.2.1.1 n) then hLo (c.2.1.1 n) else 0) = (((c.2.1.1 n).getD []).length : Int) := by
    cases c.2.1.1 n with
    | none => rfl
    | some v =>
      simp only [hLo, Option.getD_some]
      by_cases h0 : (0 : Int) < (v.length : Int)
      · exact if_pos h0
      · exact (if_neg h0).trans (by omega)
  refine tEn (ls := [some (.inr (.inl (some 1))), some (.inl (n : Int)), none]) (fun k => by match k with | 0 => rfl | 1 => rfl | 2 => rfl | k + 3 => rfl) ?_
  refine tK (l := xk_130) rfl rfl (fun _ _ _ _ _ => rfl) ?_
  refine tCa (l := xk_130) rfl rfl (hInvS rfl rfl rfl rfl (Nat.le_of_ble_eq_true rfl) (Nat.le_of_ble_eq_true rfl)) ?_
  refine s108 hn ?_
  refine tKn ?_
  refine tK (l := xk_130) rfl rfl (fun _ _ _ _ _ => rfl) ?_
  refine tK (l := xk_130) rfl rfl (fun _ _ _ _ _ => rfl) ?_
  refine tK (l := xk_130) rfl rfl (hGetR (o := some 73) hs rfl rfl rfl (by decide) (by decide) rfl) ?_
  refine tK (l := xk_130) rfl rfl (hGetR (o := some 74) hs rfl rfl rfl (by decide) (by decide) rfl) ?_
  refine tK (l := xk_130) rfl rfl (fun _ _ _ _ _ => rfl) ?_
  refine tCa (l := xk_130) rfl rfl (hInvV (c := 8) hs rfl rfl rfl rfl rfl (Nat.le_of_ble_eq_true rfl) (Nat.le_of_ble_eq_true rfl)) ?_
  refine a75 hs rfl (h.val hn).1 (by have := hRw74; omega) (h.val hn).2 ?_
  refine tKv ?_
  refine tK (l := xk_130) rfl rfl (fun _ _ _ _ _ => rfl) ?_
  rw [hmx]
  refine tSt (l := xk_130) rfl rfl (fun _ _ _ _ _ => rfl) (Nat.le_of_ble_eq_true rfl) ?_
  refine tK (l := xk_130) rfl rfl (fun _ _ _ _ _ => rfl) ?_
  refine tK (l := xk_130) rfl rfl (hGetR (o := some 91) hs rfl rfl rfl (by decide) (by decide) rfl) ?_
  refine tK (l := xk_130) rfl rfl (fun _ _ _ _ _ => rfl) ?_
  refine tK (l := xk_130) rfl rfl (hGetR (o := some 73) hs rfl rfl rfl (by decide) (by decide) rfl) ?_
  refine tCa (l := xk_130) rfl rfl (hInvV (c := 2) hs rfl rfl rfl rfl rfl (Nat.le_of_ble_eq_true rfl) (Nat.le_of_ble_eq_true rfl)) ?_
  refine s23k h (fun ph1 k1 f1 => ?_)
  refine tKn ?_
  have g1 : hFd clP ph ph1 := f1.mono (fun a ha => by unfold clP; omega)
  obtain ⟨w1, t1⟩ := k1.val hn
  refine tK (l := xk_130) rfl rfl (fun _ _ _ _ _ => rfl) ?_
  refine tK (l := xk_130) rfl rfl (hGetR (o := some 73) k1.1 rfl rfl rfl (by decide) (by decide) rfl) ?_
  refine tK (l := xk_130) rfl rfl (hGetR (o := some 74) k1.1 rfl rfl rfl (by decide) (by decide) rfl) ?_
  refine tK (l := xk_130) rfl rfl (fun _ _ _ _ _ => rfl) ?_
  refine tCa (l := xk_130) rfl rfl (hInvV (c := 8) k1.1 rfl rfl rfl rfl rfl (Nat.le_of_ble_eq_true rfl) (Nat.le_of_ble_eq_true rfl)) ?_
  refine a74 k1.1 rfl w1 (by have := hRw74; omega) (fun ph2 t2 => ?_)
  refine tKn ?_
  obtain ⟨k2, g2⟩ := k1.setv hn t2
  refine tK (l := xk_130) rfl rfl (fun _ _ _ _ _ => rfl) ?_
  refine tRt (l := xk_130) rfl rfl (fun _ _ _ _ _ => rfl) ?_
  exact hQ ph2 k2 (g1.trans g2)
theorem c131x (h : hKl zs ph c) {x y : Int} (hx : ¬ (0 ≤ x ∧ x < 8)) (hQ : Q (.inr 2, ph, g + 1)) : xTC (d + 2) 131 [.inr (.inl (some 1)), .inl x, .inl y] ph g Q := by
  have hs := h.1
  refine tEn (ls := [some (.inr (.inl (some 1))), some (.inl x), some (.inl y), none]) (fun k => by match k with | 0 => rfl | 1 => rfl | 2 => rfl | 3 => rfl | k + 4 => rfl) ?_
  refine tK (l := xk_131) rfl rfl (fun _ _ _ _ _ => rfl) ?_
  refine tCa (l := xk_131) rfl rfl (hInvS rfl rfl rfl rfl (Nat.le_of_ble_eq_true rfl) (Nat.le_of_ble_eq_true rfl)) ?_
  refine s108x hx ?_
  refine tKx rfl ?_
  exact hQ
theorem c131y (h : hKl zs ph c) {n : Nat} {y : Int} (hn : n < 8) (hy : ¬ (0 ≤ y ∧ y < 8)) (hQ : Q (.inr 2, ph, g + 1)) : xTC (d + 2) 131 [.inr (.inl (some 1)), .inl (n : Int), .inl y] ph g Q := by
  have hs := h.1
  refine tEn (ls := [some (.inr (.inl (some 1))), some (.inl (n : Int)), some (.inl y), none]) (fun k => by match k with | 0 => rfl | 1 => rfl | 2 => rfl | 3 => rfl | k + 4 => rfl) ?_
  refine tK (l := xk_131) rfl rfl (fun _ _ _ _ _ => rfl) ?_
  refine tCa (l := xk_131) rfl rfl (hInvS rfl rfl rfl rfl (Nat.le_of_ble_eq_true rfl) (Nat.le_of_ble_eq_true rfl)) ?_
  refine s108 hn ?_
  refine tKn ?_
  refine tK (l := xk_131) rfl rfl (fun _ _ _ _ _ => rfl) ?_
  refine tK (l := xk_131) rfl rfl (fun _ _ _ _ _ => rfl) ?_
  refine tCa (l := xk_131) rfl rfl (hInvV (c := 9) hs rfl rfl rfl rfl rfl (Nat.le_of_ble_eq_true rfl) (Nat.le_of_ble_eq_true rfl)) ?_
  refine s110x hy hs ?_
  refine tKx rfl ?_
  exact hQ
theorem c131n (h : hKl zs ph c) {n k : Nat} (hn : n < 8) (hk : k < 8) (hv : c.2.1.1 k = none) (hQ : Q (.inr 1, ph, g + 1)) : xTC (d + 2) 131 [.inr (.inl (some 1)), .inl (n : Int), .inl (k : Int)] ph g Q := by
  have hs := h.1
  refine tEn (ls := [some (.inr (.inl (some 1))), some (.inl (n : Int)), some (.inl (k : Int)), none]) (fun k => by match k with | 0 => rfl | 1 => rfl | 2 => rfl | 3 => rfl | k + 4 => rfl) ?_
  refine tK (l := xk_131) rfl rfl (fun _ _ _ _ _ => rfl) ?_
  refine tCa (l := xk_131) rfl rfl (hInvS rfl rfl rfl rfl (Nat.le_of_ble_eq_true rfl) (Nat.le_of_ble_eq_true rfl)) ?_
  refine s108 hn ?_
  refine tKn ?_
  refine tK (l := xk_131) rfl rfl (fun _ _ _ _ _ => rfl) ?_
  refine tK (l := xk_131) rfl rfl (fun _ _ _ _ _ => rfl) ?_
  refine tCa (l := xk_131) rfl rfl (hInvV (c := 9) hs rfl rfl rfl rfl rfl (Nat.le_of_ble_eq_true rfl) (Nat.le_of_ble_eq_true rfl)) ?_
  refine s110n h hk hv ?_
  refine tKx rfl ?_
  exact hQ
theorem c131 (h : hKl zs ph c) {n k : Nat} {v : List Int} (hn : n < 8) (hk : k < 8) (hv : c.2.1.1 k = some v) (hv24 : v.length ≤ 24) (hQ : ∀ ph2, hKl zs ph2 (ndo c (setV c.2.1 n (some v))) → hFd clP ph ph2 → Q (.inl (some (.inl (v.length : Int))), ph2, g)) : xTC (d + 6) 131 [.inr (.inl (some 1)), .inl (n : Int), .inl (k : Int)] ph g Q := by
  have hs := h.1
  refine tEn (ls := [some (.inr (.inl (some 1))), some (.inl (n : Int)), some (.inl (k : Int)), none]) (fun k => by match k with | 0 => rfl | 1 => rfl | 2 => rfl | 3 => rfl | k + 4 => rfl) ?_
  refine tK (l := xk_131) rfl rfl (fun _ _ _ _ _ => rfl) ?_
  refine tCa (l := xk_131) rfl rfl (hInvS rfl rfl rfl rfl (Nat.le_of_ble_eq_true rfl) (Nat.le_of_ble_eq_true rfl)) ?_
  refine s108 hn ?_
  refine tKn ?_
  refine tK (l := xk_131) rfl rfl (fun _ _ _ _ _ => rfl) ?_
  refine tK (l := xk_131) rfl rfl (fun _ _ _ _ _ => rfl) ?_
  refine tCa (l := xk_131) rfl rfl (hInvV (c := 9) hs rfl rfl rfl rfl rfl (Nat.le_of_ble_eq_true rfl) (Nat.le_of_ble_eq_true rfl)) ?_
  refine s110 h hk hv ?_
  refine tKv ?_
  refine tSt (l := xk_131) rfl rfl (fun _ _ _ _ _ => rfl) (Nat.le_of_ble_eq_true rfl) ?_
  refine tK (l := xk_131) rfl rfl (fun _ _ _ _ _ => rfl) ?_
  refine tK (l := xk_131) rfl rfl (hGetR (o := some 91) hs rfl rfl rfl (by decide) (by decide) rfl) ?_
  refine tK (l := xk_131) rfl rfl (fun _ _ _ _ _ => rfl) ?_
  refine tK (l := xk_131) rfl rfl (hGetR (o := some 73) hs rfl rfl rfl (by decide) (by decide) rfl) ?_
  refine tCa (l := xk_131) rfl rfl (hInvV (c := 2) hs rfl rfl rfl rfl rfl (Nat.le_of_ble_eq_true rfl) (Nat.le_of_ble_eq_true rfl)) ?_
  refine s23k h (fun ph1 k1 f1 => ?_)
  refine tKn ?_
  have g1 : hFd clP ph ph1 := f1.mono (fun a ha => by unfold clP; omega)
  obtain ⟨w1, t1⟩ := k1.val hk
  refine tK (l := xk_131) rfl rfl (fun _ _ _ _ _ => rfl) ?_
  refine tK (l := xk_131) rfl rfl (hGetR (o := some 73) k1.1 rfl rfl rfl (by decide) (by decide) rfl) ?_
  refine tK (l := xk_131) rfl rfl (hGetR (o := some 74) k1.1 rfl rfl rfl (by decide) (by decide) rfl) ?_
  refine tK (l := xk_131) rfl rfl (fun _ _ _ _ _ => rfl) ?_
  refine tK (l := xk_131) rfl rfl (fun _ _ _ _ _ => rfl) ?_
  refine tK (l := xk_131) rfl rfl (hGetR (o := some 73) k1.1 rfl rfl rfl (by decide) (by decide) rfl) ?_
  refine tK (l := xk_131) rfl rfl (hGetR (o := some 74) k1.1 rfl rfl rfl (by decide) (by decide) rfl) ?_
  refine tK (l := xk_131) rfl rfl (fun _ _ _ _ _ => rfl) ?_
  refine tCa (l := xk_131) rfl rfl (hInvV (c := 8) k1.1 rfl rfl rfl rfl rfl (Nat.le_of_ble_eq_true rfl) (Nat.le_of_ble_eq_true rfl)) ?_
  refine a78 (t := 74) (f := 74) k1.1 rfl rfl w1 w1 (by have := hRw74; omega) (by have := hRw74; omega) (t1.trans hv) (fun s9 e9 => by cases e9; have := hRw74; omega) (fun ph2 t2 => ?_)
  refine tKn ?_
  obtain ⟨k2, g2⟩ := k1.setv hn t2
  refine tK (l := xk_131) rfl rfl (fun _ _ _ _ _ => rfl) ?_
  refine tRt (l := xk_131) rfl rfl (fun _ _ _ _ _ => rfl) ?_
  exact hQ ph2 k2 (g1.trans g2)
theorem c132y (h : hKl zs ph c) {n : Nat} {v : List Int} (hn : n < 8) (hv : c.2.1.1 n = some v) (hv24 : v.length ≤ 24) (hokv : oks v) (hf : 24 < (esc v).length) (hQ : ∀ ph2, hKl zs ph2 c → hFd clP ph ph2 → Q (.inr 1, ph2, g + 1)) : xTC (d + 6) 132 [.inr (.inl (some 1)), .inl (n : Int)] ph g Q := by
  have hs := h.1
  refine tEn (ls := [some (.inr (.inl (some 1))), some (.inl (n : Int)), none]) (fun k => by match k with | 0 => rfl | 1 => rfl | 2 => rfl | k + 3 => rfl) ?_
  refine tK (l := xk_132) rfl rfl (fun _ _ _ _ _ => rfl) ?_
  refine tK (l := xk_132) rfl rfl (fun _ _ _ _ _ => rfl) ?_
  refine tCa (l := xk_132) rfl rfl (hInvV (c := 9) hs rfl rfl rfl rfl rfl (Nat.le_of_ble_eq_true rfl) (Nat.le_of_ble_eq_true rfl)) ?_
  refine s110 h hn hv ?_
  refine tKv ?_
  refine tK (l := xk_132) rfl rfl (fun _ _ _ _ _ => rfl) ?_
  refine tK (l := xk_132) rfl rfl (fun _ _ _ _ _ => rfl) ?_
  refine tK (l := xk_132) rfl rfl (fun _ _ _ _ _ => rfl) ?_
  refine tCa (l := xk_132) rfl rfl (hInvV (c := 9) hs rfl rfl rfl rfl rfl (Nat.le_of_ble_eq_true rfl) (Nat.le_of_ble_eq_true rfl)) ?_
  refine s112 h hn hv hv24 hokv (fun ph0 k0 t0 g0 => ?_)
  refine tKv ?_
  refine tSt (l := xk_132) rfl rfl (fun _ _ _ _ _ => rfl) (Nat.le_of_ble_eq_true rfl) ?_
  refine tK (l := xk_132) rfl rfl (fun _ _ _ _ _ => rfl) ?_
  refine tK (l := xk_132) rfl rfl (fun _ _ _ _ _ => rfl) ?_
  refine tIc_le (l := xk_132) (pc' := 28) rfl rfl rfl (fun hc => ?_) (fun hc => ?_)
  · refine tTh (l := xk_132) rfl rfl (fun _ _ _ _ _ => rfl) ?_
    exact hQ ph0 k0 g0.cl
  · exfalso; omega
theorem c132 (h : hKl zs ph c) {n : Nat} {v : List Int} (hn : n < 8) (hv : c.2.1.1 n = some v) (hv24 : v.length ≤ 24) (hokv : oks v) (hf : (esc v).length ≤ 24) (hQ : ∀ ph2, hKl zs ph2 (ndo c (setV c.2.1 n (some (esc v)))) → hFd clP ph ph2 → Q (.inl (some (.inl ((esc v).length : Int))), ph2, g)) : xTC (d + 6) 132 [.inr (.inl (some 1)), .inl (n : Int)] ph g Q := by
  have hs := h.1
  refine tEn (ls := [some (.inr (.inl (some 1))), some (.inl (n : Int)), none]) (fun k => by match k with | 0 => rfl | 1 => rfl | 2 => rfl | k + 3 => rfl) ?_
  refine tK (l := xk_132) rfl rfl (fun _ _ _ _ _ => rfl) ?_
  refine tK (l := xk_132) rfl rfl (fun _ _ _ _ _ => rfl) ?_
  refine tCa (l := xk_132) rfl rfl (hInvV (c := 9) hs rfl rfl rfl rfl rfl (Nat.le_of_ble_eq_true rfl) (Nat.le_of_ble_eq_true rfl)) ?_
  refine s110 h hn hv ?_
  refine tKv ?_
  refine tK (l := xk_132) rfl rfl (fun _ _ _ _ _ => rfl) ?_
  refine tK (l := xk_132) rfl rfl (fun _ _ _ _ _ => rfl) ?_
  refine tK (l := xk_132) rfl rfl (fun _ _ _ _ _ => rfl) ?_
  refine tCa (l := xk_132) rfl rfl (hInvV (c := 9) hs rfl rfl rfl rfl rfl (Nat.le_of_ble_eq_true rfl) (Nat.le_of_ble_eq_true rfl)) ?_
  refine s112 h hn hv hv24 hokv (fun ph0 k0 t0 g0 => ?_)
  refine tKv ?_
  refine tSt (l := xk_132) rfl rfl (fun _ _ _ _ _ => rfl) (Nat.le_of_ble_eq_true rfl) ?_
  refine tK (l := xk_132) rfl rfl (fun _ _ _ _ _ => rfl) ?_
  refine tK (l := xk_132) rfl rfl (fun _ _ _ _ _ => rfl) ?_
  refine tIc_le (l := xk_132) (pc' := 28) rfl rfl rfl (fun hc => ?_) (fun hc => ?_)
  · exfalso; omega
  · refine tK (l := xk_132) rfl rfl (fun _ _ _ _ _ => rfl) ?_
    refine tK (l := xk_132) rfl rfl (hGetR (o := some 91) k0.1 rfl rfl rfl (by decide) (by decide) rfl) ?_
    refine tK (l := xk_132) rfl rfl (fun _ _ _ _ _ => rfl) ?_
    refine tK (l := xk_132) rfl rfl (hGetR (o := some 73) k0.1 rfl rfl rfl (by decide) (by decide) rfl) ?_
    refine tCa (l := xk_132) rfl rfl (hInvV (c := 2) k0.1 rfl rfl rfl rfl rfl (Nat.le_of_ble_eq_true rfl) (Nat.le_of_ble_eq_true rfl)) ?_
    refine s23k k0 (fun ph1 k1 f1 => ?_)
    refine tKn ?_
    have g1 : hFd clP ph0 ph1 := f1.mono (fun a ha => by unfold clP; omega)
    obtain ⟨w1, t1⟩ := k1.val hn
    have t5 : hTo ph1 5 0 = some (esc v) := (f1.to (by omega) (by omega)).trans t0
    refine tK (l := xk_132) rfl rfl (fun _ _ _ _ _ => rfl) ?_
    refine tK (l := xk_132) rfl rfl (hGetR (o := some 73) k1.1 rfl rfl rfl (by decide) (by decide) rfl) ?_
    refine tK (l := xk_132) rfl rfl (hGetR (o := some 74) k1.1 rfl rfl rfl (by decide) (by decide) rfl) ?_
    refine tK (l := xk_132) rfl rfl (fun _ _ _ _ _ => rfl) ?_
    refine tK (l := xk_132) rfl rfl (fun _ _ _ _ _ => rfl) ?_
    refine tK (l := xk_132) rfl rfl (hGetR (o := some 5) k1.1 rfl rfl rfl (by decide) (by decide) rfl) ?_
    refine tK (l := xk_132) rfl rfl (fun _ _ _ _ _ => rfl) ?_
    refine tCa (l := xk_132) rfl rfl (hInvV (c := 8) k1.1 rfl rfl rfl rfl rfl (Nat.le_of_ble_eq_true rfl) (Nat.le_of_ble_eq_true rfl)) ?_
    refine a78 (t := 74) (f := 5) (q := 0) k1.1 rfl rfl w1 k1.2.2.1.1 (by have := hRw74; omega) (by decide) t5 (fun s9 e9 => by cases e9; have := hRw74; omega) (fun ph2 t2 => ?_)
    refine tKn ?_
    obtain ⟨k2, g2⟩ := k1.setv hn t2
    refine tK (l := xk_132) rfl rfl (fun _ _ _ _ _ => rfl) ?_
    refine tRt (l := xk_132) rfl rfl (fun _ _ _ _ _ => rfl) ?_
    exact hQ ph2 k2 ((g0.cl.trans g1).trans g2)
theorem s134ox (h : hKl zs ph c) {n : Nat} (hf : 24 < c.2.1.2.1.1.length) (hQ : Q (.inr 1, ph, g + 1)) : xTC (d + 6) 134 [.inr (.inl (some 1)), .inl (n : Int), .inr (.inl (some 78))] ph g Q := by
  have hs := h.1
  refine tEn (ls := [some (.inr (.inl (some 1))), some (.inl (n : Int)), some (.inr (.inl (some 78))), none]) (fun k => by match k with | 0 => rfl | 1 => rfl | 2 => rfl | 3 => rfl | k + 4 => rfl) ?_
  refine tK (l := xk_134) rfl rfl (fun _ _ _ _ _ => rfl) ?_
  refine tK (l := xk_134) rfl rfl (fun _ _ _ _ _ => rfl) ?_
  refine tCa (l := xk_134) rfl rfl (hInvV (c := 8) hs rfl rfl rfl rfl rfl (Nat.le_of_ble_eq_true rfl) (Nat.le_of_ble_eq_true rfl)) ?_
  refine a75 (r := 0) hs rfl h.oc.1 (by decide) h.oc.2.1 ?_
  refine tKv ?_
  simp only [hLo]
  refine tSt (l := xk_134) rfl rfl (fun _ _ _ _ _ => rfl) (Nat.le_of_ble_eq_true rfl) ?_
  refine tK (l := xk_134) rfl rfl (fun _ _ _ _ _ => rfl) ?_
  refine tK (l := xk_134) rfl rfl (fun _ _ _ _ _ => rfl) ?_
  refine tIc_le (l := xk_134) (pc' := 23) rfl rfl rfl (fun hc => ?_) (fun hc => ?_)
  · refine tTh (l := xk_134) rfl rfl (fun _ _ _ _ _ => rfl) ?_
    exact hQ
  · exfalso; omega
theorem s134o (h : hKl zs ph c) {n : Nat} (hn : n < 8) (hf : c.2.1.2.1.1.length ≤ 24) (hQ : ∀ ph2, hKl zs ph2 (ndo c (setV c.2.1 n (some c.2.1.2.1.1))) → hFd clP ph ph2 → Q (.inl (some (.inl (c.2.1.2.1.1.length : Int))), ph2, g)) : xTC (d + 6) 134 [.inr (.inl (some 1)), .inl (n : Int), .inr (.inl (some 78))] ph g Q := by
  have hs := h.1
  refine tEn (ls := [some (.inr (.inl (some 1))), some (.inl (n : Int)), some (.inr (.inl (some 78))), none]) (fun k => by match k with | 0 => rfl | 1 => rfl | 2 => rfl | 3 => rfl | k + 4 => rfl) ?_
  refine tK (l := xk_134) rfl rfl (fun _ _ _ _ _ => rfl) ?_
  refine tK (l := xk_134) rfl rfl (fun _ _ _ _ _ => rfl) ?_
  refine tCa (l := xk_134) rfl rfl (hInvV (c := 8) hs rfl rfl rfl rfl rfl (Nat.le_of_ble_eq_true rfl) (Nat.le_of_ble_eq_true rfl)) ?_
  refine a75 (r := 0) hs rfl h.oc.1 (by decide) h.oc.2.1 ?_
  refine tKv ?_
  simp only [hLo]
  refine tSt (l := xk_134) rfl rfl (fun _ _ _ _ _ => rfl) (Nat.le_of_ble_eq_true rfl) ?_
  refine tK (l := xk_134) rfl rfl (fun _ _ _ _ _ => rfl) ?_
  refine tK (l := xk_134) rfl rfl (fun _ _ _ _ _ => rfl) ?_
  refine tIc_le (l := xk_134) (pc' := 23) rfl rfl rfl (fun hc => ?_) (fun hc => ?_)
  · exfalso; omega
  · refine tK (l := xk_134) rfl rfl (fun _ _ _ _ _ => rfl) ?_
    refine tK (l := xk_134) rfl rfl (hGetR (o := some 91) hs rfl rfl rfl (by decide) (by decide) rfl) ?_
    refine tK (l := xk_134) rfl rfl (fun _ _ _ _ _ => rfl) ?_
    refine tK (l := xk_134) rfl rfl (hGetR (o := some 73) hs rfl rfl rfl (by decide) (by decide) rfl) ?_
    refine tCa (l := xk_134) rfl rfl (hInvV (c := 2) hs rfl rfl rfl rfl rfl (Nat.le_of_ble_eq_true rfl) (Nat.le_of_ble_eq_true rfl)) ?_
    refine s23k h (fun ph1 k1 f1 => ?_)
    refine tKn ?_
    have g1 : hFd clP ph ph1 := f1.mono (fun a ha => by unfold clP; omega)
    obtain ⟨w1, t1⟩ := k1.val hn
    refine tK (l := xk_134) rfl rfl (fun _ _ _ _ _ => rfl) ?_
    refine tK (l := xk_134) rfl rfl (hGetR (o := some 73) k1.1 rfl rfl rfl (by decide) (by decide) rfl) ?_
    refine tK (l := xk_134) rfl rfl (hGetR (o := some 74) k1.1 rfl rfl rfl (by decide) (by decide) rfl) ?_
    refine tK (l := xk_134) rfl rfl (fun _ _ _ _ _ => rfl) ?_
    refine tK (l := xk_134) rfl rfl (fun _ _ _ _ _ => rfl) ?_
    refine tK (l := xk_134) rfl rfl (fun _ _ _ _ _ => rfl) ?_
    refine tCa (l := xk_134) rfl rfl (hInvV (c := 8) k1.1 rfl rfl rfl rfl rfl (Nat.le_of_ble_eq_true rfl) (Nat.le_of_ble_eq_true rfl)) ?_
    refine a78 (t := 74) (f := 78) (q := 0) k1.1 rfl rfl w1 k1.oc.1 (by have := hRw74; omega) (by decide) k1.oc.2.1 (fun s9 e9 => by cases e9; have := hRw74; show c.2.1.2.1.1.length ≤ hWd 74; omega) (fun ph2 t2 => ?_)
    refine tKn ?_
    obtain ⟨k2, g2⟩ := k1.setv hn t2
    refine tK (l := xk_134) rfl rfl (fun _ _ _ _ _ => rfl) ?_
    refine tRt (l := xk_134) rfl rfl (fun _ _ _ _ _ => rfl) ?_
    exact hQ ph2 k2 (g1.trans g2)
theorem c133x (h : hKl zs ph c) {x : Int} (hx : ¬ (0 ≤ x ∧ x < 8)) (hQ : Q (.inr 2, ph, g + 1)) : xTC (d + 1) 133 [.inr (.inl (some 1)), .inl x] ph g Q := by
  have hs := h.1
  refine tEn (ls := [some (.inr (.inl (some 1))), some (.inl x)]) (fun k => by match k with | 0 => rfl | 1 => rfl | k + 2 => rfl) ?_
  refine tK (l := xk_133) rfl rfl (fun _ _ _ _ _ => rfl) ?_
  refine tCa (l := xk_133) rfl rfl (hInvS rfl rfl rfl rfl (Nat.le_of_ble_eq_true rfl) (Nat.le_of_ble_eq_true rfl)) ?_
  refine s108x hx ?_
  refine tKx rfl ?_
  exact hQ
theorem c133n (h : hKl zs ph c) {n : Nat} (hn : n < 8) (hf : 24 < c.2.1.2.1.1.length) (hQ : Q (.inr 1, ph, g + 1)) : xTC (d + 7) 133 [.inr (.inl (some 1)), .inl (n : Int)] ph g Q := by
  have hs := h.1
  refine tEn (ls := [some (.inr (.inl (some 1))), some (.inl (n : Int))]) (fun k => by match k with | 0 => rfl | 1 => rfl | k + 2 => rfl) ?_
  refine tK (l := xk_133) rfl rfl (fun _ _ _ _ _ => rfl) ?_
  refine tCa (l := xk_133) rfl rfl (hInvS rfl rfl rfl rfl (Nat.le_of_ble_eq_true rfl) (Nat.le_of_ble_eq_true rfl)) ?_
  refine s108 hn ?_
  refine tKn ?_
  refine tK (l := xk_133) rfl rfl (fun _ _ _ _ _ => rfl) ?_
  refine tK (l := xk_133) rfl rfl (fun _ _ _ _ _ => rfl) ?_
  refine tK (l := xk_133) rfl rfl (fun _ _ _ _ _ => rfl) ?_
  refine tK (l := xk_133) rfl rfl (hGetR (o := some 73) hs rfl rfl rfl (by decide) (by decide) rfl) ?_
  refine tK (l := xk_133) rfl rfl (hGetR (o := some 77) hs rfl rfl rfl (by decide) (by decide) rfl) ?_
  refine tK (l := xk_133) rfl rfl (hGetR (o := some 78) hs rfl rfl rfl (by decide) (by decide) rfl) ?_
  refine tCa (l := xk_133) rfl rfl (hInvV (c := 9) hs rfl rfl rfl rfl rfl (Nat.le_of_ble_eq_true rfl) (Nat.le_of_ble_eq_true rfl)) ?_
  refine s134ox h hf ?_
  refine tKx rfl ?_
  exact hQ
theorem c133 (h : hKl zs ph c) {n : Nat} (hn : n < 8) (hf : c.2.1.2.1.1.length ≤ 24) (hQ : ∀ ph2, hKl zs ph2 (ndo c (setV c.2.1 n (some c.2.1.2.1.1))) → hFd clP ph ph2 → Q (.inl (some (.inl (c.2.1.2.1.1.length : Int))), ph2, g)) : xTC (d + 7) 133 [.inr (.inl (some 1)), .inl (n : Int)] ph g Q := by
  have hs := h.1
  refine tEn (ls := [some (.inr (.inl (some 1))), some (.inl (n : Int))]) (fun k => by match k with | 0 => rfl | 1 => rfl | k + 2 => rfl) ?_
  refine tK (l := xk_133) rfl rfl (fun _ _ _ _ _ => rfl) ?_
  refine tCa (l := xk_133) rfl rfl (hInvS rfl rfl rfl rfl (Nat.le_of_ble_eq_true rfl) (Nat.le_of_ble_eq_true rfl)) ?_
  refine s108 hn ?_
  refine tKn ?_
  refine tK (l := xk_133) rfl rfl (fun _ _ _ _ _ => rfl) ?_
  refine tK (l := xk_133) rfl rfl (fun _ _ _ _ _ => rfl) ?_
  refine tK (l := xk_133) rfl rfl (fun _ _ _ _ _ => rfl) ?_
  refine tK (l := xk_133) rfl rfl (hGetR (o := some 73) hs rfl rfl rfl (by decide) (by decide) rfl) ?_
  refine tK (l := xk_133) rfl rfl (hGetR (o := some 77) hs rfl rfl rfl (by decide) (by decide) rfl) ?_
  refine tK (l := xk_133) rfl rfl (hGetR (o := some 78) hs rfl rfl rfl (by decide) (by decide) rfl) ?_
  refine tCa (l := xk_133) rfl rfl (hInvV (c := 9) hs rfl rfl rfl rfl rfl (Nat.le_of_ble_eq_true rfl) (Nat.le_of_ble_eq_true rfl)) ?_
  refine s134o h hn hf (fun ph2 k2 f2 => ?_)
  refine tKv ?_
  refine tRt (l := xk_133) rfl rfl (fun _ _ _ _ _ => rfl) ?_
  exact hQ ph2 k2 f2
theorem s134bx (h : hKl zs ph c) {n : Nat} (hf : 24 < c.1.length) (hQ : Q (.inr 1, ph, g + 1)) : xTC (d + 6) 134 [.inr (.inl (some 1)), .inl (n : Int), .inr (.inl (some 2))] ph g Q := by
  have hs := h.1
  refine tEn (ls := [some (.inr (.inl (some 1))), some (.inl (n : Int)), some (.inr (.inl (some 2))), none]) (fun k => by match k with | 0 => rfl | 1 => rfl | 2 => rfl | 3 => rfl | k + 4 => rfl) ?_
  refine tK (l := xk_134) rfl rfl (fun _ _ _ _ _ => rfl) ?_
  refine tK (l := xk_134) rfl rfl (fun _ _ _ _ _ => rfl) ?_
  refine tCa (l := xk_134) rfl rfl (hInvV (c := 8) hs rfl rfl rfl rfl rfl (Nat.le_of_ble_eq_true rfl) (Nat.le_of_ble_eq_true rfl)) ?_
  refine a75 (r := 0) hs rfl h.2.1.1 (by decide) h.2.1.2 ?_
  refine tKv ?_
  simp only [hLo]
  refine tSt (l := xk_134) rfl rfl (fun _ _ _ _ _ => rfl) (Nat.le_of_ble_eq_true rfl) ?_
  refine tK (l := xk_134) rfl rfl (fun _ _ _ _ _ => rfl) ?_
  refine tK (l := xk_134) rfl rfl (fun _ _ _ _ _ => rfl) ?_
  refine tIc_le (l := xk_134) (pc' := 23) rfl rfl rfl (fun hc => ?_) (fun hc => ?_)
  · refine tTh (l := xk_134) rfl rfl (fun _ _ _ _ _ => rfl) ?_
    exact hQ
  · exfalso; omega
theorem s134b (h : hKl zs ph c) {n : Nat} (hn : n < 8) (hf : c.1.length ≤ 24) (hQ : ∀ ph2, hKl zs ph2 (ndo c (setV c.2.1 n (some c.1))) → hFd clP ph ph2 → Q (.inl (some (.inl (c.1.length : Int))), ph2, g)) : xTC (d + 6) 134 [.inr (.inl (some 1)), .inl (n : Int), .inr (.inl (some 2))] ph g Q := by
  have hs := h.1
  refine tEn (ls := [some (.inr (.inl (some 1))), some (.inl (n : Int)), some (.inr (.inl (some 2))), none]) (fun k => by match k with | 0 => rfl | 1 => rfl | 2 => rfl | 3 => rfl | k + 4 => rfl) ?_
  refine tK (l := xk_134) rfl rfl (fun _ _ _ _ _ => rfl) ?_
  refine tK (l := xk_134) rfl rfl (fun _ _ _ _ _ => rfl) ?_
  refine tCa (l := xk_134) rfl rfl (hInvV (c := 8) hs rfl rfl rfl rfl rfl (Nat.le_of_ble_eq_true rfl) (Nat.le_of_ble_eq_true rfl)) ?_
  refine a75 (r := 0) hs rfl h.2.1.1 (by decide) h.2.1.2 ?_
  refine tKv ?_
  simp only [hLo]
  refine tSt (l := xk_134) rfl rfl (fun _ _ _ _ _ => rfl) (Nat.le_of_ble_eq_true rfl) ?_
  refine tK (l := xk_134) rfl rfl (fun _ _ _ _ _ => rfl) ?_
  refine tK (l := xk_134) rfl rfl (fun _ _ _ _ _ => rfl) ?_
  refine tIc_le (l := xk_134) (pc' := 23) rfl rfl rfl (fun hc => ?_) (fun hc => ?_)
  · exfalso; omega
  · refine tK (l := xk_134) rfl rfl (fun _ _ _ _ _ => rfl) ?_
    refine tK (l := xk_134) rfl rfl (hGetR (o := some 91) hs rfl rfl rfl (by decide) (by decide) rfl) ?_
    refine tK (l := xk_134) rfl rfl (fun _ _ _ _ _ => rfl) ?_
    refine tK (l := xk_134) rfl rfl (hGetR (o := some 73) hs rfl rfl rfl (by decide) (by decide) rfl) ?_
    refine tCa (l := xk_134) rfl rfl (hInvV (c := 2) hs rfl rfl rfl rfl rfl (Nat.le_of_ble_eq_true rfl) (Nat.le_of_ble_eq_true rfl)) ?_
    refine s23k h (fun ph1 k1 f1 => ?_)
    refine tKn ?_
    have g1 : hFd clP ph ph1 := f1.mono (fun a ha => by unfold clP; omega)
    obtain ⟨w1, t1⟩ := k1.val hn
    refine tK (l := xk_134) rfl rfl (fun _ _ _ _ _ => rfl) ?_
    refine tK (l := xk_134) rfl rfl (hGetR (o := some 73) k1.1 rfl rfl rfl (by decide) (by decide) rfl) ?_
    refine tK (l := xk_134) rfl rfl (hGetR (o := some 74) k1.1 rfl rfl rfl (by decide) (by decide) rfl) ?_
    refine tK (l := xk_134) rfl rfl (fun _ _ _ _ _ => rfl) ?_
    refine tK (l := xk_134) rfl rfl (fun _ _ _ _ _ => rfl) ?_
    refine tK (l := xk_134) rfl rfl (fun _ _ _ _ _ => rfl) ?_
    refine tCa (l := xk_134) rfl rfl (hInvV (c := 8) k1.1 rfl rfl rfl rfl rfl (Nat.le_of_ble_eq_true rfl) (Nat.le_of_ble_eq_true rfl)) ?_
    refine a78 (t := 74) (f := 2) (q := 0) k1.1 rfl rfl w1 k1.2.1.1 (by have := hRw74; omega) (by decide) k1.2.1.2 (fun s9 e9 => by cases e9; have := hRw74; show c.1.length ≤ hWd 74; omega) (fun ph2 t2 => ?_)
    refine tKn ?_
    obtain ⟨k2, g2⟩ := k1.setv hn t2
    refine tK (l := xk_134) rfl rfl (fun _ _ _ _ _ => rfl) ?_
    refine tRt (l := xk_134) rfl rfl (fun _ _ _ _ _ => rfl) ?_
    exact hQ ph2 k2 (g1.trans g2)
theorem c135x (h : hKl zs ph c) {x : Int} (hx : ¬ (0 ≤ x ∧ x < 8)) (hQ : Q (.inr 2, ph, g + 1)) : xTC (d + 1) 135 [.inr (.inl (some 1)), .inl x] ph g Q := by
  have hs := h.1
  refine tEn (ls := [some (.inr (.inl (some 1))), some (.inl x)]) (fun k => by match k with | 0 => rfl | 1 => rfl | k + 2 => rfl) ?_
  refine tK (l := xk_135) rfl rfl (fun _ _ _ _ _ => rfl) ?_
  refine tCa (l := xk_135) rfl rfl (hInvS rfl rfl rfl rfl (Nat.le_of_ble_eq_true rfl) (Nat.le_of_ble_eq_true rfl)) ?_
  refine s108x hx ?_
  refine tKx rfl ?_
  exact hQ
theorem c135n (h : hKl zs ph c) {n : Nat} (hn : n < 8) (hf : 24 < c.1.length) (hQ : Q (.inr 1, ph, g + 1)) : xTC (d + 7) 135 [.inr (.inl (some 1)), .inl (n : Int)] ph g Q := by
  have hs := h.1
  refine tEn (ls := [some (.inr (.inl (some 1))), some (.inl (n : Int))]) (fun k => by match k with | 0 => rfl | 1 => rfl | k + 2 => rfl) ?_
  refine tK (l := xk_135) rfl rfl (fun _ _ _ _ _ => rfl) ?_
  refine tCa (l := xk_135) rfl rfl (hInvS rfl rfl rfl rfl (Nat.le_of_ble_eq_true rfl) (Nat.le_of_ble_eq_true rfl)) ?_
  refine s108 hn ?_
  refine tKn ?_
  refine tK (l := xk_135) rfl rfl (fun _ _ _ _ _ => rfl) ?_
  refine tK (l := xk_135) rfl rfl (fun _ _ _ _ _ => rfl) ?_
  refine tK (l := xk_135) rfl rfl (fun _ _ _ _ _ => rfl) ?_
  refine tK (l := xk_135) rfl rfl (hGetR (o := some 2) hs rfl rfl rfl (by decide) (by decide) rfl) ?_
  refine tCa (l := xk_135) rfl rfl (hInvV (c := 9) hs rfl rfl rfl rfl rfl (Nat.le_of_ble_eq_true rfl) (Nat.le_of_ble_eq_true rfl)) ?_
  refine s134bx h hf ?_
  refine tKx rfl ?_
  exact hQ
theorem c135 (h : hKl zs ph c) {n : Nat} (hn : n < 8) (hf : c.1.length ≤ 24) (hQ : ∀ ph2, hKl zs ph2 (ndo c (setV c.2.1 n (some c.1))) → hFd clP ph ph2 → Q (.inl (some (.inl (c.1.length : Int))), ph2, g)) : xTC (d + 7) 135 [.inr (.inl (some 1)), .inl (n : Int)] ph g Q := by
  have hs := h.1
  refine tEn (ls := [some (.inr (.inl (some 1))), some (.inl (n : Int))]) (fun k => by match k with | 0 => rfl | 1 => rfl | k + 2 => rfl) ?_
  refine tK (l := xk_135) rfl rfl (fun _ _ _ _ _ => rfl) ?_
  refine tCa (l := xk_135) rfl rfl (hInvS rfl rfl rfl rfl (Nat.le_of_ble_eq_true rfl) (Nat.le_of_ble_eq_true rfl)) ?_
  refine s108 hn ?_
  refine tKn ?_
  refine tK (l := xk_135) rfl rfl (fun _ _ _ _ _ => rfl) ?_
  refine tK (l := xk_135) rfl rfl (fun _ _ _ _ _ => rfl) ?_
  refine tK (l := xk_135) rfl rfl (fun _ _ _ _ _ => rfl) ?_
  refine tK (l := xk_135) rfl rfl (hGetR (o := some 2) hs rfl rfl rfl (by decide) (by decide) rfl) ?_
  refine tCa (l := xk_135) rfl rfl (hInvV (c := 9) hs rfl rfl rfl rfl rfl (Nat.le_of_ble_eq_true rfl) (Nat.le_of_ble_eq_true rfl)) ?_
  refine s134b h hn hf (fun ph2 k2 f2 => ?_)
  refine tKv ?_
  refine tRt (l := xk_135) rfl rfl (fun _ _ _ _ _ => rfl) ?_
  exact hQ ph2 k2 f2
end CL2
