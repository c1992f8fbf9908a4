/-! ===== ByParts.runPart, runList ===== -/
theorem pvF_sc (e : Bool) (k : Int) : ∀ (v : List Int) (s : RS), (pvF e k v s).1.1 = s.1 ∧ (pvF e k v s).1.2.1.length = s.2.1.length := by
  intro v
  induction v with
  | nil => intro s; exact ⟨rfl, rfl⟩
  | cons c cs ih =>
    intro s
    have two : ∀ s1 : RS, s1.1 = s.1 ∧ s1.2.1.length = s.2.1.length → (match prF c k s1 with
        | (s2, 0) => pvF e k cs s2
        | q => q).1.1 = s.1 ∧ (match prF c k s1 with
        | (s2, 0) => pvF e k cs s2
        | q => q).1.2.1.length = s.2.1.length := by
      intro s1 h1
      have h2 := prF_sc c k s1
      cases hp : prF c k s1 with | mk s2 r2 => ?_
      rw [hp] at h2
      cases r2 with
      | zero => exact ⟨(ih s2).1.trans (h2.1.trans h1.1), (ih s2).2.trans (h2.2.2.trans h1.2)⟩
      | succ r2 => exact ⟨h2.1.trans h1.1, h2.2.2.trans h1.2⟩
    cases he : (e && spc c) with
    | false => rw [pvF_cons he]; exact two s ⟨rfl, rfl⟩
    | true =>
      rw [pvF_conE he]
      have h2 := prF_sc 126 k s
      cases hp : prF 126 k s with | mk s2 r2 => ?_
      rw [hp] at h2
      cases r2 with
      | zero => exact two s2 ⟨h2.1, h2.2.2⟩
      | succ r2 => exact ⟨h2.1, h2.2.2⟩
section BYR
variable {d : Nat} {ph : xH} {zs : List xV} {g : Nat} {Q : xR → Prop} {L n j : Nat} {fs : List Fm}
theorem s2_0 {x y deep nm bh w e : Nat} {cd : Int} {rs : RS} (hb : hBR zs ph L fs rs deep) (hd : deep ≤ 32) (hp : (pPs (cT fs))[j]? = some (0, x, cd, nm, bh)) (hq : bh ≤ (pPs (cT fs)).length) (hx : cX fs = x) (hd5 : 5 * deep + (y - x) ≤ 60 + 25 * L) (hsim : hSim (cT fs) x 0 cd nm w) (hy : y = x + w) (hUn : ∀ ph2 r, unB zs L (RU fs rs) rs.1.length fs x ph ph2 r → Q (.inl (some (.inl (r : Int))), ph2, g)) (hOk : ∀ ph2 rs2, okB zs L (RU fs rs) fs y rs ph ph2 rs2 → Q (.inl (some (.inl 0)), ph2, g)) (hBad : ∀ ph2 r, badB zs L (RU fs rs) rs.1.length ph ph2 r → Q (.inl (some (.inl (r : Int))), ph2, g)) : xTC (d + 5) 2 [.inr (.inl (some 56)), .inr (.inl (some (36 - 7 * L))), .inl (j : Int), .inl (deep : Int)] ph g Q := by
  obtain ⟨b1, b2, b3, hpp, b5, b6, b7, b8, b9, b10, b11, b12, b13, b14⟩ := id hb
  have hs := b1.1.1
  have ht := (hTgL b12).1
  have hj := (List.getElem?_eq_some_iff.mp hp).1
  have hl := hpp.2.1
  subst hx
  have hw : w = 1 ∧ (cT fs)[cX fs]? = some cd := by rcases hsim with q | q | q | q <;> first | exact ⟨q.2.1, q.2.2.1⟩ | exact absurd q.1 (by decide)
  have hcc := b14 cd (List.mem_of_getElem? hw.2)
  have hle : True := trivial
  obtain ⟨sc, stg, ou, st, pl, es, vl⟩ := rs
  have hst9 := b1.2.2.2.2.2.2.2.2.1
  simp only at hst9
  refine tEn (ls := [some (.inr (.inl (some 56))), some (.inr (.inl (some (36 - 7 * L)))), some (.inl (j : Int)), some (.inl (deep : Int)), none, none]) (fun k => by match k with | 0 => rfl | 1 => rfl | 2 => rfl | 3 => rfl | 4 => rfl | 5 => rfl | k + 6 => rfl) ?_
  by_cases hst : st = 200
  · refine tK (l := xk_2) rfl rfl (fun _ _ _ _ _ => rfl) ?_
    refine tK (l := xk_2) rfl rfl (hGetR (o := some 43) hs rfl rfl rfl (by decide) (by decide) rfl) ?_
    refine tCa (l := xk_2) rfl rfl (hInvV (c := 4) hs rfl rfl rfl rfl rfl (Nat.le_of_ble_eq_true rfl) (Nat.le_of_ble_eq_true rfl)) ?_
    refine s34f b1 hst ?_
    refine tKv ?_
    refine tSt (l := xk_2) rfl rfl (fun _ _ _ _ _ => rfl) (Nat.le_of_ble_eq_true rfl) ?_
    refine tK (l := xk_2) rfl rfl (fun _ _ _ _ _ => rfl) ?_
    refine tIf_eq (l := xk_2) (pc' := 17) rfl rfl rfl (fun hc => ?_) (fun hc => ?_)
    · exact absurd hc (by decide)
    · refine tK (l := xk_2) rfl rfl (fun _ _ _ _ _ => rfl) ?_
      refine tRt (l := xk_2) rfl rfl (fun _ _ _ _ _ => rfl) ?_
      exact hUn ph 3 ⟨by decide, (sc, stg, ou, st, pl, es, vl), (sc, stg, ou, st, pl, es, vl), Rn.one (Or.inl ⟨fs, (sc, stg, ou, st, pl, es, vl), 0, cd, nm, rfl, b2, Or.inl ⟨w, hsim⟩, Or.inl ⟨hst, rfl⟩⟩), b1, rfl, rfl, b6, hFd.refl, fun _ _ => rfl⟩
  · refine tK (l := xk_2) rfl rfl (fun _ _ _ _ _ => rfl) ?_
    refine tK (l := xk_2) rfl rfl (hGetR (o := some 43) hs rfl rfl rfl (by decide) (by decide) rfl) ?_
    refine tCa (l := xk_2) rfl rfl (hInvV (c := 4) hs rfl rfl rfl rfl rfl (Nat.le_of_ble_eq_true rfl) (Nat.le_of_ble_eq_true rfl)) ?_
    refine s34 b1 (by omega) (fun ph1 r1 f1 => ?_)
    refine tKv ?_
    have u1 := r1.1.1
    have g1 : hFd (bP L) ph ph1 := f1.1.fd (by intro a ha; simp only [List.mem_cons, List.not_mem_nil, or_false] at ha; unfold bP; omega)
    have e443 : h43 ph1 := b6.f4 f1
    have hpp1 := hpp.fr2 b12 g1
    have hb1 : hBR zs ph1 L fs (sc, stg, ou, st + 1, pl, es, vl) deep := hb.re r1 g1 (fun k hk => f1.1.at (by decide) k) e443 rfl rfl
    have hps : ∀ d, PSim fs (cX fs) 0 cd nm (sc, stg, ou, st + 1, pl, es, vl) d → Rn (RU fs (sc, stg, ou, st, pl, es, vl)) d := fun d hd9 => Rn.one (Or.inl ⟨fs, (sc, stg, ou, st, pl, es, vl), 0, cd, nm, rfl, b2, Or.inl ⟨w, hsim⟩, Or.inr (Or.inl ⟨by show st < 200; omega, ⟨w, hsim⟩, hd9⟩)⟩)
    refine tSt (l := xk_2) rfl rfl (fun _ _ _ _ _ => rfl) (Nat.le_of_ble_eq_true rfl) ?_
    refine tK (l := xk_2) rfl rfl (fun _ _ _ _ _ => rfl) ?_
    refine tIf_eq (l := xk_2) (pc' := 17) rfl rfl rfl (fun hc => ?_) (fun hc => ?_)
    · refine tK (l := xk_2) rfl rfl (fun _ _ _ _ _ => rfl) ?_
      refine tK (l := xk_2) rfl rfl (fun _ _ _ _ _ => rfl) ?_
      refine tCa (l := xk_2) rfl rfl (hInvV (c := 7) u1 rfl rfl rfl ht rfl (Nat.le_of_ble_eq_true rfl) (Nat.le_of_ble_eq_true rfl)) ?_
      refine s64 u1 ht hpp1 hp ?_
      refine tKv ?_
      refine tSt (l := xk_2) rfl rfl (fun _ _ _ _ _ => rfl) (Nat.le_of_ble_eq_true rfl) ?_
      refine tK (l := xk_2) rfl rfl (fun _ _ _ _ _ => rfl) ?_
      refine tK (l := xk_2) (pc' := 111) rfl rfl (fun _ _ _ _ _ => rfl) ?_
      refine tK (l := xk_2) rfl rfl (fun _ _ _ _ _ => rfl) ?_
      refine tK (l := xk_2) rfl rfl (hGetR (o := some 43) u1 rfl rfl rfl (by decide) (by decide) rfl) ?_
      refine tK (l := xk_2) rfl rfl (fun _ _ _ _ _ => rfl) ?_
      refine tK (l := xk_2) rfl rfl (fun _ _ _ _ _ => rfl) ?_
      refine tCa (l := xk_2) rfl rfl (hInvV (c := 7) u1 rfl rfl rfl ht rfl (Nat.le_of_ble_eq_true rfl) (Nat.le_of_ble_eq_true rfl)) ?_
      refine s68 u1 ht hpp1 hp ?_
      refine tKv ?_
      refine tK (l := xk_2) rfl rfl (fun _ _ _ _ _ => rfl) ?_
      refine tCa (l := xk_2) rfl rfl (hInvV (c := 4) u1 rfl rfl rfl rfl rfl (Nat.le_of_ble_eq_true rfl) (Nat.le_of_ble_eq_true rfl)) ?_
      refine s36 (c := cd) (k := (0 : Int)) r1 hcc (fun ph2 r2 f2 => ?_)
      refine tKv ?_
      have hsc5 : (prF cd (0 : Int) (sc, stg, ou, st + 1, pl, es, vl)).1.1 = sc ∧ (prF cd (0 : Int) (sc, stg, ou, st + 1, pl, es, vl)).1.2.1.length = stg.length := ⟨(prF_sc cd (0 : Int) (sc, stg, ou, st + 1, pl, es, vl)).1, (prF_sc cd (0 : Int) (sc, stg, ou, st + 1, pl, es, vl)).2.2⟩
      refine tRt (l := xk_2) rfl rfl (fun _ _ _ _ _ => rfl) ?_
      have gz : hFd (bP L) ph1 ph2 := f2.1.fd (by intro a ha; simp only [List.mem_cons, List.not_mem_nil, or_false] at ha; unfold bP; omega)
      cases hq2 : prF cd (0 : Int) (sc, stg, ou, st + 1, pl, es, vl) with | mk s5 r5 => ?_
      rw [hq2] at r2
      simp only [hq2] at hsc5 ⊢
      cases r5 with
      | zero => exact hOk ph2 s5 ⟨r2, by have h9 : Rn (RU fs (sc, stg, ou, st, pl, es, vl)) (oP fs (cX fs) (cX fs + 1 + 0) (prF cd (0 : Int) (sc, stg, ou, st + 1, pl, es, vl))) := hps _ (Or.inl ⟨by decide, rfl⟩); unfold oP at h9; rw [hq2, if_pos rfl] at h9; rw [hy, hw.1]; exact h9, g1.trans gz, e443.f4 f2, by rw [hsc5.1], hsc5.2, fun r hr => by rw [f2.to (by decide) (by decide)]; exact f1.to (by decide) (by decide), fun k hk => by rw [f2.1.at (by decide)]; exact f1.1.at (by decide) k⟩
      | succ r5 => exact hUn ph2 (r5 + 1) ⟨by omega, s5, s5, by have h9 : Rn (RU fs (sc, stg, ou, st, pl, es, vl)) (oP fs (cX fs) (cX fs + 1 + 0) (prF cd (0 : Int) (sc, stg, ou, st + 1, pl, es, vl))) := hps _ (Or.inl ⟨by decide, rfl⟩); unfold oP at h9; rw [hq2, if_neg (by simp)] at h9; exact h9, r2, by rw [hsc5.1], rfl, e443.f4 f2, g1.trans gz, fun k hk => by rw [f2.1.at (by decide)]; exact f1.1.at (by decide) k⟩
    · exact absurd rfl hc
theorem s2_1 {x y deep nm bh w e : Nat} {cd : Int} {rs : RS} (hb : hBR zs ph L fs rs deep) (hd : deep ≤ 32) (hp : (pPs (cT fs))[j]? = some (1, x, cd, nm, bh)) (hq : bh ≤ (pPs (cT fs)).length) (hx : cX fs = x) (hd5 : 5 * deep + (y - x) ≤ 60 + 25 * L) (hsim : hSim (cT fs) x 1 cd nm w) (hy : y = x + w) (hUn : ∀ ph2 r, unB zs L (RU fs rs) rs.1.length fs x ph ph2 r → Q (.inl (some (.inl (r : Int))), ph2, g)) (hOk : ∀ ph2 rs2, okB zs L (RU fs rs) fs y rs ph ph2 rs2 → Q (.inl (some (.inl 0)), ph2, g)) (hBad : ∀ ph2 r, badB zs L (RU fs rs) rs.1.length ph ph2 r → Q (.inl (some (.inl (r : Int))), ph2, g)) : xTC (d + 5) 2 [.inr (.inl (some 56)), .inr (.inl (some (36 - 7 * L))), .inl (j : Int), .inl (deep : Int)] ph g Q := by
  obtain ⟨b1, b2, b3, hpp, b5, b6, b7, b8, b9, b10, b11, b12, b13, b14⟩ := id hb
  have hs := b1.1.1
  have ht := (hTgL b12).1
  have hj := (List.getElem?_eq_some_iff.mp hp).1
  have hl := hpp.2.1
  subst hx
  have hw : w = 2 ∧ (cT fs)[cX fs + 1]? = some cd := by rcases hsim with q | q | q | q <;> first | exact ⟨q.2.1, q.2.2.2⟩ | exact absurd q.1 (by decide)
  have hcc := b14 cd (List.mem_of_getElem? hw.2)
  have hle : True := trivial
  obtain ⟨sc, stg, ou, st, pl, es, vl⟩ := rs
  have hst9 := b1.2.2.2.2.2.2.2.2.1
  simp only at hst9
  refine tEn (ls := [some (.inr (.inl (some 56))), some (.inr (.inl (some (36 - 7 * L)))), some (.inl (j : Int)), some (.inl (deep : Int)), none, none]) (fun k => by match k with | 0 => rfl | 1 => rfl | 2 => rfl | 3 => rfl | 4 => rfl | 5 => rfl | k + 6 => rfl) ?_
  by_cases hst : st = 200
  · refine tK (l := xk_2) rfl rfl (fun _ _ _ _ _ => rfl) ?_
    refine tK (l := xk_2) rfl rfl (hGetR (o := some 43) hs rfl rfl rfl (by decide) (by decide) rfl) ?_
    refine tCa (l := xk_2) rfl rfl (hInvV (c := 4) hs rfl rfl rfl rfl rfl (Nat.le_of_ble_eq_true rfl) (Nat.le_of_ble_eq_true rfl)) ?_
    refine s34f b1 hst ?_
    refine tKv ?_
    refine tSt (l := xk_2) rfl rfl (fun _ _ _ _ _ => rfl) (Nat.le_of_ble_eq_true rfl) ?_
    refine tK (l := xk_2) rfl rfl (fun _ _ _ _ _ => rfl) ?_
    refine tIf_eq (l := xk_2) (pc' := 17) rfl rfl rfl (fun hc => ?_) (fun hc => ?_)
    · exact absurd hc (by decide)
    · refine tK (l := xk_2) rfl rfl (fun _ _ _ _ _ => rfl) ?_
      refine tRt (l := xk_2) rfl rfl (fun _ _ _ _ _ => rfl) ?_
      exact hUn ph 3 ⟨by decide, (sc, stg, ou, st, pl, es, vl), (sc, stg, ou, st, pl, es, vl), Rn.one (Or.inl ⟨fs, (sc, stg, ou, st, pl, es, vl), 1, cd, nm, rfl, b2, Or.inl ⟨w, hsim⟩, Or.inl ⟨hst, rfl⟩⟩), b1, rfl, rfl, b6, hFd.refl, fun _ _ => rfl⟩
  · refine tK (l := xk_2) rfl rfl (fun _ _ _ _ _ => rfl) ?_
    refine tK (l := xk_2) rfl rfl (hGetR (o := some 43) hs rfl rfl rfl (by decide) (by decide) rfl) ?_
    refine tCa (l := xk_2) rfl rfl (hInvV (c := 4) hs rfl rfl rfl rfl rfl (Nat.le_of_ble_eq_true rfl) (Nat.le_of_ble_eq_true rfl)) ?_
    refine s34 b1 (by omega) (fun ph1 r1 f1 => ?_)
    refine tKv ?_
    have u1 := r1.1.1
    have g1 : hFd (bP L) ph ph1 := f1.1.fd (by intro a ha; simp only [List.mem_cons, List.not_mem_nil, or_false] at ha; unfold bP; omega)
    have e443 : h43 ph1 := b6.f4 f1
    have hpp1 := hpp.fr2 b12 g1
    have hb1 : hBR zs ph1 L fs (sc, stg, ou, st + 1, pl, es, vl) deep := hb.re r1 g1 (fun k hk => f1.1.at (by decide) k) e443 rfl rfl
    have hps : ∀ d, PSim fs (cX fs) 1 cd nm (sc, stg, ou, st + 1, pl, es, vl) d → Rn (RU fs (sc, stg, ou, st, pl, es, vl)) d := fun d hd9 => Rn.one (Or.inl ⟨fs, (sc, stg, ou, st, pl, es, vl), 1, cd, nm, rfl, b2, Or.inl ⟨w, hsim⟩, Or.inr (Or.inl ⟨by show st < 200; omega, ⟨w, hsim⟩, hd9⟩)⟩)
    refine tSt (l := xk_2) rfl rfl (fun _ _ _ _ _ => rfl) (Nat.le_of_ble_eq_true rfl) ?_
    refine tK (l := xk_2) rfl rfl (fun _ _ _ _ _ => rfl) ?_
    refine tIf_eq (l := xk_2) (pc' := 17) rfl rfl rfl (fun hc => ?_) (fun hc => ?_)
    · refine tK (l := xk_2) rfl rfl (fun _ _ _ _ _ => rfl) ?_
      refine tK (l := xk_2) rfl rfl (fun _ _ _ _ _ => rfl) ?_
      refine tCa (l := xk_2) rfl rfl (hInvV (c := 7) u1 rfl rfl rfl ht rfl (Nat.le_of_ble_eq_true rfl) (Nat.le_of_ble_eq_true rfl)) ?_
      refine s64 u1 ht hpp1 hp ?_
      refine tKv ?_
      refine tSt (l := xk_2) rfl rfl (fun _ _ _ _ _ => rfl) (Nat.le_of_ble_eq_true rfl) ?_
      refine tK (l := xk_2) rfl rfl (fun _ _ _ _ _ => rfl) ?_
      refine tK (l := xk_2) (pc' := 111) rfl rfl (fun _ _ _ _ _ => rfl) ?_
      refine tK (l := xk_2) rfl rfl (fun _ _ _ _ _ => rfl) ?_
      refine tK (l := xk_2) rfl rfl (hGetR (o := some 43) u1 rfl rfl rfl (by decide) (by decide) rfl) ?_
      refine tK (l := xk_2) rfl rfl (fun _ _ _ _ _ => rfl) ?_
      refine tK (l := xk_2) rfl rfl (fun _ _ _ _ _ => rfl) ?_
      refine tCa (l := xk_2) rfl rfl (hInvV (c := 7) u1 rfl rfl rfl ht rfl (Nat.le_of_ble_eq_true rfl) (Nat.le_of_ble_eq_true rfl)) ?_
      refine s68 u1 ht hpp1 hp ?_
      refine tKv ?_
      refine tK (l := xk_2) rfl rfl (fun _ _ _ _ _ => rfl) ?_
      refine tCa (l := xk_2) rfl rfl (hInvV (c := 4) u1 rfl rfl rfl rfl rfl (Nat.le_of_ble_eq_true rfl) (Nat.le_of_ble_eq_true rfl)) ?_
      refine s36 (c := cd) (k := (1 : Int)) r1 hcc (fun ph2 r2 f2 => ?_)
      refine tKv ?_
      have hsc5 : (prF cd (1 : Int) (sc, stg, ou, st + 1, pl, es, vl)).1.1 = sc ∧ (prF cd (1 : Int) (sc, stg, ou, st + 1, pl, es, vl)).1.2.1.length = stg.length := ⟨(prF_sc cd (1 : Int) (sc, stg, ou, st + 1, pl, es, vl)).1, (prF_sc cd (1 : Int) (sc, stg, ou, st + 1, pl, es, vl)).2.2⟩
      refine tRt (l := xk_2) rfl rfl (fun _ _ _ _ _ => rfl) ?_
      have gz : hFd (bP L) ph1 ph2 := f2.1.fd (by intro a ha; simp only [List.mem_cons, List.not_mem_nil, or_false] at ha; unfold bP; omega)
      cases hq2 : prF cd (1 : Int) (sc, stg, ou, st + 1, pl, es, vl) with | mk s5 r5 => ?_
      rw [hq2] at r2
      simp only [hq2] at hsc5 ⊢
      cases r5 with
      | zero => exact hOk ph2 s5 ⟨r2, by have h9 : Rn (RU fs (sc, stg, ou, st, pl, es, vl)) (oP fs (cX fs) (cX fs + 1 + 1) (prF cd (1 : Int) (sc, stg, ou, st + 1, pl, es, vl))) := hps _ (Or.inl ⟨by decide, rfl⟩); unfold oP at h9; rw [hq2, if_pos rfl] at h9; rw [hy, hw.1]; exact h9, g1.trans gz, e443.f4 f2, by rw [hsc5.1], hsc5.2, fun r hr => by rw [f2.to (by decide) (by decide)]; exact f1.to (by decide) (by decide), fun k hk => by rw [f2.1.at (by decide)]; exact f1.1.at (by decide) k⟩
      | succ r5 => exact hUn ph2 (r5 + 1) ⟨by omega, s5, s5, by have h9 : Rn (RU fs (sc, stg, ou, st, pl, es, vl)) (oP fs (cX fs) (cX fs + 1 + 1) (prF cd (1 : Int) (sc, stg, ou, st + 1, pl, es, vl))) := hps _ (Or.inl ⟨by decide, rfl⟩); unfold oP at h9; rw [hq2, if_neg (by simp)] at h9; exact h9, r2, by rw [hsc5.1], rfl, e443.f4 f2, g1.trans gz, fun k hk => by rw [f2.1.at (by decide)]; exact f1.1.at (by decide) k⟩
    · exact absurd rfl hc
theorem s2_2 {x y deep nm bh w e : Nat} {cd : Int} {rs : RS} (hb : hBR zs ph L fs rs deep) (hd : deep ≤ 32) (hp : (pPs (cT fs))[j]? = some (2, x, cd, nm, bh)) (hq : bh ≤ (pPs (cT fs)).length) (hx : cX fs = x) (hd5 : 5 * deep + (y - x) ≤ 60 + 25 * L) (hsim : hSim (cT fs) x 2 cd nm w) (hy : y = x + w) (hUn : ∀ ph2 r, unB zs L (RU fs rs) rs.1.length fs x ph ph2 r → Q (.inl (some (.inl (r : Int))), ph2, g)) (hOk : ∀ ph2 rs2, okB zs L (RU fs rs) fs y rs ph ph2 rs2 → Q (.inl (some (.inl 0)), ph2, g)) (hBad : ∀ ph2 r, badB zs L (RU fs rs) rs.1.length ph ph2 r → Q (.inl (some (.inl (r : Int))), ph2, g)) : xTC (d + 5) 2 [.inr (.inl (some 56)), .inr (.inl (some (36 - 7 * L))), .inl (j : Int), .inl (deep : Int)] ph g Q := by
  obtain ⟨b1, b2, b3, hpp, b5, b6, b7, b8, b9, b10, b11, b12, b13, b14⟩ := id hb
  have hs := b1.1.1
  have ht := (hTgL b12).1
  have hj := (List.getElem?_eq_some_iff.mp hp).1
  have hl := hpp.2.1
  subst hx
  have hw : w = 3 ∧ nm < 10 := by
    rcases hsim with q | q | q | q
    · exact absurd q.1 (by decide)
    · exact absurd q.1 (by decide)
    · obtain ⟨c, -, -, q3⟩ := q.2.2.2.1
      have := nmF_le c
      exact ⟨q.2.1, by omega⟩
    · exact absurd q.1 (by decide)
  have hle : True := trivial
  obtain ⟨sc, stg, ou, st, pl, es, vl⟩ := rs
  have hst9 := b1.2.2.2.2.2.2.2.2.1
  simp only at hst9
  refine tEn (ls := [some (.inr (.inl (some 56))), some (.inr (.inl (some (36 - 7 * L)))), some (.inl (j : Int)), some (.inl (deep : Int)), none, none]) (fun k => by match k with | 0 => rfl | 1 => rfl | 2 => rfl | 3 => rfl | 4 => rfl | 5 => rfl | k + 6 => rfl) ?_
  by_cases hst : st = 200
  · refine tK (l := xk_2) rfl rfl (fun _ _ _ _ _ => rfl) ?_
    refine tK (l := xk_2) rfl rfl (hGetR (o := some 43) hs rfl rfl rfl (by decide) (by decide) rfl) ?_
    refine tCa (l := xk_2) rfl rfl (hInvV (c := 4) hs rfl rfl rfl rfl rfl (Nat.le_of_ble_eq_true rfl) (Nat.le_of_ble_eq_true rfl)) ?_
    refine s34f b1 hst ?_
    refine tKv ?_
    refine tSt (l := xk_2) rfl rfl (fun _ _ _ _ _ => rfl) (Nat.le_of_ble_eq_true rfl) ?_
    refine tK (l := xk_2) rfl rfl (fun _ _ _ _ _ => rfl) ?_
    refine tIf_eq (l := xk_2) (pc' := 17) rfl rfl rfl (fun hc => ?_) (fun hc => ?_)
    · exact absurd hc (by decide)
    · refine tK (l := xk_2) rfl rfl (fun _ _ _ _ _ => rfl) ?_
      refine tRt (l := xk_2) rfl rfl (fun _ _ _ _ _ => rfl) ?_
      exact hUn ph 3 ⟨by decide, (sc, stg, ou, st, pl, es, vl), (sc, stg, ou, st, pl, es, vl), Rn.one (Or.inl ⟨fs, (sc, stg, ou, st, pl, es, vl), 2, cd, nm, rfl, b2, Or.inl ⟨w, hsim⟩, Or.inl ⟨hst, rfl⟩⟩), b1, rfl, rfl, b6, hFd.refl, fun _ _ => rfl⟩
  · refine tK (l := xk_2) rfl rfl (fun _ _ _ _ _ => rfl) ?_
    refine tK (l := xk_2) rfl rfl (hGetR (o := some 43) hs rfl rfl rfl (by decide) (by decide) rfl) ?_
    refine tCa (l := xk_2) rfl rfl (hInvV (c := 4) hs rfl rfl rfl rfl rfl (Nat.le_of_ble_eq_true rfl) (Nat.le_of_ble_eq_true rfl)) ?_
    refine s34 b1 (by omega) (fun ph1 r1 f1 => ?_)
    refine tKv ?_
    have u1 := r1.1.1
    have g1 : hFd (bP L) ph ph1 := f1.1.fd (by intro a ha; simp only [List.mem_cons, List.not_mem_nil, or_false] at ha; unfold bP; omega)
    have e443 : h43 ph1 := b6.f4 f1
    have hpp1 := hpp.fr2 b12 g1
    have hb1 : hBR zs ph1 L fs (sc, stg, ou, st + 1, pl, es, vl) deep := hb.re r1 g1 (fun k hk => f1.1.at (by decide) k) e443 rfl rfl
    have hps : ∀ d, PSim fs (cX fs) 2 cd nm (sc, stg, ou, st + 1, pl, es, vl) d → Rn (RU fs (sc, stg, ou, st, pl, es, vl)) d := fun d hd9 => Rn.one (Or.inl ⟨fs, (sc, stg, ou, st, pl, es, vl), 2, cd, nm, rfl, b2, Or.inl ⟨w, hsim⟩, Or.inr (Or.inl ⟨by show st < 200; omega, ⟨w, hsim⟩, hd9⟩)⟩)
    refine tSt (l := xk_2) rfl rfl (fun _ _ _ _ _ => rfl) (Nat.le_of_ble_eq_true rfl) ?_
    refine tK (l := xk_2) rfl rfl (fun _ _ _ _ _ => rfl) ?_
    refine tIf_eq (l := xk_2) (pc' := 17) rfl rfl rfl (fun hc => ?_) (fun hc => ?_)
    · refine tK (l := xk_2) rfl rfl (fun _ _ _ _ _ => rfl) ?_
      refine tK (l := xk_2) rfl rfl (fun _ _ _ _ _ => rfl) ?_
      refine tCa (l := xk_2) rfl rfl (hInvV (c := 7) u1 rfl rfl rfl ht rfl (Nat.le_of_ble_eq_true rfl) (Nat.le_of_ble_eq_true rfl)) ?_
      refine s64 u1 ht hpp1 hp ?_
      refine tKv ?_
      refine tSt (l := xk_2) rfl rfl (fun _ _ _ _ _ => rfl) (Nat.le_of_ble_eq_true rfl) ?_
      refine tK (l := xk_2) rfl rfl (fun _ _ _ _ _ => rfl) ?_
      refine tK (l := xk_2) (pc' := 64) rfl rfl (fun _ _ _ _ _ => rfl) ?_
      refine tK (l := xk_2) rfl rfl (fun _ _ _ _ _ => rfl) ?_
      refine tK (l := xk_2) rfl rfl (hGetR (o := some 43) u1 rfl rfl rfl (by decide) (by decide) rfl) ?_
      refine tK (l := xk_2) rfl rfl (fun _ _ _ _ _ => rfl) ?_
      refine tK (l := xk_2) rfl rfl (fun _ _ _ _ _ => rfl) ?_
      refine tCa (l := xk_2) rfl rfl (hInvV (c := 7) u1 rfl rfl rfl ht rfl (Nat.le_of_ble_eq_true rfl) (Nat.le_of_ble_eq_true rfl)) ?_
      refine s65 u1 ht hpp1 hp (by simp) ?_
      refine tKv ?_
      refine tK (l := xk_2) rfl rfl (fun _ _ _ _ _ => rfl) ?_
      refine tCa (l := xk_2) rfl rfl (hInvV (c := 4) u1 rfl rfl rfl rfl rfl (Nat.le_of_ble_eq_true rfl) (Nat.le_of_ble_eq_true rfl)) ?_
      cases hlk : lk sc nm with
      | none =>
        refine s35n (k := (2 : Int)) r1 hw.2 hlk ?_
        refine tKv ?_
        refine tRt (l := xk_2) rfl rfl (fun _ _ _ _ _ => rfl) ?_
        exact hUn ph1 1 ⟨by decide, (sc, stg, ou, st + 1, pl, es, vl), (sc, stg, ou, st + 1, pl, es, vl), hps _ (Or.inr (Or.inl ⟨by decide, hlk, rfl⟩)), r1, rfl, rfl, e443, g1, fun k hk => f1.1.at (by decide) k⟩
      | some v =>
        refine s35 (k := (2 : Int)) r1 hw.2 hlk (fun ph2 r2 f2 => ?_)
        refine tKv ?_
        have hsc5 : (pvF (((2 : Int)) == 3) (2 : Int) v (sc, stg, ou, st + 1, pl, es, vl)).1.1 = sc ∧ (pvF (((2 : Int)) == 3) (2 : Int) v (sc, stg, ou, st + 1, pl, es, vl)).1.2.1.length = stg.length := pvF_sc _ _ _ _
        refine tRt (l := xk_2) rfl rfl (fun _ _ _ _ _ => rfl) ?_
        have gz : hFd (bP L) ph1 ph2 := f2.1.fd (by intro a ha; simp only [List.mem_cons, List.not_mem_nil, or_false] at ha; unfold bP; omega)
        cases hq2 : pvF (((2 : Int)) == 3) (2 : Int) v (sc, stg, ou, st + 1, pl, es, vl) with | mk s5 r5 => ?_
        rw [hq2] at r2
        simp only [hq2] at hsc5 ⊢
        cases r5 with
        | zero => exact hOk ph2 s5 ⟨r2, by have h9 : Rn (RU fs (sc, stg, ou, st, pl, es, vl)) (oP fs (cX fs) (cX fs + 1 + 2) (pvF (((2 : Int)) == 3) (2 : Int) v (sc, stg, ou, st + 1, pl, es, vl))) := hps _ (Or.inr (Or.inr (Or.inl ⟨by decide, v, hlk, rfl⟩))); unfold oP at h9; rw [hq2, if_pos rfl] at h9; rw [hy, hw.1]; exact h9, g1.trans gz, e443.f4 f2, by rw [hsc5.1], hsc5.2, fun r hr => by rw [f2.to (by decide) (by decide)]; exact f1.to (by decide) (by decide), fun k hk => by rw [f2.1.at (by decide)]; exact f1.1.at (by decide) k⟩
        | succ r5 => exact hUn ph2 (r5 + 1) ⟨by omega, s5, s5, by have h9 : Rn (RU fs (sc, stg, ou, st, pl, es, vl)) (oP fs (cX fs) (cX fs + 1 + 2) (pvF (((2 : Int)) == 3) (2 : Int) v (sc, stg, ou, st + 1, pl, es, vl))) := hps _ (Or.inr (Or.inr (Or.inl ⟨by decide, v, hlk, rfl⟩))); unfold oP at h9; rw [hq2, if_neg (by simp)] at h9; exact h9, r2, by rw [hsc5.1], rfl, e443.f4 f2, g1.trans gz, fun k hk => by rw [f2.1.at (by decide)]; exact f1.1.at (by decide) k⟩
    · exact absurd rfl hc
theorem s2_3 {x y deep nm bh w e : Nat} {cd : Int} {rs : RS} (hb : hBR zs ph L fs rs deep) (hd : deep ≤ 32) (hp : (pPs (cT fs))[j]? = some (3, x, cd, nm, bh)) (hq : bh ≤ (pPs (cT fs)).length) (hx : cX fs = x) (hd5 : 5 * deep + (y - x) ≤ 60 + 25 * L) (hsim : hSim (cT fs) x 3 cd nm w) (hy : y = x + w) (hUn : ∀ ph2 r, unB zs L (RU fs rs) rs.1.length fs x ph ph2 r → Q (.inl (some (.inl (r : Int))), ph2, g)) (hOk : ∀ ph2 rs2, okB zs L (RU fs rs) fs y rs ph ph2 rs2 → Q (.inl (some (.inl 0)), ph2, g)) (hBad : ∀ ph2 r, badB zs L (RU fs rs) rs.1.length ph ph2 r → Q (.inl (some (.inl (r : Int))), ph2, g)) : xTC (d + 5) 2 [.inr (.inl (some 56)), .inr (.inl (some (36 - 7 * L))), .inl (j : Int), .inl (deep : Int)] ph g Q := by
  obtain ⟨b1, b2, b3, hpp, b5, b6, b7, b8, b9, b10, b11, b12, b13, b14⟩ := id hb
  have hs := b1.1.1
  have ht := (hTgL b12).1
  have hj := (List.getElem?_eq_some_iff.mp hp).1
  have hl := hpp.2.1
  subst hx
  have hw : w = 4 ∧ nm < 10 := by
    rcases hsim with q | q | q | q
    · exact absurd q.1 (by decide)
    · exact absurd q.1 (by decide)
    · exact absurd q.1 (by decide)
    · obtain ⟨c, -, q3⟩ := q.2.2.2.2.1
      have := nmF_le c
      exact ⟨q.2.1, by omega⟩
  have hle : True := trivial
  obtain ⟨sc, stg, ou, st, pl, es, vl⟩ := rs
  have hst9 := b1.2.2.2.2.2.2.2.2.1
  simp only at hst9
  refine tEn (ls := [some (.inr (.inl (some 56))), some (.inr (.inl (some (36 - 7 * L)))), some (.inl (j : Int)), some (.inl (deep : Int)), none, none]) (fun k => by match k with | 0 => rfl | 1 => rfl | 2 => rfl | 3 => rfl | 4 => rfl | 5 => rfl | k + 6 => rfl) ?_
  by_cases hst : st = 200
  · refine tK (l := xk_2) rfl rfl (fun _ _ _ _ _ => rfl) ?_
    refine tK (l := xk_2) rfl rfl (hGetR (o := some 43) hs rfl rfl rfl (by decide) (by decide) rfl) ?_
    refine tCa (l := xk_2) rfl rfl (hInvV (c := 4) hs rfl rfl rfl rfl rfl (Nat.le_of_ble_eq_true rfl) (Nat.le_of_ble_eq_true rfl)) ?_
    refine s34f b1 hst ?_
    refine tKv ?_
    refine tSt (l := xk_2) rfl rfl (fun _ _ _ _ _ => rfl) (Nat.le_of_ble_eq_true rfl) ?_
    refine tK (l := xk_2) rfl rfl (fun _ _ _ _ _ => rfl) ?_
    refine tIf_eq (l := xk_2) (pc' := 17) rfl rfl rfl (fun hc => ?_) (fun hc => ?_)
    · exact absurd hc (by decide)
    · refine tK (l := xk_2) rfl rfl (fun _ _ _ _ _ => rfl) ?_
      refine tRt (l := xk_2) rfl rfl (fun _ _ _ _ _ => rfl) ?_
      exact hUn ph 3 ⟨by decide, (sc, stg, ou, st, pl, es, vl), (sc, stg, ou, st, pl, es, vl), Rn.one (Or.inl ⟨fs, (sc, stg, ou, st, pl, es, vl), 3, cd, nm, rfl, b2, Or.inl ⟨w, hsim⟩, Or.inl ⟨hst, rfl⟩⟩), b1, rfl, rfl, b6, hFd.refl, fun _ _ => rfl⟩
  · refine tK (l := xk_2) rfl rfl (fun _ _ _ _ _ => rfl) ?_
    refine tK (l := xk_2) rfl rfl (hGetR (o := some 43) hs rfl rfl rfl (by decide) (by decide) rfl) ?_
    refine tCa (l := xk_2) rfl rfl (hInvV (c := 4) hs rfl rfl rfl rfl rfl (Nat.le_of_ble_eq_true rfl) (Nat.le_of_ble_eq_true rfl)) ?_
    refine s34 b1 (by omega) (fun ph1 r1 f1 => ?_)
    refine tKv ?_
    have u1 := r1.1.1
    have g1 : hFd (bP L) ph ph1 := f1.1.fd (by intro a ha; simp only [List.mem_cons, List.not_mem_nil, or_false] at ha; unfold bP; omega)
    have e443 : h43 ph1 := b6.f4 f1
    have hpp1 := hpp.fr2 b12 g1
    have hb1 : hBR zs ph1 L fs (sc, stg, ou, st + 1, pl, es, vl) deep := hb.re r1 g1 (fun k hk => f1.1.at (by decide) k) e443 rfl rfl
    have hps : ∀ d, PSim fs (cX fs) 3 cd nm (sc, stg, ou, st + 1, pl, es, vl) d → Rn (RU fs (sc, stg, ou, st, pl, es, vl)) d := fun d hd9 => Rn.one (Or.inl ⟨fs, (sc, stg, ou, st, pl, es, vl), 3, cd, nm, rfl, b2, Or.inl ⟨w, hsim⟩, Or.inr (Or.inl ⟨by show st < 200; omega, ⟨w, hsim⟩, hd9⟩)⟩)
    refine tSt (l := xk_2) rfl rfl (fun _ _ _ _ _ => rfl) (Nat.le_of_ble_eq_true rfl) ?_
    refine tK (l := xk_2) rfl rfl (fun _ _ _ _ _ => rfl) ?_
    refine tIf_eq (l := xk_2) (pc' := 17) rfl rfl rfl (fun hc => ?_) (fun hc => ?_)
    · refine tK (l := xk_2) rfl rfl (fun _ _ _ _ _ => rfl) ?_
      refine tK (l := xk_2) rfl rfl (fun _ _ _ _ _ => rfl) ?_
      refine tCa (l := xk_2) rfl rfl (hInvV (c := 7) u1 rfl rfl rfl ht rfl (Nat.le_of_ble_eq_true rfl) (Nat.le_of_ble_eq_true rfl)) ?_
      refine s64 u1 ht hpp1 hp ?_
      refine tKv ?_
      refine tSt (l := xk_2) rfl rfl (fun _ _ _ _ _ => rfl) (Nat.le_of_ble_eq_true rfl) ?_
      refine tK (l := xk_2) rfl rfl (fun _ _ _ _ _ => rfl) ?_
      refine tK (l := xk_2) (pc' := 64) rfl rfl (fun _ _ _ _ _ => rfl) ?_
      refine tK (l := xk_2) rfl rfl (fun _ _ _ _ _ => rfl) ?_
      refine tK (l := xk_2) rfl rfl (hGetR (o := some 43) u1 rfl rfl rfl (by decide) (by decide) rfl) ?_
      refine tK (l := xk_2) rfl rfl (fun _ _ _ _ _ => rfl) ?_
      refine tK (l := xk_2) rfl rfl (fun _ _ _ _ _ => rfl) ?_
      refine tCa (l := xk_2) rfl rfl (hInvV (c := 7) u1 rfl rfl rfl ht rfl (Nat.le_of_ble_eq_true rfl) (Nat.le_of_ble_eq_true rfl)) ?_
      refine s65 u1 ht hpp1 hp (by simp) ?_
      refine tKv ?_
      refine tK (l := xk_2) rfl rfl (fun _ _ _ _ _ => rfl) ?_
      refine tCa (l := xk_2) rfl rfl (hInvV (c := 4) u1 rfl rfl rfl rfl rfl (Nat.le_of_ble_eq_true rfl) (Nat.le_of_ble_eq_true rfl)) ?_
      cases hlk : lk sc nm with
      | none =>
        refine s35n (k := (3 : Int)) r1 hw.2 hlk ?_
        refine tKv ?_
        refine tRt (l := xk_2) rfl rfl (fun _ _ _ _ _ => rfl) ?_
        exact hUn ph1 1 ⟨by decide, (sc, stg, ou, st + 1, pl, es, vl), (sc, stg, ou, st + 1, pl, es, vl), hps _ (Or.inr (Or.inl ⟨by decide, hlk, rfl⟩)), r1, rfl, rfl, e443, g1, fun k hk => f1.1.at (by decide) k⟩
      | some v =>
        refine s35 (k := (3 : Int)) r1 hw.2 hlk (fun ph2 r2 f2 => ?_)
        refine tKv ?_
        have hsc5 : (pvF (((3 : Int)) == 3) (3 : Int) v (sc, stg, ou, st + 1, pl, es, vl)).1.1 = sc ∧ (pvF (((3 : Int)) == 3) (3 : Int) v (sc, stg, ou, st + 1, pl, es, vl)).1.2.1.length = stg.length := pvF_sc _ _ _ _
        refine tRt (l := xk_2) rfl rfl (fun _ _ _ _ _ => rfl) ?_
        have gz : hFd (bP L) ph1 ph2 := f2.1.fd (by intro a ha; simp only [List.mem_cons, List.not_mem_nil, or_false] at ha; unfold bP; omega)
        cases hq2 : pvF (((3 : Int)) == 3) (3 : Int) v (sc, stg, ou, st + 1, pl, es, vl) with | mk s5 r5 => ?_
        rw [hq2] at r2
        simp only [hq2] at hsc5 ⊢
        cases r5 with
        | zero => exact hOk ph2 s5 ⟨r2, by have h9 : Rn (RU fs (sc, stg, ou, st, pl, es, vl)) (oP fs (cX fs) (cX fs + 1 + 3) (pvF (((3 : Int)) == 3) (3 : Int) v (sc, stg, ou, st + 1, pl, es, vl))) := hps _ (Or.inr (Or.inr (Or.inl ⟨by decide, v, hlk, rfl⟩))); unfold oP at h9; rw [hq2, if_pos rfl] at h9; rw [hy, hw.1]; exact h9, g1.trans gz, e443.f4 f2, by rw [hsc5.1], hsc5.2, fun r hr => by rw [f2.to (by decide) (by decide)]; exact f1.to (by decide) (by decide), fun k hk => by rw [f2.1.at (by decide)]; exact f1.1.at (by decide) k⟩
        | succ r5 => exact hUn ph2 (r5 + 1) ⟨by omega, s5, s5, by have h9 : Rn (RU fs (sc, stg, ou, st, pl, es, vl)) (oP fs (cX fs) (cX fs + 1 + 3) (pvF (((3 : Int)) == 3) (3 : Int) v (sc, stg, ou, st + 1, pl, es, vl))) := hps _ (Or.inr (Or.inr (Or.inl ⟨by decide, v, hlk, rfl⟩))); unfold oP at h9; rw [hq2, if_neg (by simp)] at h9; exact h9, r2, by rw [hsc5.1], rfl, e443.f4 f2, g1.trans gz, fun k hk => by rw [f2.1.at (by decide)]; exact f1.1.at (by decide) k⟩
    · exact absurd rfl hc
theorem s2_4 {x y deep nm bh w e : Nat} {cd : Int} {rs : RS} (hb : hBR zs ph L fs rs deep) (hd : deep ≤ 32) (hp : (pPs (cT fs))[j]? = some (4, x, cd, nm, bh)) (hq : bh ≤ (pPs (cT fs)).length) (hx : cX fs = x) (hd5 : 5 * deep + (y - x) ≤ 60 + 25 * L) (hsim : hSim (cT fs) x 4 cd nm w) (hy : y = x + w) (ihL : L < 4 → BPn zs (d + 3) 61 (L + 1)) (hUn : ∀ ph2 r, unB zs L (RU fs rs) rs.1.length fs x ph ph2 r → Q (.inl (some (.inl (r : Int))), ph2, g)) (hOk : ∀ ph2 rs2, okB zs L (RU fs rs) fs y rs ph ph2 rs2 → Q (.inl (some (.inl 0)), ph2, g)) (hBad : ∀ ph2 r, badB zs L (RU fs rs) rs.1.length ph ph2 r → Q (.inl (some (.inl (r : Int))), ph2, g)) : xTC (d + 5) 2 [.inr (.inl (some 56)), .inr (.inl (some (36 - 7 * L))), .inl (j : Int), .inl (deep : Int)] ph g Q := by
  obtain ⟨b1, b2, b3, hpp, b5, b6, b7, b8, b9, b10, b11, b12, b13, b14⟩ := id hb
  have hs := b1.1.1
  have ht := (hTgL b12).1
  have hj := (List.getElem?_eq_some_iff.mp hp).1
  have hl := hpp.2.1
  subst hx
  have hw : w = 4 ∧ nm < 10 := by
    rcases hsim with q | q | q | q
    · exact absurd q.1 (by decide)
    · exact absurd q.1 (by decide)
    · exact absurd q.1 (by decide)
    · obtain ⟨c, -, q3⟩ := q.2.2.2.2.1
      have := nmF_le c
      exact ⟨q.2.1, by omega⟩
  have hle : True := trivial
  obtain ⟨sc, stg, ou, st, pl, es, vl⟩ := rs
  have hst9 := b1.2.2.2.2.2.2.2.2.1
  simp only at hst9
  refine tEn (ls := [some (.inr (.inl (some 56))), some (.inr (.inl (some (36 - 7 * L)))), some (.inl (j : Int)), some (.inl (deep : Int)), none, none]) (fun k => by match k with | 0 => rfl | 1 => rfl | 2 => rfl | 3 => rfl | 4 => rfl | 5 => rfl | k + 6 => rfl) ?_
  by_cases hst : st = 200
  · refine tK (l := xk_2) rfl rfl (fun _ _ _ _ _ => rfl) ?_
    refine tK (l := xk_2) rfl rfl (hGetR (o := some 43) hs rfl rfl rfl (by decide) (by decide) rfl) ?_
    refine tCa (l := xk_2) rfl rfl (hInvV (c := 4) hs rfl rfl rfl rfl rfl (Nat.le_of_ble_eq_true rfl) (Nat.le_of_ble_eq_true rfl)) ?_
    refine s34f b1 hst ?_
    refine tKv ?_
    refine tSt (l := xk_2) rfl rfl (fun _ _ _ _ _ => rfl) (Nat.le_of_ble_eq_true rfl) ?_
    refine tK (l := xk_2) rfl rfl (fun _ _ _ _ _ => rfl) ?_
    refine tIf_eq (l := xk_2) (pc' := 17) rfl rfl rfl (fun hc => ?_) (fun hc => ?_)
    · exact absurd hc (by decide)
    · refine tK (l := xk_2) rfl rfl (fun _ _ _ _ _ => rfl) ?_
      refine tRt (l := xk_2) rfl rfl (fun _ _ _ _ _ => rfl) ?_
      exact hUn ph 3 ⟨by decide, (sc, stg, ou, st, pl, es, vl), (sc, stg, ou, st, pl, es, vl), Rn.one (Or.inl ⟨fs, (sc, stg, ou, st, pl, es, vl), 4, cd, nm, rfl, b2, Or.inl ⟨w, hsim⟩, Or.inl ⟨hst, rfl⟩⟩), b1, rfl, rfl, b6, hFd.refl, fun _ _ => rfl⟩
  · refine tK (l := xk_2) rfl rfl (fun _ _ _ _ _ => rfl) ?_
    refine tK (l := xk_2) rfl rfl (hGetR (o := some 43) hs rfl rfl rfl (by decide) (by decide) rfl) ?_
    refine tCa (l := xk_2) rfl rfl (hInvV (c := 4) hs rfl rfl rfl rfl rfl (Nat.le_of_ble_eq_true rfl) (Nat.le_of_ble_eq_true rfl)) ?_
    refine s34 b1 (by omega) (fun ph1 r1 f1 => ?_)
    refine tKv ?_
    have u1 := r1.1.1
    have g1 : hFd (bP L) ph ph1 := f1.1.fd (by intro a ha; simp only [List.mem_cons, List.not_mem_nil, or_false] at ha; unfold bP; omega)
    have e443 : h43 ph1 := b6.f4 f1
    have hpp1 := hpp.fr2 b12 g1
    have hb1 : hBR zs ph1 L fs (sc, stg, ou, st + 1, pl, es, vl) deep := hb.re r1 g1 (fun k hk => f1.1.at (by decide) k) e443 rfl rfl
    have hps : ∀ d, PSim fs (cX fs) 4 cd nm (sc, stg, ou, st + 1, pl, es, vl) d → Rn (RU fs (sc, stg, ou, st, pl, es, vl)) d := fun d hd9 => Rn.one (Or.inl ⟨fs, (sc, stg, ou, st, pl, es, vl), 4, cd, nm, rfl, b2, Or.inl ⟨w, hsim⟩, Or.inr (Or.inl ⟨by show st < 200; omega, ⟨w, hsim⟩, hd9⟩)⟩)
    refine tSt (l := xk_2) rfl rfl (fun _ _ _ _ _ => rfl) (Nat.le_of_ble_eq_true rfl) ?_
    refine tK (l := xk_2) rfl rfl (fun _ _ _ _ _ => rfl) ?_
    refine tIf_eq (l := xk_2) (pc' := 17) rfl rfl rfl (fun hc => ?_) (fun hc => ?_)
    · refine tK (l := xk_2) rfl rfl (fun _ _ _ _ _ => rfl) ?_
      refine tK (l := xk_2) rfl rfl (fun _ _ _ _ _ => rfl) ?_
      refine tCa (l := xk_2) rfl rfl (hInvV (c := 7) u1 rfl rfl rfl ht rfl (Nat.le_of_ble_eq_true rfl) (Nat.le_of_ble_eq_true rfl)) ?_
      refine s64 u1 ht hpp1 hp ?_
      refine tKv ?_
      refine tSt (l := xk_2) rfl rfl (fun _ _ _ _ _ => rfl) (Nat.le_of_ble_eq_true rfl) ?_
      refine tK (l := xk_2) rfl rfl (fun _ _ _ _ _ => rfl) ?_
      refine tK (l := xk_2) (pc' := 79) rfl rfl (fun _ _ _ _ _ => rfl) ?_
      refine tK (l := xk_2) rfl rfl (fun _ _ _ _ _ => rfl) ?_
      refine tK (l := xk_2) rfl rfl (fun _ _ _ _ _ => rfl) ?_
      refine tK (l := xk_2) rfl rfl (fun _ _ _ _ _ => rfl) ?_
      refine tK (l := xk_2) rfl rfl (fun _ _ _ _ _ => rfl) ?_
      refine tCa (l := xk_2) rfl rfl (hInvV (c := 0) u1 rfl rfl rfl rfl rfl (Nat.le_of_ble_eq_true rfl) (Nat.le_of_ble_eq_true rfl)) ?_
      refine s3 (d := d) ihL hb1 hd hp hw.2 (by omega) hps (fun ph2 r k2 => ?_) (fun ph2 rs2 k2 => ?_) (fun ph2 r k2 => ?_)
      · refine tKv ?_
        refine tRt (l := xk_2) rfl rfl (fun _ _ _ _ _ => rfl) ?_
        obtain ⟨hr9, z1, z2, z3, z4, z5, z6, z7, z8, z9⟩ := k2
        exact hUn ph2 r ⟨hr9, z1, z2, z3, z4, z5, z6, z7, g1.trans z8, fun k hk => by rw [z9 k hk]; exact f1.1.at (by decide) k⟩
      · refine tKv ?_
        refine tRt (l := xk_2) rfl rfl (fun _ _ _ _ _ => rfl) ?_
        obtain ⟨z1, z2, z3, z4, z5, z6, z7, z8⟩ := k2
        exact hOk ph2 rs2 ⟨z1, by rw [hy, hw.1]; exact z2, g1.trans z3, z4, z5, z6, fun r hr => by rw [z7 r hr]; exact f1.to (by decide) (by decide), fun k hk => by rw [z8 k hk]; exact f1.1.at (by decide) k⟩
      · refine tKv ?_
        refine tRt (l := xk_2) rfl rfl (fun _ _ _ _ _ => rfl) ?_
        exact hBad ph2 r (k2.pre Rn.refl g1)
    · exact absurd rfl hc
theorem s2_5 {x y deep nm bh w e : Nat} {cd : Int} {rs : RS} (hb : hBR zs ph L fs rs deep) (hd : deep ≤ 32) (hp : (pPs (cT fs))[j]? = some (5, x, cd, nm, bh)) (hq : bh ≤ (pPs (cT fs)).length) (hx : cX fs = x) (hd5 : 5 * deep + (y - x) ≤ 60 + 25 * L) (ih : BPn zs (d + 2) n L) (hblk : hBlk (cT fs) x 5 nm) (hsg : Sg n (cT fs) (pPs (cT fs)) (j + 1) bh (x + 4) e) (he : (cT fs)[e]? = some 125) (hy : y = e + 1) (hUn : ∀ ph2 r, unB zs L (RU fs rs) rs.1.length fs x ph ph2 r → Q (.inl (some (.inl (r : Int))), ph2, g)) (hOk : ∀ ph2 rs2, okB zs L (RU fs rs) fs y rs ph ph2 rs2 → Q (.inl (some (.inl 0)), ph2, g)) (hBad : ∀ ph2 r, badB zs L (RU fs rs) rs.1.length ph ph2 r → Q (.inl (some (.inl (r : Int))), ph2, g)) : xTC (d + 5) 2 [.inr (.inl (some 56)), .inr (.inl (some (36 - 7 * L))), .inl (j : Int), .inl (deep : Int)] ph g Q := by
  obtain ⟨b1, b2, b3, hpp, b5, b6, b7, b8, b9, b10, b11, b12, b13, b14⟩ := id hb
  have hs := b1.1.1
  have ht := (hTgL b12).1
  have hj := (List.getElem?_eq_some_iff.mp hp).1
  have hl := hpp.2.1
  subst hx
  have hnm : nm < 10 := by
    obtain ⟨c, -, q3⟩ := hblk.2.2.2.1
    have := nmF_le c
    omega
  have hle : True := trivial
  obtain ⟨sc, stg, ou, st, pl, es, vl⟩ := rs
  have hst9 := b1.2.2.2.2.2.2.2.2.1
  simp only at hst9
  refine tEn (ls := [some (.inr (.inl (some 56))), some (.inr (.inl (some (36 - 7 * L)))), some (.inl (j : Int)), some (.inl (deep : Int)), none, none]) (fun k => by match k with | 0 => rfl | 1 => rfl | 2 => rfl | 3 => rfl | 4 => rfl | 5 => rfl | k + 6 => rfl) ?_
  by_cases hst : st = 200
  · refine tK (l := xk_2) rfl rfl (fun _ _ _ _ _ => rfl) ?_
    refine tK (l := xk_2) rfl rfl (hGetR (o := some 43) hs rfl rfl rfl (by decide) (by decide) rfl) ?_
    refine tCa (l := xk_2) rfl rfl (hInvV (c := 4) hs rfl rfl rfl rfl rfl (Nat.le_of_ble_eq_true rfl) (Nat.le_of_ble_eq_true rfl)) ?_
    refine s34f b1 hst ?_
    refine tKv ?_
    refine tSt (l := xk_2) rfl rfl (fun _ _ _ _ _ => rfl) (Nat.le_of_ble_eq_true rfl) ?_
    refine tK (l := xk_2) rfl rfl (fun _ _ _ _ _ => rfl) ?_
    refine tIf_eq (l := xk_2) (pc' := 17) rfl rfl rfl (fun hc => ?_) (fun hc => ?_)
    · exact absurd hc (by decide)
    · refine tK (l := xk_2) rfl rfl (fun _ _ _ _ _ => rfl) ?_
      refine tRt (l := xk_2) rfl rfl (fun _ _ _ _ _ => rfl) ?_
      exact hUn ph 3 ⟨by decide, (sc, stg, ou, st, pl, es, vl), (sc, stg, ou, st, pl, es, vl), Rn.one (Or.inl ⟨fs, (sc, stg, ou, st, pl, es, vl), 5, cd, nm, rfl, b2, Or.inr hblk, Or.inl ⟨hst, rfl⟩⟩), b1, rfl, rfl, b6, hFd.refl, fun _ _ => rfl⟩
  · refine tK (l := xk_2) rfl rfl (fun _ _ _ _ _ => rfl) ?_
    refine tK (l := xk_2) rfl rfl (hGetR (o := some 43) hs rfl rfl rfl (by decide) (by decide) rfl) ?_
    refine tCa (l := xk_2) rfl rfl (hInvV (c := 4) hs rfl rfl rfl rfl rfl (Nat.le_of_ble_eq_true rfl) (Nat.le_of_ble_eq_true rfl)) ?_
    refine s34 b1 (by omega) (fun ph1 r1 f1 => ?_)
    refine tKv ?_
    have u1 := r1.1.1
    have g1 : hFd (bP L) ph ph1 := f1.1.fd (by intro a ha; simp only [List.mem_cons, List.not_mem_nil, or_false] at ha; unfold bP; omega)
    have e443 : h43 ph1 := b6.f4 f1
    have hpp1 := hpp.fr2 b12 g1
    have hb1 : hBR zs ph1 L fs (sc, stg, ou, st + 1, pl, es, vl) deep := hb.re r1 g1 (fun k hk => f1.1.at (by decide) k) e443 rfl rfl
    have hps : ∀ d, PBlk fs (cX fs) 5 nm (sc, stg, ou, st + 1, pl, es, vl) d → Rn (RU fs (sc, stg, ou, st, pl, es, vl)) d := fun d hd9 => Rn.one (Or.inl ⟨fs, (sc, stg, ou, st, pl, es, vl), 5, cd, nm, rfl, b2, Or.inr hblk, Or.inr (Or.inr ⟨by show st < 200; omega, hblk, hd9⟩)⟩)
    refine tSt (l := xk_2) rfl rfl (fun _ _ _ _ _ => rfl) (Nat.le_of_ble_eq_true rfl) ?_
    refine tK (l := xk_2) rfl rfl (fun _ _ _ _ _ => rfl) ?_
    refine tIf_eq (l := xk_2) (pc' := 17) rfl rfl rfl (fun hc => ?_) (fun hc => ?_)
    · refine tK (l := xk_2) rfl rfl (fun _ _ _ _ _ => rfl) ?_
      refine tK (l := xk_2) rfl rfl (fun _ _ _ _ _ => rfl) ?_
      refine tCa (l := xk_2) rfl rfl (hInvV (c := 7) u1 rfl rfl rfl ht rfl (Nat.le_of_ble_eq_true rfl) (Nat.le_of_ble_eq_true rfl)) ?_
      refine s64 u1 ht hpp1 hp ?_
      refine tKv ?_
      refine tSt (l := xk_2) rfl rfl (fun _ _ _ _ _ => rfl) (Nat.le_of_ble_eq_true rfl) ?_
      refine tK (l := xk_2) rfl rfl (fun _ _ _ _ _ => rfl) ?_
      refine tK (l := xk_2) (pc' := 87) rfl rfl (fun _ _ _ _ _ => rfl) ?_
      refine tK (l := xk_2) rfl rfl (fun _ _ _ _ _ => rfl) ?_
      refine tK (l := xk_2) rfl rfl (fun _ _ _ _ _ => rfl) ?_
      refine tK (l := xk_2) rfl rfl (fun _ _ _ _ _ => rfl) ?_
      refine tK (l := xk_2) rfl rfl (fun _ _ _ _ _ => rfl) ?_
      refine tCa (l := xk_2) rfl rfl (hInvV (c := 0) u1 rfl rfl rfl rfl rfl (Nat.le_of_ble_eq_true rfl) (Nat.le_of_ble_eq_true rfl)) ?_
      refine s4 (d := d) (y := y) ih hb1 hd hp hnm hsg he hq (by omega) hps (fun ph2 r k2 => ?_) (fun ph2 rs2 k2 => ?_) (fun ph2 r k2 => ?_)
      · refine tKv ?_
        refine tRt (l := xk_2) rfl rfl (fun _ _ _ _ _ => rfl) ?_
        obtain ⟨hr9, z1, z2, z3, z4, z5, z6, z7, z8, z9⟩ := k2
        exact hUn ph2 r ⟨hr9, z1, z2, z3, z4, z5, z6, z7, g1.trans z8, fun k hk => by rw [z9 k hk]; exact f1.1.at (by decide) k⟩
      · refine tKv ?_
        refine tRt (l := xk_2) rfl rfl (fun _ _ _ _ _ => rfl) ?_
        obtain ⟨z1, z2, z3, z4, z5, z6, z7, z8⟩ := k2
        exact hOk ph2 rs2 ⟨z1, by rw [hy]; exact z2, g1.trans z3, z4, z5, z6, fun r hr => by rw [z7 r hr]; exact f1.to (by decide) (by decide), fun k hk => by rw [z8 k hk]; exact f1.1.at (by decide) k⟩
      · refine tKv ?_
        refine tRt (l := xk_2) rfl rfl (fun _ _ _ _ _ => rfl) ?_
        exact hBad ph2 r (k2.pre Rn.refl g1)
    · exact absurd rfl hc
theorem s2_6 {x y deep nm bh w e : Nat} {cd : Int} {rs : RS} (hb : hBR zs ph L fs rs deep) (hd : deep ≤ 32) (hp : (pPs (cT fs))[j]? = some (6, x, cd, nm, bh)) (hq : bh ≤ (pPs (cT fs)).length) (hx : cX fs = x) (hd5 : 5 * deep + (y - x) ≤ 60 + 25 * L) (ih : BPn zs (d + 2) n L) (hblk : hBlk (cT fs) x 6 nm) (hsg : Sg n (cT fs) (pPs (cT fs)) (j + 1) bh (x + 4) e) (he : (cT fs)[e]? = some 125) (hy : y = e + 1) (hUn : ∀ ph2 r, unB zs L (RU fs rs) rs.1.length fs x ph ph2 r → Q (.inl (some (.inl (r : Int))), ph2, g)) (hOk : ∀ ph2 rs2, okB zs L (RU fs rs) fs y rs ph ph2 rs2 → Q (.inl (some (.inl 0)), ph2, g)) (hBad : ∀ ph2 r, badB zs L (RU fs rs) rs.1.length ph ph2 r → Q (.inl (some (.inl (r : Int))), ph2, g)) : xTC (d + 5) 2 [.inr (.inl (some 56)), .inr (.inl (some (36 - 7 * L))), .inl (j : Int), .inl (deep : Int)] ph g Q := by
  obtain ⟨b1, b2, b3, hpp, b5, b6, b7, b8, b9, b10, b11, b12, b13, b14⟩ := id hb
  have hs := b1.1.1
  have ht := (hTgL b12).1
  have hj := (List.getElem?_eq_some_iff.mp hp).1
  have hl := hpp.2.1
  subst hx
  have hnm : nm < 10 := by
    obtain ⟨c, -, q3⟩ := hblk.2.2.2.1
    have := nmF_le c
    omega
  have hle : True := trivial
  obtain ⟨sc, stg, ou, st, pl, es, vl⟩ := rs
  have hst9 := b1.2.2.2.2.2.2.2.2.1
  simp only at hst9
  refine tEn (ls := [some (.inr (.inl (some 56))), some (.inr (.inl (some (36 - 7 * L)))), some (.inl (j : Int)), some (.inl (deep : Int)), none, none]) (fun k => by match k with | 0 => rfl | 1 => rfl | 2 => rfl | 3 => rfl | 4 => rfl | 5 => rfl | k + 6 => rfl) ?_
  by_cases hst : st = 200
  · refine tK (l := xk_2) rfl rfl (fun _ _ _ _ _ => rfl) ?_
    refine tK (l := xk_2) rfl rfl (hGetR (o := some 43) hs rfl rfl rfl (by decide) (by decide) rfl) ?_
    refine tCa (l := xk_2) rfl rfl (hInvV (c := 4) hs rfl rfl rfl rfl rfl (Nat.le_of_ble_eq_true rfl) (Nat.le_of_ble_eq_true rfl)) ?_
    refine s34f b1 hst ?_
    refine tKv ?_
    refine tSt (l := xk_2) rfl rfl (fun _ _ _ _ _ => rfl) (Nat.le_of_ble_eq_true rfl) ?_
    refine tK (l := xk_2) rfl rfl (fun _ _ _ _ _ => rfl) ?_
    refine tIf_eq (l := xk_2) (pc' := 17) rfl rfl rfl (fun hc => ?_) (fun hc => ?_)
    · exact absurd hc (by decide)
    · refine tK (l := xk_2) rfl rfl (fun _ _ _ _ _ => rfl) ?_
      refine tRt (l := xk_2) rfl rfl (fun _ _ _ _ _ => rfl) ?_
      exact hUn ph 3 ⟨by decide, (sc, stg, ou, st, pl, es, vl), (sc, stg, ou, st, pl, es, vl), Rn.one (Or.inl ⟨fs, (sc, stg, ou, st, pl, es, vl), 6, cd, nm, rfl, b2, Or.inr hblk, Or.inl ⟨hst, rfl⟩⟩), b1, rfl, rfl, b6, hFd.refl, fun _ _ => rfl⟩
  · refine tK (l := xk_2) rfl rfl (fun _ _ _ _ _ => rfl) ?_
    refine tK (l := xk_2) rfl rfl (hGetR (o := some 43) hs rfl rfl rfl (by decide) (by decide) rfl) ?_
    refine tCa (l := xk_2) rfl rfl (hInvV (c := 4) hs rfl rfl rfl rfl rfl (Nat.le_of_ble_eq_true rfl) (Nat.le_of_ble_eq_true rfl)) ?_
    refine s34 b1 (by omega) (fun ph1 r1 f1 => ?_)
    refine tKv ?_
    have u1 := r1.1.1
    have g1 : hFd (bP L) ph ph1 := f1.1.fd (by intro a ha; simp only [List.mem_cons, List.not_mem_nil, or_false] at ha; unfold bP; omega)
    have e443 : h43 ph1 := b6.f4 f1
    have hpp1 := hpp.fr2 b12 g1
    have hb1 : hBR zs ph1 L fs (sc, stg, ou, st + 1, pl, es, vl) deep := hb.re r1 g1 (fun k hk => f1.1.at (by decide) k) e443 rfl rfl
    have hps : ∀ d, PBlk fs (cX fs) 6 nm (sc, stg, ou, st + 1, pl, es, vl) d → Rn (RU fs (sc, stg, ou, st, pl, es, vl)) d := fun d hd9 => Rn.one (Or.inl ⟨fs, (sc, stg, ou, st, pl, es, vl), 6, cd, nm, rfl, b2, Or.inr hblk, Or.inr (Or.inr ⟨by show st < 200; omega, hblk, hd9⟩)⟩)
    refine tSt (l := xk_2) rfl rfl (fun _ _ _ _ _ => rfl) (Nat.le_of_ble_eq_true rfl) ?_
    refine tK (l := xk_2) rfl rfl (fun _ _ _ _ _ => rfl) ?_
    refine tIf_eq (l := xk_2) (pc' := 17) rfl rfl rfl (fun hc => ?_) (fun hc => ?_)
    · refine tK (l := xk_2) rfl rfl (fun _ _ _ _ _ => rfl) ?_
      refine tK (l := xk_2) rfl rfl (fun _ _ _ _ _ => rfl) ?_
      refine tCa (l := xk_2) rfl rfl (hInvV (c := 7) u1 rfl rfl rfl ht rfl (Nat.le_of_ble_eq_true rfl) (Nat.le_of_ble_eq_true rfl)) ?_
      refine s64 u1 ht hpp1 hp ?_
      refine tKv ?_
      refine tSt (l := xk_2) rfl rfl (fun _ _ _ _ _ => rfl) (Nat.le_of_ble_eq_true rfl) ?_
      refine tK (l := xk_2) rfl rfl (fun _ _ _ _ _ => rfl) ?_
      refine tK (l := xk_2) (pc' := 95) rfl rfl (fun _ _ _ _ _ => rfl) ?_
      refine tK (l := xk_2) rfl rfl (fun _ _ _ _ _ => rfl) ?_
      refine tK (l := xk_2) rfl rfl (fun _ _ _ _ _ => rfl) ?_
      refine tK (l := xk_2) rfl rfl (fun _ _ _ _ _ => rfl) ?_
      refine tK (l := xk_2) rfl rfl (fun _ _ _ _ _ => rfl) ?_
      refine tCa (l := xk_2) rfl rfl (hInvV (c := 0) u1 rfl rfl rfl rfl rfl (Nat.le_of_ble_eq_true rfl) (Nat.le_of_ble_eq_true rfl)) ?_
      refine s6 (d := d) (y := y) ih hb1 hd hp hnm hsg he hq (by omega) hps (fun ph2 rs2 k2 => ?_) (fun ph2 r k2 => ?_)
      · refine tKv ?_
        refine tRt (l := xk_2) rfl rfl (fun _ _ _ _ _ => rfl) ?_
        obtain ⟨z1, z2, z3, z4, z5, z6, z7, z8⟩ := k2
        exact hOk ph2 rs2 ⟨z1, by rw [hy]; exact z2, g1.trans z3, z4, z5, z6, fun r hr => by rw [z7 r hr]; exact f1.to (by decide) (by decide), fun k hk => by rw [z8 k hk]; exact f1.1.at (by decide) k⟩
      · refine tKv ?_
        refine tRt (l := xk_2) rfl rfl (fun _ _ _ _ _ => rfl) ?_
        exact hBad ph2 r (k2.pre Rn.refl g1)
    · exact absurd rfl hc
theorem s2_7 {x y deep nm bh w e : Nat} {cd : Int} {rs : RS} (hb : hBR zs ph L fs rs deep) (hd : deep ≤ 32) (hp : (pPs (cT fs))[j]? = some (7, x, cd, nm, bh)) (hq : bh ≤ (pPs (cT fs)).length) (hx : cX fs = x) (hd5 : 5 * deep + (y - x) ≤ 60 + 25 * L) (ih : BPn zs (d + 2) n L) (hblk : hBlk (cT fs) x 7 nm) (hsg : Sg n (cT fs) (pPs (cT fs)) (j + 1) bh (x + 4) e) (he : (cT fs)[e]? = some 125) (hy : y = e + 1) (hUn : ∀ ph2 r, unB zs L (RU fs rs) rs.1.length fs x ph ph2 r → Q (.inl (some (.inl (r : Int))), ph2, g)) (hOk : ∀ ph2 rs2, okB zs L (RU fs rs) fs y rs ph ph2 rs2 → Q (.inl (some (.inl 0)), ph2, g)) (hBad : ∀ ph2 r, badB zs L (RU fs rs) rs.1.length ph ph2 r → Q (.inl (some (.inl (r : Int))), ph2, g)) : xTC (d + 5) 2 [.inr (.inl (some 56)), .inr (.inl (some (36 - 7 * L))), .inl (j : Int), .inl (deep : Int)] ph g Q := by
  obtain ⟨b1, b2, b3, hpp, b5, b6, b7, b8, b9, b10, b11, b12, b13, b14⟩ := id hb
  have hs := b1.1.1
  have ht := (hTgL b12).1
  have hj := (List.getElem?_eq_some_iff.mp hp).1
  have hl := hpp.2.1
  subst hx
  have hnm : nm < 10 := by
    obtain ⟨c, -, q3⟩ := hblk.2.2.2.1
    have := nmF_le c
    omega
  have hle : True := trivial
  obtain ⟨sc, stg, ou, st, pl, es, vl⟩ := rs
  have hst9 := b1.2.2.2.2.2.2.2.2.1
  simp only at hst9
  refine tEn (ls := [some (.inr (.inl (some 56))), some (.inr (.inl (some (36 - 7 * L)))), some (.inl (j : Int)), some (.inl (deep : Int)), none, none]) (fun k => by match k with | 0 => rfl | 1 => rfl | 2 => rfl | 3 => rfl | 4 => rfl | 5 => rfl | k + 6 => rfl) ?_
  by_cases hst : st = 200
  · refine tK (l := xk_2) rfl rfl (fun _ _ _ _ _ => rfl) ?_
    refine tK (l := xk_2) rfl rfl (hGetR (o := some 43) hs rfl rfl rfl (by decide) (by decide) rfl) ?_
    refine tCa (l := xk_2) rfl rfl (hInvV (c := 4) hs rfl rfl rfl rfl rfl (Nat.le_of_ble_eq_true rfl) (Nat.le_of_ble_eq_true rfl)) ?_
    refine s34f b1 hst ?_
    refine tKv ?_
    refine tSt (l := xk_2) rfl rfl (fun _ _ _ _ _ => rfl) (Nat.le_of_ble_eq_true rfl) ?_
    refine tK (l := xk_2) rfl rfl (fun _ _ _ _ _ => rfl) ?_
    refine tIf_eq (l := xk_2) (pc' := 17) rfl rfl rfl (fun hc => ?_) (fun hc => ?_)
    · exact absurd hc (by decide)
    · refine tK (l := xk_2) rfl rfl (fun _ _ _ _ _ => rfl) ?_
      refine tRt (l := xk_2) rfl rfl (fun _ _ _ _ _ => rfl) ?_
      exact hUn ph 3 ⟨by decide, (sc, stg, ou, st, pl, es, vl), (sc, stg, ou, st, pl, es, vl), Rn.one (Or.inl ⟨fs, (sc, stg, ou, st, pl, es, vl), 7, cd, nm, rfl, b2, Or.inr hblk, Or.inl ⟨hst, rfl⟩⟩), b1, rfl, rfl, b6, hFd.refl, fun _ _ => rfl⟩
  · refine tK (l := xk_2) rfl rfl (fun _ _ _ _ _ => rfl) ?_
    refine tK (l := xk_2) rfl rfl (hGetR (o := some 43) hs rfl rfl rfl (by decide) (by decide) rfl) ?_
    refine tCa (l := xk_2) rfl rfl (hInvV (c := 4) hs rfl rfl rfl rfl rfl (Nat.le_of_ble_eq_true rfl) (Nat.le_of_ble_eq_true rfl)) ?_
    refine s34 b1 (by omega) (fun ph1 r1 f1 => ?_)
    refine tKv ?_
    have u1 := r1.1.1
    have g1 : hFd (bP L) ph ph1 := f1.1.fd (by intro a ha; simp only [List.mem_cons, List.not_mem_nil, or_false] at ha; unfold bP; omega)
    have e443 : h43 ph1 := b6.f4 f1
    have hpp1 := hpp.fr2 b12 g1
    have hb1 : hBR zs ph1 L fs (sc, stg, ou, st + 1, pl, es, vl) deep := hb.re r1 g1 (fun k hk => f1.1.at (by decide) k) e443 rfl rfl
    have hps : ∀ d, PBlk fs (cX fs) 7 nm (sc, stg, ou, st + 1, pl, es, vl) d → Rn (RU fs (sc, stg, ou, st, pl, es, vl)) d := fun d hd9 => Rn.one (Or.inl ⟨fs, (sc, stg, ou, st, pl, es, vl), 7, cd, nm, rfl, b2, Or.inr hblk, Or.inr (Or.inr ⟨by show st < 200; omega, hblk, hd9⟩)⟩)
    refine tSt (l := xk_2) rfl rfl (fun _ _ _ _ _ => rfl) (Nat.le_of_ble_eq_true rfl) ?_
    refine tK (l := xk_2) rfl rfl (fun _ _ _ _ _ => rfl) ?_
    refine tIf_eq (l := xk_2) (pc' := 17) rfl rfl rfl (fun hc => ?_) (fun hc => ?_)
    · refine tK (l := xk_2) rfl rfl (fun _ _ _ _ _ => rfl) ?_
      refine tK (l := xk_2) rfl rfl (fun _ _ _ _ _ => rfl) ?_
      refine tCa (l := xk_2) rfl rfl (hInvV (c := 7) u1 rfl rfl rfl ht rfl (Nat.le_of_ble_eq_true rfl) (Nat.le_of_ble_eq_true rfl)) ?_
      refine s64 u1 ht hpp1 hp ?_
      refine tKv ?_
      refine tSt (l := xk_2) rfl rfl (fun _ _ _ _ _ => rfl) (Nat.le_of_ble_eq_true rfl) ?_
      refine tK (l := xk_2) rfl rfl (fun _ _ _ _ _ => rfl) ?_
      refine tK (l := xk_2) (pc' := 103) rfl rfl (fun _ _ _ _ _ => rfl) ?_
      refine tK (l := xk_2) rfl rfl (fun _ _ _ _ _ => rfl) ?_
      refine tK (l := xk_2) rfl rfl (fun _ _ _ _ _ => rfl) ?_
      refine tK (l := xk_2) rfl rfl (fun _ _ _ _ _ => rfl) ?_
      refine tK (l := xk_2) rfl rfl (fun _ _ _ _ _ => rfl) ?_
      refine tCa (l := xk_2) rfl rfl (hInvV (c := 0) u1 rfl rfl rfl rfl rfl (Nat.le_of_ble_eq_true rfl) (Nat.le_of_ble_eq_true rfl)) ?_
      refine s7 (d := d) (y := y) ih hb1 hd hp hnm hsg he hq (by omega) hps (fun ph2 rs2 k2 => ?_) (fun ph2 r k2 => ?_)
      · refine tKv ?_
        refine tRt (l := xk_2) rfl rfl (fun _ _ _ _ _ => rfl) ?_
        obtain ⟨z1, z2, z3, z4, z5, z6, z7, z8⟩ := k2
        exact hOk ph2 rs2 ⟨z1, by rw [hy]; exact z2, g1.trans z3, z4, z5, z6, fun r hr => by rw [z7 r hr]; exact f1.to (by decide) (by decide), fun k hk => by rw [z8 k hk]; exact f1.1.at (by decide) k⟩
      · refine tKv ?_
        refine tRt (l := xk_2) rfl rfl (fun _ _ _ _ _ => rfl) ?_
        exact hBad ph2 r (k2.pre Rn.refl g1)
    · exact absurd rfl hc
end BYR
