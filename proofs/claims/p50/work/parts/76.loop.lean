/-! ===== the law's loop ===== -/
theorem chF_ne {t : List Int} {st : SS} {a y : Int} {k m : Nat} (hk : k < 7) (h : chF t st a y k = .inl m) : m ≠ 0 := by
  match k, hk, h with
  | 0, _, h => simp only [chF] at h; (repeat' split at h) <;> cases h <;> decide
  | 1, _, h => simp only [chF] at h; (repeat' split at h) <;> cases h <;> decide
  | 2, _, h => simp only [chF] at h; (repeat' split at h) <;> cases h <;> decide
  | 3, _, h => simp only [chF] at h; (repeat' split at h) <;> cases h <;> decide
  | 4, _, h => simp only [chF] at h; (repeat' split at h) <;> cases h <;> decide
  | 5, _, h => simp only [chF] at h; (repeat' split at h) <;> cases h <;> decide
  | 6, _, h => simp only [chF] at h; (repeat' split at h) <;> cases h <;> decide
theorem CH_ne {t : List Int} {st : SS} {a y : Int} {k m : Nat} (h : CH t st a y k (.inl m)) : m ≠ 0 := by
  rcases h with ⟨p1, p2⟩ | ⟨-, -, p3⟩ | ⟨-, -, D, -, p3⟩
  · exact chF_ne p1 p2.symm
  · cases p3; decide
  · cases p3
theorem exF {zs : List xV} {R : xH} {xo : Int} {s : KS × KS} {B : Nat} (b : Bool) (hR : hPP zs R s xo) (ok : okK B (gt2 b s)) : pWh (gt2 b s).1 = true → ∃ D, Fin (gt2 b s).1 (gt2 b s).2.1.1 (-1) D := by
  intro hw
  obtain ⟨po, pp, -, ko, kp⟩ := hR
  cases b with
  | false => exact (Fin_exK ko ok.1.2 ok.1.1 hw).1
  | true => exact (Fin_exK kp ok.1.2 ok.1.1 hw).1
def nw (u : SS) : Nat ⊕ (SS × Int) → SS
  | .inl _ => u
  | .inr q => q.1
def hs2 (u : SS) (h : List SS) : Nat ⊕ (SS × Int) → List SS
  | .inl _ => h
  | .inr _ => (if h.length = 6 then h.tail else h) ++ [u]
theorem app_eq (t : List Int) (u : SS) (n : Option SS) (h : List SS) (res : Nat ⊕ (SS × Int)) : app (t, u, n, h) res = (t, nw u res, n, hs2 u h res) := by
  cases res <;> rfl
theorem ok_app {B : Nat} {t : List Int} {u : SS} {n : Option SS} {h : List SS} {a y : Int} {k : Nat} {res : Nat ⊕ (SS × Int)} (ok : okK B (t, u, n, h)) (hc : CH t u a y k res) : okK (B + 1) (t, nw u res, n, hs2 u h res) := by
  cases res with
  | inl m => exact ok.up
  | inr q =>
    have h2 := CH_ok (st2 := q.1) (v := q.2) hc ok.1.1 ok.1.2 ok.2.1
    exact okK_ndo (c := (t, u, n, h)) ok.up h2
section LWK
variable {zs : List xV} {d B : Nat} {Q : xR → Prop} {n1 n2 : Option SS} {v had thr told : Int} {c9 : Option xV}
theorem kLw_c {e : Nat} (he : e < 60) (hB : B < 900) {R : xH} {g : Nat} {xo : Int} {t : List Int} {u : SS} {h1 h2 : List SS} (hN : ∀ R2 g2 x2 h1 h2, hPP zs R2 ((t, u, n1, h1), (t, u, n2, h2)) x2 → okK B (t, u, n1, h1) → okK B (t, u, n2, h2) → g2 ≤ g + 2 → xT (d + 1230) 147 261 (xlo [some (.inr (.inl (some 0))), some (.inr (.inl (some (ob false)))), some (.inr (.inl (some (ob true)))), some (.inr (.inl (some 293))), some (.inl (e : Int)), some (.inl v), some (.inl had), some (.inl thr), some (.inl told), c9]) [] R2 g2 Q) (ok1 : okK B (t, u, n1, h1)) (ok2 : okK B (t, u, n2, h2)) (hR : hPP zs R ((t, u, n1, h1), (t, u, n2, h2)) xo) : xT (d + 1230) 147 208 (xlo [some (.inr (.inl (some 0))), some (.inr (.inl (some (ob false)))), some (.inr (.inl (some (ob true)))), some (.inr (.inl (some 293))), some (.inl (e : Int)), some (.inl v), some (.inl had), some (.inl thr), some (.inl told), c9]) [] R g Q := by
  obtain ⟨m1, em1⟩ : ∃ n : Nat, lo (Int32.ofInt v >>> (Int32.ofInt 7 &&& 31)).toInt 8 = (n : Int) := ⟨(lo (Int32.ofInt v >>> (Int32.ofInt 7 &&& 31)).toInt 8).toNat, by have := lo_in (v := (Int32.ofInt v >>> (Int32.ofInt 7 &&& 31)).toInt) (n := 8) (by decide); omega⟩
  have hm1 : m1 < 8 := by have := lo_in (v := (Int32.ofInt v >>> (Int32.ofInt 7 &&& 31)).toInt) (n := 8) (by decide); omega
  obtain ⟨m2, em2⟩ : ∃ n : Nat, lo (Int32.ofInt v >>> (Int32.ofInt 8 &&& 31)).toInt 8 = (n : Int) := ⟨(lo (Int32.ofInt v >>> (Int32.ofInt 8 &&& 31)).toInt 8).toNat, by have := lo_in (v := (Int32.ofInt v >>> (Int32.ofInt 8 &&& 31)).toInt) (n := 8) (by decide); omega⟩
  have hm2 : m2 < 8 := by have := lo_in (v := (Int32.ofInt v >>> (Int32.ofInt 8 &&& 31)).toInt) (n := 8) (by decide); omega
  refine tK (l := xk_147) rfl rfl (fun _ _ _ _ _ => rfl) ?_
  refine tK (l := xk_147) rfl rfl (fun _ _ _ _ _ => rfl) ?_
  refine tK (l := xk_147) rfl rfl (hRem ⟨by omega, by omega⟩) ?_
  refine tK (l := xk_147) rfl rfl (fun _ _ _ _ _ => rfl) ?_
  refine tIc_ne (l := xk_147) (pc' := 261) rfl rfl rfl (fun hc => ?_) (fun hc => ?_)
  · skip
    refine tK (l := xk_147) rfl rfl (fun _ _ _ _ _ => rfl) ?_
    refine tK (l := xk_147) rfl rfl (fun _ _ _ _ _ => rfl) ?_
    refine tK (l := xk_147) rfl rfl (fun _ _ _ _ _ => rfl) ?_
    refine tK (l := xk_147) rfl rfl (fun _ _ _ _ _ => rfl) ?_
    refine tK (l := xk_147) rfl rfl (fun _ _ _ _ _ => rfl) ?_
    refine tCa (l := xk_147) rfl rfl (hInvS rfl rfl rfl rfl (Nat.le_of_ble_eq_true rfl) (Nat.le_of_ble_eq_true rfl)) ?_
    refine kLow (by decide) ?_
    refine tKv ?_
    refine tCa (l := xk_147) rfl rfl (hInvS rfl rfl rfl rfl (Nat.le_of_ble_eq_true rfl) (Nat.le_of_ble_eq_true rfl)) ?_
    rw [em1]
    refine kTs hm1 (by omega) ok1 hR (fun R2 g2 e2 hg2 hR2 ok1 => ?_)
    refine tKv ?_
    refine tIf_eq (l := xk_147) (pc' := 259) rfl rfl rfl (fun hc => ?_) (fun hc => ?_)
    · exfalso
      exact absurd hc (by decide)
    refine tK (l := xk_147) rfl rfl (fun _ _ _ _ _ => rfl) ?_
    refine tK (l := xk_147) rfl rfl (fun _ _ _ _ _ => rfl) ?_
    refine tK (l := xk_147) rfl rfl (fun _ _ _ _ _ => rfl) ?_
    refine tK (l := xk_147) rfl rfl (fun _ _ _ _ _ => rfl) ?_
    refine tK (l := xk_147) rfl rfl (fun _ _ _ _ _ => rfl) ?_
    refine tCa (l := xk_147) rfl rfl (hInvS rfl rfl rfl rfl (Nat.le_of_ble_eq_true rfl) (Nat.le_of_ble_eq_true rfl)) ?_
    refine kLow (by decide) ?_
    refine tKv ?_
    refine tK (l := xk_147) rfl rfl (fun _ _ _ _ _ => rfl) ?_
    refine tCa (l := xk_147) rfl rfl (hInvS rfl rfl rfl rfl (Nat.le_of_ble_eq_true rfl) (Nat.le_of_ble_eq_true rfl)) ?_
    rw [em2]
    refine kVs hm2 (by omega) ok1 hR2 (fun R3 g3 x3 e3 hg3 hR3 ok1 => ?_)
    refine tKv ?_
    refine tIf_eq (l := xk_147) (pc' := 259) rfl rfl rfl (fun hc => ?_) (fun hc => ?_)
    · exfalso
      exact absurd hc (by decide)
    refine tK (l := xk_147) rfl rfl (fun _ _ _ _ _ => rfl) ?_
    refine tK (l := xk_147) rfl rfl (fun _ _ _ _ _ => rfl) ?_
    refine tCa (l := xk_147) rfl rfl (hInvS rfl rfl rfl rfl (Nat.le_of_ble_eq_true rfl) (Nat.le_of_ble_eq_true rfl)) ?_
    have hR3 : hPP zs R3 ((t, u, n1, e3), (t, u, n2, h2)) x3 := hR3
    have ok1 : okK B (t, u, n1, e3) := ok1
    refine kAl (B := B) ok1.2.1 hR3 (fun R4 hR4 => ?_)
    refine tKv ?_
    refine tIf_ne (l := xk_147) (pc' := 261) rfl rfl rfl (fun hc => ?_) (fun hc => ?_)
    · exfalso
      exact absurd hc (by decide)
    exact hN R4 g3 x3 e3 h2 hR4 ok1 ok2 (by omega)
  · skip
    exact hN R g xo h1 h2 hR ok1 ok2 (by omega)
theorem kLw_b {e k : Nat} {a y : Int} (hact : ∀ (b : Bool) (zs : List xV) (s : KS × KS) (xo : Int) (d g : Nat) (R : xH) (Q : xR → Prop), hPP zs R s xo → okK 1000 (gt2 b s) → (pWh (gt2 b s).1 = true → ∃ D, Fin (gt2 b s).1 (gt2 b s).2.1.1 (-1) D) → (∀ R2 res, CH (gt2 b s).1 (gt2 b s).2.1 a y k res → hPP zs R2 (pt2 b s (app (gt2 b s) res)) (ouR xo res) → Q (.inl (some (.inl (cdR res))), R2, g + exR res)) → xTC (d + 1226) 142 [.inr (.inl (some (ob b))), .inl v, .inr (.inl (some 293))] R g Q) (he : e < 60) (hB : B < 800) {R : xH} {g gb : Nat} {xo : Int} {t : List Int} {u : SS} {h1 h2 : List SS} {res : Nat ⊕ (SS × Int)} (hch : CH t u a y k res) (ht : ∀ q, res = .inr q → told = q.2) (hth : thr = cdR res) (hg : g + 3 ≤ gb) (hN : ∀ R2 g2 x2 u h1 h2 thr told c9, hPP zs R2 ((t, u, n1, h1), (t, u, n2, h2)) x2 → okK (B + 1) (t, u, n1, h1) → okK (B + 1) (t, u, n2, h2) → g2 ≤ gb → xT (d + 1230) 147 261 (xlo [some (.inr (.inl (some 0))), some (.inr (.inl (some (ob false)))), some (.inr (.inl (some (ob true)))), some (.inr (.inl (some 293))), some (.inl (e : Int)), some (.inl v), some (.inl had), some (.inl thr), some (.inl told), c9]) [] R2 g2 Q) (ok1 : okK (B + 1) (t, nw u res, n1, h1)) (ok2 : okK B (t, u, n2, h2)) (hR : hPP zs R ((t, (nw u res), n1, h1), (t, u, n2, h2)) xo) : xT (d + 1230) 147 166 (xlo [some (.inr (.inl (some 0))), some (.inr (.inl (some (ob false)))), some (.inr (.inl (some (ob true)))), some (.inr (.inl (some 293))), some (.inl (e : Int)), some (.inl v), some (.inl had), some (.inl thr), some (.inl told), c9]) [] R g Q := by
  subst hth
  refine tK (l := xk_147) rfl rfl (fun _ _ _ _ _ => rfl) ?_
  refine tK (l := xk_147) rfl rfl (fun _ _ _ _ _ => rfl) ?_
  refine tK (l := xk_147) rfl rfl (fun _ _ _ _ _ => rfl) ?_
  refine tCa (l := xk_147) rfl rfl (hInvS rfl rfl rfl rfl (Nat.le_of_ble_eq_true rfl) (Nat.le_of_ble_eq_true rfl)) ?_
  refine hact true zs ((t, (nw u res), n1, h1), (t, u, n2, h2)) xo _ _ _ _ hR (okK_1000 (by omega) ok2) (exF true hR ok2) (fun R2 res2 hc2 hR2 => ?_)
  have er := CH_det (show CH t u a y k res2 from hc2) hch
  subst er
  have hR2 : hPP zs R2 ((t, nw u res2, n1, h1), app (t, u, n2, h2) res2) (ouR xo res2) := hR2
  rw [app_eq] at hR2
  have ok3 := ok_app ok2 hch
  refine tKv ?_
  refine tK (l := xk_147) rfl rfl (fun _ _ _ _ _ => rfl) ?_
  refine tIc_ne (l := xk_147) (pc' := 206) rfl rfl rfl (fun hc => ?_) (fun hc => ?_)
  rotate_left
  · exfalso
    exact hc rfl
  have hx : exR res2 ≤ 1 := by
    cases res2
    · exact Nat.le_refl 1
    · exact Nat.zero_le 1
  cases res2 with
  | inl m =>
    refine tK (l := xk_147) rfl rfl (fun _ _ _ _ _ => rfl) ?_
    refine tIf_ne (l := xk_147) (pc' := 191) rfl rfl rfl (fun hc => ?_) (fun hc => ?_)
    · exfalso
      have := CH_ne hch
      have hc : ((m : Nat) : Int) = 0 := hc
      omega
    refine tK (l := xk_147) rfl rfl (fun _ _ _ _ _ => rfl) ?_
    refine tK (l := xk_147) rfl rfl (fun _ _ _ _ _ => rfl) ?_
    refine tCa (l := xk_147) rfl rfl (hInvS rfl rfl rfl rfl (Nat.le_of_ble_eq_true rfl) (Nat.le_of_ble_eq_true rfl)) ?_
    refine kAl (B := B + 1) ok3.2.1 hR2 (fun R4 hR4 => ?_)
    refine tKv ?_
    refine tIf_eq (l := xk_147) (pc' := 206) rfl rfl rfl (fun hc => ?_) (fun hc => ?_)
    · exfalso
      exact absurd hc (by decide)
    refine tK (l := xk_147) rfl rfl (fun _ _ _ _ _ => rfl) ?_
    refine tCa (l := xk_147) rfl rfl (hInvS rfl rfl rfl rfl (Nat.le_of_ble_eq_true rfl) (Nat.le_of_ble_eq_true rfl)) ?_
    refine kOs (B := B + 1) (by omega) ok1.2.1 hR4 (fun R5 hR5 => ?_)
    refine tKv ?_
    refine tIf_ne (l := xk_147) (pc' := 208) rfl rfl rfl (fun hc => ?_) (fun hc => ?_)
    · exfalso
      exact absurd hc (by decide)
    exact kLw_c he (by omega) (B := B + 1) (fun R9 g9 x9 h19 h29 p1 p2 p3 p4 => hN R9 g9 x9 _ h19 h29 _ _ _ p1 p2 p3 (by omega)) ok1 ok3 hR5
  | inr q =>
    refine tK (l := xk_147) rfl rfl (fun _ _ _ _ _ => rfl) ?_
    refine tIf_ne (l := xk_147) (pc' := 191) rfl rfl rfl (fun hc => ?_) (fun hc => ?_)
    rotate_left
    · exfalso
      exact hc rfl
    refine tK (l := xk_147) rfl rfl (fun _ _ _ _ _ => rfl) ?_
    refine tK (l := xk_147) rfl rfl (fun _ _ _ _ _ => rfl) ?_
    refine tK (l := xk_147) rfl rfl (kGet hR2) ?_
    refine tK (l := xk_147) rfl rfl (fun _ _ _ _ _ => rfl) ?_
    refine tIc_ne (l := xk_147) (pc' := 206) rfl rfl rfl (fun hc => ?_) (fun hc => ?_)
    rotate_left
    · exfalso
      exact hc (ht q rfl).symm
    refine tK (l := xk_147) rfl rfl (fun _ _ _ _ _ => rfl) ?_
    refine tK (l := xk_147) rfl rfl (fun _ _ _ _ _ => rfl) ?_
    refine tCa (l := xk_147) rfl rfl (hInvS rfl rfl rfl rfl (Nat.le_of_ble_eq_true rfl) (Nat.le_of_ble_eq_true rfl)) ?_
    refine kAl (B := B + 1) ok3.2.1 hR2 (fun R4 hR4 => ?_)
    refine tKv ?_
    refine tIf_eq (l := xk_147) (pc' := 206) rfl rfl rfl (fun hc => ?_) (fun hc => ?_)
    · exfalso
      exact absurd hc (by decide)
    refine tK (l := xk_147) rfl rfl (fun _ _ _ _ _ => rfl) ?_
    refine tCa (l := xk_147) rfl rfl (hInvS rfl rfl rfl rfl (Nat.le_of_ble_eq_true rfl) (Nat.le_of_ble_eq_true rfl)) ?_
    refine kOs (B := B + 1) (by omega) ok1.2.1 hR4 (fun R5 hR5 => ?_)
    refine tKv ?_
    refine tIf_ne (l := xk_147) (pc' := 208) rfl rfl rfl (fun hc => ?_) (fun hc => ?_)
    · exfalso
      exact absurd hc (by decide)
    exact kLw_c he (by omega) (B := B + 1) (fun R9 g9 x9 h19 h29 p1 p2 p3 p4 => hN R9 g9 x9 _ h19 h29 _ _ _ p1 p2 p3 (by omega)) ok1 ok3 hR5
set_option maxRecDepth 20000 in
theorem kLw_a {e k : Nat} {a y : Int} (hact : ∀ (b : Bool) (zs : List xV) (s : KS × KS) (xo : Int) (d g : Nat) (R : xH) (Q : xR → Prop), hPP zs R s xo → okK 1000 (gt2 b s) → (pWh (gt2 b s).1 = true → ∃ D, Fin (gt2 b s).1 (gt2 b s).2.1.1 (-1) D) → (∀ R2 res, CH (gt2 b s).1 (gt2 b s).2.1 a y k res → hPP zs R2 (pt2 b s (app (gt2 b s) res)) (ouR xo res) → Q (.inl (some (.inl (cdR res))), R2, g + exR res)) → xTC (d + 1226) 142 [.inr (.inl (some (ob b))), .inl v, .inr (.inl (some 293))] R g Q) (he : e < 60) (hB : B < 800) {c6 c7 c8 : Option xV} {R : xH} {g : Nat} {xo : Int} {t : List Int} {u : SS} {h1 h2 : List SS} (hN : ∀ R2 g2 x2 u h1 h2 had thr told c9, hPP zs R2 ((t, u, n1, h1), (t, u, n2, h2)) x2 → okK (B + 1) (t, u, n1, h1) → okK (B + 1) (t, u, n2, h2) → g2 ≤ g + 4 → xT (d + 1230) 147 261 (xlo [some (.inr (.inl (some 0))), some (.inr (.inl (some (ob false)))), some (.inr (.inl (some (ob true)))), some (.inr (.inl (some 293))), some (.inl (e : Int)), some (.inl v), some (.inl had), some (.inl thr), some (.inl told), c9]) [] R2 g2 Q) (ok1 : okK B (t, u, n1, h1)) (ok2 : okK B (t, u, n2, h2)) (hR : hPP zs R ((t, u, n1, h1), (t, u, n2, h2)) xo) : xT (d + 1230) 147 55 (xlo [some (.inr (.inl (some 0))), some (.inr (.inl (some (ob false)))), some (.inr (.inl (some (ob true)))), some (.inr (.inl (some 293))), some (.inl (e : Int)), some (.inl v), c6, c7, c8, c9]) [] R g Q := by
  have h66 : h1.length ≤ 6 := ok1.2.2.2
  refine tK (l := xk_147) rfl rfl (fun _ _ _ _ _ => rfl) ?_
  refine tCa (l := xk_147) rfl rfl (kInvV hR rfl rfl rfl rfl (Nat.le_of_ble_eq_true rfl) (Nat.le_of_ble_eq_true rfl)) ?_
  refine k98 (s := ((t, u, n1, h1), (t, u, n2, h2))) false hR (fun R1 hR1 => ?_)
  refine tKv ?_
  refine tSt (l := xk_147) rfl rfl (fun _ _ _ _ _ => rfl) (Nat.le_of_ble_eq_true rfl) ?_
  refine tK (l := xk_147) rfl rfl (fun _ _ _ _ _ => rfl) ?_
  refine tK (l := xk_147) rfl rfl (fun _ _ _ _ _ => rfl) ?_
  refine tK (l := xk_147) rfl rfl (fun _ _ _ _ _ => rfl) ?_
  refine tCa (l := xk_147) rfl rfl (hInvS rfl rfl rfl rfl (Nat.le_of_ble_eq_true rfl) (Nat.le_of_ble_eq_true rfl)) ?_
  refine hact false zs ((t, u, n1, h1), (t, u, n2, h2)) xo _ _ _ _ hR1 (okK_1000 (by omega) ok1) (exF false hR1 ok1) (fun R2 res hch hR2 => ?_)
  have hch : CH t u a y k res := hch
  have hR2 : hPP zs R2 (app (t, u, n1, h1) res, (t, u, n2, h2)) (ouR xo res) := hR2
  rw [app_eq] at hR2
  have ok3 := ok_app ok1 hch
  refine tKv ?_
  refine tSt (l := xk_147) rfl rfl (fun _ _ _ _ _ => rfl) (Nat.le_of_ble_eq_true rfl) ?_
  refine tK (l := xk_147) rfl rfl (fun _ _ _ _ _ => rfl) ?_
  refine tK (l := xk_147) rfl rfl (fun _ _ _ _ _ => rfl) ?_
  refine tK (l := xk_147) rfl rfl (kGet hR2) ?_
  refine tSt (l := xk_147) rfl rfl (fun _ _ _ _ _ => rfl) (Nat.le_of_ble_eq_true rfl) ?_
  cases res with
  | inl m =>
    have hm0 := CH_ne hch
    refine tK (l := xk_147) rfl rfl (fun _ _ _ _ _ => rfl) ?_
    refine tIf_eq (l := xk_147) (pc' := 99) rfl rfl rfl (fun hc => ?_) (fun hc => ?_)
    · exfalso
      have hc : ((m : Nat) : Int) = 0 := hc
      omega
    refine tK (l := xk_147) rfl rfl (fun _ _ _ _ _ => rfl) ?_
    refine tK (l := xk_147) rfl rfl (fun _ _ _ _ _ => rfl) ?_
    refine tCa (l := xk_147) rfl rfl (hInvS rfl rfl rfl rfl (Nat.le_of_ble_eq_true rfl) (Nat.le_of_ble_eq_true rfl)) ?_
    refine kAl (B := B) ok1.2.1 hR2 (fun R3 hR3 => ?_)
    refine tKv ?_
    refine tIf_eq (l := xk_147) (pc' := 97) rfl rfl rfl (fun hc => ?_) (fun hc => ?_)
    · exfalso
      exact absurd hc (by decide)
    refine tK (l := xk_147) rfl rfl (fun _ _ _ _ _ => rfl) ?_
    refine tCa (l := xk_147) rfl rfl (kInvV hR3 rfl rfl rfl rfl (Nat.le_of_ble_eq_true rfl) (Nat.le_of_ble_eq_true rfl)) ?_
    refine k98 (s := ((t, u, n1, h1), (t, u, n2, h2))) false hR3 (fun R4 hR4 => ?_)
    refine tKv ?_
    refine tK (l := xk_147) rfl rfl (fun _ _ _ _ _ => rfl) ?_
    refine tIc_eq (l := xk_147) (pc' := 99) rfl rfl rfl (fun hc => ?_) (fun hc => ?_)
    rotate_left
    · exfalso
      exact hc rfl
    refine tK (l := xk_147) rfl rfl (fun _ _ _ _ _ => rfl) ?_
    refine tIf_ne (l := xk_147) (pc' := 166) rfl rfl rfl (fun hc => ?_) (fun hc => ?_)
    · exfalso
      have hc : ((m : Nat) : Int) = 0 := hc
      omega
    exact kLw_b (B := B) hact he hB hch (fun q e => by cases e) rfl (gb := g + 4) (by show g + 1 + 3 ≤ g + 4; omega) (fun R9 g9 x9 u9 h19 h29 t9 d9 c9 p1 p2 p3 p4 => hN R9 g9 x9 u9 h19 h29 _ t9 d9 c9 p1 p2 p3 p4) ok3 ok2 hR4
  | inr q =>
    refine tK (l := xk_147) rfl rfl (fun _ _ _ _ _ => rfl) ?_
    refine tIf_eq (l := xk_147) (pc' := 99) rfl rfl rfl (fun hc => ?_) (fun hc => ?_)
    rotate_left
    · exfalso
      exact hc rfl
    refine tK (l := xk_147) rfl rfl (fun _ _ _ _ _ => rfl) ?_
    refine tIf_ne (l := xk_147) (pc' := 166) rfl rfl rfl (fun hc => ?_) (fun hc => ?_)
    rotate_left
    · exfalso
      exact hc rfl
    refine tK (l := xk_147) rfl rfl (fun _ _ _ _ _ => rfl) ?_
    refine tK (l := xk_147) rfl rfl (fun _ _ _ _ _ => rfl) ?_
    refine tK (l := xk_147) rfl rfl (fun _ _ _ _ _ => rfl) ?_
    refine tK (l := xk_147) rfl rfl (fun _ _ _ _ _ => rfl) ?_
    refine tK (l := xk_147) rfl rfl (fun _ _ _ _ _ => rfl) ?_
    refine tIf_ne (l := xk_147) (pc' := 166) rfl rfl rfl (fun hc => ?_) (fun hc => ?_)
    · skip
      have okU : okK B (t, u, n1, if h1.length = 6 then h1.tail else h1) := by
        refine ⟨ok1.1, ok1.2.1, fun st hs => ?_, ?_⟩
        · have hs : st ∈ (if h1.length = 6 then h1.tail else h1) := hs
          split at hs
          · exact ok1.2.2.1 st (List.mem_of_mem_tail hs)
          · exact ok1.2.2.1 st hs
        · show (if h1.length = 6 then h1.tail else h1).length ≤ 6
          split
          · rw [List.length_tail]; exact Nat.le_trans (Nat.sub_le _ _) h66
          · exact h66
      by_cases h6 : h1.length = 6
      · have hl : (if h1.length = 6 then h1.tail else h1).length = 5 := by
          rw [if_pos h6]
          rw [List.length_tail, h6]
        refine tK (l := xk_147) rfl rfl (fun _ _ _ _ _ => rfl) ?_
        refine tCa (l := xk_147) rfl rfl (kInvV hR2 rfl rfl rfl rfl (Nat.le_of_ble_eq_true rfl) (Nat.le_of_ble_eq_true rfl)) ?_
        refine k141 (s := ((t, q.1, n1, (if h1.length = 6 then h1.tail else h1) ++ [u]), (t, u, n2, h2))) false (l := (if h1.length = 6 then h1.tail else h1)) (st := u) rfl hR2 (fun R3 hR3 => ?_)
        have hR3 : hPP zs R3 ((t, u, n1, (if h1.length = 6 then h1.tail else h1)), (t, u, n2, h2)) _ := hR3
        refine tKv ?_
        refine tSt (l := xk_147) rfl rfl (fun _ _ _ _ _ => rfl) (Nat.le_of_ble_eq_true rfl) ?_
        refine tK (l := xk_147) rfl rfl (fun _ _ _ _ _ => rfl) ?_
        refine tK (l := xk_147) rfl rfl (fun _ _ _ _ _ => rfl) ?_
        refine tK (l := xk_147) rfl rfl (fun _ _ _ _ _ => rfl) ?_
        refine tIc_ne (l := xk_147) (pc' := 133) rfl rfl rfl (fun hc => ?_) (fun hc => ?_)
        rotate_left
        · exfalso
          have hc : ¬ (h1.length : Int) = 6 := hc
          omega
        refine tK (l := xk_147) rfl rfl (fun _ _ _ _ _ => rfl) ?_
        refine tK (l := xk_147) rfl rfl (fun _ _ _ _ _ => rfl) ?_
        refine tIc_ne (l := xk_147) (pc' := 164) rfl rfl rfl (fun hc => ?_) (fun hc => ?_)
        rotate_left
        · exfalso
          rw [hl] at hc
          exact hc rfl
        refine tK (l := xk_147) rfl rfl (fun _ _ _ _ _ => rfl) ?_
        refine tK (l := xk_147) rfl rfl (fun _ _ _ _ _ => rfl) ?_
        refine tCa (l := xk_147) rfl rfl (hInvS rfl rfl rfl rfl (Nat.le_of_ble_eq_true rfl) (Nat.le_of_ble_eq_true rfl)) ?_
        refine kAl (B := B) ok1.2.1 hR3 (fun R4 hR4 => ?_)
        refine tKv ?_
        refine tIf_eq (l := xk_147) (pc' := 164) rfl rfl rfl (fun hc => ?_) (fun hc => ?_)
        · exfalso
          exact absurd hc (by decide)
        refine tK (l := xk_147) rfl rfl (fun _ _ _ _ _ => rfl) ?_
        refine tK (l := xk_147) rfl rfl (fun _ _ _ _ _ => rfl) ?_
        refine tK (l := xk_147) rfl rfl (fun _ _ _ _ _ => rfl) ?_
        refine tCa (l := xk_147) rfl rfl (hInvS rfl rfl rfl rfl (Nat.le_of_ble_eq_true rfl) (Nat.le_of_ble_eq_true rfl)) ?_
        refine hact false zs ((t, u, n1, (if h1.length = 6 then h1.tail else h1)), (t, u, n2, h2)) _ _ _ _ _ hR4 (okK_1000 (by omega) okU) (exF false hR4 okU) (fun R5 res5 hch5 hR5 => ?_)
        have er := CH_det (show CH t u a y k res5 from hch5) hch
        subst er
        have hR5 : hPP zs R5 (app (t, u, n1, if h1.length = 6 then h1.tail else h1) (.inr q), (t, u, n2, h2)) q.2 := hR5
        rw [app_eq] at hR5
        have ok5 := ok_app okU hch
        refine tKv ?_
        refine tIf_ne (l := xk_147) (pc' := 164) rfl rfl rfl (fun hc => ?_) (fun hc => ?_)
        rotate_left
        · exfalso
          exact hc rfl
        refine tK (l := xk_147) rfl rfl (fun _ _ _ _ _ => rfl) ?_
        refine tK (l := xk_147) rfl rfl (fun _ _ _ _ _ => rfl) ?_
        refine tK (l := xk_147) rfl rfl (kGet hR5) ?_
        refine tK (l := xk_147) rfl rfl (fun _ _ _ _ _ => rfl) ?_
        refine tIc_eq (l := xk_147) (pc' := 166) rfl rfl rfl (fun hc => ?_) (fun hc => ?_)
        rotate_left
        · exfalso
          exact hc rfl
        exact kLw_b (B := B) hact he hB hch (fun q2 e => by cases e; rfl) rfl (gb := g + 4) (by show g + 0 + 0 + 3 ≤ g + 4; omega) (fun R9 g9 x9 u9 h19 h29 t9 d9 c9 p1 p2 p3 p4 => hN R9 g9 x9 u9 h19 h29 _ t9 d9 c9 p1 p2 p3 p4) ok5 ok2 hR5
      · have hl : (if h1.length = 6 then h1.tail else h1).length = h1.length := by
          rw [if_neg h6]
        refine tK (l := xk_147) rfl rfl (fun _ _ _ _ _ => rfl) ?_
        refine tCa (l := xk_147) rfl rfl (kInvV hR2 rfl rfl rfl rfl (Nat.le_of_ble_eq_true rfl) (Nat.le_of_ble_eq_true rfl)) ?_
        refine k141 (s := ((t, q.1, n1, (if h1.length = 6 then h1.tail else h1) ++ [u]), (t, u, n2, h2))) false (l := (if h1.length = 6 then h1.tail else h1)) (st := u) rfl hR2 (fun R3 hR3 => ?_)
        have hR3 : hPP zs R3 ((t, u, n1, (if h1.length = 6 then h1.tail else h1)), (t, u, n2, h2)) _ := hR3
        refine tKv ?_
        refine tSt (l := xk_147) rfl rfl (fun _ _ _ _ _ => rfl) (Nat.le_of_ble_eq_true rfl) ?_
        refine tK (l := xk_147) rfl rfl (fun _ _ _ _ _ => rfl) ?_
        refine tK (l := xk_147) rfl rfl (fun _ _ _ _ _ => rfl) ?_
        refine tK (l := xk_147) rfl rfl (fun _ _ _ _ _ => rfl) ?_
        refine tIc_ne (l := xk_147) (pc' := 133) rfl rfl rfl (fun hc => ?_) (fun hc => ?_)
        · exfalso
          have hc : (h1.length : Int) = 6 := hc
          omega
        refine tK (l := xk_147) rfl rfl (fun _ _ _ _ _ => rfl) ?_
        refine tIc_ne (l := xk_147) (pc' := 164) rfl rfl rfl (fun hc => ?_) (fun hc => ?_)
        rotate_left
        · exfalso
          rw [hl] at hc
          exact hc rfl
        refine tK (l := xk_147) rfl rfl (fun _ _ _ _ _ => rfl) ?_
        refine tK (l := xk_147) rfl rfl (fun _ _ _ _ _ => rfl) ?_
        refine tCa (l := xk_147) rfl rfl (hInvS rfl rfl rfl rfl (Nat.le_of_ble_eq_true rfl) (Nat.le_of_ble_eq_true rfl)) ?_
        refine kAl (B := B) ok1.2.1 hR3 (fun R4 hR4 => ?_)
        refine tKv ?_
        refine tIf_eq (l := xk_147) (pc' := 164) rfl rfl rfl (fun hc => ?_) (fun hc => ?_)
        · exfalso
          exact absurd hc (by decide)
        refine tK (l := xk_147) rfl rfl (fun _ _ _ _ _ => rfl) ?_
        refine tK (l := xk_147) rfl rfl (fun _ _ _ _ _ => rfl) ?_
        refine tK (l := xk_147) rfl rfl (fun _ _ _ _ _ => rfl) ?_
        refine tCa (l := xk_147) rfl rfl (hInvS rfl rfl rfl rfl (Nat.le_of_ble_eq_true rfl) (Nat.le_of_ble_eq_true rfl)) ?_
        refine hact false zs ((t, u, n1, (if h1.length = 6 then h1.tail else h1)), (t, u, n2, h2)) _ _ _ _ _ hR4 (okK_1000 (by omega) okU) (exF false hR4 okU) (fun R5 res5 hch5 hR5 => ?_)
        have er := CH_det (show CH t u a y k res5 from hch5) hch
        subst er
        have hR5 : hPP zs R5 (app (t, u, n1, if h1.length = 6 then h1.tail else h1) (.inr q), (t, u, n2, h2)) q.2 := hR5
        rw [app_eq] at hR5
        have ok5 := ok_app okU hch
        refine tKv ?_
        refine tIf_ne (l := xk_147) (pc' := 164) rfl rfl rfl (fun hc => ?_) (fun hc => ?_)
        rotate_left
        · exfalso
          exact hc rfl
        refine tK (l := xk_147) rfl rfl (fun _ _ _ _ _ => rfl) ?_
        refine tK (l := xk_147) rfl rfl (fun _ _ _ _ _ => rfl) ?_
        refine tK (l := xk_147) rfl rfl (kGet hR5) ?_
        refine tK (l := xk_147) rfl rfl (fun _ _ _ _ _ => rfl) ?_
        refine tIc_eq (l := xk_147) (pc' := 166) rfl rfl rfl (fun hc => ?_) (fun hc => ?_)
        rotate_left
        · exfalso
          exact hc rfl
        exact kLw_b (B := B) hact he hB hch (fun q2 e => by cases e; rfl) rfl (gb := g + 4) (by show g + 0 + 0 + 3 ≤ g + 4; omega) (fun R9 g9 x9 u9 h19 h29 t9 d9 c9 p1 p2 p3 p4 => hN R9 g9 x9 u9 h19 h29 _ t9 d9 c9 p1 p2 p3 p4) ok5 ok2 hR5
    · skip
      exact kLw_b (B := B) hact he hB hch (fun q2 e => by cases e; rfl) rfl (gb := g + 4) (by show g + 0 + 3 ≤ g + 4; omega) (fun R9 g9 x9 u9 h19 h29 t9 d9 c9 p1 p2 p3 p4 => hN R9 g9 x9 u9 h19 h29 _ t9 d9 c9 p1 p2 p3 p4) ok3 ok2 hR2
end LWK
set_option maxRecDepth 20000 in
theorem kLw {zs : List xV} {d : Nat} {Q : xR → Prop} {n1 n2 : Option SS} (hz : zs.length ≤ 260) (hzi : ∀ v ∈ zs, ∃ x : Int, v = .inl x ∧ xin x) (hQ : ∀ R g s x, hPP zs R s x → g ≤ 400 → Q (.inl (some (.inl 1)), R, g)) : ∀ (n e : Nat) (R : xH) (g : Nat) (xo : Int) (t : List Int) (u : SS) (h1 h2 : List SS) (c5 c6 c7 c8 c9 : Option xV), 60 - e ≤ n → e ≤ 60 → g ≤ 4 * e → okK e (t, u, n1, h1) → okK e (t, u, n2, h2) → hPP zs R ((t, u, n1, h1), (t, u, n2, h2)) xo → xT (d + 1230) 147 23 (xlo [some (.inr (.inl (some 0))), some (.inr (.inl (some (ob false)))), some (.inr (.inl (some (ob true)))), some (.inr (.inl (some 293))), some (.inl (e : Int)), c5, c6, c7, c8, c9]) [] R g Q := by
  intro n
  induction n with
  | zero =>
    intro e R g xo t u h1 h2 c5 c6 c7 c8 c9 hn he hg ok1 ok2 hR
    refine tK (l := xk_147) rfl rfl (fun _ _ _ _ _ => rfl) ?_
    refine tK (l := xk_147) rfl rfl (fun _ _ _ _ _ => rfl) ?_
    refine tIc_ge (l := xk_147) (pc' := 267) rfl rfl rfl (fun hc => ?_) (fun hc => ?_)
    · exfalso
      omega
    refine tK (l := xk_147) rfl rfl (fun _ _ _ _ _ => rfl) ?_
    refine tCa (l := xk_147) rfl rfl (hInvS rfl rfl rfl rfl (Nat.le_of_ble_eq_true rfl) (Nat.le_of_ble_eq_true rfl)) ?_
    refine kOs (B := e) (by omega) ok1.2.1 hR (fun R5 hR5 => ?_)
    refine tKv ?_
    refine tRt (l := xk_147) rfl rfl (fun _ _ _ _ _ => rfl) ?_
    exact hQ R5 _ _ _ hR5 (by omega)
  | succ n ih =>
    intro e R g xo t u h1 h2 c5 c6 c7 c8 c9 hn he hg ok1 ok2 hR
    refine tK (l := xk_147) rfl rfl (fun _ _ _ _ _ => rfl) ?_
    refine tK (l := xk_147) rfl rfl (fun _ _ _ _ _ => rfl) ?_
    refine tIc_ge (l := xk_147) (pc' := 267) rfl rfl rfl (fun hc => ?_) (fun hc => ?_)
    · skip
      have he2 : e < 60 := by omega
      refine tK (l := xk_147) rfl rfl (fun _ _ _ _ _ => rfl) ?_
      refine tK (l := xk_147) rfl rfl (fun _ _ _ _ _ => rfl) ?_
      refine tCa (l := xk_147) rfl rfl (hInvS rfl rfl rfl rfl (Nat.le_of_ble_eq_true rfl) (Nat.le_of_ble_eq_true rfl)) ?_
      refine kCell hR hz hzi (by omega) (fun v => ?_)
      refine tKv ?_
      refine tSt (l := xk_147) rfl rfl (fun _ _ _ _ _ => rfl) (Nat.le_of_ble_eq_true rfl) ?_
      refine tK (l := xk_147) rfl rfl (fun _ _ _ _ _ => rfl) ?_
      refine tK (l := xk_147) rfl rfl (fun _ _ _ _ _ => rfl) ?_
      refine tK (l := xk_147) rfl rfl (hRem ⟨by omega, by omega⟩) ?_
      refine tK (l := xk_147) rfl rfl (fun _ _ _ _ _ => rfl) ?_
      refine tIc_ne (l := xk_147) (pc' := 55) rfl rfl rfl (fun hc => ?_) (fun hc => ?_)
      · skip
        refine tK (l := xk_147) rfl rfl (fun _ _ _ _ _ => rfl) ?_
        refine tK (l := xk_147) rfl rfl (fun _ _ _ _ _ => rfl) ?_
        refine tK (l := xk_147) rfl rfl (fun _ _ _ _ _ => rfl) ?_
        refine tK (l := xk_147) rfl rfl (fun _ _ _ _ _ => rfl) ?_
        refine tK (l := xk_147) rfl rfl (fun _ _ _ _ _ => rfl) ?_
        refine tCa (l := xk_147) rfl rfl (hInvS rfl rfl rfl rfl (Nat.le_of_ble_eq_true rfl) (Nat.le_of_ble_eq_true rfl)) ?_
        refine kFi ok1.1.2 hR (fun R2 t2 ht2 hl2 hR2 => ?_)
        refine tKn ?_
        obtain ⟨k, a, y, hact⟩ := kAct v
        refine kLw_a (B := e) (k := k) (a := a) (y := y) hact he2 (by omega) (fun R9 g9 x9 u9 h19 h29 a9 b9 d9 c9 p1 p2 p3 p4 => ?_) (show okK e (t2, u, n1, h1) from ⟨⟨ht2, hl2⟩, ok1.2⟩) (show okK e (t2, u, n2, h2) from ⟨⟨ht2, hl2⟩, ok2.2⟩) hR2
        refine tSt (l := xk_147) rfl rfl (hIinc rfl (Nat.le_of_ble_eq_true rfl) ⟨by omega, by omega⟩) (Nat.le_of_ble_eq_true rfl) ?_
        refine tK (l := xk_147) rfl rfl (fun _ _ _ _ _ => rfl) ?_
        have e9 : (e : Int) + 1 = ((e + 1 : Nat) : Int) := by omega
        have h9 := ih (e + 1) R9 g9 x9 t2 u9 h19 h29 (some (.inl v)) (some (.inl a9)) (some (.inl b9)) (some (.inl d9)) c9 (by omega) (by omega) (by omega) p2 p3 p1
        rw [← e9] at h9
        exact h9
      · skip
        obtain ⟨k, a, y, hact⟩ := kAct v
        refine kLw_a (B := e) (k := k) (a := a) (y := y) hact he2 (by omega) (fun R9 g9 x9 u9 h19 h29 a9 b9 d9 c9 p1 p2 p3 p4 => ?_) ok1 ok2 hR
        refine tSt (l := xk_147) rfl rfl (hIinc rfl (Nat.le_of_ble_eq_true rfl) ⟨by omega, by omega⟩) (Nat.le_of_ble_eq_true rfl) ?_
        refine tK (l := xk_147) rfl rfl (fun _ _ _ _ _ => rfl) ?_
        have e9 : (e : Int) + 1 = ((e + 1 : Nat) : Int) := by omega
        have h9 := ih (e + 1) R9 g9 x9 t u9 h19 h29 (some (.inl v)) (some (.inl a9)) (some (.inl b9)) (some (.inl d9)) c9 (by omega) (by omega) (by omega) p2 p3 p1
        rw [← e9] at h9
        exact h9
    · skip
      refine tK (l := xk_147) rfl rfl (fun _ _ _ _ _ => rfl) ?_
      refine tCa (l := xk_147) rfl rfl (hInvS rfl rfl rfl rfl (Nat.le_of_ble_eq_true rfl) (Nat.le_of_ble_eq_true rfl)) ?_
      refine kOs (B := e) (by omega) ok1.2.1 hR (fun R5 hR5 => ?_)
      refine tKv ?_
      refine tRt (l := xk_147) rfl rfl (fun _ _ _ _ _ => rfl) ?_
      exact hQ R5 _ _ _ hR5 (by omega)
