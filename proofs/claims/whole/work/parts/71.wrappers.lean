/-! ===== the calls that tell what is thrown ===== -/
section TKH
variable {mi pc g d : Nat} {lv : xL} {ph : xH} {Q : xR → Prop}
theorem tKh {E pc' k : Nat} {rest : List xV} (hh : xhan mi pc E = some (pc', k)) (h : xT d mi pc' (xclr lv k) [] ph g Q) : xKc d mi pc lv rest Q (.inr E, ph, g) := by
  show (match xhan mi pc E with
    | some (pc', k) => xT d mi pc' (xclr lv k) [] ph g Q
    | none => Q (.inr E, ph, g))
  rw [hh]; exact h
end TKH
theorem hKl.fw {P : Nat → Prop} {zs : List xV} {ph ph2 : xH} {c : KS} (h : hKl zs ph c) (hs : hSh zs ph2) (hf : hFw P ph ph2) (hP : ∀ a, a < 147 → ¬ P a) : hKl zs ph2 c := by
  have tw : ∀ t, t + 2 < 147 → hTW ph t → hTW ph2 t := fun t ht hw r hr => by rw [hf.1 _ r (hP _ ht)]; exact hw r hr
  have to : ∀ t r, t + 2 < 147 → hTo ph2 t r = hTo ph t r := fun t r ht => hTo_eq (fun k => hf.1 _ k (hP _ (by omega))) (hf.1 _ r (hP _ ht))
  have st : ∀ s (x : SS), s + 8 < 147 → hSt ph s x → hSt ph2 s x := fun s x hx h => h.eq (fun a k ha hb => hf.1 a k (hP a (by omega)))
  obtain ⟨-, ⟨b1, b2⟩, ⟨w1, w2, w3, w4, w5⟩, h3, ⟨h4, h5⟩, h6, h7, pm, hp⟩ := h
  refine ⟨hs, ⟨tw _ (by omega) b1, (to _ _ (by omega)).trans b2⟩, ⟨tw _ (by omega) w1, tw _ (by omega) w2, tw _ (by omega) w3, tw _ (by omega) w4, tw _ (by omega) w5⟩, st _ _ (by omega) h3, ⟨tw _ (by omega) h4, tw _ (by omega) h5⟩, by rw [hf.1 _ _ (hP 1 (by omega))]; exact h6, fun x hx => st _ _ (by omega) (h7 x hx), pm, by rw [hf.1 _ _ (hP 91 (by omega))]; exact hp.1, hp.2.1, fun k hk => ?_, hp.2.2.2.1, fun k x hk => ?_⟩
  · have hi := hp.in hk
    obtain ⟨q1, q2, q3, q4, q5, q6⟩ := hp.2.2.1 k hk
    exact ⟨q1, q2, q3, by rw [hf.2.2 (hP 92 (by omega))]; exact q4, tw _ (by omega) q5, tw _ (by omega) q6⟩
  · have hk6 : k < 6 := by have := (List.getElem?_eq_some_iff.mp hk).1; have := hp.2.1; omega
    have hi := hp.in hk6
    exact st _ _ (by omega) (hp.2.2.2.2 k x hk)
theorem hMm.fw2 {P : Nat → Prop} {zs : List xV} {ph ph2 : xH} {c : KS} (h : hMm zs ph c) (hs : hSh zs ph2) (hf : hFw P ph ph2) (hP : ∀ a, 147 ≤ a → a < 168 → ¬ P a) : hMm zs ph2 c := by
  obtain ⟨-, h1, ⟨h2, h3, h4⟩, ⟨h5, h6⟩, ⟨h7, h8, h9⟩⟩ := h
  have e : ∀ a k, 147 ≤ a → a < 168 → hRd ph2 a k = hRd ph a k := fun a k h1 h2 => hf.1 a k (hP a h1 h2)
  exact ⟨hs, h1.cp (fun j _ => e _ _ (by omega) (by omega)), ⟨by rw [e _ _ (by omega) (by omega)]; exact h2, h3, fun k st hk => (h4 k st hk).cp (fun j _ => e _ _ (by omega) (by omega))⟩, ⟨by rw [e _ _ (by omega) (by omega)]; exact h5, fun st hst => (h6 st hst).cp (fun j _ => e _ _ (by omega) (by omega))⟩, ⟨by rw [e _ _ (by omega) (by omega)]; exact h7, h8, fun i x hx => by rw [e _ _ (by omega) (by omega)]; exact h9 i x hx⟩⟩
theorem clP_m : ∀ a, 147 ≤ a → a < 168 → ¬ clP a := fun a h1 h2 h3 => by unfold clP at h3; omega
theorem moP_k : ∀ a, a < 147 → ¬ moP a := fun a h1 h2 => by unfold moP at h2; omega
theorem hK168 : hKd (hTg 168) 0 = 3 ∧ 0 < hSz 168 := by decide +kernel
theorem hOu {zs : List xV} {ph : xH} {x : Int64} {c c' : KS} (k : hKl zs ph c') (m : hMm zs ph c) : hKl zs (hUl ph 168 0 x) c' ∧ hMm zs (hUl ph 168 0 x) c ∧ hRl (hUl ph 168 0 x) 168 0 = x := by
  have hs := k.1
  have hs2 : hSh zs (hUl ph 168 0 x) := hShL x hs hK168.1
  have f : hFw nP ph (hUl ph 168 0 x) → True := fun _ => trivial
  have r : ∀ a k, hRd (hUl ph 168 0 x) a k = hRd ph a k := fun a k => hRd_pu hs (Or.inl hK168.1) (fun y q => by cases q) a k
  have s : ∀ a k, hRs (hUl ph 168 0 x) a k = hRs ph a k := fun a k => hRs_ul hs hK168.1 a k
  have e := hRl_pu (x := x) hs hK168.1 hK168.2 168 0
  rw [if_pos ⟨rfl, rfl⟩] at e
  refine ⟨?_, ?_, e⟩
  · -- a frame that tells nothing of longs is enough: through a heap of the same numbers
    have g : ∀ (y : Int64), y = hRl ph 168 0 → True := fun _ _ => trivial
    obtain ⟨-, ⟨b1, b2⟩, ⟨w1, w2, w3, w4, w5⟩, h3, ⟨h4, h5⟩, h6, h7, pm, hp⟩ := k
    have tw : ∀ t, hTW ph t → hTW (hUl ph 168 0 x) t := fun t hw q hq => by rw [r]; exact hw q hq
    have to : ∀ t q, hTo (hUl ph 168 0 x) t q = hTo ph t q := fun t q => hTo_eq (fun k => r _ k) (r _ q)
    have st : ∀ s (y : SS), hSt ph s y → hSt (hUl ph 168 0 x) s y := fun s y h => h.eq (fun a k _ _ => r a k)
    refine ⟨hs2, ⟨tw _ b1, (to _ _).trans b2⟩, ⟨tw _ w1, tw _ w2, tw _ w3, tw _ w4, tw _ w5⟩, st _ _ h3, ⟨tw _ h4, tw _ h5⟩, by rw [r]; exact h6, fun y hy => st _ _ (h7 y hy), pm, by rw [r]; exact hp.1, hp.2.1, fun k hk => ?_, hp.2.2.2.1, fun k y hk => st _ _ (hp.2.2.2.2 k y hk)⟩
    obtain ⟨q1, q2, q3, q4, q5, q6⟩ := hp.2.2.1 k hk
    exact ⟨q1, q2, q3, by rw [s]; exact q4, tw _ q5, tw _ q6⟩
  · obtain ⟨-, h1, ⟨h2, h3, h4⟩, ⟨h5, h6⟩, ⟨h7, h8, h9⟩⟩ := m
    exact ⟨hs2, h1.cp (fun j _ => r _ _), ⟨by rw [r]; exact h2, h3, fun k st hk => (h4 k st hk).cp (fun j _ => r _ _)⟩, ⟨by rw [r]; exact h5, fun st hst => (h6 st hst).cp (fun j _ => r _ _)⟩, ⟨by rw [r]; exact h7, h8, fun i x hx => by rw [r]; exact h9 i x hx⟩⟩
section WRP
variable {d : Nat} {ph : xH} {zs : List xV} {g : Nat} {Q : xR → Prop} {c c' : KS} {v a b : Int}
theorem w232 (k : hKl zs ph c) (m : hMm zs ph c) (hc : ∀ Q : xR → Prop, (∀ ph2, hKl zs ph2 c' → hFd clP ph ph2 → Q (.inl (some (.inl v)), ph2, g)) → xTC d 126 [.inr (.inl (some 1)), .inl a] ph g Q) (hQ : ∀ ph2, hKl zs ph2 c' → hMm zs ph2 c → hRl ph2 168 0 = Int64.ofInt v → Q (.inl (some (.inl 0)), ph2, g)) : xTC (d + 1) 232 [.inr (.inl (some 1)), .inl a, .inr (.inl (some 168))] ph g Q := by
  have hs := k.1
  have hz168 := hK168.2
  refine tEn (ls := [some (.inr (.inl (some 1))), some (.inl a), some (.inr (.inl (some 168))), none]) (fun k => by match k with | 0 => rfl | 1 => rfl | 2 => rfl | 3 => rfl | k + 4 => rfl) ?_
  refine tK (l := xk_232) rfl rfl (fun _ _ _ _ _ => rfl) ?_
  refine tK (l := xk_232) rfl rfl (fun _ _ _ _ _ => rfl) ?_
  refine tK (l := xk_232) rfl rfl (fun _ _ _ _ _ => rfl) ?_
  refine tK (l := xk_232) rfl rfl (fun _ _ _ _ _ => rfl) ?_
  refine tCa (l := xk_232) rfl rfl (hInvV (c := 9) hs rfl rfl rfl rfl rfl (Nat.le_of_ble_eq_true rfl) (Nat.le_of_ble_eq_true rfl)) ?_
  refine hc _ (fun ph2 k2 f2 => ?_)
  refine tKv ?_
  have m2 := m.fw2 k2.1 f2.fw clP_m
  obtain ⟨q1, q2, q3⟩ := hOu (x := Int64.ofInt v) k2 m2
  refine tK (l := xk_232) rfl rfl (fun _ _ _ _ _ => rfl) ?_
  first | refine tK (l := xk_232) rfl rfl (hLastN k2.1 rfl rfl (by omega)) ?_ | refine tK (l := xk_232) rfl rfl (hLast k2.1 rfl (by omega) (by omega)) ?_
  refine tK (l := xk_232) rfl rfl (fun _ _ _ _ _ => rfl) ?_
  refine tK (l := xk_232) rfl rfl (fun _ _ _ _ _ => rfl) ?_
  refine tRt (l := xk_232) rfl rfl (fun _ _ _ _ _ => rfl) ?_
  exact hQ _ q1 q2 q3
theorem w232_0 (k : hKl zs ph c) (m : hMm zs ph c) (hc : ∀ Q : xR → Prop, (∀ ph2, hKl zs ph2 c → hFd clP ph ph2 → Q (.inr 0, ph2, g + 1)) → xTC d 126 [.inr (.inl (some 1)), .inl a] ph g Q) (hQ : ∀ ph2, hKl zs ph2 c → hMm zs ph2 c → Q (.inl (some (.inl 1)), ph2, g + 1)) : xTC (d + 1) 232 [.inr (.inl (some 1)), .inl a, .inr (.inl (some 168))] ph g Q := by
  have hs := k.1
  refine tEn (ls := [some (.inr (.inl (some 1))), some (.inl a), some (.inr (.inl (some 168))), none]) (fun k => by match k with | 0 => rfl | 1 => rfl | 2 => rfl | 3 => rfl | k + 4 => rfl) ?_
  refine tK (l := xk_232) rfl rfl (fun _ _ _ _ _ => rfl) ?_
  refine tK (l := xk_232) rfl rfl (fun _ _ _ _ _ => rfl) ?_
  refine tK (l := xk_232) rfl rfl (fun _ _ _ _ _ => rfl) ?_
  refine tK (l := xk_232) rfl rfl (fun _ _ _ _ _ => rfl) ?_
  refine tCa (l := xk_232) rfl rfl (hInvV (c := 9) hs rfl rfl rfl rfl rfl (Nat.le_of_ble_eq_true rfl) (Nat.le_of_ble_eq_true rfl)) ?_
  refine hc _ (fun ph2 k2 f2 => ?_)
  refine tKh (pc' := 13) (k := 3) (by decide +kernel) ?_
  refine tK (l := xk_232) rfl rfl (fun _ _ _ _ _ => rfl) ?_
  refine tRt (l := xk_232) rfl rfl (fun _ _ _ _ _ => rfl) ?_
  exact hQ ph2 k2 (m.fw2 k2.1 f2.fw clP_m)
theorem w232_1 (k : hKl zs ph c) (m : hMm zs ph c) (hc : ∀ Q : xR → Prop, (∀ ph2, hKl zs ph2 c → hFd clP ph ph2 → Q (.inr 1, ph2, g + 1)) → xTC d 126 [.inr (.inl (some 1)), .inl a] ph g Q) (hQ : ∀ ph2, hKl zs ph2 c → hMm zs ph2 c → Q (.inl (some (.inl 2)), ph2, g + 1)) : xTC (d + 1) 232 [.inr (.inl (some 1)), .inl a, .inr (.inl (some 168))] ph g Q := by
  have hs := k.1
  refine tEn (ls := [some (.inr (.inl (some 1))), some (.inl a), some (.inr (.inl (some 168))), none]) (fun k => by match k with | 0 => rfl | 1 => rfl | 2 => rfl | 3 => rfl | k + 4 => rfl) ?_
  refine tK (l := xk_232) rfl rfl (fun _ _ _ _ _ => rfl) ?_
  refine tK (l := xk_232) rfl rfl (fun _ _ _ _ _ => rfl) ?_
  refine tK (l := xk_232) rfl rfl (fun _ _ _ _ _ => rfl) ?_
  refine tK (l := xk_232) rfl rfl (fun _ _ _ _ _ => rfl) ?_
  refine tCa (l := xk_232) rfl rfl (hInvV (c := 9) hs rfl rfl rfl rfl rfl (Nat.le_of_ble_eq_true rfl) (Nat.le_of_ble_eq_true rfl)) ?_
  refine hc _ (fun ph2 k2 f2 => ?_)
  refine tKh (pc' := 16) (k := 3) (by decide +kernel) ?_
  refine tK (l := xk_232) rfl rfl (fun _ _ _ _ _ => rfl) ?_
  refine tRt (l := xk_232) rfl rfl (fun _ _ _ _ _ => rfl) ?_
  exact hQ ph2 k2 (m.fw2 k2.1 f2.fw clP_m)
theorem w233 (k : hKl zs ph c) (m : hMm zs ph c) (hc : ∀ Q : xR → Prop, (∀ ph2, hKl zs ph2 c' → hFd clP ph ph2 → Q (.inl (some (.inl v)), ph2, g)) → xTC d 116 [.inr (.inl (some 1))] ph g Q) (hQ : ∀ ph2, hKl zs ph2 c' → hMm zs ph2 c → hRl ph2 168 0 = Int64.ofInt v → Q (.inl (some (.inl 0)), ph2, g)) : xTC (d + 1) 233 [.inr (.inl (some 1)), .inr (.inl (some 168))] ph g Q := by
  have hs := k.1
  have hz168 := hK168.2
  refine tEn (ls := [some (.inr (.inl (some 1))), some (.inr (.inl (some 168))), none]) (fun k => by match k with | 0 => rfl | 1 => rfl | 2 => rfl | k + 3 => rfl) ?_
  refine tK (l := xk_233) rfl rfl (fun _ _ _ _ _ => rfl) ?_
  refine tK (l := xk_233) rfl rfl (fun _ _ _ _ _ => rfl) ?_
  refine tK (l := xk_233) rfl rfl (fun _ _ _ _ _ => rfl) ?_
  refine tCa (l := xk_233) rfl rfl (hInvV (c := 9) hs rfl rfl rfl rfl rfl (Nat.le_of_ble_eq_true rfl) (Nat.le_of_ble_eq_true rfl)) ?_
  refine hc _ (fun ph2 k2 f2 => ?_)
  refine tKv ?_
  have m2 := m.fw2 k2.1 f2.fw clP_m
  obtain ⟨q1, q2, q3⟩ := hOu (x := Int64.ofInt v) k2 m2
  refine tK (l := xk_233) rfl rfl (fun _ _ _ _ _ => rfl) ?_
  first | refine tK (l := xk_233) rfl rfl (hLastN k2.1 rfl rfl (by omega)) ?_ | refine tK (l := xk_233) rfl rfl (hLast k2.1 rfl (by omega) (by omega)) ?_
  refine tK (l := xk_233) rfl rfl (fun _ _ _ _ _ => rfl) ?_
  refine tK (l := xk_233) rfl rfl (fun _ _ _ _ _ => rfl) ?_
  refine tRt (l := xk_233) rfl rfl (fun _ _ _ _ _ => rfl) ?_
  exact hQ _ q1 q2 q3
theorem w233_1 (k : hKl zs ph c) (m : hMm zs ph c) (hc : ∀ Q : xR → Prop, (∀ ph2, hKl zs ph2 c → hFd clP ph ph2 → Q (.inr 1, ph2, g + 1)) → xTC d 116 [.inr (.inl (some 1))] ph g Q) (hQ : ∀ ph2, hKl zs ph2 c → hMm zs ph2 c → Q (.inl (some (.inl 1)), ph2, g + 1)) : xTC (d + 1) 233 [.inr (.inl (some 1)), .inr (.inl (some 168))] ph g Q := by
  have hs := k.1
  refine tEn (ls := [some (.inr (.inl (some 1))), some (.inr (.inl (some 168))), none]) (fun k => by match k with | 0 => rfl | 1 => rfl | 2 => rfl | k + 3 => rfl) ?_
  refine tK (l := xk_233) rfl rfl (fun _ _ _ _ _ => rfl) ?_
  refine tK (l := xk_233) rfl rfl (fun _ _ _ _ _ => rfl) ?_
  refine tK (l := xk_233) rfl rfl (fun _ _ _ _ _ => rfl) ?_
  refine tCa (l := xk_233) rfl rfl (hInvV (c := 9) hs rfl rfl rfl rfl rfl (Nat.le_of_ble_eq_true rfl) (Nat.le_of_ble_eq_true rfl)) ?_
  refine hc _ (fun ph2 k2 f2 => ?_)
  refine tKh (pc' := 12) (k := 2) (by decide +kernel) ?_
  refine tK (l := xk_233) rfl rfl (fun _ _ _ _ _ => rfl) ?_
  refine tRt (l := xk_233) rfl rfl (fun _ _ _ _ _ => rfl) ?_
  exact hQ ph2 k2 (m.fw2 k2.1 f2.fw clP_m)
theorem w234 (k : hKl zs ph c) (m : hMm zs ph c) (hc : ∀ Q : xR → Prop, (∀ ph2, hKl zs ph2 c' → hFd clP ph ph2 → Q (.inl (some (.inl v)), ph2, g)) → xTC d 118 [.inr (.inl (some 1))] ph g Q) (hQ : ∀ ph2, hKl zs ph2 c' → hMm zs ph2 c → hRl ph2 168 0 = Int64.ofInt v → Q (.inl (some (.inl 0)), ph2, g)) : xTC (d + 1) 234 [.inr (.inl (some 1)), .inr (.inl (some 168))] ph g Q := by
  have hs := k.1
  have hz168 := hK168.2
  refine tEn (ls := [some (.inr (.inl (some 1))), some (.inr (.inl (some 168))), none]) (fun k => by match k with | 0 => rfl | 1 => rfl | 2 => rfl | k + 3 => rfl) ?_
  refine tK (l := xk_234) rfl rfl (fun _ _ _ _ _ => rfl) ?_
  refine tK (l := xk_234) rfl rfl (fun _ _ _ _ _ => rfl) ?_
  refine tK (l := xk_234) rfl rfl (fun _ _ _ _ _ => rfl) ?_
  refine tCa (l := xk_234) rfl rfl (hInvV (c := 9) hs rfl rfl rfl rfl rfl (Nat.le_of_ble_eq_true rfl) (Nat.le_of_ble_eq_true rfl)) ?_
  refine hc _ (fun ph2 k2 f2 => ?_)
  refine tKv ?_
  have m2 := m.fw2 k2.1 f2.fw clP_m
  obtain ⟨q1, q2, q3⟩ := hOu (x := Int64.ofInt v) k2 m2
  refine tK (l := xk_234) rfl rfl (fun _ _ _ _ _ => rfl) ?_
  first | refine tK (l := xk_234) rfl rfl (hLastN k2.1 rfl rfl (by omega)) ?_ | refine tK (l := xk_234) rfl rfl (hLast k2.1 rfl (by omega) (by omega)) ?_
  refine tK (l := xk_234) rfl rfl (fun _ _ _ _ _ => rfl) ?_
  refine tK (l := xk_234) rfl rfl (fun _ _ _ _ _ => rfl) ?_
  refine tRt (l := xk_234) rfl rfl (fun _ _ _ _ _ => rfl) ?_
  exact hQ _ q1 q2 q3
theorem w234_1 (k : hKl zs ph c) (m : hMm zs ph c) (hc : ∀ Q : xR → Prop, (∀ ph2, hKl zs ph2 c → hFd clP ph ph2 → Q (.inr 1, ph2, g + 1)) → xTC d 118 [.inr (.inl (some 1))] ph g Q) (hQ : ∀ ph2, hKl zs ph2 c → hMm zs ph2 c → Q (.inl (some (.inl 1)), ph2, g + 1)) : xTC (d + 1) 234 [.inr (.inl (some 1)), .inr (.inl (some 168))] ph g Q := by
  have hs := k.1
  refine tEn (ls := [some (.inr (.inl (some 1))), some (.inr (.inl (some 168))), none]) (fun k => by match k with | 0 => rfl | 1 => rfl | 2 => rfl | k + 3 => rfl) ?_
  refine tK (l := xk_234) rfl rfl (fun _ _ _ _ _ => rfl) ?_
  refine tK (l := xk_234) rfl rfl (fun _ _ _ _ _ => rfl) ?_
  refine tK (l := xk_234) rfl rfl (fun _ _ _ _ _ => rfl) ?_
  refine tCa (l := xk_234) rfl rfl (hInvV (c := 9) hs rfl rfl rfl rfl rfl (Nat.le_of_ble_eq_true rfl) (Nat.le_of_ble_eq_true rfl)) ?_
  refine hc _ (fun ph2 k2 f2 => ?_)
  refine tKh (pc' := 12) (k := 2) (by decide +kernel) ?_
  refine tK (l := xk_234) rfl rfl (fun _ _ _ _ _ => rfl) ?_
  refine tRt (l := xk_234) rfl rfl (fun _ _ _ _ _ => rfl) ?_
  exact hQ ph2 k2 (m.fw2 k2.1 f2.fw clP_m)
theorem w235 (k : hKl zs ph c) (m : hMm zs ph c) (hc : ∀ Q : xR → Prop, (∀ ph2, hKl zs ph2 c' → hFd clP ph ph2 → Q (.inl (some (.inl v)), ph2, g)) → xTC d 119 [.inr (.inl (some 1))] ph g Q) (hQ : ∀ ph2, hKl zs ph2 c' → hMm zs ph2 c → hRl ph2 168 0 = Int64.ofInt v → Q (.inl (some (.inl 0)), ph2, g)) : xTC (d + 1) 235 [.inr (.inl (some 1)), .inr (.inl (some 168))] ph g Q := by
  have hs := k.1
  have hz168 := hK168.2
  refine tEn (ls := [some (.inr (.inl (some 1))), some (.inr (.inl (some 168))), none]) (fun k => by match k with | 0 => rfl | 1 => rfl | 2 => rfl | k + 3 => rfl) ?_
  refine tK (l := xk_235) rfl rfl (fun _ _ _ _ _ => rfl) ?_
  refine tK (l := xk_235) rfl rfl (fun _ _ _ _ _ => rfl) ?_
  refine tK (l := xk_235) rfl rfl (fun _ _ _ _ _ => rfl) ?_
  refine tCa (l := xk_235) rfl rfl (hInvV (c := 9) hs rfl rfl rfl rfl rfl (Nat.le_of_ble_eq_true rfl) (Nat.le_of_ble_eq_true rfl)) ?_
  refine hc _ (fun ph2 k2 f2 => ?_)
  refine tKv ?_
  have m2 := m.fw2 k2.1 f2.fw clP_m
  obtain ⟨q1, q2, q3⟩ := hOu (x := Int64.ofInt v) k2 m2
  refine tK (l := xk_235) rfl rfl (fun _ _ _ _ _ => rfl) ?_
  first | refine tK (l := xk_235) rfl rfl (hLastN k2.1 rfl rfl (by omega)) ?_ | refine tK (l := xk_235) rfl rfl (hLast k2.1 rfl (by omega) (by omega)) ?_
  refine tK (l := xk_235) rfl rfl (fun _ _ _ _ _ => rfl) ?_
  refine tK (l := xk_235) rfl rfl (fun _ _ _ _ _ => rfl) ?_
  refine tRt (l := xk_235) rfl rfl (fun _ _ _ _ _ => rfl) ?_
  exact hQ _ q1 q2 q3
theorem w235_1 (k : hKl zs ph c) (m : hMm zs ph c) (hc : ∀ Q : xR → Prop, (∀ ph2, hKl zs ph2 c → hFd clP ph ph2 → Q (.inr 1, ph2, g + 1)) → xTC d 119 [.inr (.inl (some 1))] ph g Q) (hQ : ∀ ph2, hKl zs ph2 c → hMm zs ph2 c → Q (.inl (some (.inl 1)), ph2, g + 1)) : xTC (d + 1) 235 [.inr (.inl (some 1)), .inr (.inl (some 168))] ph g Q := by
  have hs := k.1
  refine tEn (ls := [some (.inr (.inl (some 1))), some (.inr (.inl (some 168))), none]) (fun k => by match k with | 0 => rfl | 1 => rfl | 2 => rfl | k + 3 => rfl) ?_
  refine tK (l := xk_235) rfl rfl (fun _ _ _ _ _ => rfl) ?_
  refine tK (l := xk_235) rfl rfl (fun _ _ _ _ _ => rfl) ?_
  refine tK (l := xk_235) rfl rfl (fun _ _ _ _ _ => rfl) ?_
  refine tCa (l := xk_235) rfl rfl (hInvV (c := 9) hs rfl rfl rfl rfl rfl (Nat.le_of_ble_eq_true rfl) (Nat.le_of_ble_eq_true rfl)) ?_
  refine hc _ (fun ph2 k2 f2 => ?_)
  refine tKh (pc' := 12) (k := 2) (by decide +kernel) ?_
  refine tK (l := xk_235) rfl rfl (fun _ _ _ _ _ => rfl) ?_
  refine tRt (l := xk_235) rfl rfl (fun _ _ _ _ _ => rfl) ?_
  exact hQ ph2 k2 (m.fw2 k2.1 f2.fw clP_m)
theorem w236 (k : hKl zs ph c) (m : hMm zs ph c) (hc : ∀ Q : xR → Prop, (∀ ph2, hKl zs ph2 c' → hFd clP ph ph2 → Q (.inl (some (.inl v)), ph2, g)) → xTC d 120 [.inr (.inl (some 1))] ph g Q) (hQ : ∀ ph2, hKl zs ph2 c' → hMm zs ph2 c → hRl ph2 168 0 = Int64.ofInt v → Q (.inl (some (.inl 0)), ph2, g)) : xTC (d + 1) 236 [.inr (.inl (some 1)), .inr (.inl (some 168))] ph g Q := by
  have hs := k.1
  have hz168 := hK168.2
  refine tEn (ls := [some (.inr (.inl (some 1))), some (.inr (.inl (some 168))), none]) (fun k => by match k with | 0 => rfl | 1 => rfl | 2 => rfl | k + 3 => rfl) ?_
  refine tK (l := xk_236) rfl rfl (fun _ _ _ _ _ => rfl) ?_
  refine tK (l := xk_236) rfl rfl (fun _ _ _ _ _ => rfl) ?_
  refine tK (l := xk_236) rfl rfl (fun _ _ _ _ _ => rfl) ?_
  refine tCa (l := xk_236) rfl rfl (hInvV (c := 9) hs rfl rfl rfl rfl rfl (Nat.le_of_ble_eq_true rfl) (Nat.le_of_ble_eq_true rfl)) ?_
  refine hc _ (fun ph2 k2 f2 => ?_)
  refine tKv ?_
  have m2 := m.fw2 k2.1 f2.fw clP_m
  obtain ⟨q1, q2, q3⟩ := hOu (x := Int64.ofInt v) k2 m2
  refine tK (l := xk_236) rfl rfl (fun _ _ _ _ _ => rfl) ?_
  first | refine tK (l := xk_236) rfl rfl (hLastN k2.1 rfl rfl (by omega)) ?_ | refine tK (l := xk_236) rfl rfl (hLast k2.1 rfl (by omega) (by omega)) ?_
  refine tK (l := xk_236) rfl rfl (fun _ _ _ _ _ => rfl) ?_
  refine tK (l := xk_236) rfl rfl (fun _ _ _ _ _ => rfl) ?_
  refine tRt (l := xk_236) rfl rfl (fun _ _ _ _ _ => rfl) ?_
  exact hQ _ q1 q2 q3
theorem w236_1 (k : hKl zs ph c) (m : hMm zs ph c) (hc : ∀ Q : xR → Prop, (∀ ph2, hKl zs ph2 c → hFd clP ph ph2 → Q (.inr 1, ph2, g + 1)) → xTC d 120 [.inr (.inl (some 1))] ph g Q) (hQ : ∀ ph2, hKl zs ph2 c → hMm zs ph2 c → Q (.inl (some (.inl 1)), ph2, g + 1)) : xTC (d + 1) 236 [.inr (.inl (some 1)), .inr (.inl (some 168))] ph g Q := by
  have hs := k.1
  refine tEn (ls := [some (.inr (.inl (some 1))), some (.inr (.inl (some 168))), none]) (fun k => by match k with | 0 => rfl | 1 => rfl | 2 => rfl | k + 3 => rfl) ?_
  refine tK (l := xk_236) rfl rfl (fun _ _ _ _ _ => rfl) ?_
  refine tK (l := xk_236) rfl rfl (fun _ _ _ _ _ => rfl) ?_
  refine tK (l := xk_236) rfl rfl (fun _ _ _ _ _ => rfl) ?_
  refine tCa (l := xk_236) rfl rfl (hInvV (c := 9) hs rfl rfl rfl rfl rfl (Nat.le_of_ble_eq_true rfl) (Nat.le_of_ble_eq_true rfl)) ?_
  refine hc _ (fun ph2 k2 f2 => ?_)
  refine tKh (pc' := 12) (k := 2) (by decide +kernel) ?_
  refine tK (l := xk_236) rfl rfl (fun _ _ _ _ _ => rfl) ?_
  refine tRt (l := xk_236) rfl rfl (fun _ _ _ _ _ => rfl) ?_
  exact hQ ph2 k2 (m.fw2 k2.1 f2.fw clP_m)
theorem w237 (k : hKl zs ph c) (m : hMm zs ph c) (hc : ∀ Q : xR → Prop, (∀ ph2, hKl zs ph2 c' → hFd clP ph ph2 → Q (.inl (some (.inl v)), ph2, g)) → xTC d 121 [.inr (.inl (some 1))] ph g Q) (hQ : ∀ ph2, hKl zs ph2 c' → hMm zs ph2 c → hRl ph2 168 0 = Int64.ofInt v → Q (.inl (some (.inl 0)), ph2, g)) : xTC (d + 1) 237 [.inr (.inl (some 1)), .inr (.inl (some 168))] ph g Q := by
  have hs := k.1
  have hz168 := hK168.2
  refine tEn (ls := [some (.inr (.inl (some 1))), some (.inr (.inl (some 168))), none]) (fun k => by match k with | 0 => rfl | 1 => rfl | 2 => rfl | k + 3 => rfl) ?_
  refine tK (l := xk_237) rfl rfl (fun _ _ _ _ _ => rfl) ?_
  refine tK (l := xk_237) rfl rfl (fun _ _ _ _ _ => rfl) ?_
  refine tK (l := xk_237) rfl rfl (fun _ _ _ _ _ => rfl) ?_
  refine tCa (l := xk_237) rfl rfl (hInvV (c := 9) hs rfl rfl rfl rfl rfl (Nat.le_of_ble_eq_true rfl) (Nat.le_of_ble_eq_true rfl)) ?_
  refine hc _ (fun ph2 k2 f2 => ?_)
  refine tKv ?_
  have m2 := m.fw2 k2.1 f2.fw clP_m
  obtain ⟨q1, q2, q3⟩ := hOu (x := Int64.ofInt v) k2 m2
  refine tK (l := xk_237) rfl rfl (fun _ _ _ _ _ => rfl) ?_
  first | refine tK (l := xk_237) rfl rfl (hLastN k2.1 rfl rfl (by omega)) ?_ | refine tK (l := xk_237) rfl rfl (hLast k2.1 rfl (by omega) (by omega)) ?_
  refine tK (l := xk_237) rfl rfl (fun _ _ _ _ _ => rfl) ?_
  refine tK (l := xk_237) rfl rfl (fun _ _ _ _ _ => rfl) ?_
  refine tRt (l := xk_237) rfl rfl (fun _ _ _ _ _ => rfl) ?_
  exact hQ _ q1 q2 q3
theorem w237_1 (k : hKl zs ph c) (m : hMm zs ph c) (hc : ∀ Q : xR → Prop, (∀ ph2, hKl zs ph2 c → hFd clP ph ph2 → Q (.inr 1, ph2, g + 1)) → xTC d 121 [.inr (.inl (some 1))] ph g Q) (hQ : ∀ ph2, hKl zs ph2 c → hMm zs ph2 c → Q (.inl (some (.inl 1)), ph2, g + 1)) : xTC (d + 1) 237 [.inr (.inl (some 1)), .inr (.inl (some 168))] ph g Q := by
  have hs := k.1
  refine tEn (ls := [some (.inr (.inl (some 1))), some (.inr (.inl (some 168))), none]) (fun k => by match k with | 0 => rfl | 1 => rfl | 2 => rfl | k + 3 => rfl) ?_
  refine tK (l := xk_237) rfl rfl (fun _ _ _ _ _ => rfl) ?_
  refine tK (l := xk_237) rfl rfl (fun _ _ _ _ _ => rfl) ?_
  refine tK (l := xk_237) rfl rfl (fun _ _ _ _ _ => rfl) ?_
  refine tCa (l := xk_237) rfl rfl (hInvV (c := 9) hs rfl rfl rfl rfl rfl (Nat.le_of_ble_eq_true rfl) (Nat.le_of_ble_eq_true rfl)) ?_
  refine hc _ (fun ph2 k2 f2 => ?_)
  refine tKh (pc' := 12) (k := 2) (by decide +kernel) ?_
  refine tK (l := xk_237) rfl rfl (fun _ _ _ _ _ => rfl) ?_
  refine tRt (l := xk_237) rfl rfl (fun _ _ _ _ _ => rfl) ?_
  exact hQ ph2 k2 (m.fw2 k2.1 f2.fw clP_m)
theorem w238 (k : hKl zs ph c) (m : hMm zs ph c) (hc : ∀ Q : xR → Prop, (∀ ph2, hKl zs ph2 c' → hFd clP ph ph2 → Q (.inl (some (.inl v)), ph2, g)) → xTC d 128 [.inr (.inl (some 1)), .inl a, .inl b] ph g Q) (hQ : ∀ ph2, hKl zs ph2 c' → hMm zs ph2 c → hRl ph2 168 0 = Int64.ofInt v → Q (.inl (some (.inl 0)), ph2, g)) : xTC (d + 1) 238 [.inr (.inl (some 1)), .inl a, .inl b, .inr (.inl (some 168))] ph g Q := by
  have hs := k.1
  have hz168 := hK168.2
  refine tEn (ls := [some (.inr (.inl (some 1))), some (.inl a), some (.inl b), some (.inr (.inl (some 168))), none]) (fun k => by match k with | 0 => rfl | 1 => rfl | 2 => rfl | 3 => rfl | 4 => rfl | k + 5 => rfl) ?_
  refine tK (l := xk_238) rfl rfl (fun _ _ _ _ _ => rfl) ?_
  refine tK (l := xk_238) rfl rfl (fun _ _ _ _ _ => rfl) ?_
  refine tK (l := xk_238) rfl rfl (fun _ _ _ _ _ => rfl) ?_
  refine tK (l := xk_238) rfl rfl (fun _ _ _ _ _ => rfl) ?_
  refine tK (l := xk_238) rfl rfl (fun _ _ _ _ _ => rfl) ?_
  refine tCa (l := xk_238) rfl rfl (hInvV (c := 9) hs rfl rfl rfl rfl rfl (Nat.le_of_ble_eq_true rfl) (Nat.le_of_ble_eq_true rfl)) ?_
  refine hc _ (fun ph2 k2 f2 => ?_)
  refine tKv ?_
  have m2 := m.fw2 k2.1 f2.fw clP_m
  obtain ⟨q1, q2, q3⟩ := hOu (x := Int64.ofInt v) k2 m2
  refine tK (l := xk_238) rfl rfl (fun _ _ _ _ _ => rfl) ?_
  first | refine tK (l := xk_238) rfl rfl (hLastN k2.1 rfl rfl (by omega)) ?_ | refine tK (l := xk_238) rfl rfl (hLast k2.1 rfl (by omega) (by omega)) ?_
  refine tK (l := xk_238) rfl rfl (fun _ _ _ _ _ => rfl) ?_
  refine tK (l := xk_238) rfl rfl (fun _ _ _ _ _ => rfl) ?_
  refine tRt (l := xk_238) rfl rfl (fun _ _ _ _ _ => rfl) ?_
  exact hQ _ q1 q2 q3
theorem w238_2 (k : hKl zs ph c) (m : hMm zs ph c) (hc : ∀ Q : xR → Prop, (∀ ph2, hKl zs ph2 c → hFd clP ph ph2 → Q (.inr 2, ph2, g + 1)) → xTC d 128 [.inr (.inl (some 1)), .inl a, .inl b] ph g Q) (hQ : ∀ ph2, hKl zs ph2 c → hMm zs ph2 c → Q (.inl (some (.inl 1)), ph2, g + 1)) : xTC (d + 1) 238 [.inr (.inl (some 1)), .inl a, .inl b, .inr (.inl (some 168))] ph g Q := by
  have hs := k.1
  refine tEn (ls := [some (.inr (.inl (some 1))), some (.inl a), some (.inl b), some (.inr (.inl (some 168))), none]) (fun k => by match k with | 0 => rfl | 1 => rfl | 2 => rfl | 3 => rfl | 4 => rfl | k + 5 => rfl) ?_
  refine tK (l := xk_238) rfl rfl (fun _ _ _ _ _ => rfl) ?_
  refine tK (l := xk_238) rfl rfl (fun _ _ _ _ _ => rfl) ?_
  refine tK (l := xk_238) rfl rfl (fun _ _ _ _ _ => rfl) ?_
  refine tK (l := xk_238) rfl rfl (fun _ _ _ _ _ => rfl) ?_
  refine tK (l := xk_238) rfl rfl (fun _ _ _ _ _ => rfl) ?_
  refine tCa (l := xk_238) rfl rfl (hInvV (c := 9) hs rfl rfl rfl rfl rfl (Nat.le_of_ble_eq_true rfl) (Nat.le_of_ble_eq_true rfl)) ?_
  refine hc _ (fun ph2 k2 f2 => ?_)
  refine tKh (pc' := 15) (k := 4) (by decide +kernel) ?_
  refine tK (l := xk_238) rfl rfl (fun _ _ _ _ _ => rfl) ?_
  refine tRt (l := xk_238) rfl rfl (fun _ _ _ _ _ => rfl) ?_
  exact hQ ph2 k2 (m.fw2 k2.1 f2.fw clP_m)
theorem w238_0 (k : hKl zs ph c) (m : hMm zs ph c) (hc : ∀ Q : xR → Prop, (∀ ph2, hKl zs ph2 c → hFd clP ph ph2 → Q (.inr 0, ph2, g + 1)) → xTC d 128 [.inr (.inl (some 1)), .inl a, .inl b] ph g Q) (hQ : ∀ ph2, hKl zs ph2 c → hMm zs ph2 c → Q (.inl (some (.inl 2)), ph2, g + 1)) : xTC (d + 1) 238 [.inr (.inl (some 1)), .inl a, .inl b, .inr (.inl (some 168))] ph g Q := by
  have hs := k.1
  refine tEn (ls := [some (.inr (.inl (some 1))), some (.inl a), some (.inl b), some (.inr (.inl (some 168))), none]) (fun k => by match k with | 0 => rfl | 1 => rfl | 2 => rfl | 3 => rfl | 4 => rfl | k + 5 => rfl) ?_
  refine tK (l := xk_238) rfl rfl (fun _ _ _ _ _ => rfl) ?_
  refine tK (l := xk_238) rfl rfl (fun _ _ _ _ _ => rfl) ?_
  refine tK (l := xk_238) rfl rfl (fun _ _ _ _ _ => rfl) ?_
  refine tK (l := xk_238) rfl rfl (fun _ _ _ _ _ => rfl) ?_
  refine tK (l := xk_238) rfl rfl (fun _ _ _ _ _ => rfl) ?_
  refine tCa (l := xk_238) rfl rfl (hInvV (c := 9) hs rfl rfl rfl rfl rfl (Nat.le_of_ble_eq_true rfl) (Nat.le_of_ble_eq_true rfl)) ?_
  refine hc _ (fun ph2 k2 f2 => ?_)
  refine tKh (pc' := 19) (k := 4) (by decide +kernel) ?_
  refine tK (l := xk_238) rfl rfl (fun _ _ _ _ _ => rfl) ?_
  refine tRt (l := xk_238) rfl rfl (fun _ _ _ _ _ => rfl) ?_
  exact hQ ph2 k2 (m.fw2 k2.1 f2.fw clP_m)
theorem w238_1 (k : hKl zs ph c) (m : hMm zs ph c) (hc : ∀ Q : xR → Prop, (∀ ph2, hKl zs ph2 c → hFd clP ph ph2 → Q (.inr 1, ph2, g + 1)) → xTC d 128 [.inr (.inl (some 1)), .inl a, .inl b] ph g Q) (hQ : ∀ ph2, hKl zs ph2 c → hMm zs ph2 c → Q (.inl (some (.inl 3)), ph2, g + 1)) : xTC (d + 1) 238 [.inr (.inl (some 1)), .inl a, .inl b, .inr (.inl (some 168))] ph g Q := by
  have hs := k.1
  refine tEn (ls := [some (.inr (.inl (some 1))), some (.inl a), some (.inl b), some (.inr (.inl (some 168))), none]) (fun k => by match k with | 0 => rfl | 1 => rfl | 2 => rfl | 3 => rfl | 4 => rfl | k + 5 => rfl) ?_
  refine tK (l := xk_238) rfl rfl (fun _ _ _ _ _ => rfl) ?_
  refine tK (l := xk_238) rfl rfl (fun _ _ _ _ _ => rfl) ?_
  refine tK (l := xk_238) rfl rfl (fun _ _ _ _ _ => rfl) ?_
  refine tK (l := xk_238) rfl rfl (fun _ _ _ _ _ => rfl) ?_
  refine tK (l := xk_238) rfl rfl (fun _ _ _ _ _ => rfl) ?_
  refine tCa (l := xk_238) rfl rfl (hInvV (c := 9) hs rfl rfl rfl rfl rfl (Nat.le_of_ble_eq_true rfl) (Nat.le_of_ble_eq_true rfl)) ?_
  refine hc _ (fun ph2 k2 f2 => ?_)
  refine tKh (pc' := 23) (k := 4) (by decide +kernel) ?_
  refine tK (l := xk_238) rfl rfl (fun _ _ _ _ _ => rfl) ?_
  refine tRt (l := xk_238) rfl rfl (fun _ _ _ _ _ => rfl) ?_
  exact hQ ph2 k2 (m.fw2 k2.1 f2.fw clP_m)
theorem w239 (k : hKl zs ph c) (m : hMm zs ph c) (hc : ∀ Q : xR → Prop, (∀ ph2, hKl zs ph2 c' → hFd clP ph ph2 → Q (.inl (some (.inl v)), ph2, g)) → xTC d 129 [.inr (.inl (some 1)), .inl a] ph g Q) (hQ : ∀ ph2, hKl zs ph2 c' → hMm zs ph2 c → hRl ph2 168 0 = Int64.ofInt v → Q (.inl (some (.inl 0)), ph2, g)) : xTC (d + 1) 239 [.inr (.inl (some 1)), .inl a, .inr (.inl (some 168))] ph g Q := by
  have hs := k.1
  have hz168 := hK168.2
  refine tEn (ls := [some (.inr (.inl (some 1))), some (.inl a), some (.inr (.inl (some 168))), none]) (fun k => by match k with | 0 => rfl | 1 => rfl | 2 => rfl | 3 => rfl | k + 4 => rfl) ?_
  refine tK (l := xk_239) rfl rfl (fun _ _ _ _ _ => rfl) ?_
  refine tK (l := xk_239) rfl rfl (fun _ _ _ _ _ => rfl) ?_
  refine tK (l := xk_239) rfl rfl (fun _ _ _ _ _ => rfl) ?_
  refine tK (l := xk_239) rfl rfl (fun _ _ _ _ _ => rfl) ?_
  refine tCa (l := xk_239) rfl rfl (hInvV (c := 9) hs rfl rfl rfl rfl rfl (Nat.le_of_ble_eq_true rfl) (Nat.le_of_ble_eq_true rfl)) ?_
  refine hc _ (fun ph2 k2 f2 => ?_)
  refine tKv ?_
  have m2 := m.fw2 k2.1 f2.fw clP_m
  obtain ⟨q1, q2, q3⟩ := hOu (x := Int64.ofInt v) k2 m2
  refine tK (l := xk_239) rfl rfl (fun _ _ _ _ _ => rfl) ?_
  first | refine tK (l := xk_239) rfl rfl (hLastN k2.1 rfl rfl (by omega)) ?_ | refine tK (l := xk_239) rfl rfl (hLast k2.1 rfl (by omega) (by omega)) ?_
  refine tK (l := xk_239) rfl rfl (fun _ _ _ _ _ => rfl) ?_
  refine tK (l := xk_239) rfl rfl (fun _ _ _ _ _ => rfl) ?_
  refine tRt (l := xk_239) rfl rfl (fun _ _ _ _ _ => rfl) ?_
  exact hQ _ q1 q2 q3
theorem w239_2 (k : hKl zs ph c) (m : hMm zs ph c) (hc : ∀ Q : xR → Prop, (∀ ph2, hKl zs ph2 c → hFd clP ph ph2 → Q (.inr 2, ph2, g + 1)) → xTC d 129 [.inr (.inl (some 1)), .inl a] ph g Q) (hQ : ∀ ph2, hKl zs ph2 c → hMm zs ph2 c → Q (.inl (some (.inl 1)), ph2, g + 1)) : xTC (d + 1) 239 [.inr (.inl (some 1)), .inl a, .inr (.inl (some 168))] ph g Q := by
  have hs := k.1
  refine tEn (ls := [some (.inr (.inl (some 1))), some (.inl a), some (.inr (.inl (some 168))), none]) (fun k => by match k with | 0 => rfl | 1 => rfl | 2 => rfl | 3 => rfl | k + 4 => rfl) ?_
  refine tK (l := xk_239) rfl rfl (fun _ _ _ _ _ => rfl) ?_
  refine tK (l := xk_239) rfl rfl (fun _ _ _ _ _ => rfl) ?_
  refine tK (l := xk_239) rfl rfl (fun _ _ _ _ _ => rfl) ?_
  refine tK (l := xk_239) rfl rfl (fun _ _ _ _ _ => rfl) ?_
  refine tCa (l := xk_239) rfl rfl (hInvV (c := 9) hs rfl rfl rfl rfl rfl (Nat.le_of_ble_eq_true rfl) (Nat.le_of_ble_eq_true rfl)) ?_
  refine hc _ (fun ph2 k2 f2 => ?_)
  refine tKh (pc' := 13) (k := 3) (by decide +kernel) ?_
  refine tK (l := xk_239) rfl rfl (fun _ _ _ _ _ => rfl) ?_
  refine tRt (l := xk_239) rfl rfl (fun _ _ _ _ _ => rfl) ?_
  exact hQ ph2 k2 (m.fw2 k2.1 f2.fw clP_m)
theorem w239_1 (k : hKl zs ph c) (m : hMm zs ph c) (hc : ∀ Q : xR → Prop, (∀ ph2, hKl zs ph2 c → hFd clP ph ph2 → Q (.inr 1, ph2, g + 1)) → xTC d 129 [.inr (.inl (some 1)), .inl a] ph g Q) (hQ : ∀ ph2, hKl zs ph2 c → hMm zs ph2 c → Q (.inl (some (.inl 2)), ph2, g + 1)) : xTC (d + 1) 239 [.inr (.inl (some 1)), .inl a, .inr (.inl (some 168))] ph g Q := by
  have hs := k.1
  refine tEn (ls := [some (.inr (.inl (some 1))), some (.inl a), some (.inr (.inl (some 168))), none]) (fun k => by match k with | 0 => rfl | 1 => rfl | 2 => rfl | 3 => rfl | k + 4 => rfl) ?_
  refine tK (l := xk_239) rfl rfl (fun _ _ _ _ _ => rfl) ?_
  refine tK (l := xk_239) rfl rfl (fun _ _ _ _ _ => rfl) ?_
  refine tK (l := xk_239) rfl rfl (fun _ _ _ _ _ => rfl) ?_
  refine tK (l := xk_239) rfl rfl (fun _ _ _ _ _ => rfl) ?_
  refine tCa (l := xk_239) rfl rfl (hInvV (c := 9) hs rfl rfl rfl rfl rfl (Nat.le_of_ble_eq_true rfl) (Nat.le_of_ble_eq_true rfl)) ?_
  refine hc _ (fun ph2 k2 f2 => ?_)
  refine tKh (pc' := 16) (k := 3) (by decide +kernel) ?_
  refine tK (l := xk_239) rfl rfl (fun _ _ _ _ _ => rfl) ?_
  refine tRt (l := xk_239) rfl rfl (fun _ _ _ _ _ => rfl) ?_
  exact hQ ph2 k2 (m.fw2 k2.1 f2.fw clP_m)
theorem w240 (k : hKl zs ph c) (m : hMm zs ph c) (hc : ∀ Q : xR → Prop, (∀ ph2, hKl zs ph2 c' → hFd clP ph ph2 → Q (.inl (some (.inl v)), ph2, g)) → xTC d 130 [.inr (.inl (some 1)), .inl a] ph g Q) (hQ : ∀ ph2, hKl zs ph2 c' → hMm zs ph2 c → hRl ph2 168 0 = Int64.ofInt v → Q (.inl (some (.inl 0)), ph2, g)) : xTC (d + 1) 240 [.inr (.inl (some 1)), .inl a, .inr (.inl (some 168))] ph g Q := by
  have hs := k.1
  have hz168 := hK168.2
  refine tEn (ls := [some (.inr (.inl (some 1))), some (.inl a), some (.inr (.inl (some 168))), none]) (fun k => by match k with | 0 => rfl | 1 => rfl | 2 => rfl | 3 => rfl | k + 4 => rfl) ?_
  refine tK (l := xk_240) rfl rfl (fun _ _ _ _ _ => rfl) ?_
  refine tK (l := xk_240) rfl rfl (fun _ _ _ _ _ => rfl) ?_
  refine tK (l := xk_240) rfl rfl (fun _ _ _ _ _ => rfl) ?_
  refine tK (l := xk_240) rfl rfl (fun _ _ _ _ _ => rfl) ?_
  refine tCa (l := xk_240) rfl rfl (hInvV (c := 9) hs rfl rfl rfl rfl rfl (Nat.le_of_ble_eq_true rfl) (Nat.le_of_ble_eq_true rfl)) ?_
  refine hc _ (fun ph2 k2 f2 => ?_)
  refine tKv ?_
  have m2 := m.fw2 k2.1 f2.fw clP_m
  obtain ⟨q1, q2, q3⟩ := hOu (x := Int64.ofInt v) k2 m2
  refine tK (l := xk_240) rfl rfl (fun _ _ _ _ _ => rfl) ?_
  first | refine tK (l := xk_240) rfl rfl (hLastN k2.1 rfl rfl (by omega)) ?_ | refine tK (l := xk_240) rfl rfl (hLast k2.1 rfl (by omega) (by omega)) ?_
  refine tK (l := xk_240) rfl rfl (fun _ _ _ _ _ => rfl) ?_
  refine tK (l := xk_240) rfl rfl (fun _ _ _ _ _ => rfl) ?_
  refine tRt (l := xk_240) rfl rfl (fun _ _ _ _ _ => rfl) ?_
  exact hQ _ q1 q2 q3
theorem w240_2 (k : hKl zs ph c) (m : hMm zs ph c) (hc : ∀ Q : xR → Prop, (∀ ph2, hKl zs ph2 c → hFd clP ph ph2 → Q (.inr 2, ph2, g + 1)) → xTC d 130 [.inr (.inl (some 1)), .inl a] ph g Q) (hQ : ∀ ph2, hKl zs ph2 c → hMm zs ph2 c → Q (.inl (some (.inl 1)), ph2, g + 1)) : xTC (d + 1) 240 [.inr (.inl (some 1)), .inl a, .inr (.inl (some 168))] ph g Q := by
  have hs := k.1
  refine tEn (ls := [some (.inr (.inl (some 1))), some (.inl a), some (.inr (.inl (some 168))), none]) (fun k => by match k with | 0 => rfl | 1 => rfl | 2 => rfl | 3 => rfl | k + 4 => rfl) ?_
  refine tK (l := xk_240) rfl rfl (fun _ _ _ _ _ => rfl) ?_
  refine tK (l := xk_240) rfl rfl (fun _ _ _ _ _ => rfl) ?_
  refine tK (l := xk_240) rfl rfl (fun _ _ _ _ _ => rfl) ?_
  refine tK (l := xk_240) rfl rfl (fun _ _ _ _ _ => rfl) ?_
  refine tCa (l := xk_240) rfl rfl (hInvV (c := 9) hs rfl rfl rfl rfl rfl (Nat.le_of_ble_eq_true rfl) (Nat.le_of_ble_eq_true rfl)) ?_
  refine hc _ (fun ph2 k2 f2 => ?_)
  refine tKh (pc' := 13) (k := 3) (by decide +kernel) ?_
  refine tK (l := xk_240) rfl rfl (fun _ _ _ _ _ => rfl) ?_
  refine tRt (l := xk_240) rfl rfl (fun _ _ _ _ _ => rfl) ?_
  exact hQ ph2 k2 (m.fw2 k2.1 f2.fw clP_m)
theorem w241 (k : hKl zs ph c) (m : hMm zs ph c) (hc : ∀ Q : xR → Prop, (∀ ph2, hKl zs ph2 c' → hFd clP ph ph2 → Q (.inl (some (.inl v)), ph2, g)) → xTC d 131 [.inr (.inl (some 1)), .inl a, .inl b] ph g Q) (hQ : ∀ ph2, hKl zs ph2 c' → hMm zs ph2 c → hRl ph2 168 0 = Int64.ofInt v → Q (.inl (some (.inl 0)), ph2, g)) : xTC (d + 1) 241 [.inr (.inl (some 1)), .inl a, .inl b, .inr (.inl (some 168))] ph g Q := by
  have hs := k.1
  have hz168 := hK168.2
  refine tEn (ls := [some (.inr (.inl (some 1))), some (.inl a), some (.inl b), some (.inr (.inl (some 168))), none]) (fun k => by match k with | 0 => rfl | 1 => rfl | 2 => rfl | 3 => rfl | 4 => rfl | k + 5 => rfl) ?_
  refine tK (l := xk_241) rfl rfl (fun _ _ _ _ _ => rfl) ?_
  refine tK (l := xk_241) rfl rfl (fun _ _ _ _ _ => rfl) ?_
  refine tK (l := xk_241) rfl rfl (fun _ _ _ _ _ => rfl) ?_
  refine tK (l := xk_241) rfl rfl (fun _ _ _ _ _ => rfl) ?_
  refine tK (l := xk_241) rfl rfl (fun _ _ _ _ _ => rfl) ?_
  refine tCa (l := xk_241) rfl rfl (hInvV (c := 9) hs rfl rfl rfl rfl rfl (Nat.le_of_ble_eq_true rfl) (Nat.le_of_ble_eq_true rfl)) ?_
  refine hc _ (fun ph2 k2 f2 => ?_)
  refine tKv ?_
  have m2 := m.fw2 k2.1 f2.fw clP_m
  obtain ⟨q1, q2, q3⟩ := hOu (x := Int64.ofInt v) k2 m2
  refine tK (l := xk_241) rfl rfl (fun _ _ _ _ _ => rfl) ?_
  first | refine tK (l := xk_241) rfl rfl (hLastN k2.1 rfl rfl (by omega)) ?_ | refine tK (l := xk_241) rfl rfl (hLast k2.1 rfl (by omega) (by omega)) ?_
  refine tK (l := xk_241) rfl rfl (fun _ _ _ _ _ => rfl) ?_
  refine tK (l := xk_241) rfl rfl (fun _ _ _ _ _ => rfl) ?_
  refine tRt (l := xk_241) rfl rfl (fun _ _ _ _ _ => rfl) ?_
  exact hQ _ q1 q2 q3
theorem w241_2 (k : hKl zs ph c) (m : hMm zs ph c) (hc : ∀ Q : xR → Prop, (∀ ph2, hKl zs ph2 c → hFd clP ph ph2 → Q (.inr 2, ph2, g + 1)) → xTC d 131 [.inr (.inl (some 1)), .inl a, .inl b] ph g Q) (hQ : ∀ ph2, hKl zs ph2 c → hMm zs ph2 c → Q (.inl (some (.inl 1)), ph2, g + 1)) : xTC (d + 1) 241 [.inr (.inl (some 1)), .inl a, .inl b, .inr (.inl (some 168))] ph g Q := by
  have hs := k.1
  refine tEn (ls := [some (.inr (.inl (some 1))), some (.inl a), some (.inl b), some (.inr (.inl (some 168))), none]) (fun k => by match k with | 0 => rfl | 1 => rfl | 2 => rfl | 3 => rfl | 4 => rfl | k + 5 => rfl) ?_
  refine tK (l := xk_241) rfl rfl (fun _ _ _ _ _ => rfl) ?_
  refine tK (l := xk_241) rfl rfl (fun _ _ _ _ _ => rfl) ?_
  refine tK (l := xk_241) rfl rfl (fun _ _ _ _ _ => rfl) ?_
  refine tK (l := xk_241) rfl rfl (fun _ _ _ _ _ => rfl) ?_
  refine tK (l := xk_241) rfl rfl (fun _ _ _ _ _ => rfl) ?_
  refine tCa (l := xk_241) rfl rfl (hInvV (c := 9) hs rfl rfl rfl rfl rfl (Nat.le_of_ble_eq_true rfl) (Nat.le_of_ble_eq_true rfl)) ?_
  refine hc _ (fun ph2 k2 f2 => ?_)
  refine tKh (pc' := 15) (k := 4) (by decide +kernel) ?_
  refine tK (l := xk_241) rfl rfl (fun _ _ _ _ _ => rfl) ?_
  refine tRt (l := xk_241) rfl rfl (fun _ _ _ _ _ => rfl) ?_
  exact hQ ph2 k2 (m.fw2 k2.1 f2.fw clP_m)
theorem w241_1 (k : hKl zs ph c) (m : hMm zs ph c) (hc : ∀ Q : xR → Prop, (∀ ph2, hKl zs ph2 c → hFd clP ph ph2 → Q (.inr 1, ph2, g + 1)) → xTC d 131 [.inr (.inl (some 1)), .inl a, .inl b] ph g Q) (hQ : ∀ ph2, hKl zs ph2 c → hMm zs ph2 c → Q (.inl (some (.inl 2)), ph2, g + 1)) : xTC (d + 1) 241 [.inr (.inl (some 1)), .inl a, .inl b, .inr (.inl (some 168))] ph g Q := by
  have hs := k.1
  refine tEn (ls := [some (.inr (.inl (some 1))), some (.inl a), some (.inl b), some (.inr (.inl (some 168))), none]) (fun k => by match k with | 0 => rfl | 1 => rfl | 2 => rfl | 3 => rfl | 4 => rfl | k + 5 => rfl) ?_
  refine tK (l := xk_241) rfl rfl (fun _ _ _ _ _ => rfl) ?_
  refine tK (l := xk_241) rfl rfl (fun _ _ _ _ _ => rfl) ?_
  refine tK (l := xk_241) rfl rfl (fun _ _ _ _ _ => rfl) ?_
  refine tK (l := xk_241) rfl rfl (fun _ _ _ _ _ => rfl) ?_
  refine tK (l := xk_241) rfl rfl (fun _ _ _ _ _ => rfl) ?_
  refine tCa (l := xk_241) rfl rfl (hInvV (c := 9) hs rfl rfl rfl rfl rfl (Nat.le_of_ble_eq_true rfl) (Nat.le_of_ble_eq_true rfl)) ?_
  refine hc _ (fun ph2 k2 f2 => ?_)
  refine tKh (pc' := 19) (k := 4) (by decide +kernel) ?_
  refine tK (l := xk_241) rfl rfl (fun _ _ _ _ _ => rfl) ?_
  refine tRt (l := xk_241) rfl rfl (fun _ _ _ _ _ => rfl) ?_
  exact hQ ph2 k2 (m.fw2 k2.1 f2.fw clP_m)
theorem w242 (k : hKl zs ph c) (m : hMm zs ph c) (hc : ∀ Q : xR → Prop, (∀ ph2, hKl zs ph2 c' → hFd clP ph ph2 → Q (.inl (some (.inl v)), ph2, g)) → xTC d 132 [.inr (.inl (some 1)), .inl a] ph g Q) (hQ : ∀ ph2, hKl zs ph2 c' → hMm zs ph2 c → hRl ph2 168 0 = Int64.ofInt v → Q (.inl (some (.inl 0)), ph2, g)) : xTC (d + 1) 242 [.inr (.inl (some 1)), .inl a, .inr (.inl (some 168))] ph g Q := by
  have hs := k.1
  have hz168 := hK168.2
  refine tEn (ls := [some (.inr (.inl (some 1))), some (.inl a), some (.inr (.inl (some 168))), none]) (fun k => by match k with | 0 => rfl | 1 => rfl | 2 => rfl | 3 => rfl | k + 4 => rfl) ?_
  refine tK (l := xk_242) rfl rfl (fun _ _ _ _ _ => rfl) ?_
  refine tK (l := xk_242) rfl rfl (fun _ _ _ _ _ => rfl) ?_
  refine tK (l := xk_242) rfl rfl (fun _ _ _ _ _ => rfl) ?_
  refine tK (l := xk_242) rfl rfl (fun _ _ _ _ _ => rfl) ?_
  refine tCa (l := xk_242) rfl rfl (hInvV (c := 9) hs rfl rfl rfl rfl rfl (Nat.le_of_ble_eq_true rfl) (Nat.le_of_ble_eq_true rfl)) ?_
  refine hc _ (fun ph2 k2 f2 => ?_)
  refine tKv ?_
  have m2 := m.fw2 k2.1 f2.fw clP_m
  obtain ⟨q1, q2, q3⟩ := hOu (x := Int64.ofInt v) k2 m2
  refine tK (l := xk_242) rfl rfl (fun _ _ _ _ _ => rfl) ?_
  first | refine tK (l := xk_242) rfl rfl (hLastN k2.1 rfl rfl (by omega)) ?_ | refine tK (l := xk_242) rfl rfl (hLast k2.1 rfl (by omega) (by omega)) ?_
  refine tK (l := xk_242) rfl rfl (fun _ _ _ _ _ => rfl) ?_
  refine tK (l := xk_242) rfl rfl (fun _ _ _ _ _ => rfl) ?_
  refine tRt (l := xk_242) rfl rfl (fun _ _ _ _ _ => rfl) ?_
  exact hQ _ q1 q2 q3
theorem w242_2 (k : hKl zs ph c) (m : hMm zs ph c) (hc : ∀ Q : xR → Prop, (∀ ph2, hKl zs ph2 c → hFd clP ph ph2 → Q (.inr 2, ph2, g + 1)) → xTC d 132 [.inr (.inl (some 1)), .inl a] ph g Q) (hQ : ∀ ph2, hKl zs ph2 c → hMm zs ph2 c → Q (.inl (some (.inl 1)), ph2, g + 1)) : xTC (d + 1) 242 [.inr (.inl (some 1)), .inl a, .inr (.inl (some 168))] ph g Q := by
  have hs := k.1
  refine tEn (ls := [some (.inr (.inl (some 1))), some (.inl a), some (.inr (.inl (some 168))), none]) (fun k => by match k with | 0 => rfl | 1 => rfl | 2 => rfl | 3 => rfl | k + 4 => rfl) ?_
  refine tK (l := xk_242) rfl rfl (fun _ _ _ _ _ => rfl) ?_
  refine tK (l := xk_242) rfl rfl (fun _ _ _ _ _ => rfl) ?_
  refine tK (l := xk_242) rfl rfl (fun _ _ _ _ _ => rfl) ?_
  refine tK (l := xk_242) rfl rfl (fun _ _ _ _ _ => rfl) ?_
  refine tCa (l := xk_242) rfl rfl (hInvV (c := 9) hs rfl rfl rfl rfl rfl (Nat.le_of_ble_eq_true rfl) (Nat.le_of_ble_eq_true rfl)) ?_
  refine hc _ (fun ph2 k2 f2 => ?_)
  refine tKh (pc' := 13) (k := 3) (by decide +kernel) ?_
  refine tK (l := xk_242) rfl rfl (fun _ _ _ _ _ => rfl) ?_
  refine tRt (l := xk_242) rfl rfl (fun _ _ _ _ _ => rfl) ?_
  exact hQ ph2 k2 (m.fw2 k2.1 f2.fw clP_m)
theorem w242_1 (k : hKl zs ph c) (m : hMm zs ph c) (hc : ∀ Q : xR → Prop, (∀ ph2, hKl zs ph2 c → hFd clP ph ph2 → Q (.inr 1, ph2, g + 1)) → xTC d 132 [.inr (.inl (some 1)), .inl a] ph g Q) (hQ : ∀ ph2, hKl zs ph2 c → hMm zs ph2 c → Q (.inl (some (.inl 2)), ph2, g + 1)) : xTC (d + 1) 242 [.inr (.inl (some 1)), .inl a, .inr (.inl (some 168))] ph g Q := by
  have hs := k.1
  refine tEn (ls := [some (.inr (.inl (some 1))), some (.inl a), some (.inr (.inl (some 168))), none]) (fun k => by match k with | 0 => rfl | 1 => rfl | 2 => rfl | 3 => rfl | k + 4 => rfl) ?_
  refine tK (l := xk_242) rfl rfl (fun _ _ _ _ _ => rfl) ?_
  refine tK (l := xk_242) rfl rfl (fun _ _ _ _ _ => rfl) ?_
  refine tK (l := xk_242) rfl rfl (fun _ _ _ _ _ => rfl) ?_
  refine tK (l := xk_242) rfl rfl (fun _ _ _ _ _ => rfl) ?_
  refine tCa (l := xk_242) rfl rfl (hInvV (c := 9) hs rfl rfl rfl rfl rfl (Nat.le_of_ble_eq_true rfl) (Nat.le_of_ble_eq_true rfl)) ?_
  refine hc _ (fun ph2 k2 f2 => ?_)
  refine tKh (pc' := 16) (k := 3) (by decide +kernel) ?_
  refine tK (l := xk_242) rfl rfl (fun _ _ _ _ _ => rfl) ?_
  refine tRt (l := xk_242) rfl rfl (fun _ _ _ _ _ => rfl) ?_
  exact hQ ph2 k2 (m.fw2 k2.1 f2.fw clP_m)
theorem w243 (k : hKl zs ph c) (m : hMm zs ph c) (hc : ∀ Q : xR → Prop, (∀ ph2, hKl zs ph2 c' → hFd clP ph ph2 → Q (.inl (some (.inl v)), ph2, g)) → xTC d 133 [.inr (.inl (some 1)), .inl a] ph g Q) (hQ : ∀ ph2, hKl zs ph2 c' → hMm zs ph2 c → hRl ph2 168 0 = Int64.ofInt v → Q (.inl (some (.inl 0)), ph2, g)) : xTC (d + 1) 243 [.inr (.inl (some 1)), .inl a, .inr (.inl (some 168))] ph g Q := by
  have hs := k.1
  have hz168 := hK168.2
  refine tEn (ls := [some (.inr (.inl (some 1))), some (.inl a), some (.inr (.inl (some 168))), none]) (fun k => by match k with | 0 => rfl | 1 => rfl | 2 => rfl | 3 => rfl | k + 4 => rfl) ?_
  refine tK (l := xk_243) rfl rfl (fun _ _ _ _ _ => rfl) ?_
  refine tK (l := xk_243) rfl rfl (fun _ _ _ _ _ => rfl) ?_
  refine tK (l := xk_243) rfl rfl (fun _ _ _ _ _ => rfl) ?_
  refine tK (l := xk_243) rfl rfl (fun _ _ _ _ _ => rfl) ?_
  refine tCa (l := xk_243) rfl rfl (hInvV (c := 9) hs rfl rfl rfl rfl rfl (Nat.le_of_ble_eq_true rfl) (Nat.le_of_ble_eq_true rfl)) ?_
  refine hc _ (fun ph2 k2 f2 => ?_)
  refine tKv ?_
  have m2 := m.fw2 k2.1 f2.fw clP_m
  obtain ⟨q1, q2, q3⟩ := hOu (x := Int64.ofInt v) k2 m2
  refine tK (l := xk_243) rfl rfl (fun _ _ _ _ _ => rfl) ?_
  first | refine tK (l := xk_243) rfl rfl (hLastN k2.1 rfl rfl (by omega)) ?_ | refine tK (l := xk_243) rfl rfl (hLast k2.1 rfl (by omega) (by omega)) ?_
  refine tK (l := xk_243) rfl rfl (fun _ _ _ _ _ => rfl) ?_
  refine tK (l := xk_243) rfl rfl (fun _ _ _ _ _ => rfl) ?_
  refine tRt (l := xk_243) rfl rfl (fun _ _ _ _ _ => rfl) ?_
  exact hQ _ q1 q2 q3
theorem w243_2 (k : hKl zs ph c) (m : hMm zs ph c) (hc : ∀ Q : xR → Prop, (∀ ph2, hKl zs ph2 c → hFd clP ph ph2 → Q (.inr 2, ph2, g + 1)) → xTC d 133 [.inr (.inl (some 1)), .inl a] ph g Q) (hQ : ∀ ph2, hKl zs ph2 c → hMm zs ph2 c → Q (.inl (some (.inl 1)), ph2, g + 1)) : xTC (d + 1) 243 [.inr (.inl (some 1)), .inl a, .inr (.inl (some 168))] ph g Q := by
  have hs := k.1
  refine tEn (ls := [some (.inr (.inl (some 1))), some (.inl a), some (.inr (.inl (some 168))), none]) (fun k => by match k with | 0 => rfl | 1 => rfl | 2 => rfl | 3 => rfl | k + 4 => rfl) ?_
  refine tK (l := xk_243) rfl rfl (fun _ _ _ _ _ => rfl) ?_
  refine tK (l := xk_243) rfl rfl (fun _ _ _ _ _ => rfl) ?_
  refine tK (l := xk_243) rfl rfl (fun _ _ _ _ _ => rfl) ?_
  refine tK (l := xk_243) rfl rfl (fun _ _ _ _ _ => rfl) ?_
  refine tCa (l := xk_243) rfl rfl (hInvV (c := 9) hs rfl rfl rfl rfl rfl (Nat.le_of_ble_eq_true rfl) (Nat.le_of_ble_eq_true rfl)) ?_
  refine hc _ (fun ph2 k2 f2 => ?_)
  refine tKh (pc' := 13) (k := 3) (by decide +kernel) ?_
  refine tK (l := xk_243) rfl rfl (fun _ _ _ _ _ => rfl) ?_
  refine tRt (l := xk_243) rfl rfl (fun _ _ _ _ _ => rfl) ?_
  exact hQ ph2 k2 (m.fw2 k2.1 f2.fw clP_m)
theorem w243_1 (k : hKl zs ph c) (m : hMm zs ph c) (hc : ∀ Q : xR → Prop, (∀ ph2, hKl zs ph2 c → hFd clP ph ph2 → Q (.inr 1, ph2, g + 1)) → xTC d 133 [.inr (.inl (some 1)), .inl a] ph g Q) (hQ : ∀ ph2, hKl zs ph2 c → hMm zs ph2 c → Q (.inl (some (.inl 2)), ph2, g + 1)) : xTC (d + 1) 243 [.inr (.inl (some 1)), .inl a, .inr (.inl (some 168))] ph g Q := by
  have hs := k.1
  refine tEn (ls := [some (.inr (.inl (some 1))), some (.inl a), some (.inr (.inl (some 168))), none]) (fun k => by match k with | 0 => rfl | 1 => rfl | 2 => rfl | 3 => rfl | k + 4 => rfl) ?_
  refine tK (l := xk_243) rfl rfl (fun _ _ _ _ _ => rfl) ?_
  refine tK (l := xk_243) rfl rfl (fun _ _ _ _ _ => rfl) ?_
  refine tK (l := xk_243) rfl rfl (fun _ _ _ _ _ => rfl) ?_
  refine tK (l := xk_243) rfl rfl (fun _ _ _ _ _ => rfl) ?_
  refine tCa (l := xk_243) rfl rfl (hInvV (c := 9) hs rfl rfl rfl rfl rfl (Nat.le_of_ble_eq_true rfl) (Nat.le_of_ble_eq_true rfl)) ?_
  refine hc _ (fun ph2 k2 f2 => ?_)
  refine tKh (pc' := 16) (k := 3) (by decide +kernel) ?_
  refine tK (l := xk_243) rfl rfl (fun _ _ _ _ _ => rfl) ?_
  refine tRt (l := xk_243) rfl rfl (fun _ _ _ _ _ => rfl) ?_
  exact hQ ph2 k2 (m.fw2 k2.1 f2.fw clP_m)
theorem w244 (k : hKl zs ph c) (m : hMm zs ph c) (hc : ∀ Q : xR → Prop, (∀ ph2, hKl zs ph2 c' → hFd clP ph ph2 → Q (.inl (some (.inl v)), ph2, g)) → xTC d 135 [.inr (.inl (some 1)), .inl a] ph g Q) (hQ : ∀ ph2, hKl zs ph2 c' → hMm zs ph2 c → hRl ph2 168 0 = Int64.ofInt v → Q (.inl (some (.inl 0)), ph2, g)) : xTC (d + 1) 244 [.inr (.inl (some 1)), .inl a, .inr (.inl (some 168))] ph g Q := by
  have hs := k.1
  have hz168 := hK168.2
  refine tEn (ls := [some (.inr (.inl (some 1))), some (.inl a), some (.inr (.inl (some 168))), none]) (fun k => by match k with | 0 => rfl | 1 => rfl | 2 => rfl | 3 => rfl | k + 4 => rfl) ?_
  refine tK (l := xk_244) rfl rfl (fun _ _ _ _ _ => rfl) ?_
  refine tK (l := xk_244) rfl rfl (fun _ _ _ _ _ => rfl) ?_
  refine tK (l := xk_244) rfl rfl (fun _ _ _ _ _ => rfl) ?_
  refine tK (l := xk_244) rfl rfl (fun _ _ _ _ _ => rfl) ?_
  refine tCa (l := xk_244) rfl rfl (hInvV (c := 9) hs rfl rfl rfl rfl rfl (Nat.le_of_ble_eq_true rfl) (Nat.le_of_ble_eq_true rfl)) ?_
  refine hc _ (fun ph2 k2 f2 => ?_)
  refine tKv ?_
  have m2 := m.fw2 k2.1 f2.fw clP_m
  obtain ⟨q1, q2, q3⟩ := hOu (x := Int64.ofInt v) k2 m2
  refine tK (l := xk_244) rfl rfl (fun _ _ _ _ _ => rfl) ?_
  first | refine tK (l := xk_244) rfl rfl (hLastN k2.1 rfl rfl (by omega)) ?_ | refine tK (l := xk_244) rfl rfl (hLast k2.1 rfl (by omega) (by omega)) ?_
  refine tK (l := xk_244) rfl rfl (fun _ _ _ _ _ => rfl) ?_
  refine tK (l := xk_244) rfl rfl (fun _ _ _ _ _ => rfl) ?_
  refine tRt (l := xk_244) rfl rfl (fun _ _ _ _ _ => rfl) ?_
  exact hQ _ q1 q2 q3
theorem w244_2 (k : hKl zs ph c) (m : hMm zs ph c) (hc : ∀ Q : xR → Prop, (∀ ph2, hKl zs ph2 c → hFd clP ph ph2 → Q (.inr 2, ph2, g + 1)) → xTC d 135 [.inr (.inl (some 1)), .inl a] ph g Q) (hQ : ∀ ph2, hKl zs ph2 c → hMm zs ph2 c → Q (.inl (some (.inl 1)), ph2, g + 1)) : xTC (d + 1) 244 [.inr (.inl (some 1)), .inl a, .inr (.inl (some 168))] ph g Q := by
  have hs := k.1
  refine tEn (ls := [some (.inr (.inl (some 1))), some (.inl a), some (.inr (.inl (some 168))), none]) (fun k => by match k with | 0 => rfl | 1 => rfl | 2 => rfl | 3 => rfl | k + 4 => rfl) ?_
  refine tK (l := xk_244) rfl rfl (fun _ _ _ _ _ => rfl) ?_
  refine tK (l := xk_244) rfl rfl (fun _ _ _ _ _ => rfl) ?_
  refine tK (l := xk_244) rfl rfl (fun _ _ _ _ _ => rfl) ?_
  refine tK (l := xk_244) rfl rfl (fun _ _ _ _ _ => rfl) ?_
  refine tCa (l := xk_244) rfl rfl (hInvV (c := 9) hs rfl rfl rfl rfl rfl (Nat.le_of_ble_eq_true rfl) (Nat.le_of_ble_eq_true rfl)) ?_
  refine hc _ (fun ph2 k2 f2 => ?_)
  refine tKh (pc' := 13) (k := 3) (by decide +kernel) ?_
  refine tK (l := xk_244) rfl rfl (fun _ _ _ _ _ => rfl) ?_
  refine tRt (l := xk_244) rfl rfl (fun _ _ _ _ _ => rfl) ?_
  exact hQ ph2 k2 (m.fw2 k2.1 f2.fw clP_m)
theorem w244_1 (k : hKl zs ph c) (m : hMm zs ph c) (hc : ∀ Q : xR → Prop, (∀ ph2, hKl zs ph2 c → hFd clP ph ph2 → Q (.inr 1, ph2, g + 1)) → xTC d 135 [.inr (.inl (some 1)), .inl a] ph g Q) (hQ : ∀ ph2, hKl zs ph2 c → hMm zs ph2 c → Q (.inl (some (.inl 2)), ph2, g + 1)) : xTC (d + 1) 244 [.inr (.inl (some 1)), .inl a, .inr (.inl (some 168))] ph g Q := by
  have hs := k.1
  refine tEn (ls := [some (.inr (.inl (some 1))), some (.inl a), some (.inr (.inl (some 168))), none]) (fun k => by match k with | 0 => rfl | 1 => rfl | 2 => rfl | 3 => rfl | k + 4 => rfl) ?_
  refine tK (l := xk_244) rfl rfl (fun _ _ _ _ _ => rfl) ?_
  refine tK (l := xk_244) rfl rfl (fun _ _ _ _ _ => rfl) ?_
  refine tK (l := xk_244) rfl rfl (fun _ _ _ _ _ => rfl) ?_
  refine tK (l := xk_244) rfl rfl (fun _ _ _ _ _ => rfl) ?_
  refine tCa (l := xk_244) rfl rfl (hInvV (c := 9) hs rfl rfl rfl rfl rfl (Nat.le_of_ble_eq_true rfl) (Nat.le_of_ble_eq_true rfl)) ?_
  refine hc _ (fun ph2 k2 f2 => ?_)
  refine tKh (pc' := 16) (k := 3) (by decide +kernel) ?_
  refine tK (l := xk_244) rfl rfl (fun _ _ _ _ _ => rfl) ?_
  refine tRt (l := xk_244) rfl rfl (fun _ _ _ _ _ => rfl) ?_
  exact hQ ph2 k2 (m.fw2 k2.1 f2.fw clP_m)
theorem w245_t (k : hKl zs ph c) (m : hMm zs ph c) (hc : ∀ Q : xR → Prop, (∀ ph2, hKl zs ph2 c' → hFd clP ph ph2 → Q (.inl (some (.inl 1)), ph2, g)) → xTC d 107 [.inr (.inl (some 1)), .inl a] ph g Q) (hQ : ∀ ph2, hKl zs ph2 c' → hMm zs ph2 c → hRl ph2 168 0 = 1 → Q (.inl (some (.inl 0)), ph2, g)) : xTC (d + 1) 245 [.inr (.inl (some 1)), .inl a, .inr (.inl (some 168))] ph g Q := by
  have hs := k.1
  have hz168 := hK168.2
  refine tEn (ls := [some (.inr (.inl (some 1))), some (.inl a), some (.inr (.inl (some 168))), none]) (fun k => by match k with | 0 => rfl | 1 => rfl | 2 => rfl | 3 => rfl | k + 4 => rfl) ?_
  refine tK (l := xk_245) rfl rfl (fun _ _ _ _ _ => rfl) ?_
  refine tK (l := xk_245) rfl rfl (fun _ _ _ _ _ => rfl) ?_
  refine tK (l := xk_245) rfl rfl (fun _ _ _ _ _ => rfl) ?_
  refine tK (l := xk_245) rfl rfl (fun _ _ _ _ _ => rfl) ?_
  refine tCa (l := xk_245) rfl rfl (hInvV (c := 9) hs rfl rfl rfl rfl rfl (Nat.le_of_ble_eq_true rfl) (Nat.le_of_ble_eq_true rfl)) ?_
  refine hc _ (fun ph2 k2 f2 => ?_)
  refine tKv ?_
  have m2 := m.fw2 k2.1 f2.fw clP_m
  obtain ⟨q1, q2, q3⟩ := hOu (x := 1) k2 m2
  refine tIf_eq (l := xk_245) (pc' := 14) rfl rfl rfl (fun hc => ?_) (fun hc => ?_)
  · exact absurd hc (by decide)
  · refine tK (l := xk_245) rfl rfl (fun _ _ _ _ _ => rfl) ?_
    refine tK (l := xk_245) rfl rfl (fun _ _ _ _ _ => rfl) ?_
    first | refine tK (l := xk_245) rfl rfl (hLastN k2.1 rfl rfl (by omega)) ?_ | refine tK (l := xk_245) rfl rfl (hLast k2.1 rfl (by omega) (by omega)) ?_
    refine tK (l := xk_245) rfl rfl (fun _ _ _ _ _ => rfl) ?_
    refine tK (l := xk_245) rfl rfl (fun _ _ _ _ _ => rfl) ?_
    refine tRt (l := xk_245) rfl rfl (fun _ _ _ _ _ => rfl) ?_
    exact hQ _ q1 q2 q3
theorem w245_f (k : hKl zs ph c) (m : hMm zs ph c) (hc : ∀ Q : xR → Prop, (∀ ph2, hKl zs ph2 c' → hFd clP ph ph2 → Q (.inl (some (.inl 0)), ph2, g)) → xTC d 107 [.inr (.inl (some 1)), .inl a] ph g Q) (hQ : ∀ ph2, hKl zs ph2 c' → hMm zs ph2 c → hRl ph2 168 0 = 0 → Q (.inl (some (.inl 0)), ph2, g)) : xTC (d + 1) 245 [.inr (.inl (some 1)), .inl a, .inr (.inl (some 168))] ph g Q := by
  have hs := k.1
  have hz168 := hK168.2
  refine tEn (ls := [some (.inr (.inl (some 1))), some (.inl a), some (.inr (.inl (some 168))), none]) (fun k => by match k with | 0 => rfl | 1 => rfl | 2 => rfl | 3 => rfl | k + 4 => rfl) ?_
  refine tK (l := xk_245) rfl rfl (fun _ _ _ _ _ => rfl) ?_
  refine tK (l := xk_245) rfl rfl (fun _ _ _ _ _ => rfl) ?_
  refine tK (l := xk_245) rfl rfl (fun _ _ _ _ _ => rfl) ?_
  refine tK (l := xk_245) rfl rfl (fun _ _ _ _ _ => rfl) ?_
  refine tCa (l := xk_245) rfl rfl (hInvV (c := 9) hs rfl rfl rfl rfl rfl (Nat.le_of_ble_eq_true rfl) (Nat.le_of_ble_eq_true rfl)) ?_
  refine hc _ (fun ph2 k2 f2 => ?_)
  refine tKv ?_
  have m2 := m.fw2 k2.1 f2.fw clP_m
  obtain ⟨q1, q2, q3⟩ := hOu (x := 0) k2 m2
  refine tIf_eq (l := xk_245) (pc' := 14) rfl rfl rfl (fun hc => ?_) (fun hc => ?_)
  · refine tK (l := xk_245) rfl rfl (fun _ _ _ _ _ => rfl) ?_
    first | refine tK (l := xk_245) rfl rfl (hLastN k2.1 rfl rfl (by omega)) ?_ | refine tK (l := xk_245) rfl rfl (hLast k2.1 rfl (by omega) (by omega)) ?_
    refine tK (l := xk_245) rfl rfl (fun _ _ _ _ _ => rfl) ?_
    refine tK (l := xk_245) rfl rfl (fun _ _ _ _ _ => rfl) ?_
    refine tRt (l := xk_245) rfl rfl (fun _ _ _ _ _ => rfl) ?_
    exact hQ _ q1 q2 q3
  · exact absurd rfl hc
theorem w245_2 (k : hKl zs ph c) (m : hMm zs ph c) (hc : ∀ Q : xR → Prop, (∀ ph2, hKl zs ph2 c → hFd clP ph ph2 → Q (.inr 2, ph2, g + 1)) → xTC d 107 [.inr (.inl (some 1)), .inl a] ph g Q) (hQ : ∀ ph2, hKl zs ph2 c → hMm zs ph2 c → Q (.inl (some (.inl 1)), ph2, g + 1)) : xTC (d + 1) 245 [.inr (.inl (some 1)), .inl a, .inr (.inl (some 168))] ph g Q := by
  have hs := k.1
  refine tEn (ls := [some (.inr (.inl (some 1))), some (.inl a), some (.inr (.inl (some 168))), none]) (fun k => by match k with | 0 => rfl | 1 => rfl | 2 => rfl | 3 => rfl | k + 4 => rfl) ?_
  refine tK (l := xk_245) rfl rfl (fun _ _ _ _ _ => rfl) ?_
  refine tK (l := xk_245) rfl rfl (fun _ _ _ _ _ => rfl) ?_
  refine tK (l := xk_245) rfl rfl (fun _ _ _ _ _ => rfl) ?_
  refine tK (l := xk_245) rfl rfl (fun _ _ _ _ _ => rfl) ?_
  refine tCa (l := xk_245) rfl rfl (hInvV (c := 9) hs rfl rfl rfl rfl rfl (Nat.le_of_ble_eq_true rfl) (Nat.le_of_ble_eq_true rfl)) ?_
  refine hc _ (fun ph2 k2 f2 => ?_)
  refine tKh (pc' := 20) (k := 3) (by decide +kernel) ?_
  refine tK (l := xk_245) rfl rfl (fun _ _ _ _ _ => rfl) ?_
  refine tRt (l := xk_245) rfl rfl (fun _ _ _ _ _ => rfl) ?_
  exact hQ ph2 k2 (m.fw2 k2.1 f2.fw clP_m)
theorem w246 (k : hKl zs ph c) (m : hMm zs ph c) (hc : ∀ Q : xR → Prop, (∀ ph2, hKl zs ph2 c' → hFd clP ph ph2 → Q (.inl (some (.inl v)), ph2, g)) → xTC d 136 [.inr (.inl (some 1)), .inl a] ph g Q) (hQ : ∀ ph2, hKl zs ph2 c' → hMm zs ph2 c → hRl ph2 168 0 = Int64.ofInt v → Q (.inl (some (.inl 0)), ph2, g)) : xTC (d + 1) 246 [.inr (.inl (some 1)), .inl a, .inr (.inl (some 168))] ph g Q := by
  have hs := k.1
  have hz168 := hK168.2
  refine tEn (ls := [some (.inr (.inl (some 1))), some (.inl a), some (.inr (.inl (some 168))), none]) (fun k => by match k with | 0 => rfl | 1 => rfl | 2 => rfl | 3 => rfl | k + 4 => rfl) ?_
  refine tK (l := xk_246) rfl rfl (fun _ _ _ _ _ => rfl) ?_
  refine tK (l := xk_246) rfl rfl (fun _ _ _ _ _ => rfl) ?_
  refine tK (l := xk_246) rfl rfl (fun _ _ _ _ _ => rfl) ?_
  refine tK (l := xk_246) rfl rfl (fun _ _ _ _ _ => rfl) ?_
  refine tCa (l := xk_246) rfl rfl (hInvV (c := 9) hs rfl rfl rfl rfl rfl (Nat.le_of_ble_eq_true rfl) (Nat.le_of_ble_eq_true rfl)) ?_
  refine hc _ (fun ph2 k2 f2 => ?_)
  refine tKv ?_
  have m2 := m.fw2 k2.1 f2.fw clP_m
  obtain ⟨q1, q2, q3⟩ := hOu (x := Int64.ofInt v) k2 m2
  refine tK (l := xk_246) rfl rfl (fun _ _ _ _ _ => rfl) ?_
  first | refine tK (l := xk_246) rfl rfl (hLastN k2.1 rfl rfl (by omega)) ?_ | refine tK (l := xk_246) rfl rfl (hLast k2.1 rfl (by omega) (by omega)) ?_
  refine tK (l := xk_246) rfl rfl (fun _ _ _ _ _ => rfl) ?_
  refine tK (l := xk_246) rfl rfl (fun _ _ _ _ _ => rfl) ?_
  refine tRt (l := xk_246) rfl rfl (fun _ _ _ _ _ => rfl) ?_
  exact hQ _ q1 q2 q3
theorem w246_2 (k : hKl zs ph c) (m : hMm zs ph c) (hc : ∀ Q : xR → Prop, (∀ ph2, hKl zs ph2 c → hFd clP ph ph2 → Q (.inr 2, ph2, g + 1)) → xTC d 136 [.inr (.inl (some 1)), .inl a] ph g Q) (hQ : ∀ ph2, hKl zs ph2 c → hMm zs ph2 c → Q (.inl (some (.inl 1)), ph2, g + 1)) : xTC (d + 1) 246 [.inr (.inl (some 1)), .inl a, .inr (.inl (some 168))] ph g Q := by
  have hs := k.1
  refine tEn (ls := [some (.inr (.inl (some 1))), some (.inl a), some (.inr (.inl (some 168))), none]) (fun k => by match k with | 0 => rfl | 1 => rfl | 2 => rfl | 3 => rfl | k + 4 => rfl) ?_
  refine tK (l := xk_246) rfl rfl (fun _ _ _ _ _ => rfl) ?_
  refine tK (l := xk_246) rfl rfl (fun _ _ _ _ _ => rfl) ?_
  refine tK (l := xk_246) rfl rfl (fun _ _ _ _ _ => rfl) ?_
  refine tK (l := xk_246) rfl rfl (fun _ _ _ _ _ => rfl) ?_
  refine tCa (l := xk_246) rfl rfl (hInvV (c := 9) hs rfl rfl rfl rfl rfl (Nat.le_of_ble_eq_true rfl) (Nat.le_of_ble_eq_true rfl)) ?_
  refine hc _ (fun ph2 k2 f2 => ?_)
  refine tKh (pc' := 13) (k := 3) (by decide +kernel) ?_
  refine tK (l := xk_246) rfl rfl (fun _ _ _ _ _ => rfl) ?_
  refine tRt (l := xk_246) rfl rfl (fun _ _ _ _ _ => rfl) ?_
  exact hQ ph2 k2 (m.fw2 k2.1 f2.fw clP_m)
theorem w246_1 (k : hKl zs ph c) (m : hMm zs ph c) (hc : ∀ Q : xR → Prop, (∀ ph2, hKl zs ph2 c → hFd clP ph ph2 → Q (.inr 1, ph2, g + 1)) → xTC d 136 [.inr (.inl (some 1)), .inl a] ph g Q) (hQ : ∀ ph2, hKl zs ph2 c → hMm zs ph2 c → Q (.inl (some (.inl 2)), ph2, g + 1)) : xTC (d + 1) 246 [.inr (.inl (some 1)), .inl a, .inr (.inl (some 168))] ph g Q := by
  have hs := k.1
  refine tEn (ls := [some (.inr (.inl (some 1))), some (.inl a), some (.inr (.inl (some 168))), none]) (fun k => by match k with | 0 => rfl | 1 => rfl | 2 => rfl | 3 => rfl | k + 4 => rfl) ?_
  refine tK (l := xk_246) rfl rfl (fun _ _ _ _ _ => rfl) ?_
  refine tK (l := xk_246) rfl rfl (fun _ _ _ _ _ => rfl) ?_
  refine tK (l := xk_246) rfl rfl (fun _ _ _ _ _ => rfl) ?_
  refine tK (l := xk_246) rfl rfl (fun _ _ _ _ _ => rfl) ?_
  refine tCa (l := xk_246) rfl rfl (hInvV (c := 9) hs rfl rfl rfl rfl rfl (Nat.le_of_ble_eq_true rfl) (Nat.le_of_ble_eq_true rfl)) ?_
  refine hc _ (fun ph2 k2 f2 => ?_)
  refine tKh (pc' := 16) (k := 3) (by decide +kernel) ?_
  refine tK (l := xk_246) rfl rfl (fun _ _ _ _ _ => rfl) ?_
  refine tRt (l := xk_246) rfl rfl (fun _ _ _ _ _ => rfl) ?_
  exact hQ ph2 k2 (m.fw2 k2.1 f2.fw clP_m)
theorem w247 (k : hKl zs ph c) (m : hMm zs ph c) (hc : ∀ Q : xR → Prop, (∀ ph2, hKl zs ph2 c' → hFd clP ph ph2 → Q (.inl (some (.inl v)), ph2, g)) → xTC d 137 [.inr (.inl (some 1)), .inl a, .inl b] ph g Q) (hQ : ∀ ph2, hKl zs ph2 c' → hMm zs ph2 c → hRl ph2 168 0 = Int64.ofInt v → Q (.inl (some (.inl 0)), ph2, g)) : xTC (d + 1) 247 [.inr (.inl (some 1)), .inl a, .inl b, .inr (.inl (some 168))] ph g Q := by
  have hs := k.1
  have hz168 := hK168.2
  refine tEn (ls := [some (.inr (.inl (some 1))), some (.inl a), some (.inl b), some (.inr (.inl (some 168))), none]) (fun k => by match k with | 0 => rfl | 1 => rfl | 2 => rfl | 3 => rfl | 4 => rfl | k + 5 => rfl) ?_
  refine tK (l := xk_247) rfl rfl (fun _ _ _ _ _ => rfl) ?_
  refine tK (l := xk_247) rfl rfl (fun _ _ _ _ _ => rfl) ?_
  refine tK (l := xk_247) rfl rfl (fun _ _ _ _ _ => rfl) ?_
  refine tK (l := xk_247) rfl rfl (fun _ _ _ _ _ => rfl) ?_
  refine tK (l := xk_247) rfl rfl (fun _ _ _ _ _ => rfl) ?_
  refine tCa (l := xk_247) rfl rfl (hInvV (c := 9) hs rfl rfl rfl rfl rfl (Nat.le_of_ble_eq_true rfl) (Nat.le_of_ble_eq_true rfl)) ?_
  refine hc _ (fun ph2 k2 f2 => ?_)
  refine tKv ?_
  have m2 := m.fw2 k2.1 f2.fw clP_m
  obtain ⟨q1, q2, q3⟩ := hOu (x := Int64.ofInt v) k2 m2
  refine tK (l := xk_247) rfl rfl (fun _ _ _ _ _ => rfl) ?_
  first | refine tK (l := xk_247) rfl rfl (hLastN k2.1 rfl rfl (by omega)) ?_ | refine tK (l := xk_247) rfl rfl (hLast k2.1 rfl (by omega) (by omega)) ?_
  refine tK (l := xk_247) rfl rfl (fun _ _ _ _ _ => rfl) ?_
  refine tK (l := xk_247) rfl rfl (fun _ _ _ _ _ => rfl) ?_
  refine tRt (l := xk_247) rfl rfl (fun _ _ _ _ _ => rfl) ?_
  exact hQ _ q1 q2 q3
theorem w247_2 (k : hKl zs ph c) (m : hMm zs ph c) (hc : ∀ Q : xR → Prop, (∀ ph2, hKl zs ph2 c → hFd clP ph ph2 → Q (.inr 2, ph2, g + 1)) → xTC d 137 [.inr (.inl (some 1)), .inl a, .inl b] ph g Q) (hQ : ∀ ph2, hKl zs ph2 c → hMm zs ph2 c → Q (.inl (some (.inl 1)), ph2, g + 1)) : xTC (d + 1) 247 [.inr (.inl (some 1)), .inl a, .inl b, .inr (.inl (some 168))] ph g Q := by
  have hs := k.1
  refine tEn (ls := [some (.inr (.inl (some 1))), some (.inl a), some (.inl b), some (.inr (.inl (some 168))), none]) (fun k => by match k with | 0 => rfl | 1 => rfl | 2 => rfl | 3 => rfl | 4 => rfl | k + 5 => rfl) ?_
  refine tK (l := xk_247) rfl rfl (fun _ _ _ _ _ => rfl) ?_
  refine tK (l := xk_247) rfl rfl (fun _ _ _ _ _ => rfl) ?_
  refine tK (l := xk_247) rfl rfl (fun _ _ _ _ _ => rfl) ?_
  refine tK (l := xk_247) rfl rfl (fun _ _ _ _ _ => rfl) ?_
  refine tK (l := xk_247) rfl rfl (fun _ _ _ _ _ => rfl) ?_
  refine tCa (l := xk_247) rfl rfl (hInvV (c := 9) hs rfl rfl rfl rfl rfl (Nat.le_of_ble_eq_true rfl) (Nat.le_of_ble_eq_true rfl)) ?_
  refine hc _ (fun ph2 k2 f2 => ?_)
  refine tKh (pc' := 15) (k := 4) (by decide +kernel) ?_
  refine tK (l := xk_247) rfl rfl (fun _ _ _ _ _ => rfl) ?_
  refine tRt (l := xk_247) rfl rfl (fun _ _ _ _ _ => rfl) ?_
  exact hQ ph2 k2 (m.fw2 k2.1 f2.fw clP_m)
theorem w247_1 (k : hKl zs ph c) (m : hMm zs ph c) (hc : ∀ Q : xR → Prop, (∀ ph2, hKl zs ph2 c → hFd clP ph ph2 → Q (.inr 1, ph2, g + 1)) → xTC d 137 [.inr (.inl (some 1)), .inl a, .inl b] ph g Q) (hQ : ∀ ph2, hKl zs ph2 c → hMm zs ph2 c → Q (.inl (some (.inl 2)), ph2, g + 1)) : xTC (d + 1) 247 [.inr (.inl (some 1)), .inl a, .inl b, .inr (.inl (some 168))] ph g Q := by
  have hs := k.1
  refine tEn (ls := [some (.inr (.inl (some 1))), some (.inl a), some (.inl b), some (.inr (.inl (some 168))), none]) (fun k => by match k with | 0 => rfl | 1 => rfl | 2 => rfl | 3 => rfl | 4 => rfl | k + 5 => rfl) ?_
  refine tK (l := xk_247) rfl rfl (fun _ _ _ _ _ => rfl) ?_
  refine tK (l := xk_247) rfl rfl (fun _ _ _ _ _ => rfl) ?_
  refine tK (l := xk_247) rfl rfl (fun _ _ _ _ _ => rfl) ?_
  refine tK (l := xk_247) rfl rfl (fun _ _ _ _ _ => rfl) ?_
  refine tK (l := xk_247) rfl rfl (fun _ _ _ _ _ => rfl) ?_
  refine tCa (l := xk_247) rfl rfl (hInvV (c := 9) hs rfl rfl rfl rfl rfl (Nat.le_of_ble_eq_true rfl) (Nat.le_of_ble_eq_true rfl)) ?_
  refine hc _ (fun ph2 k2 f2 => ?_)
  refine tKh (pc' := 19) (k := 4) (by decide +kernel) ?_
  refine tK (l := xk_247) rfl rfl (fun _ _ _ _ _ => rfl) ?_
  refine tRt (l := xk_247) rfl rfl (fun _ _ _ _ _ => rfl) ?_
  exact hQ ph2 k2 (m.fw2 k2.1 f2.fw clP_m)
theorem w248_t (k : hKl zs ph c) (m : hMm zs ph c) (hc : ∀ Q : xR → Prop, (∀ ph2, hKl zs ph2 c' → hFd clP ph ph2 → Q (.inl (some (.inl 1)), ph2, g)) → xTC d 109 [.inr (.inl (some 1)), .inl a] ph g Q) (hQ : ∀ ph2, hKl zs ph2 c' → hMm zs ph2 c → hRl ph2 168 0 = 1 → Q (.inl (some (.inl 0)), ph2, g)) : xTC (d + 1) 248 [.inr (.inl (some 1)), .inl a, .inr (.inl (some 168))] ph g Q := by
  have hs := k.1
  have hz168 := hK168.2
  refine tEn (ls := [some (.inr (.inl (some 1))), some (.inl a), some (.inr (.inl (some 168))), none]) (fun k => by match k with | 0 => rfl | 1 => rfl | 2 => rfl | 3 => rfl | k + 4 => rfl) ?_
  refine tK (l := xk_248) rfl rfl (fun _ _ _ _ _ => rfl) ?_
  refine tK (l := xk_248) rfl rfl (fun _ _ _ _ _ => rfl) ?_
  refine tK (l := xk_248) rfl rfl (fun _ _ _ _ _ => rfl) ?_
  refine tK (l := xk_248) rfl rfl (fun _ _ _ _ _ => rfl) ?_
  refine tCa (l := xk_248) rfl rfl (hInvV (c := 9) hs rfl rfl rfl rfl rfl (Nat.le_of_ble_eq_true rfl) (Nat.le_of_ble_eq_true rfl)) ?_
  refine hc _ (fun ph2 k2 f2 => ?_)
  refine tKv ?_
  have m2 := m.fw2 k2.1 f2.fw clP_m
  obtain ⟨q1, q2, q3⟩ := hOu (x := 1) k2 m2
  refine tIf_eq (l := xk_248) (pc' := 14) rfl rfl rfl (fun hc => ?_) (fun hc => ?_)
  · exact absurd hc (by decide)
  · refine tK (l := xk_248) rfl rfl (fun _ _ _ _ _ => rfl) ?_
    refine tK (l := xk_248) rfl rfl (fun _ _ _ _ _ => rfl) ?_
    first | refine tK (l := xk_248) rfl rfl (hLastN k2.1 rfl rfl (by omega)) ?_ | refine tK (l := xk_248) rfl rfl (hLast k2.1 rfl (by omega) (by omega)) ?_
    refine tK (l := xk_248) rfl rfl (fun _ _ _ _ _ => rfl) ?_
    refine tK (l := xk_248) rfl rfl (fun _ _ _ _ _ => rfl) ?_
    refine tRt (l := xk_248) rfl rfl (fun _ _ _ _ _ => rfl) ?_
    exact hQ _ q1 q2 q3
theorem w248_f (k : hKl zs ph c) (m : hMm zs ph c) (hc : ∀ Q : xR → Prop, (∀ ph2, hKl zs ph2 c' → hFd clP ph ph2 → Q (.inl (some (.inl 0)), ph2, g)) → xTC d 109 [.inr (.inl (some 1)), .inl a] ph g Q) (hQ : ∀ ph2, hKl zs ph2 c' → hMm zs ph2 c → hRl ph2 168 0 = 0 → Q (.inl (some (.inl 0)), ph2, g)) : xTC (d + 1) 248 [.inr (.inl (some 1)), .inl a, .inr (.inl (some 168))] ph g Q := by
  have hs := k.1
  have hz168 := hK168.2
  refine tEn (ls := [some (.inr (.inl (some 1))), some (.inl a), some (.inr (.inl (some 168))), none]) (fun k => by match k with | 0 => rfl | 1 => rfl | 2 => rfl | 3 => rfl | k + 4 => rfl) ?_
  refine tK (l := xk_248) rfl rfl (fun _ _ _ _ _ => rfl) ?_
  refine tK (l := xk_248) rfl rfl (fun _ _ _ _ _ => rfl) ?_
  refine tK (l := xk_248) rfl rfl (fun _ _ _ _ _ => rfl) ?_
  refine tK (l := xk_248) rfl rfl (fun _ _ _ _ _ => rfl) ?_
  refine tCa (l := xk_248) rfl rfl (hInvV (c := 9) hs rfl rfl rfl rfl rfl (Nat.le_of_ble_eq_true rfl) (Nat.le_of_ble_eq_true rfl)) ?_
  refine hc _ (fun ph2 k2 f2 => ?_)
  refine tKv ?_
  have m2 := m.fw2 k2.1 f2.fw clP_m
  obtain ⟨q1, q2, q3⟩ := hOu (x := 0) k2 m2
  refine tIf_eq (l := xk_248) (pc' := 14) rfl rfl rfl (fun hc => ?_) (fun hc => ?_)
  · refine tK (l := xk_248) rfl rfl (fun _ _ _ _ _ => rfl) ?_
    first | refine tK (l := xk_248) rfl rfl (hLastN k2.1 rfl rfl (by omega)) ?_ | refine tK (l := xk_248) rfl rfl (hLast k2.1 rfl (by omega) (by omega)) ?_
    refine tK (l := xk_248) rfl rfl (fun _ _ _ _ _ => rfl) ?_
    refine tK (l := xk_248) rfl rfl (fun _ _ _ _ _ => rfl) ?_
    refine tRt (l := xk_248) rfl rfl (fun _ _ _ _ _ => rfl) ?_
    exact hQ _ q1 q2 q3
  · exact absurd rfl hc
theorem w248_2 (k : hKl zs ph c) (m : hMm zs ph c) (hc : ∀ Q : xR → Prop, (∀ ph2, hKl zs ph2 c → hFd clP ph ph2 → Q (.inr 2, ph2, g + 1)) → xTC d 109 [.inr (.inl (some 1)), .inl a] ph g Q) (hQ : ∀ ph2, hKl zs ph2 c → hMm zs ph2 c → Q (.inl (some (.inl 1)), ph2, g + 1)) : xTC (d + 1) 248 [.inr (.inl (some 1)), .inl a, .inr (.inl (some 168))] ph g Q := by
  have hs := k.1
  refine tEn (ls := [some (.inr (.inl (some 1))), some (.inl a), some (.inr (.inl (some 168))), none]) (fun k => by match k with | 0 => rfl | 1 => rfl | 2 => rfl | 3 => rfl | k + 4 => rfl) ?_
  refine tK (l := xk_248) rfl rfl (fun _ _ _ _ _ => rfl) ?_
  refine tK (l := xk_248) rfl rfl (fun _ _ _ _ _ => rfl) ?_
  refine tK (l := xk_248) rfl rfl (fun _ _ _ _ _ => rfl) ?_
  refine tK (l := xk_248) rfl rfl (fun _ _ _ _ _ => rfl) ?_
  refine tCa (l := xk_248) rfl rfl (hInvV (c := 9) hs rfl rfl rfl rfl rfl (Nat.le_of_ble_eq_true rfl) (Nat.le_of_ble_eq_true rfl)) ?_
  refine hc _ (fun ph2 k2 f2 => ?_)
  refine tKh (pc' := 20) (k := 3) (by decide +kernel) ?_
  refine tK (l := xk_248) rfl rfl (fun _ _ _ _ _ => rfl) ?_
  refine tRt (l := xk_248) rfl rfl (fun _ _ _ _ _ => rfl) ?_
  exact hQ ph2 k2 (m.fw2 k2.1 f2.fw clP_m)
theorem w248_1 (k : hKl zs ph c) (m : hMm zs ph c) (hc : ∀ Q : xR → Prop, (∀ ph2, hKl zs ph2 c → hFd clP ph ph2 → Q (.inr 1, ph2, g + 1)) → xTC d 109 [.inr (.inl (some 1)), .inl a] ph g Q) (hQ : ∀ ph2, hKl zs ph2 c → hMm zs ph2 c → Q (.inl (some (.inl 2)), ph2, g + 1)) : xTC (d + 1) 248 [.inr (.inl (some 1)), .inl a, .inr (.inl (some 168))] ph g Q := by
  have hs := k.1
  refine tEn (ls := [some (.inr (.inl (some 1))), some (.inl a), some (.inr (.inl (some 168))), none]) (fun k => by match k with | 0 => rfl | 1 => rfl | 2 => rfl | 3 => rfl | k + 4 => rfl) ?_
  refine tK (l := xk_248) rfl rfl (fun _ _ _ _ _ => rfl) ?_
  refine tK (l := xk_248) rfl rfl (fun _ _ _ _ _ => rfl) ?_
  refine tK (l := xk_248) rfl rfl (fun _ _ _ _ _ => rfl) ?_
  refine tK (l := xk_248) rfl rfl (fun _ _ _ _ _ => rfl) ?_
  refine tCa (l := xk_248) rfl rfl (hInvV (c := 9) hs rfl rfl rfl rfl rfl (Nat.le_of_ble_eq_true rfl) (Nat.le_of_ble_eq_true rfl)) ?_
  refine hc _ (fun ph2 k2 f2 => ?_)
  refine tKh (pc' := 23) (k := 3) (by decide +kernel) ?_
  refine tK (l := xk_248) rfl rfl (fun _ _ _ _ _ => rfl) ?_
  refine tRt (l := xk_248) rfl rfl (fun _ _ _ _ _ => rfl) ?_
  exact hQ ph2 k2 (m.fw2 k2.1 f2.fw clP_m)
theorem w249 (k : hKl zs ph c) (m : hMm zs ph c) (hc : ∀ Q : xR → Prop, (∀ ph2, hKl zs ph2 c' → hFd clP ph ph2 → Q (.inl (some (.inl v)), ph2, g)) → xTC d 111 [.inr (.inl (some 1)), .inl a] ph g Q) (hQ : ∀ ph2, hKl zs ph2 c' → hMm zs ph2 c → hRl ph2 168 0 = Int64.ofInt v → Q (.inl (some (.inl 0)), ph2, g)) : xTC (d + 1) 249 [.inr (.inl (some 1)), .inl a, .inr (.inl (some 168))] ph g Q := by
  have hs := k.1
  have hz168 := hK168.2
  refine tEn (ls := [some (.inr (.inl (some 1))), some (.inl a), some (.inr (.inl (some 168))), none]) (fun k => by match k with | 0 => rfl | 1 => rfl | 2 => rfl | 3 => rfl | k + 4 => rfl) ?_
  refine tK (l := xk_249) rfl rfl (fun _ _ _ _ _ => rfl) ?_
  refine tK (l := xk_249) rfl rfl (fun _ _ _ _ _ => rfl) ?_
  refine tK (l := xk_249) rfl rfl (fun _ _ _ _ _ => rfl) ?_
  refine tK (l := xk_249) rfl rfl (fun _ _ _ _ _ => rfl) ?_
  refine tCa (l := xk_249) rfl rfl (hInvV (c := 9) hs rfl rfl rfl rfl rfl (Nat.le_of_ble_eq_true rfl) (Nat.le_of_ble_eq_true rfl)) ?_
  refine hc _ (fun ph2 k2 f2 => ?_)
  refine tKv ?_
  have m2 := m.fw2 k2.1 f2.fw clP_m
  obtain ⟨q1, q2, q3⟩ := hOu (x := Int64.ofInt v) k2 m2
  refine tK (l := xk_249) rfl rfl (fun _ _ _ _ _ => rfl) ?_
  first | refine tK (l := xk_249) rfl rfl (hLastN k2.1 rfl rfl (by omega)) ?_ | refine tK (l := xk_249) rfl rfl (hLast k2.1 rfl (by omega) (by omega)) ?_
  refine tK (l := xk_249) rfl rfl (fun _ _ _ _ _ => rfl) ?_
  refine tK (l := xk_249) rfl rfl (fun _ _ _ _ _ => rfl) ?_
  refine tRt (l := xk_249) rfl rfl (fun _ _ _ _ _ => rfl) ?_
  exact hQ _ q1 q2 q3
theorem w249_2 (k : hKl zs ph c) (m : hMm zs ph c) (hc : ∀ Q : xR → Prop, (∀ ph2, hKl zs ph2 c → hFd clP ph ph2 → Q (.inr 2, ph2, g + 1)) → xTC d 111 [.inr (.inl (some 1)), .inl a] ph g Q) (hQ : ∀ ph2, hKl zs ph2 c → hMm zs ph2 c → Q (.inl (some (.inl 1)), ph2, g + 1)) : xTC (d + 1) 249 [.inr (.inl (some 1)), .inl a, .inr (.inl (some 168))] ph g Q := by
  have hs := k.1
  refine tEn (ls := [some (.inr (.inl (some 1))), some (.inl a), some (.inr (.inl (some 168))), none]) (fun k => by match k with | 0 => rfl | 1 => rfl | 2 => rfl | 3 => rfl | k + 4 => rfl) ?_
  refine tK (l := xk_249) rfl rfl (fun _ _ _ _ _ => rfl) ?_
  refine tK (l := xk_249) rfl rfl (fun _ _ _ _ _ => rfl) ?_
  refine tK (l := xk_249) rfl rfl (fun _ _ _ _ _ => rfl) ?_
  refine tK (l := xk_249) rfl rfl (fun _ _ _ _ _ => rfl) ?_
  refine tCa (l := xk_249) rfl rfl (hInvV (c := 9) hs rfl rfl rfl rfl rfl (Nat.le_of_ble_eq_true rfl) (Nat.le_of_ble_eq_true rfl)) ?_
  refine hc _ (fun ph2 k2 f2 => ?_)
  refine tKh (pc' := 13) (k := 3) (by decide +kernel) ?_
  refine tK (l := xk_249) rfl rfl (fun _ _ _ _ _ => rfl) ?_
  refine tRt (l := xk_249) rfl rfl (fun _ _ _ _ _ => rfl) ?_
  exact hQ ph2 k2 (m.fw2 k2.1 f2.fw clP_m)
theorem w249_1 (k : hKl zs ph c) (m : hMm zs ph c) (hc : ∀ Q : xR → Prop, (∀ ph2, hKl zs ph2 c → hFd clP ph ph2 → Q (.inr 1, ph2, g + 1)) → xTC d 111 [.inr (.inl (some 1)), .inl a] ph g Q) (hQ : ∀ ph2, hKl zs ph2 c → hMm zs ph2 c → Q (.inl (some (.inl 2)), ph2, g + 1)) : xTC (d + 1) 249 [.inr (.inl (some 1)), .inl a, .inr (.inl (some 168))] ph g Q := by
  have hs := k.1
  refine tEn (ls := [some (.inr (.inl (some 1))), some (.inl a), some (.inr (.inl (some 168))), none]) (fun k => by match k with | 0 => rfl | 1 => rfl | 2 => rfl | 3 => rfl | k + 4 => rfl) ?_
  refine tK (l := xk_249) rfl rfl (fun _ _ _ _ _ => rfl) ?_
  refine tK (l := xk_249) rfl rfl (fun _ _ _ _ _ => rfl) ?_
  refine tK (l := xk_249) rfl rfl (fun _ _ _ _ _ => rfl) ?_
  refine tK (l := xk_249) rfl rfl (fun _ _ _ _ _ => rfl) ?_
  refine tCa (l := xk_249) rfl rfl (hInvV (c := 9) hs rfl rfl rfl rfl rfl (Nat.le_of_ble_eq_true rfl) (Nat.le_of_ble_eq_true rfl)) ?_
  refine hc _ (fun ph2 k2 f2 => ?_)
  refine tKh (pc' := 16) (k := 3) (by decide +kernel) ?_
  refine tK (l := xk_249) rfl rfl (fun _ _ _ _ _ => rfl) ?_
  refine tRt (l := xk_249) rfl rfl (fun _ _ _ _ _ => rfl) ?_
  exact hQ ph2 k2 (m.fw2 k2.1 f2.fw clP_m)
theorem w250 (k : hKl zs ph c) (m : hMm zs ph c) (hc : ∀ Q : xR → Prop, (∀ ph2, hKl zs ph2 c' → hFd clP ph ph2 → Q (.inl (some (.inl v)), ph2, g)) → xTC d 114 [.inr (.inl (some 1)), .inl a] ph g Q) (hQ : ∀ ph2, hKl zs ph2 c' → hMm zs ph2 c → hRl ph2 168 0 = Int64.ofInt v → Q (.inl (some (.inl 0)), ph2, g)) : xTC (d + 1) 250 [.inr (.inl (some 1)), .inl a, .inr (.inl (some 168))] ph g Q := by
  have hs := k.1
  have hz168 := hK168.2
  refine tEn (ls := [some (.inr (.inl (some 1))), some (.inl a), some (.inr (.inl (some 168))), none]) (fun k => by match k with | 0 => rfl | 1 => rfl | 2 => rfl | 3 => rfl | k + 4 => rfl) ?_
  refine tK (l := xk_250) rfl rfl (fun _ _ _ _ _ => rfl) ?_
  refine tK (l := xk_250) rfl rfl (fun _ _ _ _ _ => rfl) ?_
  refine tK (l := xk_250) rfl rfl (fun _ _ _ _ _ => rfl) ?_
  refine tK (l := xk_250) rfl rfl (fun _ _ _ _ _ => rfl) ?_
  refine tCa (l := xk_250) rfl rfl (hInvV (c := 9) hs rfl rfl rfl rfl rfl (Nat.le_of_ble_eq_true rfl) (Nat.le_of_ble_eq_true rfl)) ?_
  refine hc _ (fun ph2 k2 f2 => ?_)
  refine tKv ?_
  have m2 := m.fw2 k2.1 f2.fw clP_m
  obtain ⟨q1, q2, q3⟩ := hOu (x := Int64.ofInt v) k2 m2
  refine tK (l := xk_250) rfl rfl (fun _ _ _ _ _ => rfl) ?_
  first | refine tK (l := xk_250) rfl rfl (hLastN k2.1 rfl rfl (by omega)) ?_ | refine tK (l := xk_250) rfl rfl (hLast k2.1 rfl (by omega) (by omega)) ?_
  refine tK (l := xk_250) rfl rfl (fun _ _ _ _ _ => rfl) ?_
  refine tK (l := xk_250) rfl rfl (fun _ _ _ _ _ => rfl) ?_
  refine tRt (l := xk_250) rfl rfl (fun _ _ _ _ _ => rfl) ?_
  exact hQ _ q1 q2 q3
theorem w250_2 (k : hKl zs ph c) (m : hMm zs ph c) (hc : ∀ Q : xR → Prop, (∀ ph2, hKl zs ph2 c → hFd clP ph ph2 → Q (.inr 2, ph2, g + 1)) → xTC d 114 [.inr (.inl (some 1)), .inl a] ph g Q) (hQ : ∀ ph2, hKl zs ph2 c → hMm zs ph2 c → Q (.inl (some (.inl 1)), ph2, g + 1)) : xTC (d + 1) 250 [.inr (.inl (some 1)), .inl a, .inr (.inl (some 168))] ph g Q := by
  have hs := k.1
  refine tEn (ls := [some (.inr (.inl (some 1))), some (.inl a), some (.inr (.inl (some 168))), none]) (fun k => by match k with | 0 => rfl | 1 => rfl | 2 => rfl | 3 => rfl | k + 4 => rfl) ?_
  refine tK (l := xk_250) rfl rfl (fun _ _ _ _ _ => rfl) ?_
  refine tK (l := xk_250) rfl rfl (fun _ _ _ _ _ => rfl) ?_
  refine tK (l := xk_250) rfl rfl (fun _ _ _ _ _ => rfl) ?_
  refine tK (l := xk_250) rfl rfl (fun _ _ _ _ _ => rfl) ?_
  refine tCa (l := xk_250) rfl rfl (hInvV (c := 9) hs rfl rfl rfl rfl rfl (Nat.le_of_ble_eq_true rfl) (Nat.le_of_ble_eq_true rfl)) ?_
  refine hc _ (fun ph2 k2 f2 => ?_)
  refine tKh (pc' := 13) (k := 3) (by decide +kernel) ?_
  refine tK (l := xk_250) rfl rfl (fun _ _ _ _ _ => rfl) ?_
  refine tRt (l := xk_250) rfl rfl (fun _ _ _ _ _ => rfl) ?_
  exact hQ ph2 k2 (m.fw2 k2.1 f2.fw clP_m)
theorem w250_1 (k : hKl zs ph c) (m : hMm zs ph c) (hc : ∀ Q : xR → Prop, (∀ ph2, hKl zs ph2 c → hFd clP ph ph2 → Q (.inr 1, ph2, g + 1)) → xTC d 114 [.inr (.inl (some 1)), .inl a] ph g Q) (hQ : ∀ ph2, hKl zs ph2 c → hMm zs ph2 c → Q (.inl (some (.inl 2)), ph2, g + 1)) : xTC (d + 1) 250 [.inr (.inl (some 1)), .inl a, .inr (.inl (some 168))] ph g Q := by
  have hs := k.1
  refine tEn (ls := [some (.inr (.inl (some 1))), some (.inl a), some (.inr (.inl (some 168))), none]) (fun k => by match k with | 0 => rfl | 1 => rfl | 2 => rfl | 3 => rfl | k + 4 => rfl) ?_
  refine tK (l := xk_250) rfl rfl (fun _ _ _ _ _ => rfl) ?_
  refine tK (l := xk_250) rfl rfl (fun _ _ _ _ _ => rfl) ?_
  refine tK (l := xk_250) rfl rfl (fun _ _ _ _ _ => rfl) ?_
  refine tK (l := xk_250) rfl rfl (fun _ _ _ _ _ => rfl) ?_
  refine tCa (l := xk_250) rfl rfl (hInvV (c := 9) hs rfl rfl rfl rfl rfl (Nat.le_of_ble_eq_true rfl) (Nat.le_of_ble_eq_true rfl)) ?_
  refine hc _ (fun ph2 k2 f2 => ?_)
  refine tKh (pc' := 16) (k := 3) (by decide +kernel) ?_
  refine tK (l := xk_250) rfl rfl (fun _ _ _ _ _ => rfl) ?_
  refine tRt (l := xk_250) rfl rfl (fun _ _ _ _ _ => rfl) ?_
  exact hQ ph2 k2 (m.fw2 k2.1 f2.fw clP_m)
theorem w251 (k : hKl zs ph c) (m : hMm zs ph c) (hc : ∀ Q : xR → Prop, (∀ ph2, hKl zs ph2 c' → hFd clP ph ph2 → Q (.inl (some (.inl v)), ph2, g)) → xTC d 138 [.inr (.inl (some 1))] ph g Q) (hQ : ∀ ph2, hKl zs ph2 c' → hMm zs ph2 c → hRl ph2 168 0 = Int64.ofInt v → Q (.inl (some (.inl 0)), ph2, g)) : xTC (d + 1) 251 [.inr (.inl (some 1)), .inr (.inl (some 168))] ph g Q := by
  have hs := k.1
  have hz168 := hK168.2
  refine tEn (ls := [some (.inr (.inl (some 1))), some (.inr (.inl (some 168))), none]) (fun k => by match k with | 0 => rfl | 1 => rfl | 2 => rfl | k + 3 => rfl) ?_
  refine tK (l := xk_251) rfl rfl (fun _ _ _ _ _ => rfl) ?_
  refine tK (l := xk_251) rfl rfl (fun _ _ _ _ _ => rfl) ?_
  refine tK (l := xk_251) rfl rfl (fun _ _ _ _ _ => rfl) ?_
  refine tCa (l := xk_251) rfl rfl (hInvV (c := 9) hs rfl rfl rfl rfl rfl (Nat.le_of_ble_eq_true rfl) (Nat.le_of_ble_eq_true rfl)) ?_
  refine hc _ (fun ph2 k2 f2 => ?_)
  refine tKv ?_
  have m2 := m.fw2 k2.1 f2.fw clP_m
  obtain ⟨q1, q2, q3⟩ := hOu (x := Int64.ofInt v) k2 m2
  refine tK (l := xk_251) rfl rfl (fun _ _ _ _ _ => rfl) ?_
  first | refine tK (l := xk_251) rfl rfl (hLastN k2.1 rfl rfl (by omega)) ?_ | refine tK (l := xk_251) rfl rfl (hLast k2.1 rfl (by omega) (by omega)) ?_
  refine tK (l := xk_251) rfl rfl (fun _ _ _ _ _ => rfl) ?_
  refine tK (l := xk_251) rfl rfl (fun _ _ _ _ _ => rfl) ?_
  refine tRt (l := xk_251) rfl rfl (fun _ _ _ _ _ => rfl) ?_
  exact hQ _ q1 q2 q3
theorem w251_1 (k : hKl zs ph c) (m : hMm zs ph c) (hc : ∀ Q : xR → Prop, (∀ ph2, hKl zs ph2 c → hFd clP ph ph2 → Q (.inr 1, ph2, g + 1)) → xTC d 138 [.inr (.inl (some 1))] ph g Q) (hQ : ∀ ph2, hKl zs ph2 c → hMm zs ph2 c → Q (.inl (some (.inl 1)), ph2, g + 1)) : xTC (d + 1) 251 [.inr (.inl (some 1)), .inr (.inl (some 168))] ph g Q := by
  have hs := k.1
  refine tEn (ls := [some (.inr (.inl (some 1))), some (.inr (.inl (some 168))), none]) (fun k => by match k with | 0 => rfl | 1 => rfl | 2 => rfl | k + 3 => rfl) ?_
  refine tK (l := xk_251) rfl rfl (fun _ _ _ _ _ => rfl) ?_
  refine tK (l := xk_251) rfl rfl (fun _ _ _ _ _ => rfl) ?_
  refine tK (l := xk_251) rfl rfl (fun _ _ _ _ _ => rfl) ?_
  refine tCa (l := xk_251) rfl rfl (hInvV (c := 9) hs rfl rfl rfl rfl rfl (Nat.le_of_ble_eq_true rfl) (Nat.le_of_ble_eq_true rfl)) ?_
  refine hc _ (fun ph2 k2 f2 => ?_)
  refine tKh (pc' := 12) (k := 2) (by decide +kernel) ?_
  refine tK (l := xk_251) rfl rfl (fun _ _ _ _ _ => rfl) ?_
  refine tRt (l := xk_251) rfl rfl (fun _ _ _ _ _ => rfl) ?_
  exact hQ ph2 k2 (m.fw2 k2.1 f2.fw clP_m)
theorem w252 (k : hKl zs ph c) (m : hMm zs ph c) (hc : ∀ Q : xR → Prop, (∀ ph2, hKl zs ph2 c' → hFd clP ph ph2 → Q (.inl (some (.inl v)), ph2, g)) → xTC d 139 [.inr (.inl (some 1)), .inl a] ph g Q) (hQ : ∀ ph2, hKl zs ph2 c' → hMm zs ph2 c → hRl ph2 168 0 = Int64.ofInt v → Q (.inl (some (.inl 0)), ph2, g)) : xTC (d + 1) 252 [.inr (.inl (some 1)), .inl a, .inr (.inl (some 168))] ph g Q := by
  have hs := k.1
  have hz168 := hK168.2
  refine tEn (ls := [some (.inr (.inl (some 1))), some (.inl a), some (.inr (.inl (some 168))), none]) (fun k => by match k with | 0 => rfl | 1 => rfl | 2 => rfl | 3 => rfl | k + 4 => rfl) ?_
  refine tK (l := xk_252) rfl rfl (fun _ _ _ _ _ => rfl) ?_
  refine tK (l := xk_252) rfl rfl (fun _ _ _ _ _ => rfl) ?_
  refine tK (l := xk_252) rfl rfl (fun _ _ _ _ _ => rfl) ?_
  refine tK (l := xk_252) rfl rfl (fun _ _ _ _ _ => rfl) ?_
  refine tCa (l := xk_252) rfl rfl (hInvV (c := 9) hs rfl rfl rfl rfl rfl (Nat.le_of_ble_eq_true rfl) (Nat.le_of_ble_eq_true rfl)) ?_
  refine hc _ (fun ph2 k2 f2 => ?_)
  refine tKv ?_
  have m2 := m.fw2 k2.1 f2.fw clP_m
  obtain ⟨q1, q2, q3⟩ := hOu (x := Int64.ofInt v) k2 m2
  refine tK (l := xk_252) rfl rfl (fun _ _ _ _ _ => rfl) ?_
  first | refine tK (l := xk_252) rfl rfl (hLastN k2.1 rfl rfl (by omega)) ?_ | refine tK (l := xk_252) rfl rfl (hLast k2.1 rfl (by omega) (by omega)) ?_
  refine tK (l := xk_252) rfl rfl (fun _ _ _ _ _ => rfl) ?_
  refine tK (l := xk_252) rfl rfl (fun _ _ _ _ _ => rfl) ?_
  refine tRt (l := xk_252) rfl rfl (fun _ _ _ _ _ => rfl) ?_
  exact hQ _ q1 q2 q3
theorem w252_2 (k : hKl zs ph c) (m : hMm zs ph c) (hc : ∀ Q : xR → Prop, (∀ ph2, hKl zs ph2 c → hFd clP ph ph2 → Q (.inr 2, ph2, g + 1)) → xTC d 139 [.inr (.inl (some 1)), .inl a] ph g Q) (hQ : ∀ ph2, hKl zs ph2 c → hMm zs ph2 c → Q (.inl (some (.inl 1)), ph2, g + 1)) : xTC (d + 1) 252 [.inr (.inl (some 1)), .inl a, .inr (.inl (some 168))] ph g Q := by
  have hs := k.1
  refine tEn (ls := [some (.inr (.inl (some 1))), some (.inl a), some (.inr (.inl (some 168))), none]) (fun k => by match k with | 0 => rfl | 1 => rfl | 2 => rfl | 3 => rfl | k + 4 => rfl) ?_
  refine tK (l := xk_252) rfl rfl (fun _ _ _ _ _ => rfl) ?_
  refine tK (l := xk_252) rfl rfl (fun _ _ _ _ _ => rfl) ?_
  refine tK (l := xk_252) rfl rfl (fun _ _ _ _ _ => rfl) ?_
  refine tK (l := xk_252) rfl rfl (fun _ _ _ _ _ => rfl) ?_
  refine tCa (l := xk_252) rfl rfl (hInvV (c := 9) hs rfl rfl rfl rfl rfl (Nat.le_of_ble_eq_true rfl) (Nat.le_of_ble_eq_true rfl)) ?_
  refine hc _ (fun ph2 k2 f2 => ?_)
  refine tKh (pc' := 13) (k := 3) (by decide +kernel) ?_
  refine tK (l := xk_252) rfl rfl (fun _ _ _ _ _ => rfl) ?_
  refine tRt (l := xk_252) rfl rfl (fun _ _ _ _ _ => rfl) ?_
  exact hQ ph2 k2 (m.fw2 k2.1 f2.fw clP_m)
theorem w253 (k : hKl zs ph c) (m : hMm zs ph c) (hc : ∀ Q : xR → Prop, (∀ ph2, hKl zs ph2 c' → hFd clP ph ph2 → Q (.inl (some (.inl v)), ph2, g)) → xTC d 105 [.inr (.inl (some 1))] ph g Q) (hQ : ∀ ph2, hKl zs ph2 c' → hMm zs ph2 c → hRl ph2 168 0 = Int64.ofInt v → Q (.inl (some (.inl 0)), ph2, g)) : xTC (d + 1) 253 [.inr (.inl (some 1)), .inr (.inl (some 168))] ph g Q := by
  have hs := k.1
  have hz168 := hK168.2
  refine tEn (ls := [some (.inr (.inl (some 1))), some (.inr (.inl (some 168))), none]) (fun k => by match k with | 0 => rfl | 1 => rfl | 2 => rfl | k + 3 => rfl) ?_
  refine tK (l := xk_253) rfl rfl (fun _ _ _ _ _ => rfl) ?_
  refine tK (l := xk_253) rfl rfl (fun _ _ _ _ _ => rfl) ?_
  refine tK (l := xk_253) rfl rfl (fun _ _ _ _ _ => rfl) ?_
  refine tCa (l := xk_253) rfl rfl (hInvV (c := 9) hs rfl rfl rfl rfl rfl (Nat.le_of_ble_eq_true rfl) (Nat.le_of_ble_eq_true rfl)) ?_
  refine hc _ (fun ph2 k2 f2 => ?_)
  refine tKv ?_
  have m2 := m.fw2 k2.1 f2.fw clP_m
  obtain ⟨q1, q2, q3⟩ := hOu (x := Int64.ofInt v) k2 m2
  refine tK (l := xk_253) rfl rfl (fun _ _ _ _ _ => rfl) ?_
  first | refine tK (l := xk_253) rfl rfl (hLastN k2.1 rfl rfl (by omega)) ?_ | refine tK (l := xk_253) rfl rfl (hLast k2.1 rfl (by omega) (by omega)) ?_
  refine tK (l := xk_253) rfl rfl (fun _ _ _ _ _ => rfl) ?_
  refine tK (l := xk_253) rfl rfl (fun _ _ _ _ _ => rfl) ?_
  refine tRt (l := xk_253) rfl rfl (fun _ _ _ _ _ => rfl) ?_
  exact hQ _ q1 q2 q3
theorem w253_1 (k : hKl zs ph c) (m : hMm zs ph c) (hc : ∀ Q : xR → Prop, (∀ ph2, hKl zs ph2 c → hFd clP ph ph2 → Q (.inr 1, ph2, g + 1)) → xTC d 105 [.inr (.inl (some 1))] ph g Q) (hQ : ∀ ph2, hKl zs ph2 c → hMm zs ph2 c → Q (.inl (some (.inl 1)), ph2, g + 1)) : xTC (d + 1) 253 [.inr (.inl (some 1)), .inr (.inl (some 168))] ph g Q := by
  have hs := k.1
  refine tEn (ls := [some (.inr (.inl (some 1))), some (.inr (.inl (some 168))), none]) (fun k => by match k with | 0 => rfl | 1 => rfl | 2 => rfl | k + 3 => rfl) ?_
  refine tK (l := xk_253) rfl rfl (fun _ _ _ _ _ => rfl) ?_
  refine tK (l := xk_253) rfl rfl (fun _ _ _ _ _ => rfl) ?_
  refine tK (l := xk_253) rfl rfl (fun _ _ _ _ _ => rfl) ?_
  refine tCa (l := xk_253) rfl rfl (hInvV (c := 9) hs rfl rfl rfl rfl rfl (Nat.le_of_ble_eq_true rfl) (Nat.le_of_ble_eq_true rfl)) ?_
  refine hc _ (fun ph2 k2 f2 => ?_)
  refine tKh (pc' := 12) (k := 2) (by decide +kernel) ?_
  refine tK (l := xk_253) rfl rfl (fun _ _ _ _ _ => rfl) ?_
  refine tRt (l := xk_253) rfl rfl (fun _ _ _ _ _ => rfl) ?_
  exact hQ ph2 k2 (m.fw2 k2.1 f2.fw clP_m)
theorem w254 (k : hKl zs ph c) (m : hMm zs ph c) (hc : ∀ Q : xR → Prop, (∀ ph2, hKl zs ph2 c' → hFd clP ph ph2 → Q (.inl (some (.inl v)), ph2, g)) → xTC d 106 [.inr (.inl (some 1)), .inl a] ph g Q) (hQ : ∀ ph2, hKl zs ph2 c' → hMm zs ph2 c → hRl ph2 168 0 = Int64.ofInt v → Q (.inl (some (.inl 0)), ph2, g)) : xTC (d + 1) 254 [.inr (.inl (some 1)), .inl a, .inr (.inl (some 168))] ph g Q := by
  have hs := k.1
  have hz168 := hK168.2
  refine tEn (ls := [some (.inr (.inl (some 1))), some (.inl a), some (.inr (.inl (some 168))), none]) (fun k => by match k with | 0 => rfl | 1 => rfl | 2 => rfl | 3 => rfl | k + 4 => rfl) ?_
  refine tK (l := xk_254) rfl rfl (fun _ _ _ _ _ => rfl) ?_
  refine tK (l := xk_254) rfl rfl (fun _ _ _ _ _ => rfl) ?_
  refine tK (l := xk_254) rfl rfl (fun _ _ _ _ _ => rfl) ?_
  refine tK (l := xk_254) rfl rfl (fun _ _ _ _ _ => rfl) ?_
  refine tCa (l := xk_254) rfl rfl (hInvV (c := 9) hs rfl rfl rfl rfl rfl (Nat.le_of_ble_eq_true rfl) (Nat.le_of_ble_eq_true rfl)) ?_
  refine hc _ (fun ph2 k2 f2 => ?_)
  refine tKv ?_
  have m2 := m.fw2 k2.1 f2.fw clP_m
  obtain ⟨q1, q2, q3⟩ := hOu (x := Int64.ofInt v) k2 m2
  refine tK (l := xk_254) rfl rfl (fun _ _ _ _ _ => rfl) ?_
  first | refine tK (l := xk_254) rfl rfl (hLastN k2.1 rfl rfl (by omega)) ?_ | refine tK (l := xk_254) rfl rfl (hLast k2.1 rfl (by omega) (by omega)) ?_
  refine tK (l := xk_254) rfl rfl (fun _ _ _ _ _ => rfl) ?_
  refine tK (l := xk_254) rfl rfl (fun _ _ _ _ _ => rfl) ?_
  refine tRt (l := xk_254) rfl rfl (fun _ _ _ _ _ => rfl) ?_
  exact hQ _ q1 q2 q3
theorem w254_2 (k : hKl zs ph c) (m : hMm zs ph c) (hc : ∀ Q : xR → Prop, (∀ ph2, hKl zs ph2 c → hFd clP ph ph2 → Q (.inr 2, ph2, g + 1)) → xTC d 106 [.inr (.inl (some 1)), .inl a] ph g Q) (hQ : ∀ ph2, hKl zs ph2 c → hMm zs ph2 c → Q (.inl (some (.inl 1)), ph2, g + 1)) : xTC (d + 1) 254 [.inr (.inl (some 1)), .inl a, .inr (.inl (some 168))] ph g Q := by
  have hs := k.1
  refine tEn (ls := [some (.inr (.inl (some 1))), some (.inl a), some (.inr (.inl (some 168))), none]) (fun k => by match k with | 0 => rfl | 1 => rfl | 2 => rfl | 3 => rfl | k + 4 => rfl) ?_
  refine tK (l := xk_254) rfl rfl (fun _ _ _ _ _ => rfl) ?_
  refine tK (l := xk_254) rfl rfl (fun _ _ _ _ _ => rfl) ?_
  refine tK (l := xk_254) rfl rfl (fun _ _ _ _ _ => rfl) ?_
  refine tK (l := xk_254) rfl rfl (fun _ _ _ _ _ => rfl) ?_
  refine tCa (l := xk_254) rfl rfl (hInvV (c := 9) hs rfl rfl rfl rfl rfl (Nat.le_of_ble_eq_true rfl) (Nat.le_of_ble_eq_true rfl)) ?_
  refine hc _ (fun ph2 k2 f2 => ?_)
  refine tKh (pc' := 13) (k := 3) (by decide +kernel) ?_
  refine tK (l := xk_254) rfl rfl (fun _ _ _ _ _ => rfl) ?_
  refine tRt (l := xk_254) rfl rfl (fun _ _ _ _ _ => rfl) ?_
  exact hQ ph2 k2 (m.fw2 k2.1 f2.fw clP_m)
theorem w255 (k : hKl zs ph c) (m : hMm zs ph c) (hc : ∀ Q : xR → Prop, (∀ ph2, hKl zs ph2 c' → hFd clP ph ph2 → Q (.inl (some (.inl v)), ph2, g)) → xTC d 122 [.inr (.inl (some 1))] ph g Q) (hQ : ∀ ph2, hKl zs ph2 c' → hMm zs ph2 c → hRl ph2 168 0 = Int64.ofInt v → Q (.inl (some (.inl 0)), ph2, g)) : xTC (d + 1) 255 [.inr (.inl (some 1)), .inr (.inl (some 168))] ph g Q := by
  have hs := k.1
  have hz168 := hK168.2
  refine tEn (ls := [some (.inr (.inl (some 1))), some (.inr (.inl (some 168))), none]) (fun k => by match k with | 0 => rfl | 1 => rfl | 2 => rfl | k + 3 => rfl) ?_
  refine tK (l := xk_255) rfl rfl (fun _ _ _ _ _ => rfl) ?_
  refine tK (l := xk_255) rfl rfl (fun _ _ _ _ _ => rfl) ?_
  refine tK (l := xk_255) rfl rfl (fun _ _ _ _ _ => rfl) ?_
  refine tCa (l := xk_255) rfl rfl (hInvV (c := 9) hs rfl rfl rfl rfl rfl (Nat.le_of_ble_eq_true rfl) (Nat.le_of_ble_eq_true rfl)) ?_
  refine hc _ (fun ph2 k2 f2 => ?_)
  refine tKv ?_
  have m2 := m.fw2 k2.1 f2.fw clP_m
  obtain ⟨q1, q2, q3⟩ := hOu (x := Int64.ofInt v) k2 m2
  refine tK (l := xk_255) rfl rfl (fun _ _ _ _ _ => rfl) ?_
  first | refine tK (l := xk_255) rfl rfl (hLastN k2.1 rfl rfl (by omega)) ?_ | refine tK (l := xk_255) rfl rfl (hLast k2.1 rfl (by omega) (by omega)) ?_
  refine tK (l := xk_255) rfl rfl (fun _ _ _ _ _ => rfl) ?_
  refine tK (l := xk_255) rfl rfl (fun _ _ _ _ _ => rfl) ?_
  refine tRt (l := xk_255) rfl rfl (fun _ _ _ _ _ => rfl) ?_
  exact hQ _ q1 q2 q3
theorem w255_1 (k : hKl zs ph c) (m : hMm zs ph c) (hc : ∀ Q : xR → Prop, (∀ ph2, hKl zs ph2 c → hFd clP ph ph2 → Q (.inr 1, ph2, g + 1)) → xTC d 122 [.inr (.inl (some 1))] ph g Q) (hQ : ∀ ph2, hKl zs ph2 c → hMm zs ph2 c → Q (.inl (some (.inl 1)), ph2, g + 1)) : xTC (d + 1) 255 [.inr (.inl (some 1)), .inr (.inl (some 168))] ph g Q := by
  have hs := k.1
  refine tEn (ls := [some (.inr (.inl (some 1))), some (.inr (.inl (some 168))), none]) (fun k => by match k with | 0 => rfl | 1 => rfl | 2 => rfl | k + 3 => rfl) ?_
  refine tK (l := xk_255) rfl rfl (fun _ _ _ _ _ => rfl) ?_
  refine tK (l := xk_255) rfl rfl (fun _ _ _ _ _ => rfl) ?_
  refine tK (l := xk_255) rfl rfl (fun _ _ _ _ _ => rfl) ?_
  refine tCa (l := xk_255) rfl rfl (hInvV (c := 9) hs rfl rfl rfl rfl rfl (Nat.le_of_ble_eq_true rfl) (Nat.le_of_ble_eq_true rfl)) ?_
  refine hc _ (fun ph2 k2 f2 => ?_)
  refine tKh (pc' := 12) (k := 2) (by decide +kernel) ?_
  refine tK (l := xk_255) rfl rfl (fun _ _ _ _ _ => rfl) ?_
  refine tRt (l := xk_255) rfl rfl (fun _ _ _ _ _ => rfl) ?_
  exact hQ ph2 k2 (m.fw2 k2.1 f2.fw clP_m)
theorem w256 (k : hKl zs ph c) (m : hMm zs ph c) (hc : ∀ Q : xR → Prop, (∀ ph2, hKl zs ph2 c' → hFd clP ph ph2 → Q (.inl (some (.inl v)), ph2, g)) → xTC d 123 [.inr (.inl (some 1))] ph g Q) (hQ : ∀ ph2, hKl zs ph2 c' → hMm zs ph2 c → hRl ph2 168 0 = Int64.ofInt v → Q (.inl (some (.inl 0)), ph2, g)) : xTC (d + 1) 256 [.inr (.inl (some 1)), .inr (.inl (some 168))] ph g Q := by
  have hs := k.1
  have hz168 := hK168.2
  refine tEn (ls := [some (.inr (.inl (some 1))), some (.inr (.inl (some 168))), none]) (fun k => by match k with | 0 => rfl | 1 => rfl | 2 => rfl | k + 3 => rfl) ?_
  refine tK (l := xk_256) rfl rfl (fun _ _ _ _ _ => rfl) ?_
  refine tK (l := xk_256) rfl rfl (fun _ _ _ _ _ => rfl) ?_
  refine tK (l := xk_256) rfl rfl (fun _ _ _ _ _ => rfl) ?_
  refine tCa (l := xk_256) rfl rfl (hInvV (c := 9) hs rfl rfl rfl rfl rfl (Nat.le_of_ble_eq_true rfl) (Nat.le_of_ble_eq_true rfl)) ?_
  refine hc _ (fun ph2 k2 f2 => ?_)
  refine tKv ?_
  have m2 := m.fw2 k2.1 f2.fw clP_m
  obtain ⟨q1, q2, q3⟩ := hOu (x := Int64.ofInt v) k2 m2
  refine tK (l := xk_256) rfl rfl (fun _ _ _ _ _ => rfl) ?_
  first | refine tK (l := xk_256) rfl rfl (hLastN k2.1 rfl rfl (by omega)) ?_ | refine tK (l := xk_256) rfl rfl (hLast k2.1 rfl (by omega) (by omega)) ?_
  refine tK (l := xk_256) rfl rfl (fun _ _ _ _ _ => rfl) ?_
  refine tK (l := xk_256) rfl rfl (fun _ _ _ _ _ => rfl) ?_
  refine tRt (l := xk_256) rfl rfl (fun _ _ _ _ _ => rfl) ?_
  exact hQ _ q1 q2 q3
theorem w256_1 (k : hKl zs ph c) (m : hMm zs ph c) (hc : ∀ Q : xR → Prop, (∀ ph2, hKl zs ph2 c → hFd clP ph ph2 → Q (.inr 1, ph2, g + 1)) → xTC d 123 [.inr (.inl (some 1))] ph g Q) (hQ : ∀ ph2, hKl zs ph2 c → hMm zs ph2 c → Q (.inl (some (.inl 1)), ph2, g + 1)) : xTC (d + 1) 256 [.inr (.inl (some 1)), .inr (.inl (some 168))] ph g Q := by
  have hs := k.1
  refine tEn (ls := [some (.inr (.inl (some 1))), some (.inr (.inl (some 168))), none]) (fun k => by match k with | 0 => rfl | 1 => rfl | 2 => rfl | k + 3 => rfl) ?_
  refine tK (l := xk_256) rfl rfl (fun _ _ _ _ _ => rfl) ?_
  refine tK (l := xk_256) rfl rfl (fun _ _ _ _ _ => rfl) ?_
  refine tK (l := xk_256) rfl rfl (fun _ _ _ _ _ => rfl) ?_
  refine tCa (l := xk_256) rfl rfl (hInvV (c := 9) hs rfl rfl rfl rfl rfl (Nat.le_of_ble_eq_true rfl) (Nat.le_of_ble_eq_true rfl)) ?_
  refine hc _ (fun ph2 k2 f2 => ?_)
  refine tKh (pc' := 12) (k := 2) (by decide +kernel) ?_
  refine tK (l := xk_256) rfl rfl (fun _ _ _ _ _ => rfl) ?_
  refine tRt (l := xk_256) rfl rfl (fun _ _ _ _ _ => rfl) ?_
  exact hQ ph2 k2 (m.fw2 k2.1 f2.fw clP_m)
theorem w257 (k : hKl zs ph c) (m : hMm zs ph c) (hc : ∀ Q : xR → Prop, (∀ ph2, hKl zs ph2 c' → hFd clP ph ph2 → Q (.inl (some (.inl v)), ph2, g)) → xTC d 124 [.inr (.inl (some 1))] ph g Q) (hQ : ∀ ph2, hKl zs ph2 c' → hMm zs ph2 c → hRl ph2 168 0 = Int64.ofInt v → Q (.inl (some (.inl 0)), ph2, g)) : xTC (d + 1) 257 [.inr (.inl (some 1)), .inr (.inl (some 168))] ph g Q := by
  have hs := k.1
  have hz168 := hK168.2
  refine tEn (ls := [some (.inr (.inl (some 1))), some (.inr (.inl (some 168))), none]) (fun k => by match k with | 0 => rfl | 1 => rfl | 2 => rfl | k + 3 => rfl) ?_
  refine tK (l := xk_257) rfl rfl (fun _ _ _ _ _ => rfl) ?_
  refine tK (l := xk_257) rfl rfl (fun _ _ _ _ _ => rfl) ?_
  refine tK (l := xk_257) rfl rfl (fun _ _ _ _ _ => rfl) ?_
  refine tCa (l := xk_257) rfl rfl (hInvV (c := 9) hs rfl rfl rfl rfl rfl (Nat.le_of_ble_eq_true rfl) (Nat.le_of_ble_eq_true rfl)) ?_
  refine hc _ (fun ph2 k2 f2 => ?_)
  refine tKv ?_
  have m2 := m.fw2 k2.1 f2.fw clP_m
  obtain ⟨q1, q2, q3⟩ := hOu (x := Int64.ofInt v) k2 m2
  refine tK (l := xk_257) rfl rfl (fun _ _ _ _ _ => rfl) ?_
  first | refine tK (l := xk_257) rfl rfl (hLastN k2.1 rfl rfl (by omega)) ?_ | refine tK (l := xk_257) rfl rfl (hLast k2.1 rfl (by omega) (by omega)) ?_
  refine tK (l := xk_257) rfl rfl (fun _ _ _ _ _ => rfl) ?_
  refine tK (l := xk_257) rfl rfl (fun _ _ _ _ _ => rfl) ?_
  refine tRt (l := xk_257) rfl rfl (fun _ _ _ _ _ => rfl) ?_
  exact hQ _ q1 q2 q3
theorem w257_1 (k : hKl zs ph c) (m : hMm zs ph c) (hc : ∀ Q : xR → Prop, (∀ ph2, hKl zs ph2 c → hFd clP ph ph2 → Q (.inr 1, ph2, g + 1)) → xTC d 124 [.inr (.inl (some 1))] ph g Q) (hQ : ∀ ph2, hKl zs ph2 c → hMm zs ph2 c → Q (.inl (some (.inl 1)), ph2, g + 1)) : xTC (d + 1) 257 [.inr (.inl (some 1)), .inr (.inl (some 168))] ph g Q := by
  have hs := k.1
  refine tEn (ls := [some (.inr (.inl (some 1))), some (.inr (.inl (some 168))), none]) (fun k => by match k with | 0 => rfl | 1 => rfl | 2 => rfl | k + 3 => rfl) ?_
  refine tK (l := xk_257) rfl rfl (fun _ _ _ _ _ => rfl) ?_
  refine tK (l := xk_257) rfl rfl (fun _ _ _ _ _ => rfl) ?_
  refine tK (l := xk_257) rfl rfl (fun _ _ _ _ _ => rfl) ?_
  refine tCa (l := xk_257) rfl rfl (hInvV (c := 9) hs rfl rfl rfl rfl rfl (Nat.le_of_ble_eq_true rfl) (Nat.le_of_ble_eq_true rfl)) ?_
  refine hc _ (fun ph2 k2 f2 => ?_)
  refine tKh (pc' := 12) (k := 2) (by decide +kernel) ?_
  refine tK (l := xk_257) rfl rfl (fun _ _ _ _ _ => rfl) ?_
  refine tRt (l := xk_257) rfl rfl (fun _ _ _ _ _ => rfl) ?_
  exact hQ ph2 k2 (m.fw2 k2.1 f2.fw clP_m)
theorem w258 (k : hKl zs ph c) (m : hMm zs ph c) (hc : ∀ Q : xR → Prop, (∀ ph2, hKl zs ph2 c' → hFd clP ph ph2 → Q (.inl (some (.inl v)), ph2, g)) → xTC d 140 [.inr (.inl (some 1)), .inl a] ph g Q) (hQ : ∀ ph2, hKl zs ph2 c' → hMm zs ph2 c → hRl ph2 168 0 = Int64.ofInt v → Q (.inl (some (.inl 0)), ph2, g)) : xTC (d + 1) 258 [.inr (.inl (some 1)), .inl a, .inr (.inl (some 168))] ph g Q := by
  have hs := k.1
  have hz168 := hK168.2
  refine tEn (ls := [some (.inr (.inl (some 1))), some (.inl a), some (.inr (.inl (some 168))), none]) (fun k => by match k with | 0 => rfl | 1 => rfl | 2 => rfl | 3 => rfl | k + 4 => rfl) ?_
  refine tK (l := xk_258) rfl rfl (fun _ _ _ _ _ => rfl) ?_
  refine tK (l := xk_258) rfl rfl (fun _ _ _ _ _ => rfl) ?_
  refine tK (l := xk_258) rfl rfl (fun _ _ _ _ _ => rfl) ?_
  refine tK (l := xk_258) rfl rfl (fun _ _ _ _ _ => rfl) ?_
  refine tCa (l := xk_258) rfl rfl (hInvV (c := 9) hs rfl rfl rfl rfl rfl (Nat.le_of_ble_eq_true rfl) (Nat.le_of_ble_eq_true rfl)) ?_
  refine hc _ (fun ph2 k2 f2 => ?_)
  refine tKv ?_
  have m2 := m.fw2 k2.1 f2.fw clP_m
  obtain ⟨q1, q2, q3⟩ := hOu (x := Int64.ofInt v) k2 m2
  refine tK (l := xk_258) rfl rfl (fun _ _ _ _ _ => rfl) ?_
  first | refine tK (l := xk_258) rfl rfl (hLastN k2.1 rfl rfl (by omega)) ?_ | refine tK (l := xk_258) rfl rfl (hLast k2.1 rfl (by omega) (by omega)) ?_
  refine tK (l := xk_258) rfl rfl (fun _ _ _ _ _ => rfl) ?_
  refine tK (l := xk_258) rfl rfl (fun _ _ _ _ _ => rfl) ?_
  refine tRt (l := xk_258) rfl rfl (fun _ _ _ _ _ => rfl) ?_
  exact hQ _ q1 q2 q3
theorem w258_2 (k : hKl zs ph c) (m : hMm zs ph c) (hc : ∀ Q : xR → Prop, (∀ ph2, hKl zs ph2 c → hFd clP ph ph2 → Q (.inr 2, ph2, g + 1)) → xTC d 140 [.inr (.inl (some 1)), .inl a] ph g Q) (hQ : ∀ ph2, hKl zs ph2 c → hMm zs ph2 c → Q (.inl (some (.inl 1)), ph2, g + 1)) : xTC (d + 1) 258 [.inr (.inl (some 1)), .inl a, .inr (.inl (some 168))] ph g Q := by
  have hs := k.1
  refine tEn (ls := [some (.inr (.inl (some 1))), some (.inl a), some (.inr (.inl (some 168))), none]) (fun k => by match k with | 0 => rfl | 1 => rfl | 2 => rfl | 3 => rfl | k + 4 => rfl) ?_
  refine tK (l := xk_258) rfl rfl (fun _ _ _ _ _ => rfl) ?_
  refine tK (l := xk_258) rfl rfl (fun _ _ _ _ _ => rfl) ?_
  refine tK (l := xk_258) rfl rfl (fun _ _ _ _ _ => rfl) ?_
  refine tK (l := xk_258) rfl rfl (fun _ _ _ _ _ => rfl) ?_
  refine tCa (l := xk_258) rfl rfl (hInvV (c := 9) hs rfl rfl rfl rfl rfl (Nat.le_of_ble_eq_true rfl) (Nat.le_of_ble_eq_true rfl)) ?_
  refine hc _ (fun ph2 k2 f2 => ?_)
  refine tKh (pc' := 13) (k := 3) (by decide +kernel) ?_
  refine tK (l := xk_258) rfl rfl (fun _ _ _ _ _ => rfl) ?_
  refine tRt (l := xk_258) rfl rfl (fun _ _ _ _ _ => rfl) ?_
  exact hQ ph2 k2 (m.fw2 k2.1 f2.fw clP_m)
theorem w258_1 (k : hKl zs ph c) (m : hMm zs ph c) (hc : ∀ Q : xR → Prop, (∀ ph2, hKl zs ph2 c → hFd clP ph ph2 → Q (.inr 1, ph2, g + 1)) → xTC d 140 [.inr (.inl (some 1)), .inl a] ph g Q) (hQ : ∀ ph2, hKl zs ph2 c → hMm zs ph2 c → Q (.inl (some (.inl 2)), ph2, g + 1)) : xTC (d + 1) 258 [.inr (.inl (some 1)), .inl a, .inr (.inl (some 168))] ph g Q := by
  have hs := k.1
  refine tEn (ls := [some (.inr (.inl (some 1))), some (.inl a), some (.inr (.inl (some 168))), none]) (fun k => by match k with | 0 => rfl | 1 => rfl | 2 => rfl | 3 => rfl | k + 4 => rfl) ?_
  refine tK (l := xk_258) rfl rfl (fun _ _ _ _ _ => rfl) ?_
  refine tK (l := xk_258) rfl rfl (fun _ _ _ _ _ => rfl) ?_
  refine tK (l := xk_258) rfl rfl (fun _ _ _ _ _ => rfl) ?_
  refine tK (l := xk_258) rfl rfl (fun _ _ _ _ _ => rfl) ?_
  refine tCa (l := xk_258) rfl rfl (hInvV (c := 9) hs rfl rfl rfl rfl rfl (Nat.le_of_ble_eq_true rfl) (Nat.le_of_ble_eq_true rfl)) ?_
  refine hc _ (fun ph2 k2 f2 => ?_)
  refine tKh (pc' := 16) (k := 3) (by decide +kernel) ?_
  refine tK (l := xk_258) rfl rfl (fun _ _ _ _ _ => rfl) ?_
  refine tRt (l := xk_258) rfl rfl (fun _ _ _ _ _ => rfl) ?_
  exact hQ ph2 k2 (m.fw2 k2.1 f2.fw clP_m)
theorem w259 (k : hKl zs ph c) (m : hMm zs ph c) (hc : ∀ Q : xR → Prop, (∀ ph2, hKl zs ph2 c' → hFd clP ph ph2 → Q (.inl (some (.inl v)), ph2, g)) → xTC d 141 [.inr (.inl (some 1))] ph g Q) (hQ : ∀ ph2, hKl zs ph2 c' → hMm zs ph2 c → hRl ph2 168 0 = Int64.ofInt v → Q (.inl (some (.inl 0)), ph2, g)) : xTC (d + 1) 259 [.inr (.inl (some 1)), .inr (.inl (some 168))] ph g Q := by
  have hs := k.1
  have hz168 := hK168.2
  refine tEn (ls := [some (.inr (.inl (some 1))), some (.inr (.inl (some 168))), none]) (fun k => by match k with | 0 => rfl | 1 => rfl | 2 => rfl | k + 3 => rfl) ?_
  refine tK (l := xk_259) rfl rfl (fun _ _ _ _ _ => rfl) ?_
  refine tK (l := xk_259) rfl rfl (fun _ _ _ _ _ => rfl) ?_
  refine tK (l := xk_259) rfl rfl (fun _ _ _ _ _ => rfl) ?_
  refine tCa (l := xk_259) rfl rfl (hInvV (c := 9) hs rfl rfl rfl rfl rfl (Nat.le_of_ble_eq_true rfl) (Nat.le_of_ble_eq_true rfl)) ?_
  refine hc _ (fun ph2 k2 f2 => ?_)
  refine tKv ?_
  have m2 := m.fw2 k2.1 f2.fw clP_m
  obtain ⟨q1, q2, q3⟩ := hOu (x := Int64.ofInt v) k2 m2
  refine tK (l := xk_259) rfl rfl (fun _ _ _ _ _ => rfl) ?_
  first | refine tK (l := xk_259) rfl rfl (hLastN k2.1 rfl rfl (by omega)) ?_ | refine tK (l := xk_259) rfl rfl (hLast k2.1 rfl (by omega) (by omega)) ?_
  refine tK (l := xk_259) rfl rfl (fun _ _ _ _ _ => rfl) ?_
  refine tK (l := xk_259) rfl rfl (fun _ _ _ _ _ => rfl) ?_
  refine tRt (l := xk_259) rfl rfl (fun _ _ _ _ _ => rfl) ?_
  exact hQ _ q1 q2 q3
theorem w259_1 (k : hKl zs ph c) (m : hMm zs ph c) (hc : ∀ Q : xR → Prop, (∀ ph2, hKl zs ph2 c → hFd clP ph ph2 → Q (.inr 1, ph2, g + 1)) → xTC d 141 [.inr (.inl (some 1))] ph g Q) (hQ : ∀ ph2, hKl zs ph2 c → hMm zs ph2 c → Q (.inl (some (.inl 1)), ph2, g + 1)) : xTC (d + 1) 259 [.inr (.inl (some 1)), .inr (.inl (some 168))] ph g Q := by
  have hs := k.1
  refine tEn (ls := [some (.inr (.inl (some 1))), some (.inr (.inl (some 168))), none]) (fun k => by match k with | 0 => rfl | 1 => rfl | 2 => rfl | k + 3 => rfl) ?_
  refine tK (l := xk_259) rfl rfl (fun _ _ _ _ _ => rfl) ?_
  refine tK (l := xk_259) rfl rfl (fun _ _ _ _ _ => rfl) ?_
  refine tK (l := xk_259) rfl rfl (fun _ _ _ _ _ => rfl) ?_
  refine tCa (l := xk_259) rfl rfl (hInvV (c := 9) hs rfl rfl rfl rfl rfl (Nat.le_of_ble_eq_true rfl) (Nat.le_of_ble_eq_true rfl)) ?_
  refine hc _ (fun ph2 k2 f2 => ?_)
  refine tKh (pc' := 12) (k := 2) (by decide +kernel) ?_
  refine tK (l := xk_259) rfl rfl (fun _ _ _ _ _ => rfl) ?_
  refine tRt (l := xk_259) rfl rfl (fun _ _ _ _ _ => rfl) ?_
  exact hQ ph2 k2 (m.fw2 k2.1 f2.fw clP_m)
theorem w260 (k : hKl zs ph c) (m : hMm zs ph c) (hc : ∀ Q : xR → Prop, (∀ ph2, hKl zs ph2 c' → hFd clP ph ph2 → Q (.inl (some (.inl v)), ph2, g)) → xTC d 142 [.inr (.inl (some 1))] ph g Q) (hQ : ∀ ph2, hKl zs ph2 c' → hMm zs ph2 c → hRl ph2 168 0 = Int64.ofInt v → Q (.inl (some (.inl 0)), ph2, g)) : xTC (d + 1) 260 [.inr (.inl (some 1)), .inr (.inl (some 168))] ph g Q := by
  have hs := k.1
  have hz168 := hK168.2
  refine tEn (ls := [some (.inr (.inl (some 1))), some (.inr (.inl (some 168))), none]) (fun k => by match k with | 0 => rfl | 1 => rfl | 2 => rfl | k + 3 => rfl) ?_
  refine tK (l := xk_260) rfl rfl (fun _ _ _ _ _ => rfl) ?_
  refine tK (l := xk_260) rfl rfl (fun _ _ _ _ _ => rfl) ?_
  refine tK (l := xk_260) rfl rfl (fun _ _ _ _ _ => rfl) ?_
  refine tCa (l := xk_260) rfl rfl (hInvV (c := 9) hs rfl rfl rfl rfl rfl (Nat.le_of_ble_eq_true rfl) (Nat.le_of_ble_eq_true rfl)) ?_
  refine hc _ (fun ph2 k2 f2 => ?_)
  refine tKv ?_
  have m2 := m.fw2 k2.1 f2.fw clP_m
  obtain ⟨q1, q2, q3⟩ := hOu (x := Int64.ofInt v) k2 m2
  refine tK (l := xk_260) rfl rfl (fun _ _ _ _ _ => rfl) ?_
  first | refine tK (l := xk_260) rfl rfl (hLastN k2.1 rfl rfl (by omega)) ?_ | refine tK (l := xk_260) rfl rfl (hLast k2.1 rfl (by omega) (by omega)) ?_
  refine tK (l := xk_260) rfl rfl (fun _ _ _ _ _ => rfl) ?_
  refine tK (l := xk_260) rfl rfl (fun _ _ _ _ _ => rfl) ?_
  refine tRt (l := xk_260) rfl rfl (fun _ _ _ _ _ => rfl) ?_
  exact hQ _ q1 q2 q3
theorem w260_1 (k : hKl zs ph c) (m : hMm zs ph c) (hc : ∀ Q : xR → Prop, (∀ ph2, hKl zs ph2 c → hFd clP ph ph2 → Q (.inr 1, ph2, g + 1)) → xTC d 142 [.inr (.inl (some 1))] ph g Q) (hQ : ∀ ph2, hKl zs ph2 c → hMm zs ph2 c → Q (.inl (some (.inl 1)), ph2, g + 1)) : xTC (d + 1) 260 [.inr (.inl (some 1)), .inr (.inl (some 168))] ph g Q := by
  have hs := k.1
  refine tEn (ls := [some (.inr (.inl (some 1))), some (.inr (.inl (some 168))), none]) (fun k => by match k with | 0 => rfl | 1 => rfl | 2 => rfl | k + 3 => rfl) ?_
  refine tK (l := xk_260) rfl rfl (fun _ _ _ _ _ => rfl) ?_
  refine tK (l := xk_260) rfl rfl (fun _ _ _ _ _ => rfl) ?_
  refine tK (l := xk_260) rfl rfl (fun _ _ _ _ _ => rfl) ?_
  refine tCa (l := xk_260) rfl rfl (hInvV (c := 9) hs rfl rfl rfl rfl rfl (Nat.le_of_ble_eq_true rfl) (Nat.le_of_ble_eq_true rfl)) ?_
  refine hc _ (fun ph2 k2 f2 => ?_)
  refine tKh (pc' := 12) (k := 2) (by decide +kernel) ?_
  refine tK (l := xk_260) rfl rfl (fun _ _ _ _ _ => rfl) ?_
  refine tRt (l := xk_260) rfl rfl (fun _ _ _ _ _ => rfl) ?_
  exact hQ ph2 k2 (m.fw2 k2.1 f2.fw clP_m)
end WRP
