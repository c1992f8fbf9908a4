/-! ===== the model's ground ===== -/
def hFM (F S : List Nat) (ph ph2 : xH) : Prop := hFr (147 :: S) ph ph2 ∧ ∀ k, k ∉ F → hRd ph2 147 k = hRd ph 147 k
theorem hFM.refl {F S : List Nat} {a : xH} : hFM F S a a := ⟨hFr.refl, fun _ _ => rfl⟩
theorem hFM.trans {F S : List Nat} {a b c : xH} (h1 : hFM F S a b) (h2 : hFM F S b c) : hFM F S a c := ⟨h1.1.trans h2.1, fun k hk => (h2.2 k hk).trans (h1.2 k hk)⟩
theorem hFM.mono {F S F2 S2 : List Nat} {a b : xH} (h : hFM F S a b) (hF : ∀ x ∈ F, x ∈ F2) (hS : ∀ x ∈ S, x ∈ S2) : hFM F2 S2 a b :=
  ⟨h.1.mono (fun x hx => by
    rcases List.mem_cons.mp hx with rfl | hx
    · exact List.mem_cons_self
    · exact List.mem_cons_of_mem _ (hS x hx)), fun k hk => h.2 k (fun q => hk (hF k q))⟩
theorem hFM.at {F S : List Nat} {ph ph2 : xH} (h : hFM F S ph ph2) {a : Nat} (ha : a ∉ 147 :: S) (k : Nat) : hRd ph2 a k = hRd ph a k := h.1.1 a k ha
theorem hFM.fl {F S : List Nat} {ph ph2 : xH} (h : hFM F S ph ph2) {k : Nat} (hk : k ∉ F) : hRd ph2 147 k = hRd ph 147 k := h.2 k hk
theorem hFM_f {zs : List xV} {ph : xH} {k : Nat} {x : Int} {F S : List Nat} (hs : hSh zs ph) (hk : hKi (hTg 147) k = true) (hz : k < hSz 147) (hF : k ∈ F) : hFM F S ph (hUp ph 147 k x) :=
  ⟨hUp_fr hs hk hz List.mem_cons_self, fun j hj => by rw [hRd_up hs hk hz, if_neg (fun q => hj (by rw [q.2]; exact hF))]⟩
theorem hFM_a {zs : List xV} {ph : xH} {a k : Nat} {x : Int} {F S : List Nat} (hs : hSh zs ph) (hk : hKi (hTg a) k = true) (hz : k < hSz a) (hS : a ∈ S) (h7 : a ≠ 147) : hFM F S ph (hUp ph a k x) :=
  ⟨hUp_fr hs hk hz (List.mem_cons_of_mem _ hS), fun j hj => by rw [hRd_up hs hk hz, if_neg (fun q => h7 q.1.symm)]⟩
def hMv (ph : xH) (a o : Nat) (v : Option (List Int)) : Prop := hRd ph a o = hLo v ∧ ∀ s, v = some s → s.length ≤ 24 ∧ ∀ (i : Nat) (c : Int), s[i]? = some c → hRd ph a (o + 1 + i) = c
theorem hMv.eq {ph ph2 : xH} {a o : Nat} {v : Option (List Int)} (h : hMv ph a o v) (he : ∀ j, o ≤ j → j ≤ o + 24 → hRd ph2 a j = hRd ph a j) : hMv ph2 a o v := by
  refine ⟨by rw [he o (Nat.le_refl _) (by omega)]; exact h.1, fun s hs => ?_⟩
  obtain ⟨h1, h2⟩ := h.2 s hs
  refine ⟨h1, fun i c hi => ?_⟩
  have := (List.getElem?_eq_some_iff.mp hi).1
  rw [he _ (by omega) (by omega)]
  exact h2 i c hi
def hMl (ph : xH) : List xSc → Prop
  | [] => True
  | f :: t => (∀ n, n < 10 → hMv ph 155 (250 * t.length + 25 * n) (f n)) ∧ hMl ph t
def hMg (ph : xH) : List (List Int) → Prop
  | [] => True
  | s :: t => (hRd ph 156 t.length = (s.length : Int) ∧ s.length ≤ 24 ∧ ∀ (i : Nat) (c : Int), s[i]? = some c → hRd ph 157 (24 * t.length + i) = c) ∧ hMg ph t
theorem hMl.eq {ph ph2 : xH} : ∀ {scs : List xSc}, hMl ph scs → (∀ j, j < 250 * scs.length → hRd ph2 155 j = hRd ph 155 j) → hMl ph2 scs := by
  intro scs
  induction scs with
  | nil => intro _ _; trivial
  | cons f t ih =>
    intro ⟨h1, h2⟩ he
    simp only [List.length_cons] at he
    exact ⟨fun n hn => (h1 n hn).eq (fun j q1 q2 => he j (by omega)), ih h2 (fun j hj => he j (by omega))⟩
theorem hMl.suf {ph : xH} : ∀ {a b : List xSc}, hMl ph (a ++ b) → hMl ph b := by
  intro a
  induction a with
  | nil => intro b h; exact h
  | cons f t ih => intro b h; exact ih h.2
theorem hMg.eq {ph ph2 : xH} : ∀ {l : List (List Int)}, hMg ph l → (∀ j, j < l.length → hRd ph2 156 j = hRd ph 156 j) → (∀ j, j < 24 * l.length → hRd ph2 157 j = hRd ph 157 j) → hMg ph2 l := by
  intro l
  induction l with
  | nil => intro _ _ _; trivial
  | cons s t ih =>
    intro ⟨⟨h1, h2, h3⟩, h4⟩ he hf
    simp only [List.length_cons] at he hf
    refine ⟨⟨by rw [he _ (by omega)]; exact h1, h2, fun i c hi => ?_⟩, ih h4 (fun j hj => he j (by omega)) (fun j hj => hf j (by omega))⟩
    have := (List.getElem?_eq_some_iff.mp hi).1
    rw [hf _ (by omega)]
    exact h3 i c hi
def hMN (zs : List xV) (ph : xH) (s : RS) : Prop := hSh zs ph ∧ (hRd ph 147 28 = (s.1.length : Int) ∧ s.1.length ≤ 41 ∧ hMl ph s.1) ∧ (hRd ph 147 31 = (s.2.1.length : Int) ∧ s.2.1.length ≤ 40 ∧ hMg ph s.2.1) ∧
  (hRd ph 147 19 = (s.2.2.1.length : Int) ∧ s.2.2.1.length ≤ 200 ∧ ∀ (i : Nat) (c : Int), s.2.2.1[i]? = some c → hRd ph 153 i = c) ∧
  hRd ph 147 23 = (s.2.2.2.1 : Int) ∧ s.2.2.2.1 ≤ 200 ∧ hRd ph 147 24 = (s.2.2.2.2.1 : Int) ∧ hRd ph 147 25 = (s.2.2.2.2.2.1 : Int) ∧ hRd ph 147 26 = (s.2.2.2.2.2.2 : Int) ∧ s.2.2.2.2.1 + s.2.2.2.2.2.1 + s.2.2.2.2.2.2 = s.2.2.1.length
theorem hMN.fr {zs : List xV} {ph ph2 : xH} {s : RS} {F S : List Nat} (h : hMN zs ph s) (hs : hSh zs ph2) (hf : hFM F S ph ph2) (hF : ∀ k ∈ [19, 23, 24, 25, 26, 28, 31], k ∉ F := by decide) (hS : ∀ a ∈ [153, 155, 156, 157], a ∉ 147 :: S := by decide) : hMN zs ph2 s := by
  obtain ⟨-, ⟨h1, h2, h3⟩, ⟨h4, h5, h6⟩, ⟨h7, h8, h9⟩, h10, h11, h12, h13, h14, h15⟩ := h
  refine ⟨hs, ⟨by rw [hf.fl (hF _ (by decide))]; exact h1, h2, h3.eq (fun j _ => hf.at (hS _ (by decide)) j)⟩, ⟨by rw [hf.fl (hF _ (by decide))]; exact h4, h5, h6.eq (fun j _ => hf.at (hS _ (by decide)) j) (fun j _ => hf.at (hS _ (by decide)) j)⟩, ⟨by rw [hf.fl (hF _ (by decide))]; exact h7, h8, fun i c hi => by rw [hf.at (hS _ (by decide))]; exact h9 i c hi⟩, by rw [hf.fl (hF _ (by decide))]; exact h10, h11, by rw [hf.fl (hF _ (by decide))]; exact h12, by rw [hf.fl (hF _ (by decide))]; exact h13, by rw [hf.fl (hF _ (by decide))]; exact h14, h15⟩
def hMx (ph : xH) (r : Nat) (pls : List Nat) : Prop := hRd ph 147 20 = (r : Int) ∧ hRd ph 147 22 = (pls.length : Int) ∧ ∀ k x : Nat, pls[k]? = some x → hRd ph 154 k = (x : Int)
def hMi (ph : xH) (ip : List Nat) : Prop := hRd ph 147 34 = (ip.length : Int) ∧ ip.length ≤ 4 ∧ ∀ k x : Nat, ip[k]? = some x → hRd ph 158 k = (x : Int)
theorem hMi.fr {ph ph2 : xH} {ip : List Nat} {F S : List Nat} (h : hMi ph ip) (hf : hFM F S ph ph2) (hF : 34 ∉ F := by decide) (hS : 158 ∉ 147 :: S := by decide) : hMi ph2 ip :=
  ⟨by rw [hf.fl hF]; exact h.1, h.2.1, fun k x hx => by rw [hf.at hS]; exact h.2.2 k x hx⟩
def lkA : List xSc → Nat → Int
  | [], _ => -1
  | f :: t, n => match f n with
    | some _ => ((250 * t.length + 25 * n : Nat) : Int)
    | none => lkA t n
theorem lkA_none : ∀ {scs : List xSc} {n : Nat}, lk scs n = none → lkA scs n = -1 := by
  intro scs
  induction scs with
  | nil => intro n _; rfl
  | cons f t ih =>
    intro n h
    simp only [lk] at h
    simp only [lkA]
    cases hf : f n with
    | some v => rw [hf] at h; cases h
    | none => rw [hf] at h; exact ih h
theorem lkA_some {ph : xH} : ∀ {scs : List xSc} {n : Nat} {v : List Int}, n < 10 → hMl ph scs → lk scs n = some v → ∃ a : Nat, lkA scs n = (a : Int) ∧ a + 25 ≤ 250 * scs.length ∧ hMv ph 155 a (some v) := by
  intro scs
  induction scs with
  | nil => intro n v _ _ h; cases h
  | cons f t ih =>
    intro n v hn ⟨h1, h2⟩ h
    simp only [lk] at h
    simp only [lkA]
    cases hf : f n with
    | some w =>
      rw [hf] at h
      cases h
      exact ⟨_, rfl, by simp only [List.length_cons]; omega, by have := h1 n hn; rw [hf] at this; exact this⟩
    | none =>
      rw [hf] at h
      obtain ⟨a, q1, q2, q3⟩ := ih hn h2 h
      exact ⟨a, q1, by simp only [List.length_cons]; omega, q3⟩
theorem hSzM : hSz 147 = 45 ∧ hSz 153 = 200 ∧ hSz 154 = 8 ∧ hSz 155 = 16000 ∧ hSz 156 = 64 ∧ hSz 157 = 1536 ∧ hSz 158 = 5 ∧ hSz 159 = 5 := by decide +kernel
theorem hSzO : hSz 152 = 160 ∧ hSz 160 = 64 ∧ hSz 161 = 64 ∧ hSz 162 = 64 ∧ hSz 163 = 64 ∧ hSz 164 = 64 ∧ hSz 165 = 64 ∧ hSz 166 = 64 ∧ hSz 167 = 1536 := by decide +kernel
section MGR
variable {d : Nat} {ph : xH} {zs : List xV} {g : Nat} {Q : xR → Prop}
theorem s146 {x a b : Int} (hQ : Q (.inl (some (.inl (if a ≤ x ∧ x ≤ b then 1 else 0))), ph, g)) : xTC d 146 [.inl x, .inl a, .inl b] ph g Q := by
  refine tEn (ls := [some (.inl x), some (.inl a), some (.inl b)]) (fun k => by match k with | 0 => rfl | 1 => rfl | 2 => rfl | k + 3 => rfl) ?_
  refine tK (l := xk_146) rfl rfl (fun _ _ _ _ _ => rfl) ?_
  refine tK (l := xk_146) rfl rfl (fun _ _ _ _ _ => rfl) ?_
  refine tIc_lt (l := xk_146) (pc' := 14) rfl rfl rfl (fun hc => ?_) (fun hc => ?_)
  · refine tK (l := xk_146) rfl rfl (fun _ _ _ _ _ => rfl) ?_
    refine tRt (l := xk_146) rfl rfl (fun _ _ _ _ _ => rfl) ?_
    first | (rw [if_pos (by omega)] at hQ; exact hQ) | (rw [if_neg (by omega)] at hQ; exact hQ)
  · refine tK (l := xk_146) rfl rfl (fun _ _ _ _ _ => rfl) ?_
    refine tK (l := xk_146) rfl rfl (fun _ _ _ _ _ => rfl) ?_
    refine tIc_gt (l := xk_146) (pc' := 14) rfl rfl rfl (fun hc => ?_) (fun hc => ?_)
    · refine tK (l := xk_146) rfl rfl (fun _ _ _ _ _ => rfl) ?_
      refine tRt (l := xk_146) rfl rfl (fun _ _ _ _ _ => rfl) ?_
      first | (rw [if_pos (by omega)] at hQ; exact hQ) | (rw [if_neg (by omega)] at hQ; exact hQ)
    · refine tK (l := xk_146) rfl rfl (fun _ _ _ _ _ => rfl) ?_
      refine tK (l := xk_146) rfl rfl (fun _ _ _ _ _ => rfl) ?_
      refine tRt (l := xk_146) rfl rfl (fun _ _ _ _ _ => rfl) ?_
      first | (rw [if_pos (by omega)] at hQ; exact hQ) | (rw [if_neg (by omega)] at hQ; exact hQ)
theorem s174 {c : Int} (hQ : Q (.inl (some (.inl (if spc c = true then 1 else 0))), ph, g)) : xTC d 174 [.inl c] ph g Q := by
  have e : spc c = true ↔ (c = 123 ∨ c = 125) ∨ c = 126 := by unfold spc; simp
  refine tEn (ls := [some (.inl c)]) (fun k => by match k with | 0 => rfl | k + 1 => rfl) ?_
  refine tK (l := xk_174) rfl rfl (fun _ _ _ _ _ => rfl) ?_
  refine tK (l := xk_174) rfl rfl (fun _ _ _ _ _ => rfl) ?_
  refine tIc_eq (l := xk_174) (pc' := 18) rfl rfl rfl (fun hc => ?_) (fun hc => ?_)
  · refine tK (l := xk_174) rfl rfl (fun _ _ _ _ _ => rfl) ?_
    refine tK (l := xk_174) rfl rfl (fun _ _ _ _ _ => rfl) ?_
    refine tRt (l := xk_174) rfl rfl (fun _ _ _ _ _ => rfl) ?_
    first | (rw [if_pos (e.mpr (by omega))] at hQ; exact hQ) | (rw [if_neg (fun q => by have := e.mp q; omega)] at hQ; exact hQ)
  · refine tK (l := xk_174) rfl rfl (fun _ _ _ _ _ => rfl) ?_
    refine tK (l := xk_174) rfl rfl (fun _ _ _ _ _ => rfl) ?_
    refine tIc_eq (l := xk_174) (pc' := 18) rfl rfl rfl (fun hc => ?_) (fun hc => ?_)
    · refine tK (l := xk_174) rfl rfl (fun _ _ _ _ _ => rfl) ?_
      refine tK (l := xk_174) rfl rfl (fun _ _ _ _ _ => rfl) ?_
      refine tRt (l := xk_174) rfl rfl (fun _ _ _ _ _ => rfl) ?_
      first | (rw [if_pos (e.mpr (by omega))] at hQ; exact hQ) | (rw [if_neg (fun q => by have := e.mp q; omega)] at hQ; exact hQ)
    · refine tK (l := xk_174) rfl rfl (fun _ _ _ _ _ => rfl) ?_
      refine tK (l := xk_174) rfl rfl (fun _ _ _ _ _ => rfl) ?_
      refine tIc_ne (l := xk_174) (pc' := 22) rfl rfl rfl (fun hc => ?_) (fun hc => ?_)
      · refine tK (l := xk_174) rfl rfl (fun _ _ _ _ _ => rfl) ?_
        refine tK (l := xk_174) rfl rfl (fun _ _ _ _ _ => rfl) ?_
        refine tRt (l := xk_174) rfl rfl (fun _ _ _ _ _ => rfl) ?_
        first | (rw [if_pos (e.mpr (by omega))] at hQ; exact hQ) | (rw [if_neg (fun q => by have := e.mp q; omega)] at hQ; exact hQ)
      · refine tK (l := xk_174) rfl rfl (fun _ _ _ _ _ => rfl) ?_
        refine tRt (l := xk_174) rfl rfl (fun _ _ _ _ _ => rfl) ?_
        first | (rw [if_pos (e.mpr (by omega))] at hQ; exact hQ) | (rw [if_neg (fun q => by have := e.mp q; omega)] at hQ; exact hQ)
theorem s154 {c : Int} (hb : -2000000000 ≤ c) (hQ : Q (.inl (some (.inl (nmF c))), ph, g)) : xTC (d + 1) 154 [.inl c] ph g Q := by
  refine tEn (ls := [some (.inl c)]) (fun k => by match k with | 0 => rfl | k + 1 => rfl) ?_
  by_cases h97 : 97 ≤ c ∧ c ≤ 104
  · refine tK (l := xk_154) rfl rfl (fun _ _ _ _ _ => rfl) ?_
    refine tK (l := xk_154) rfl rfl (fun _ _ _ _ _ => rfl) ?_
    refine tK (l := xk_154) rfl rfl (fun _ _ _ _ _ => rfl) ?_
    refine tCa (l := xk_154) rfl rfl (hInvS rfl rfl rfl rfl (Nat.le_of_ble_eq_true rfl) (Nat.le_of_ble_eq_true rfl)) ?_
    refine s146 ?_
    refine tKv ?_
    rw [if_pos h97]
    refine tIf_eq (l := xk_154) (pc' := 18) rfl rfl rfl (fun hc => ?_) (fun hc => ?_)
    · exact absurd hc (by decide)
    · refine tK (l := xk_154) rfl rfl (fun _ _ _ _ _ => rfl) ?_
      refine tK (l := xk_154) rfl rfl (fun _ _ _ _ _ => rfl) ?_
      refine tK (l := xk_154) rfl rfl (hSub ⟨by omega, by omega⟩) ?_
      refine tK (l := xk_154) rfl rfl (fun _ _ _ _ _ => rfl) ?_
      refine tRt (l := xk_154) rfl rfl (fun _ _ _ _ _ => rfl) ?_
      unfold nmF at hQ
      rw [if_pos h97] at hQ
      exact hQ
  · refine tK (l := xk_154) rfl rfl (fun _ _ _ _ _ => rfl) ?_
    refine tK (l := xk_154) rfl rfl (fun _ _ _ _ _ => rfl) ?_
    refine tK (l := xk_154) rfl rfl (fun _ _ _ _ _ => rfl) ?_
    refine tCa (l := xk_154) rfl rfl (hInvS rfl rfl rfl rfl (Nat.le_of_ble_eq_true rfl) (Nat.le_of_ble_eq_true rfl)) ?_
    refine s146 ?_
    refine tKv ?_
    rw [if_neg h97]
    refine tIf_eq (l := xk_154) (pc' := 18) rfl rfl rfl (fun hc => ?_) (fun hc => ?_)
    · refine tK (l := xk_154) rfl rfl (fun _ _ _ _ _ => rfl) ?_
      refine tK (l := xk_154) rfl rfl (fun _ _ _ _ _ => rfl) ?_
      refine tIc_ne (l := xk_154) (pc' := 29) rfl rfl rfl (fun hc => ?_) (fun hc => ?_)
      · refine tK (l := xk_154) rfl rfl (fun _ _ _ _ _ => rfl) ?_
        refine tK (l := xk_154) rfl rfl (fun _ _ _ _ _ => rfl) ?_
        refine tRt (l := xk_154) rfl rfl (fun _ _ _ _ _ => rfl) ?_
        unfold nmF at hQ
        rw [if_neg h97] at hQ
        first | (rw [if_pos (by assumption)] at hQ; exact hQ) | (rw [if_neg (by assumption), if_pos (by assumption)] at hQ; exact hQ) | (rw [if_neg (by assumption), if_neg (by assumption)] at hQ; exact hQ)
      · refine tK (l := xk_154) rfl rfl (fun _ _ _ _ _ => rfl) ?_
        refine tK (l := xk_154) rfl rfl (fun _ _ _ _ _ => rfl) ?_
        refine tIc_ne (l := xk_154) (pc' := 40) rfl rfl rfl (fun hc => ?_) (fun hc => ?_)
        · refine tK (l := xk_154) rfl rfl (fun _ _ _ _ _ => rfl) ?_
          refine tK (l := xk_154) rfl rfl (fun _ _ _ _ _ => rfl) ?_
          refine tRt (l := xk_154) rfl rfl (fun _ _ _ _ _ => rfl) ?_
          unfold nmF at hQ
          rw [if_neg h97] at hQ
          first | (rw [if_pos (by assumption)] at hQ; exact hQ) | (rw [if_neg (by assumption), if_pos (by assumption)] at hQ; exact hQ) | (rw [if_neg (by assumption), if_neg (by assumption)] at hQ; exact hQ)
        · refine tK (l := xk_154) rfl rfl (fun _ _ _ _ _ => rfl) ?_
          refine tRt (l := xk_154) rfl rfl (fun _ _ _ _ _ => rfl) ?_
          unfold nmF at hQ
          rw [if_neg h97] at hQ
          first | (rw [if_pos (by assumption)] at hQ; exact hQ) | (rw [if_neg (by assumption), if_pos (by assumption)] at hQ; exact hQ) | (rw [if_neg (by assumption), if_neg (by assumption)] at hQ; exact hQ)
    · exact absurd rfl hc
theorem s188 {k n : Nat} (hk : k ≤ 64) (hn : n ≤ 10) (hQ : Q (.inl (some (.inl ((250 * k + 25 * n : Nat) : Int))), ph, g)) : xTC d 188 [.inl (k : Int), .inl (n : Int)] ph g Q := by
  refine tEn (ls := [some (.inl (k : Int)), some (.inl (n : Int))]) (fun k => by match k with | 0 => rfl | 1 => rfl | k + 2 => rfl) ?_
  refine tK (l := xk_188) rfl rfl (fun _ _ _ _ _ => rfl) ?_
  refine tK (l := xk_188) rfl rfl (fun _ _ _ _ _ => rfl) ?_
  refine tK (l := xk_188) rfl rfl (hMul ⟨by omega, by omega⟩) ?_
  refine tK (l := xk_188) rfl rfl (fun _ _ _ _ _ => rfl) ?_
  refine tK (l := xk_188) rfl rfl (fun _ _ _ _ _ => rfl) ?_
  refine tK (l := xk_188) rfl rfl (hMul ⟨by omega, by omega⟩) ?_
  refine tK (l := xk_188) rfl rfl (hAdd ⟨by omega, by omega⟩) ?_
  refine tRt (l := xk_188) rfl rfl (fun _ _ _ _ _ => rfl) ?_
  have e : (250 : Int) * (k : Int) + 25 * (n : Int) = ((250 * k + 25 * n : Nat) : Int) := by omega
  rw [e]
  exact hQ
theorem s194 {why place : Nat} {ip : List Nat} (hs : hSh zs ph) (hi : hMi ph ip) (hQ : ∀ ph2, hSh zs ph2 → hFM [20, 22] [154] ph ph2 → hMx ph2 why (ip ++ [place]) → Q (.inl none, ph2, g)) : xTC d 194 [.inr (.inl (some 147)), .inl (why : Int), .inl (place : Int)] ph g Q := by
  obtain ⟨z1, z2, z3, z4, z5, z6, z7, z8⟩ := hSzM
  obtain ⟨i1, i2, i3⟩ := id hi
  have loop : ∀ (m i : Nat) (phi : xH), i + m = ip.length → hSh zs phi → hFM [20, 22] [154] ph phi → hRd phi 147 22 = (i : Int) → hRd phi 147 20 = (why : Int) → (∀ k x : Nat, k < i → ip[k]? = some x → hRd phi 154 k = (x : Int)) → xT d 194 12 (xlo [some (.inr (.inl (some 147))), some (.inl (why : Int)), some (.inl (place : Int)), some (.inl (i : Int))]) [] phi g Q := by
    intro m
    induction m with
    | zero =>
      intro i phi him hs hf e22 e20 hp
      have e34 : hRd phi 147 34 = (ip.length : Int) := by rw [hf.fl (by decide)]; exact i1
      have u1 : hSh zs (hUp phi 154 i (place : Int)) := hShI1 _ hs rfl rfl
      have rd1 := hRd_up (x := (place : Int)) hs (show hKi (hTg 154) i = true from rfl) (by omega)
      have e22b : hRd (hUp phi 154 i (place : Int)) 147 22 = (i : Int) := by rw [rd1, if_neg (by omega)]; exact e22
      refine tK (l := xk_194) rfl rfl (fun _ _ _ _ _ => rfl) ?_
      refine tK (l := xk_194) rfl rfl (fun _ _ _ _ _ => rfl) ?_
      refine tK (l := xk_194) rfl rfl (hGetI hs rfl rfl rfl (by decide) (by decide)) ?_
      rw [e34]
      refine tIc_ge (l := xk_194) (pc' := 51) rfl rfl rfl (fun hc => ?_) (fun hc => ?_)
      · exfalso; omega
      · refine tK (l := xk_194) rfl rfl (fun _ _ _ _ _ => rfl) ?_
        refine tK (l := xk_194) rfl rfl (hGetR (o := some 154) hs rfl rfl rfl (by decide) (by decide) rfl) ?_
        refine tK (l := xk_194) rfl rfl (fun _ _ _ _ _ => rfl) ?_
        refine tK (l := xk_194) rfl rfl (hGetI hs rfl rfl rfl (by decide) (by decide)) ?_
        rw [e22]
        refine tK (l := xk_194) rfl rfl (fun _ _ _ _ _ => rfl) ?_
        first | refine tK (l := xk_194) rfl rfl (hIastN hs rfl rfl (by omega)) ?_ | refine tK (l := xk_194) rfl rfl (hIast hs rfl (by omega) (by omega)) ?_
        refine tK (l := xk_194) rfl rfl (fun _ _ _ _ _ => rfl) ?_
        refine tK (l := xk_194) rfl rfl (fun _ _ _ _ _ => rfl) ?_
        refine tK (l := xk_194) rfl rfl (hGetI (hShI1 _ hs rfl rfl) rfl rfl rfl (by decide) (by decide)) ?_
        rw [e22b]
        refine tK (l := xk_194) rfl rfl (fun _ _ _ _ _ => rfl) ?_
        refine tK (l := xk_194) rfl rfl (hAdd ⟨by omega, by omega⟩) ?_
        refine tK (l := xk_194) rfl rfl (hPutV (hShI1 _ hs rfl rfl) rfl rfl (by decide) (by decide) rfl) ?_
        refine tRt (l := xk_194) rfl rfl (fun _ _ _ _ _ => rfl) ?_
        have f2 : hFM [20, 22] [154] phi (hUp (hUp phi 154 i (place : Int)) 147 22 ((i : Int) + 1)) := (hFM_a hs rfl (by omega) (by decide) (by decide)).trans (hFM_f u1 rfl (by decide) (by decide))
        have rd2 := hRd_up (x := (i : Int) + 1) u1 (show hKi (hTg 147) 22 = true from rfl) (by decide)
        refine hQ _ (hShI1 _ (hShI1 _ hs rfl rfl) rfl rfl) (hf.trans f2) ⟨?_, ?_, fun k x hx => ?_⟩
        · rw [rd2, if_neg (by decide), rd1, if_neg (by omega)]; exact e20
        · rw [rd2, if_pos ⟨rfl, rfl⟩]; simp; omega
        · rw [rd2, if_neg (by omega), rd1]
          by_cases hk : k < ip.length
          · rw [List.getElem?_append_left hk] at hx
            rw [if_neg (by omega)]
            exact hp k x (by omega) hx
          · rw [List.getElem?_append_right (by omega)] at hx
            have hk9 := (List.getElem?_eq_some_iff.mp hx).1
            simp only [List.length_cons, List.length_nil] at hk9
            rw [show k - ip.length = 0 by omega] at hx
            simp only [List.getElem?_cons_zero, Option.some.injEq] at hx
            rw [if_pos ⟨rfl, by omega⟩, hx]
    | succ m ih =>
      intro i phi him hs hf e22 e20 hp
      have e34 : hRd phi 147 34 = (ip.length : Int) := by rw [hf.fl (by decide)]; exact i1
      obtain ⟨y, hy⟩ : ∃ y, ip[i]? = some y := ⟨_, List.getElem?_eq_getElem (by omega)⟩
      have e58 : hRd phi 158 i = (y : Int) := by rw [hf.at (by decide)]; exact i3 i y hy
      have u1 : hSh zs (hUp phi 154 i (y : Int)) := hShI1 _ hs rfl rfl
      have rd1 := hRd_up (x := (y : Int)) hs (show hKi (hTg 154) i = true from rfl) (by omega)
      have e22b : hRd (hUp phi 154 i (y : Int)) 147 22 = (i : Int) := by rw [rd1, if_neg (by omega)]; exact e22
      refine tK (l := xk_194) rfl rfl (fun _ _ _ _ _ => rfl) ?_
      refine tK (l := xk_194) rfl rfl (fun _ _ _ _ _ => rfl) ?_
      refine tK (l := xk_194) rfl rfl (hGetI hs rfl rfl rfl (by decide) (by decide)) ?_
      rw [e34]
      refine tIc_ge (l := xk_194) (pc' := 51) rfl rfl rfl (fun hc => ?_) (fun hc => ?_)
      · refine tK (l := xk_194) rfl rfl (fun _ _ _ _ _ => rfl) ?_
        refine tK (l := xk_194) rfl rfl (hGetR (o := some 154) hs rfl rfl rfl (by decide) (by decide) rfl) ?_
        refine tK (l := xk_194) rfl rfl (fun _ _ _ _ _ => rfl) ?_
        refine tK (l := xk_194) rfl rfl (hGetI hs rfl rfl rfl (by decide) (by decide)) ?_
        rw [e22]
        refine tK (l := xk_194) rfl rfl (fun _ _ _ _ _ => rfl) ?_
        refine tK (l := xk_194) rfl rfl (hGetR (o := some 158) hs rfl rfl rfl (by decide) (by decide) rfl) ?_
        refine tK (l := xk_194) rfl rfl (fun _ _ _ _ _ => rfl) ?_
        first | refine tK (l := xk_194) rfl rfl (hIaldN hs rfl rfl (by omega)) ?_ | refine tK (l := xk_194) rfl rfl (hIald hs rfl (by omega) (by omega)) ?_
        rw [e58]
        first | refine tK (l := xk_194) rfl rfl (hIastN hs rfl rfl (by omega)) ?_ | refine tK (l := xk_194) rfl rfl (hIast hs rfl (by omega) (by omega)) ?_
        refine tK (l := xk_194) rfl rfl (fun _ _ _ _ _ => rfl) ?_
        refine tK (l := xk_194) rfl rfl (fun _ _ _ _ _ => rfl) ?_
        refine tK (l := xk_194) rfl rfl (hGetI (hShI1 _ hs rfl rfl) rfl rfl rfl (by decide) (by decide)) ?_
        rw [e22b]
        refine tK (l := xk_194) rfl rfl (fun _ _ _ _ _ => rfl) ?_
        refine tK (l := xk_194) rfl rfl (hAdd ⟨by omega, by omega⟩) ?_
        refine tK (l := xk_194) rfl rfl (hPutV (hShI1 _ hs rfl rfl) rfl rfl (by decide) (by decide) rfl) ?_
        refine tSt (l := xk_194) rfl rfl (hIinc rfl (Nat.le_of_ble_eq_true rfl) ⟨by omega, by omega⟩) (Nat.le_of_ble_eq_true rfl) ?_
        refine tK (l := xk_194) rfl rfl (fun _ _ _ _ _ => rfl) ?_
        have f2 : hFM [20, 22] [154] phi (hUp (hUp phi 154 i (y : Int)) 147 22 ((i : Int) + 1)) := (hFM_a hs rfl (by omega) (by decide) (by decide)).trans (hFM_f u1 rfl (by decide) (by decide))
        have rd2 := hRd_up (x := (i : Int) + 1) u1 (show hKi (hTg 147) 22 = true from rfl) (by decide)
        refine ih (i + 1) _ (by omega) (hShI1 _ (hShI1 _ hs rfl rfl) rfl rfl) (hf.trans f2) ?_ ?_ (fun k x hk hx => ?_)
        · rw [rd2, if_pos ⟨rfl, rfl⟩]; push_cast; rfl
        · rw [rd2, if_neg (by decide), rd1, if_neg (by omega)]; exact e20
        · rw [rd2, if_neg (by omega), rd1]
          by_cases e : k = i
          · rw [if_pos ⟨rfl, e⟩]; subst e; rw [hy] at hx; cases hx; rfl
          · rw [if_neg (by omega)]; exact hp k x (by omega) hx
      · exfalso; omega
  refine tEn (ls := [some (.inr (.inl (some 147))), some (.inl (why : Int)), some (.inl (place : Int)), none]) (fun k => by match k with | 0 => rfl | 1 => rfl | 2 => rfl | 3 => rfl | k + 4 => rfl) ?_
  refine tK (l := xk_194) rfl rfl (fun _ _ _ _ _ => rfl) ?_
  refine tK (l := xk_194) rfl rfl (fun _ _ _ _ _ => rfl) ?_
  refine tK (l := xk_194) rfl rfl (hPutV hs rfl rfl (by decide) (by decide) rfl) ?_
  refine tK (l := xk_194) rfl rfl (fun _ _ _ _ _ => rfl) ?_
  refine tK (l := xk_194) rfl rfl (fun _ _ _ _ _ => rfl) ?_
  refine tK (l := xk_194) rfl rfl (hPutV (hShI1 _ hs rfl rfl) rfl rfl (by decide) (by decide) rfl) ?_
  refine tK (l := xk_194) rfl rfl (fun _ _ _ _ _ => rfl) ?_
  refine tSt (l := xk_194) rfl rfl (fun _ _ _ _ _ => rfl) (Nat.le_of_ble_eq_true rfl) ?_
  have u1 : hSh zs (hUp ph 147 20 (why : Int)) := hShI1 _ hs rfl rfl
  have f2 : hFM [20, 22] [154] ph (hUp (hUp ph 147 20 (why : Int)) 147 22 0) := (hFM_f hs rfl (by decide) (by decide)).trans (hFM_f u1 rfl (by decide) (by decide))
  have rd1 := hRd_up (x := (why : Int)) hs (show hKi (hTg 147) 20 = true from rfl) (by decide)
  have rd2 := hRd_up (x := 0) u1 (show hKi (hTg 147) 22 = true from rfl) (by decide)
  exact loop ip.length 0 _ (by omega) (hShI1 _ (hShI1 _ hs rfl rfl) rfl rfl) f2 (by rw [rd2, if_pos ⟨rfl, rfl⟩]; rfl) (by rw [rd2, if_neg (by decide), rd1, if_pos ⟨rfl, rfl⟩]) (fun k x hk => absurd hk (by omega))
theorem s198_0 {c : Int} {place : Nat} {ip : List Nat} {sc : List xSc} {stg : List (List Int)} {ou : List Int} {st pl es vl : Nat} (h : hMN zs ph (sc, stg, ou, st, pl, es, vl)) (hi : hMi ph ip) (hQ0 : ∀ ph2, hMN zs ph2 (prF c 0 (sc, stg, ou, st, pl, es, vl)).1 → (prF c 0 (sc, stg, ou, st, pl, es, vl)).2 = 0 → hFM [19, 24, 25, 26] [153, 156, 157] ph ph2 → Q (.inl none, ph2, g)) (hQ1 : ∀ ph2, hMN zs ph2 (prF c 0 (sc, stg, ou, st, pl, es, vl)).1 → (prF c 0 (sc, stg, ou, st, pl, es, vl)).2 ≠ 0 → hFM [20, 22] [154] ph ph2 → hMx ph2 (prF c 0 (sc, stg, ou, st, pl, es, vl)).2 (ip ++ [place]) → Q (.inl none, ph2, g)) : xTC (d + 1) 198 [.inr (.inl (some 147)), .inl c, .inl 0, .inl (place : Int)] ph g Q := by
  obtain ⟨z1, z2, z3, z4, z5, z6, z7, z8⟩ := hSzM
  obtain ⟨hs, ⟨h1, h2, h3⟩, ⟨h4, h5, h6⟩, ⟨h7, h8, h9⟩, h10, h11, h12, h13, h14, h15⟩ := id h
  simp only at h1 h2 h3 h4 h5 h6 h7 h8 h9 h10 h11 h12 h13 h14 h15
  refine tEn (ls := [some (.inr (.inl (some 147))), some (.inl c), some (.inl 0), some (.inl (place : Int)), none]) (fun k => by match k with | 0 => rfl | 1 => rfl | 2 => rfl | 3 => rfl | 4 => rfl | k + 5 => rfl) ?_
  cases stg with
  | cons t ts =>
    simp only [List.length_cons] at h4 h5
    obtain ⟨⟨a1, a2, a3⟩, a4⟩ := h6
    have e31 : hRd ph 147 31 - 1 = (ts.length : Int) := by omega
    by_cases hl : t.length = 24
    · refine tK (l := xk_198) rfl rfl (fun _ _ _ _ _ => rfl) ?_
      refine tK (l := xk_198) rfl rfl (hGetI hs rfl rfl rfl (by decide) (by decide)) ?_
      refine tIf_le (l := xk_198) (pc' := 66) rfl rfl rfl (fun hc => ?_) (fun hc => ?_)
      · refine tK (l := xk_198) rfl rfl (fun _ _ _ _ _ => rfl) ?_
        refine tK (l := xk_198) rfl rfl (hGetI hs rfl rfl rfl (by decide) (by decide)) ?_
        refine tK (l := xk_198) rfl rfl (fun _ _ _ _ _ => rfl) ?_
        refine tK (l := xk_198) rfl rfl (hSub ⟨by omega, by omega⟩) ?_
        rw [e31]
        refine tSt (l := xk_198) rfl rfl (fun _ _ _ _ _ => rfl) (Nat.le_of_ble_eq_true rfl) ?_
        refine tK (l := xk_198) rfl rfl (fun _ _ _ _ _ => rfl) ?_
        refine tK (l := xk_198) rfl rfl (hGetR (o := some 156) hs rfl rfl rfl (by decide) (by decide) rfl) ?_
        refine tK (l := xk_198) rfl rfl (fun _ _ _ _ _ => rfl) ?_
        first | refine tK (l := xk_198) rfl rfl (hIaldN hs rfl rfl (by omega)) ?_ | refine tK (l := xk_198) rfl rfl (hIald hs rfl (by omega) (by omega)) ?_
        rw [a1]
        refine tK (l := xk_198) rfl rfl (fun _ _ _ _ _ => rfl) ?_
        refine tIc_ne (l := xk_198) (pc' := 35) rfl rfl rfl (fun hc => ?_) (fun hc => ?_)
        · refine tK (l := xk_198) rfl rfl (fun _ _ _ _ _ => rfl) ?_
          refine tK (l := xk_198) rfl rfl (fun _ _ _ _ _ => rfl) ?_
          refine tK (l := xk_198) rfl rfl (fun _ _ _ _ _ => rfl) ?_
          refine tCa (l := xk_198) rfl rfl (hInvV (c := 10) hs rfl rfl rfl rfl rfl (Nat.le_of_ble_eq_true rfl) (Nat.le_of_ble_eq_true rfl)) ?_
          refine s194 (why := 6) (ip := ip) hs hi (fun ph2 hs2 f2 hx2 => ?_)
          refine tKn ?_
          refine tRt (l := xk_198) rfl rfl (fun _ _ _ _ _ => rfl) ?_
          simp only [prF, if_pos hl] at hQ1
          exact hQ1 ph2 (h.fr hs2 f2) (by decide) f2 hx2
        · exfalso; omega
      · exfalso; omega
    · refine tK (l := xk_198) rfl rfl (fun _ _ _ _ _ => rfl) ?_
      refine tK (l := xk_198) rfl rfl (hGetI hs rfl rfl rfl (by decide) (by decide)) ?_
      refine tIf_le (l := xk_198) (pc' := 66) rfl rfl rfl (fun hc => ?_) (fun hc => ?_)
      · refine tK (l := xk_198) rfl rfl (fun _ _ _ _ _ => rfl) ?_
        refine tK (l := xk_198) rfl rfl (hGetI hs rfl rfl rfl (by decide) (by decide)) ?_
        refine tK (l := xk_198) rfl rfl (fun _ _ _ _ _ => rfl) ?_
        refine tK (l := xk_198) rfl rfl (hSub ⟨by omega, by omega⟩) ?_
        rw [e31]
        refine tSt (l := xk_198) rfl rfl (fun _ _ _ _ _ => rfl) (Nat.le_of_ble_eq_true rfl) ?_
        refine tK (l := xk_198) rfl rfl (fun _ _ _ _ _ => rfl) ?_
        refine tK (l := xk_198) rfl rfl (hGetR (o := some 156) hs rfl rfl rfl (by decide) (by decide) rfl) ?_
        refine tK (l := xk_198) rfl rfl (fun _ _ _ _ _ => rfl) ?_
        first | refine tK (l := xk_198) rfl rfl (hIaldN hs rfl rfl (by omega)) ?_ | refine tK (l := xk_198) rfl rfl (hIald hs rfl (by omega) (by omega)) ?_
        rw [a1]
        refine tK (l := xk_198) rfl rfl (fun _ _ _ _ _ => rfl) ?_
        refine tIc_ne (l := xk_198) (pc' := 35) rfl rfl rfl (fun hc => ?_) (fun hc => ?_)
        · exfalso; omega
        · refine tK (l := xk_198) rfl rfl (fun _ _ _ _ _ => rfl) ?_
          refine tK (l := xk_198) rfl rfl (hGetR (o := some 157) hs rfl rfl rfl (by decide) (by decide) rfl) ?_
          refine tK (l := xk_198) rfl rfl (fun _ _ _ _ _ => rfl) ?_
          refine tK (l := xk_198) rfl rfl (fun _ _ _ _ _ => rfl) ?_
          refine tK (l := xk_198) rfl rfl (hMul ⟨by omega, by omega⟩) ?_
          refine tK (l := xk_198) rfl rfl (fun _ _ _ _ _ => rfl) ?_
          refine tK (l := xk_198) rfl rfl (hGetR (o := some 156) hs rfl rfl rfl (by decide) (by decide) rfl) ?_
          refine tK (l := xk_198) rfl rfl (fun _ _ _ _ _ => rfl) ?_
          first | refine tK (l := xk_198) rfl rfl (hIaldN hs rfl rfl (by omega)) ?_ | refine tK (l := xk_198) rfl rfl (hIald hs rfl (by omega) (by omega)) ?_
          rw [a1]
          have e24 : (24 : Int) * (ts.length : Int) + (t.length : Int) = ((24 * ts.length + t.length : Nat) : Int) := by omega
          refine tK (l := xk_198) rfl rfl (hAdd ⟨by omega, by omega⟩) ?_
          rw [e24]
          refine tK (l := xk_198) rfl rfl (fun _ _ _ _ _ => rfl) ?_
          first | refine tK (l := xk_198) rfl rfl (hIastN hs rfl rfl (by omega)) ?_ | refine tK (l := xk_198) rfl rfl (hIast hs rfl (by omega) (by omega)) ?_
          have u1 : hSh zs (hUp ph 157 (24 * ts.length + t.length) c) := hShI1 _ hs rfl rfl
          have rd1 := hRd_up (x := c) hs (show hKi (hTg 157) (24 * ts.length + t.length) = true from rfl) (by omega)
          have b1 : hRd (hUp ph 157 (24 * ts.length + t.length) c) 156 ts.length = (t.length : Int) := by rw [rd1, if_neg (by omega)]; exact a1
          refine tK (l := xk_198) rfl rfl (fun _ _ _ _ _ => rfl) ?_
          refine tK (l := xk_198) rfl rfl (hGetR (o := some 156) (hShI1 _ hs rfl rfl) rfl rfl rfl (by decide) (by decide) rfl) ?_
          refine tK (l := xk_198) rfl rfl (fun _ _ _ _ _ => rfl) ?_
          refine tK (l := xk_198) rfl rfl (fun _ _ _ _ _ => rfl) ?_
          first | refine tK (l := xk_198) rfl rfl (hIaldN (hShI1 _ hs rfl rfl) rfl rfl (by omega)) ?_ | refine tK (l := xk_198) rfl rfl (hIald (hShI1 _ hs rfl rfl) rfl (by omega) (by omega)) ?_
          rw [b1]
          refine tK (l := xk_198) rfl rfl (fun _ _ _ _ _ => rfl) ?_
          refine tK (l := xk_198) rfl rfl (hAdd ⟨by omega, by omega⟩) ?_
          first | refine tK (l := xk_198) rfl rfl (hIastN (hShI1 _ hs rfl rfl) rfl rfl (by omega)) ?_ | refine tK (l := xk_198) rfl rfl (hIast (hShI1 _ hs rfl rfl) rfl (by omega) (by omega)) ?_
          refine tRt (l := xk_198) rfl rfl (fun _ _ _ _ _ => rfl) ?_
          simp only [prF, if_neg hl] at hQ0
          have rd2 := hRd_up (x := (t.length : Int) + 1) u1 (show hKi (hTg 156) ts.length = true from rfl) (by omega)
          have f2 : hFM [19, 24, 25, 26] [153, 156, 157] ph (hUp (hUp ph 157 (24 * ts.length + t.length) c) 156 ts.length ((t.length : Int) + 1)) := (hFM_a hs rfl (by omega) (by decide) (by decide)).trans (hFM_a u1 rfl (by omega) (by decide) (by decide))
          refine hQ0 _ ⟨(hShI1 _ (hShI1 _ hs rfl rfl) rfl rfl), ⟨by rw [rd2, if_neg (by omega), rd1, if_neg (by omega)]; exact h1, h2, h3.eq (fun j _ => by rw [rd2, if_neg (by omega), rd1, if_neg (by omega)])⟩, ⟨by rw [rd2, if_neg (by omega), rd1, if_neg (by omega)]; simp only [List.length_cons]; exact h4, by simp only [List.length_cons]; omega, ⟨⟨by rw [rd2, if_pos ⟨rfl, rfl⟩]; simp, by simp; omega, fun i c2 hi2 => ?_⟩, a4.eq (fun j hj => by rw [rd2, if_neg (by omega), rd1, if_neg (by omega)]) (fun j hj => by rw [rd2, if_neg (by omega), rd1, if_neg (by omega)])⟩⟩, ⟨by rw [rd2, if_neg (by omega), rd1, if_neg (by omega)]; exact h7, h8, fun i c2 hi2 => by rw [rd2, if_neg (by omega), rd1, if_neg (by omega)]; exact h9 i c2 hi2⟩, by rw [rd2, if_neg (by omega), rd1, if_neg (by omega)]; exact h10, h11, by rw [rd2, if_neg (by omega), rd1, if_neg (by omega)]; exact h12, by rw [rd2, if_neg (by omega), rd1, if_neg (by omega)]; exact h13, by rw [rd2, if_neg (by omega), rd1, if_neg (by omega)]; exact h14, h15⟩ (by first | rfl | trivial) f2
          rw [rd2, if_neg (by omega), rd1]
          by_cases hil : i < t.length
          · rw [List.getElem?_append_left hil] at hi2
            rw [if_neg (by omega)]
            exact a3 i c2 hi2
          · rw [List.getElem?_append_right (by omega)] at hi2
            have hk9 := (List.getElem?_eq_some_iff.mp hi2).1
            simp only [List.length_cons, List.length_nil] at hk9
            rw [show i - t.length = 0 by omega] at hi2
            simp only [List.getElem?_cons_zero, Option.some.injEq] at hi2
            rw [if_pos ⟨rfl, by omega⟩, hi2]
      · exfalso; omega
  | nil =>
    have h4 : hRd ph 147 31 = 0 := h4
    by_cases hl : ou.length = 200
    · refine tK (l := xk_198) rfl rfl (fun _ _ _ _ _ => rfl) ?_
      refine tK (l := xk_198) rfl rfl (hGetI hs rfl rfl rfl (by decide) (by decide)) ?_
      refine tIf_le (l := xk_198) (pc' := 66) rfl rfl rfl (fun hc => ?_) (fun hc => ?_)
      · exfalso; omega
      · refine tK (l := xk_198) rfl rfl (fun _ _ _ _ _ => rfl) ?_
        refine tK (l := xk_198) rfl rfl (hGetI hs rfl rfl rfl (by decide) (by decide)) ?_
        rw [h7]
        refine tK (l := xk_198) rfl rfl (fun _ _ _ _ _ => rfl) ?_
        refine tIc_ne (l := xk_198) (pc' := 83) rfl rfl rfl (fun hc => ?_) (fun hc => ?_)
        · refine tK (l := xk_198) rfl rfl (fun _ _ _ _ _ => rfl) ?_
          refine tK (l := xk_198) rfl rfl (fun _ _ _ _ _ => rfl) ?_
          refine tK (l := xk_198) rfl rfl (fun _ _ _ _ _ => rfl) ?_
          refine tCa (l := xk_198) rfl rfl (hInvV (c := 10) hs rfl rfl rfl rfl rfl (Nat.le_of_ble_eq_true rfl) (Nat.le_of_ble_eq_true rfl)) ?_
          refine s194 (why := 2) (ip := ip) hs hi (fun ph2 hs2 f2 hx2 => ?_)
          refine tKn ?_
          refine tRt (l := xk_198) rfl rfl (fun _ _ _ _ _ => rfl) ?_
          simp only [prF, if_pos hl] at hQ1
          exact hQ1 ph2 (h.fr hs2 f2) (by decide) f2 hx2
        · exfalso; omega
    · refine tK (l := xk_198) rfl rfl (fun _ _ _ _ _ => rfl) ?_
      refine tK (l := xk_198) rfl rfl (hGetI hs rfl rfl rfl (by decide) (by decide)) ?_
      refine tIf_le (l := xk_198) (pc' := 66) rfl rfl rfl (fun hc => ?_) (fun hc => ?_)
      · exfalso; omega
      · refine tK (l := xk_198) rfl rfl (fun _ _ _ _ _ => rfl) ?_
        refine tK (l := xk_198) rfl rfl (hGetI hs rfl rfl rfl (by decide) (by decide)) ?_
        rw [h7]
        refine tK (l := xk_198) rfl rfl (fun _ _ _ _ _ => rfl) ?_
        refine tIc_ne (l := xk_198) (pc' := 83) rfl rfl rfl (fun hc => ?_) (fun hc => ?_)
        · exfalso; omega
        · refine tK (l := xk_198) rfl rfl (fun _ _ _ _ _ => rfl) ?_
          refine tK (l := xk_198) rfl rfl (hGetR (o := some 153) hs rfl rfl rfl (by decide) (by decide) rfl) ?_
          refine tK (l := xk_198) rfl rfl (fun _ _ _ _ _ => rfl) ?_
          refine tK (l := xk_198) rfl rfl (hGetI hs rfl rfl rfl (by decide) (by decide)) ?_
          rw [h7]
          refine tK (l := xk_198) rfl rfl (fun _ _ _ _ _ => rfl) ?_
          first | refine tK (l := xk_198) rfl rfl (hIastN hs rfl rfl (by omega)) ?_ | refine tK (l := xk_198) rfl rfl (hIast hs rfl (by omega) (by omega)) ?_
          have u1 : hSh zs (hUp ph 153 ou.length c) := hShI1 _ hs rfl rfl
          have rd1 := hRd_up (x := c) hs (show hKi (hTg 153) ou.length = true from rfl) (by omega)
          have b19 : hRd (hUp ph 153 ou.length c) 147 19 = (ou.length : Int) := by rw [rd1, if_neg (by omega)]; exact h7
          refine tK (l := xk_198) rfl rfl (fun _ _ _ _ _ => rfl) ?_
          refine tK (l := xk_198) rfl rfl (fun _ _ _ _ _ => rfl) ?_
          refine tK (l := xk_198) rfl rfl (hGetI (hShI1 _ hs rfl rfl) rfl rfl rfl (by decide) (by decide)) ?_
          rw [b19]
          refine tK (l := xk_198) rfl rfl (fun _ _ _ _ _ => rfl) ?_
          refine tK (l := xk_198) rfl rfl (hAdd ⟨by omega, by omega⟩) ?_
          refine tK (l := xk_198) rfl rfl (hPutV (hShI1 _ hs rfl rfl) rfl rfl (by decide) (by decide) rfl) ?_
          have u2 : hSh zs (hUp (hUp ph 153 ou.length c) 147 19 ((ou.length : Int) + 1)) := hShI1 _ u1 rfl rfl
          have rd2 := hRd_up (x := (ou.length : Int) + 1) u1 (show hKi (hTg 147) 19 = true from rfl) (by decide)
          have b24 : hRd (hUp (hUp ph 153 ou.length c) 147 19 ((ou.length : Int) + 1)) 147 24 = (pl : Int) := by rw [rd2, if_neg (by omega), rd1, if_neg (by omega)]; exact h12
          refine tK (l := xk_198) rfl rfl (fun _ _ _ _ _ => rfl) ?_
          refine tK (l := xk_198) rfl rfl (fun _ _ _ _ _ => rfl) ?_
          refine tK (l := xk_198) rfl rfl (hGetI (hShI1 _ (hShI1 _ hs rfl rfl) rfl rfl) rfl rfl rfl (by decide) (by decide)) ?_
          rw [b24]
          refine tK (l := xk_198) rfl rfl (fun _ _ _ _ _ => rfl) ?_
          refine tIf_ne (l := xk_198) (pc' := 116) rfl rfl rfl (fun hc => ?_) (fun hc => ?_)
          · refine tK (l := xk_198) rfl rfl (fun _ _ _ _ _ => rfl) ?_
            refine tK (l := xk_198) rfl rfl (fun _ _ _ _ _ => rfl) ?_
            refine tK (l := xk_198) rfl rfl (hAdd ⟨by omega, by omega⟩) ?_
            refine tK (l := xk_198) rfl rfl (hPutV (hShI1 _ (hShI1 _ hs rfl rfl) rfl rfl) rfl rfl (by decide) (by decide) rfl) ?_
            have u3 : hSh zs (hUp (hUp (hUp ph 153 ou.length c) 147 19 ((ou.length : Int) + 1)) 147 24 ((pl : Int) + 1)) := hShI1 _ u2 rfl rfl
            have rd3 := hRd_up (x := (pl : Int) + 1) u2 (show hKi (hTg 147) 24 = true from rfl) (by decide)
            have b25 : hRd (hUp (hUp (hUp ph 153 ou.length c) 147 19 ((ou.length : Int) + 1)) 147 24 ((pl : Int) + 1)) 147 25 = (es : Int) := by rw [rd3, if_neg (by omega), rd2, if_neg (by omega), rd1, if_neg (by omega)]; exact h13
            refine tK (l := xk_198) rfl rfl (fun _ _ _ _ _ => rfl) ?_
            refine tK (l := xk_198) rfl rfl (fun _ _ _ _ _ => rfl) ?_
            refine tK (l := xk_198) rfl rfl (hGetI (hShI1 _ (hShI1 _ (hShI1 _ hs rfl rfl) rfl rfl) rfl rfl) rfl rfl rfl (by decide) (by decide)) ?_
            rw [b25]
            refine tK (l := xk_198) rfl rfl (fun _ _ _ _ _ => rfl) ?_
            refine tK (l := xk_198) rfl rfl (fun _ _ _ _ _ => rfl) ?_
            refine tIc_ne (l := xk_198) (pc' := 135) rfl rfl rfl (fun hc => ?_) (fun hc => ?_)
            · exact absurd hc (by decide)
            · refine tK (l := xk_198) rfl rfl (fun _ _ _ _ _ => rfl) ?_
              refine tK (l := xk_198) rfl rfl (hAdd ⟨by omega, by omega⟩) ?_
              refine tK (l := xk_198) rfl rfl (hPutV (hShI1 _ (hShI1 _ (hShI1 _ hs rfl rfl) rfl rfl) rfl rfl) rfl rfl (by decide) (by decide) rfl) ?_
              have u4 : hSh zs (hUp (hUp (hUp (hUp ph 153 ou.length c) 147 19 ((ou.length : Int) + 1)) 147 24 ((pl : Int) + 1)) 147 25 ((es : Int) + 0)) := hShI1 _ u3 rfl rfl
              have rd4 := hRd_up (x := (es : Int) + 0) u3 (show hKi (hTg 147) 25 = true from rfl) (by decide)
              have b26 : hRd (hUp (hUp (hUp (hUp ph 153 ou.length c) 147 19 ((ou.length : Int) + 1)) 147 24 ((pl : Int) + 1)) 147 25 ((es : Int) + 0)) 147 26 = (vl : Int) := by rw [rd4, if_neg (by omega), rd3, if_neg (by omega), rd2, if_neg (by omega), rd1, if_neg (by omega)]; exact h14
              refine tK (l := xk_198) rfl rfl (fun _ _ _ _ _ => rfl) ?_
              refine tK (l := xk_198) rfl rfl (fun _ _ _ _ _ => rfl) ?_
              refine tK (l := xk_198) rfl rfl (hGetI (hShI1 _ (hShI1 _ (hShI1 _ (hShI1 _ hs rfl rfl) rfl rfl) rfl rfl) rfl rfl) rfl rfl rfl (by decide) (by decide)) ?_
              rw [b26]
              refine tK (l := xk_198) rfl rfl (fun _ _ _ _ _ => rfl) ?_
              refine tK (l := xk_198) rfl rfl (fun _ _ _ _ _ => rfl) ?_
              refine tIc_ne (l := xk_198) (pc' := 154) rfl rfl rfl (fun hc => ?_) (fun hc => ?_)
              · exact absurd hc (by decide)
              · refine tK (l := xk_198) rfl rfl (fun _ _ _ _ _ => rfl) ?_
                refine tK (l := xk_198) rfl rfl (hAdd ⟨by omega, by omega⟩) ?_
                refine tK (l := xk_198) rfl rfl (hPutV (hShI1 _ (hShI1 _ (hShI1 _ (hShI1 _ hs rfl rfl) rfl rfl) rfl rfl) rfl rfl) rfl rfl (by decide) (by decide) rfl) ?_
                refine tRt (l := xk_198) rfl rfl (fun _ _ _ _ _ => rfl) ?_
                simp only [prF, if_neg hl, if_true] at hQ0
                have rd5 := hRd_up (x := (vl : Int) + 0) u4 (show hKi (hTg 147) 26 = true from rfl) (by decide)
                have f2 : hFM [19, 24, 25, 26] [153, 156, 157] ph (hUp (hUp (hUp (hUp (hUp ph 153 ou.length c) 147 19 ((ou.length : Int) + 1)) 147 24 ((pl : Int) + 1)) 147 25 ((es : Int) + 0)) 147 26 ((vl : Int) + 0)) := ((((hFM_a hs rfl (by omega) (by decide) (by decide)).trans (hFM_f u1 rfl (by decide) (by decide))).trans (hFM_f u2 rfl (by decide) (by decide))).trans (hFM_f u3 rfl (by decide) (by decide))).trans (hFM_f u4 rfl (by decide) (by decide))
                refine hQ0 (hUp (hUp (hUp (hUp (hUp ph 153 ou.length c) 147 19 ((ou.length : Int) + 1)) 147 24 ((pl : Int) + 1)) 147 25 ((es : Int) + 0)) 147 26 ((vl : Int) + 0)) ⟨(hShI1 _ (hShI1 _ (hShI1 _ (hShI1 _ (hShI1 _ hs rfl rfl) rfl rfl) rfl rfl) rfl rfl) rfl rfl), ⟨by rw [rd5, if_neg (by omega), rd4, if_neg (by omega), rd3, if_neg (by omega), rd2, if_neg (by omega), rd1, if_neg (by omega)]; exact h1, h2, h3.eq (fun j _ => by rw [rd5, if_neg (by omega), rd4, if_neg (by omega), rd3, if_neg (by omega), rd2, if_neg (by omega), rd1, if_neg (by omega)])⟩, ⟨by rw [rd5, if_neg (by omega), rd4, if_neg (by omega), rd3, if_neg (by omega), rd2, if_neg (by omega), rd1, if_neg (by omega)]; exact h4, h5, trivial⟩, ⟨by rw [rd5, if_neg (by omega), rd4, if_neg (by omega), rd3, if_neg (by omega), rd2, if_pos ⟨rfl, rfl⟩]; simp, by simp; omega, fun i c2 hi2 => ?_⟩, by rw [rd5, if_neg (by omega), rd4, if_neg (by omega), rd3, if_neg (by omega), rd2, if_neg (by omega), rd1, if_neg (by omega)]; exact h10, h11, by rw [rd5, if_neg (by omega), rd4, if_neg (by omega), rd3, if_pos ⟨rfl, rfl⟩]; push_cast; rfl, by rw [rd5, if_neg (by omega), rd4, if_pos ⟨rfl, rfl⟩]; exact Int.add_zero _, by rw [rd5, if_pos ⟨rfl, rfl⟩]; exact Int.add_zero _, by simp; omega⟩ (by first | rfl | trivial) f2
                rw [rd5, if_neg (by omega), rd4, if_neg (by omega), rd3, if_neg (by omega), rd2, if_neg (by omega), rd1]
                by_cases hil : i < ou.length
                · rw [List.getElem?_append_left hil] at hi2
                  rw [if_neg (by omega)]
                  exact h9 i c2 hi2
                · rw [List.getElem?_append_right (by omega)] at hi2
                  have hk9 := (List.getElem?_eq_some_iff.mp hi2).1
                  simp only [List.length_cons, List.length_nil] at hk9
                  rw [show i - ou.length = 0 by omega] at hi2
                  simp only [List.getElem?_cons_zero, Option.some.injEq] at hi2
                  rw [if_pos ⟨rfl, by omega⟩, hi2]
          · exact absurd rfl hc
theorem s198_1 {c : Int} {place : Nat} {ip : List Nat} {sc : List xSc} {stg : List (List Int)} {ou : List Int} {st pl es vl : Nat} (h : hMN zs ph (sc, stg, ou, st, pl, es, vl)) (hi : hMi ph ip) (hQ0 : ∀ ph2, hMN zs ph2 (prF c 1 (sc, stg, ou, st, pl, es, vl)).1 → (prF c 1 (sc, stg, ou, st, pl, es, vl)).2 = 0 → hFM [19, 24, 25, 26] [153, 156, 157] ph ph2 → Q (.inl none, ph2, g)) (hQ1 : ∀ ph2, hMN zs ph2 (prF c 1 (sc, stg, ou, st, pl, es, vl)).1 → (prF c 1 (sc, stg, ou, st, pl, es, vl)).2 ≠ 0 → hFM [20, 22] [154] ph ph2 → hMx ph2 (prF c 1 (sc, stg, ou, st, pl, es, vl)).2 (ip ++ [place]) → Q (.inl none, ph2, g)) : xTC (d + 1) 198 [.inr (.inl (some 147)), .inl c, .inl 1, .inl (place : Int)] ph g Q := by
  obtain ⟨z1, z2, z3, z4, z5, z6, z7, z8⟩ := hSzM
  obtain ⟨hs, ⟨h1, h2, h3⟩, ⟨h4, h5, h6⟩, ⟨h7, h8, h9⟩, h10, h11, h12, h13, h14, h15⟩ := id h
  simp only at h1 h2 h3 h4 h5 h6 h7 h8 h9 h10 h11 h12 h13 h14 h15
  refine tEn (ls := [some (.inr (.inl (some 147))), some (.inl c), some (.inl 1), some (.inl (place : Int)), none]) (fun k => by match k with | 0 => rfl | 1 => rfl | 2 => rfl | 3 => rfl | 4 => rfl | k + 5 => rfl) ?_
  cases stg with
  | cons t ts =>
    simp only [List.length_cons] at h4 h5
    obtain ⟨⟨a1, a2, a3⟩, a4⟩ := h6
    have e31 : hRd ph 147 31 - 1 = (ts.length : Int) := by omega
    by_cases hl : t.length = 24
    · refine tK (l := xk_198) rfl rfl (fun _ _ _ _ _ => rfl) ?_
      refine tK (l := xk_198) rfl rfl (hGetI hs rfl rfl rfl (by decide) (by decide)) ?_
      refine tIf_le (l := xk_198) (pc' := 66) rfl rfl rfl (fun hc => ?_) (fun hc => ?_)
      · refine tK (l := xk_198) rfl rfl (fun _ _ _ _ _ => rfl) ?_
        refine tK (l := xk_198) rfl rfl (hGetI hs rfl rfl rfl (by decide) (by decide)) ?_
        refine tK (l := xk_198) rfl rfl (fun _ _ _ _ _ => rfl) ?_
        refine tK (l := xk_198) rfl rfl (hSub ⟨by omega, by omega⟩) ?_
        rw [e31]
        refine tSt (l := xk_198) rfl rfl (fun _ _ _ _ _ => rfl) (Nat.le_of_ble_eq_true rfl) ?_
        refine tK (l := xk_198) rfl rfl (fun _ _ _ _ _ => rfl) ?_
        refine tK (l := xk_198) rfl rfl (hGetR (o := some 156) hs rfl rfl rfl (by decide) (by decide) rfl) ?_
        refine tK (l := xk_198) rfl rfl (fun _ _ _ _ _ => rfl) ?_
        first | refine tK (l := xk_198) rfl rfl (hIaldN hs rfl rfl (by omega)) ?_ | refine tK (l := xk_198) rfl rfl (hIald hs rfl (by omega) (by omega)) ?_
        rw [a1]
        refine tK (l := xk_198) rfl rfl (fun _ _ _ _ _ => rfl) ?_
        refine tIc_ne (l := xk_198) (pc' := 35) rfl rfl rfl (fun hc => ?_) (fun hc => ?_)
        · refine tK (l := xk_198) rfl rfl (fun _ _ _ _ _ => rfl) ?_
          refine tK (l := xk_198) rfl rfl (fun _ _ _ _ _ => rfl) ?_
          refine tK (l := xk_198) rfl rfl (fun _ _ _ _ _ => rfl) ?_
          refine tCa (l := xk_198) rfl rfl (hInvV (c := 10) hs rfl rfl rfl rfl rfl (Nat.le_of_ble_eq_true rfl) (Nat.le_of_ble_eq_true rfl)) ?_
          refine s194 (why := 6) (ip := ip) hs hi (fun ph2 hs2 f2 hx2 => ?_)
          refine tKn ?_
          refine tRt (l := xk_198) rfl rfl (fun _ _ _ _ _ => rfl) ?_
          simp only [prF, if_pos hl] at hQ1
          exact hQ1 ph2 (h.fr hs2 f2) (by decide) f2 hx2
        · exfalso; omega
      · exfalso; omega
    · refine tK (l := xk_198) rfl rfl (fun _ _ _ _ _ => rfl) ?_
      refine tK (l := xk_198) rfl rfl (hGetI hs rfl rfl rfl (by decide) (by decide)) ?_
      refine tIf_le (l := xk_198) (pc' := 66) rfl rfl rfl (fun hc => ?_) (fun hc => ?_)
      · refine tK (l := xk_198) rfl rfl (fun _ _ _ _ _ => rfl) ?_
        refine tK (l := xk_198) rfl rfl (hGetI hs rfl rfl rfl (by decide) (by decide)) ?_
        refine tK (l := xk_198) rfl rfl (fun _ _ _ _ _ => rfl) ?_
        refine tK (l := xk_198) rfl rfl (hSub ⟨by omega, by omega⟩) ?_
        rw [e31]
        refine tSt (l := xk_198) rfl rfl (fun _ _ _ _ _ => rfl) (Nat.le_of_ble_eq_true rfl) ?_
        refine tK (l := xk_198) rfl rfl (fun _ _ _ _ _ => rfl) ?_
        refine tK (l := xk_198) rfl rfl (hGetR (o := some 156) hs rfl rfl rfl (by decide) (by decide) rfl) ?_
        refine tK (l := xk_198) rfl rfl (fun _ _ _ _ _ => rfl) ?_
        first | refine tK (l := xk_198) rfl rfl (hIaldN hs rfl rfl (by omega)) ?_ | refine tK (l := xk_198) rfl rfl (hIald hs rfl (by omega) (by omega)) ?_
        rw [a1]
        refine tK (l := xk_198) rfl rfl (fun _ _ _ _ _ => rfl) ?_
        refine tIc_ne (l := xk_198) (pc' := 35) rfl rfl rfl (fun hc => ?_) (fun hc => ?_)
        · exfalso; omega
        · refine tK (l := xk_198) rfl rfl (fun _ _ _ _ _ => rfl) ?_
          refine tK (l := xk_198) rfl rfl (hGetR (o := some 157) hs rfl rfl rfl (by decide) (by decide) rfl) ?_
          refine tK (l := xk_198) rfl rfl (fun _ _ _ _ _ => rfl) ?_
          refine tK (l := xk_198) rfl rfl (fun _ _ _ _ _ => rfl) ?_
          refine tK (l := xk_198) rfl rfl (hMul ⟨by omega, by omega⟩) ?_
          refine tK (l := xk_198) rfl rfl (fun _ _ _ _ _ => rfl) ?_
          refine tK (l := xk_198) rfl rfl (hGetR (o := some 156) hs rfl rfl rfl (by decide) (by decide) rfl) ?_
          refine tK (l := xk_198) rfl rfl (fun _ _ _ _ _ => rfl) ?_
          first | refine tK (l := xk_198) rfl rfl (hIaldN hs rfl rfl (by omega)) ?_ | refine tK (l := xk_198) rfl rfl (hIald hs rfl (by omega) (by omega)) ?_
          rw [a1]
          have e24 : (24 : Int) * (ts.length : Int) + (t.length : Int) = ((24 * ts.length + t.length : Nat) : Int) := by omega
          refine tK (l := xk_198) rfl rfl (hAdd ⟨by omega, by omega⟩) ?_
          rw [e24]
          refine tK (l := xk_198) rfl rfl (fun _ _ _ _ _ => rfl) ?_
          first | refine tK (l := xk_198) rfl rfl (hIastN hs rfl rfl (by omega)) ?_ | refine tK (l := xk_198) rfl rfl (hIast hs rfl (by omega) (by omega)) ?_
          have u1 : hSh zs (hUp ph 157 (24 * ts.length + t.length) c) := hShI1 _ hs rfl rfl
          have rd1 := hRd_up (x := c) hs (show hKi (hTg 157) (24 * ts.length + t.length) = true from rfl) (by omega)
          have b1 : hRd (hUp ph 157 (24 * ts.length + t.length) c) 156 ts.length = (t.length : Int) := by rw [rd1, if_neg (by omega)]; exact a1
          refine tK (l := xk_198) rfl rfl (fun _ _ _ _ _ => rfl) ?_
          refine tK (l := xk_198) rfl rfl (hGetR (o := some 156) (hShI1 _ hs rfl rfl) rfl rfl rfl (by decide) (by decide) rfl) ?_
          refine tK (l := xk_198) rfl rfl (fun _ _ _ _ _ => rfl) ?_
          refine tK (l := xk_198) rfl rfl (fun _ _ _ _ _ => rfl) ?_
          first | refine tK (l := xk_198) rfl rfl (hIaldN (hShI1 _ hs rfl rfl) rfl rfl (by omega)) ?_ | refine tK (l := xk_198) rfl rfl (hIald (hShI1 _ hs rfl rfl) rfl (by omega) (by omega)) ?_
          rw [b1]
          refine tK (l := xk_198) rfl rfl (fun _ _ _ _ _ => rfl) ?_
          refine tK (l := xk_198) rfl rfl (hAdd ⟨by omega, by omega⟩) ?_
          first | refine tK (l := xk_198) rfl rfl (hIastN (hShI1 _ hs rfl rfl) rfl rfl (by omega)) ?_ | refine tK (l := xk_198) rfl rfl (hIast (hShI1 _ hs rfl rfl) rfl (by omega) (by omega)) ?_
          refine tRt (l := xk_198) rfl rfl (fun _ _ _ _ _ => rfl) ?_
          simp only [prF, if_neg hl] at hQ0
          have rd2 := hRd_up (x := (t.length : Int) + 1) u1 (show hKi (hTg 156) ts.length = true from rfl) (by omega)
          have f2 : hFM [19, 24, 25, 26] [153, 156, 157] ph (hUp (hUp ph 157 (24 * ts.length + t.length) c) 156 ts.length ((t.length : Int) + 1)) := (hFM_a hs rfl (by omega) (by decide) (by decide)).trans (hFM_a u1 rfl (by omega) (by decide) (by decide))
          refine hQ0 _ ⟨(hShI1 _ (hShI1 _ hs rfl rfl) rfl rfl), ⟨by rw [rd2, if_neg (by omega), rd1, if_neg (by omega)]; exact h1, h2, h3.eq (fun j _ => by rw [rd2, if_neg (by omega), rd1, if_neg (by omega)])⟩, ⟨by rw [rd2, if_neg (by omega), rd1, if_neg (by omega)]; simp only [List.length_cons]; exact h4, by simp only [List.length_cons]; omega, ⟨⟨by rw [rd2, if_pos ⟨rfl, rfl⟩]; simp, by simp; omega, fun i c2 hi2 => ?_⟩, a4.eq (fun j hj => by rw [rd2, if_neg (by omega), rd1, if_neg (by omega)]) (fun j hj => by rw [rd2, if_neg (by omega), rd1, if_neg (by omega)])⟩⟩, ⟨by rw [rd2, if_neg (by omega), rd1, if_neg (by omega)]; exact h7, h8, fun i c2 hi2 => by rw [rd2, if_neg (by omega), rd1, if_neg (by omega)]; exact h9 i c2 hi2⟩, by rw [rd2, if_neg (by omega), rd1, if_neg (by omega)]; exact h10, h11, by rw [rd2, if_neg (by omega), rd1, if_neg (by omega)]; exact h12, by rw [rd2, if_neg (by omega), rd1, if_neg (by omega)]; exact h13, by rw [rd2, if_neg (by omega), rd1, if_neg (by omega)]; exact h14, h15⟩ (by first | rfl | trivial) f2
          rw [rd2, if_neg (by omega), rd1]
          by_cases hil : i < t.length
          · rw [List.getElem?_append_left hil] at hi2
            rw [if_neg (by omega)]
            exact a3 i c2 hi2
          · rw [List.getElem?_append_right (by omega)] at hi2
            have hk9 := (List.getElem?_eq_some_iff.mp hi2).1
            simp only [List.length_cons, List.length_nil] at hk9
            rw [show i - t.length = 0 by omega] at hi2
            simp only [List.getElem?_cons_zero, Option.some.injEq] at hi2
            rw [if_pos ⟨rfl, by omega⟩, hi2]
      · exfalso; omega
  | nil =>
    have h4 : hRd ph 147 31 = 0 := h4
    by_cases hl : ou.length = 200
    · refine tK (l := xk_198) rfl rfl (fun _ _ _ _ _ => rfl) ?_
      refine tK (l := xk_198) rfl rfl (hGetI hs rfl rfl rfl (by decide) (by decide)) ?_
      refine tIf_le (l := xk_198) (pc' := 66) rfl rfl rfl (fun hc => ?_) (fun hc => ?_)
      · exfalso; omega
      · refine tK (l := xk_198) rfl rfl (fun _ _ _ _ _ => rfl) ?_
        refine tK (l := xk_198) rfl rfl (hGetI hs rfl rfl rfl (by decide) (by decide)) ?_
        rw [h7]
        refine tK (l := xk_198) rfl rfl (fun _ _ _ _ _ => rfl) ?_
        refine tIc_ne (l := xk_198) (pc' := 83) rfl rfl rfl (fun hc => ?_) (fun hc => ?_)
        · refine tK (l := xk_198) rfl rfl (fun _ _ _ _ _ => rfl) ?_
          refine tK (l := xk_198) rfl rfl (fun _ _ _ _ _ => rfl) ?_
          refine tK (l := xk_198) rfl rfl (fun _ _ _ _ _ => rfl) ?_
          refine tCa (l := xk_198) rfl rfl (hInvV (c := 10) hs rfl rfl rfl rfl rfl (Nat.le_of_ble_eq_true rfl) (Nat.le_of_ble_eq_true rfl)) ?_
          refine s194 (why := 2) (ip := ip) hs hi (fun ph2 hs2 f2 hx2 => ?_)
          refine tKn ?_
          refine tRt (l := xk_198) rfl rfl (fun _ _ _ _ _ => rfl) ?_
          simp only [prF, if_pos hl] at hQ1
          exact hQ1 ph2 (h.fr hs2 f2) (by decide) f2 hx2
        · exfalso; omega
    · refine tK (l := xk_198) rfl rfl (fun _ _ _ _ _ => rfl) ?_
      refine tK (l := xk_198) rfl rfl (hGetI hs rfl rfl rfl (by decide) (by decide)) ?_
      refine tIf_le (l := xk_198) (pc' := 66) rfl rfl rfl (fun hc => ?_) (fun hc => ?_)
      · exfalso; omega
      · refine tK (l := xk_198) rfl rfl (fun _ _ _ _ _ => rfl) ?_
        refine tK (l := xk_198) rfl rfl (hGetI hs rfl rfl rfl (by decide) (by decide)) ?_
        rw [h7]
        refine tK (l := xk_198) rfl rfl (fun _ _ _ _ _ => rfl) ?_
        refine tIc_ne (l := xk_198) (pc' := 83) rfl rfl rfl (fun hc => ?_) (fun hc => ?_)
        · exfalso; omega
        · refine tK (l := xk_198) rfl rfl (fun _ _ _ _ _ => rfl) ?_
          refine tK (l := xk_198) rfl rfl (hGetR (o := some 153) hs rfl rfl rfl (by decide) (by decide) rfl) ?_
          refine tK (l := xk_198) rfl rfl (fun _ _ _ _ _ => rfl) ?_
          refine tK (l := xk_198) rfl rfl (hGetI hs rfl rfl rfl (by decide) (by decide)) ?_
          rw [h7]
          refine tK (l := xk_198) rfl rfl (fun _ _ _ _ _ => rfl) ?_
          first | refine tK (l := xk_198) rfl rfl (hIastN hs rfl rfl (by omega)) ?_ | refine tK (l := xk_198) rfl rfl (hIast hs rfl (by omega) (by omega)) ?_
          have u1 : hSh zs (hUp ph 153 ou.length c) := hShI1 _ hs rfl rfl
          have rd1 := hRd_up (x := c) hs (show hKi (hTg 153) ou.length = true from rfl) (by omega)
          have b19 : hRd (hUp ph 153 ou.length c) 147 19 = (ou.length : Int) := by rw [rd1, if_neg (by omega)]; exact h7
          refine tK (l := xk_198) rfl rfl (fun _ _ _ _ _ => rfl) ?_
          refine tK (l := xk_198) rfl rfl (fun _ _ _ _ _ => rfl) ?_
          refine tK (l := xk_198) rfl rfl (hGetI (hShI1 _ hs rfl rfl) rfl rfl rfl (by decide) (by decide)) ?_
          rw [b19]
          refine tK (l := xk_198) rfl rfl (fun _ _ _ _ _ => rfl) ?_
          refine tK (l := xk_198) rfl rfl (hAdd ⟨by omega, by omega⟩) ?_
          refine tK (l := xk_198) rfl rfl (hPutV (hShI1 _ hs rfl rfl) rfl rfl (by decide) (by decide) rfl) ?_
          have u2 : hSh zs (hUp (hUp ph 153 ou.length c) 147 19 ((ou.length : Int) + 1)) := hShI1 _ u1 rfl rfl
          have rd2 := hRd_up (x := (ou.length : Int) + 1) u1 (show hKi (hTg 147) 19 = true from rfl) (by decide)
          have b24 : hRd (hUp (hUp ph 153 ou.length c) 147 19 ((ou.length : Int) + 1)) 147 24 = (pl : Int) := by rw [rd2, if_neg (by omega), rd1, if_neg (by omega)]; exact h12
          refine tK (l := xk_198) rfl rfl (fun _ _ _ _ _ => rfl) ?_
          refine tK (l := xk_198) rfl rfl (fun _ _ _ _ _ => rfl) ?_
          refine tK (l := xk_198) rfl rfl (hGetI (hShI1 _ (hShI1 _ hs rfl rfl) rfl rfl) rfl rfl rfl (by decide) (by decide)) ?_
          rw [b24]
          refine tK (l := xk_198) rfl rfl (fun _ _ _ _ _ => rfl) ?_
          refine tIf_ne (l := xk_198) (pc' := 116) rfl rfl rfl (fun hc => ?_) (fun hc => ?_)
          · exact absurd hc (by decide)
          · refine tK (l := xk_198) rfl rfl (fun _ _ _ _ _ => rfl) ?_
            refine tK (l := xk_198) rfl rfl (hAdd ⟨by omega, by omega⟩) ?_
            refine tK (l := xk_198) rfl rfl (hPutV (hShI1 _ (hShI1 _ hs rfl rfl) rfl rfl) rfl rfl (by decide) (by decide) rfl) ?_
            have u3 : hSh zs (hUp (hUp (hUp ph 153 ou.length c) 147 19 ((ou.length : Int) + 1)) 147 24 ((pl : Int) + 0)) := hShI1 _ u2 rfl rfl
            have rd3 := hRd_up (x := (pl : Int) + 0) u2 (show hKi (hTg 147) 24 = true from rfl) (by decide)
            have b25 : hRd (hUp (hUp (hUp ph 153 ou.length c) 147 19 ((ou.length : Int) + 1)) 147 24 ((pl : Int) + 0)) 147 25 = (es : Int) := by rw [rd3, if_neg (by omega), rd2, if_neg (by omega), rd1, if_neg (by omega)]; exact h13
            refine tK (l := xk_198) rfl rfl (fun _ _ _ _ _ => rfl) ?_
            refine tK (l := xk_198) rfl rfl (fun _ _ _ _ _ => rfl) ?_
            refine tK (l := xk_198) rfl rfl (hGetI (hShI1 _ (hShI1 _ (hShI1 _ hs rfl rfl) rfl rfl) rfl rfl) rfl rfl rfl (by decide) (by decide)) ?_
            rw [b25]
            refine tK (l := xk_198) rfl rfl (fun _ _ _ _ _ => rfl) ?_
            refine tK (l := xk_198) rfl rfl (fun _ _ _ _ _ => rfl) ?_
            refine tIc_ne (l := xk_198) (pc' := 135) rfl rfl rfl (fun hc => ?_) (fun hc => ?_)
            · refine tK (l := xk_198) rfl rfl (fun _ _ _ _ _ => rfl) ?_
              refine tK (l := xk_198) rfl rfl (fun _ _ _ _ _ => rfl) ?_
              refine tK (l := xk_198) rfl rfl (hAdd ⟨by omega, by omega⟩) ?_
              refine tK (l := xk_198) rfl rfl (hPutV (hShI1 _ (hShI1 _ (hShI1 _ hs rfl rfl) rfl rfl) rfl rfl) rfl rfl (by decide) (by decide) rfl) ?_
              have u4 : hSh zs (hUp (hUp (hUp (hUp ph 153 ou.length c) 147 19 ((ou.length : Int) + 1)) 147 24 ((pl : Int) + 0)) 147 25 ((es : Int) + 1)) := hShI1 _ u3 rfl rfl
              have rd4 := hRd_up (x := (es : Int) + 1) u3 (show hKi (hTg 147) 25 = true from rfl) (by decide)
              have b26 : hRd (hUp (hUp (hUp (hUp ph 153 ou.length c) 147 19 ((ou.length : Int) + 1)) 147 24 ((pl : Int) + 0)) 147 25 ((es : Int) + 1)) 147 26 = (vl : Int) := by rw [rd4, if_neg (by omega), rd3, if_neg (by omega), rd2, if_neg (by omega), rd1, if_neg (by omega)]; exact h14
              refine tK (l := xk_198) rfl rfl (fun _ _ _ _ _ => rfl) ?_
              refine tK (l := xk_198) rfl rfl (fun _ _ _ _ _ => rfl) ?_
              refine tK (l := xk_198) rfl rfl (hGetI (hShI1 _ (hShI1 _ (hShI1 _ (hShI1 _ hs rfl rfl) rfl rfl) rfl rfl) rfl rfl) rfl rfl rfl (by decide) (by decide)) ?_
              rw [b26]
              refine tK (l := xk_198) rfl rfl (fun _ _ _ _ _ => rfl) ?_
              refine tK (l := xk_198) rfl rfl (fun _ _ _ _ _ => rfl) ?_
              refine tIc_ne (l := xk_198) (pc' := 154) rfl rfl rfl (fun hc => ?_) (fun hc => ?_)
              · exact absurd hc (by decide)
              · refine tK (l := xk_198) rfl rfl (fun _ _ _ _ _ => rfl) ?_
                refine tK (l := xk_198) rfl rfl (hAdd ⟨by omega, by omega⟩) ?_
                refine tK (l := xk_198) rfl rfl (hPutV (hShI1 _ (hShI1 _ (hShI1 _ (hShI1 _ hs rfl rfl) rfl rfl) rfl rfl) rfl rfl) rfl rfl (by decide) (by decide) rfl) ?_
                refine tRt (l := xk_198) rfl rfl (fun _ _ _ _ _ => rfl) ?_
                simp only [prF, if_neg hl, if_neg (show ¬ (1 : Int) = 0 by decide), if_true] at hQ0
                have rd5 := hRd_up (x := (vl : Int) + 0) u4 (show hKi (hTg 147) 26 = true from rfl) (by decide)
                have f2 : hFM [19, 24, 25, 26] [153, 156, 157] ph (hUp (hUp (hUp (hUp (hUp ph 153 ou.length c) 147 19 ((ou.length : Int) + 1)) 147 24 ((pl : Int) + 0)) 147 25 ((es : Int) + 1)) 147 26 ((vl : Int) + 0)) := ((((hFM_a hs rfl (by omega) (by decide) (by decide)).trans (hFM_f u1 rfl (by decide) (by decide))).trans (hFM_f u2 rfl (by decide) (by decide))).trans (hFM_f u3 rfl (by decide) (by decide))).trans (hFM_f u4 rfl (by decide) (by decide))
                refine hQ0 (hUp (hUp (hUp (hUp (hUp ph 153 ou.length c) 147 19 ((ou.length : Int) + 1)) 147 24 ((pl : Int) + 0)) 147 25 ((es : Int) + 1)) 147 26 ((vl : Int) + 0)) ⟨(hShI1 _ (hShI1 _ (hShI1 _ (hShI1 _ (hShI1 _ hs rfl rfl) rfl rfl) rfl rfl) rfl rfl) rfl rfl), ⟨by rw [rd5, if_neg (by omega), rd4, if_neg (by omega), rd3, if_neg (by omega), rd2, if_neg (by omega), rd1, if_neg (by omega)]; exact h1, h2, h3.eq (fun j _ => by rw [rd5, if_neg (by omega), rd4, if_neg (by omega), rd3, if_neg (by omega), rd2, if_neg (by omega), rd1, if_neg (by omega)])⟩, ⟨by rw [rd5, if_neg (by omega), rd4, if_neg (by omega), rd3, if_neg (by omega), rd2, if_neg (by omega), rd1, if_neg (by omega)]; exact h4, h5, trivial⟩, ⟨by rw [rd5, if_neg (by omega), rd4, if_neg (by omega), rd3, if_neg (by omega), rd2, if_pos ⟨rfl, rfl⟩]; simp, by simp; omega, fun i c2 hi2 => ?_⟩, by rw [rd5, if_neg (by omega), rd4, if_neg (by omega), rd3, if_neg (by omega), rd2, if_neg (by omega), rd1, if_neg (by omega)]; exact h10, h11, by rw [rd5, if_neg (by omega), rd4, if_neg (by omega), rd3, if_pos ⟨rfl, rfl⟩]; exact Int.add_zero _, by rw [rd5, if_neg (by omega), rd4, if_pos ⟨rfl, rfl⟩]; push_cast; rfl, by rw [rd5, if_pos ⟨rfl, rfl⟩]; exact Int.add_zero _, by simp; omega⟩ (by first | rfl | trivial) f2
                rw [rd5, if_neg (by omega), rd4, if_neg (by omega), rd3, if_neg (by omega), rd2, if_neg (by omega), rd1]
                by_cases hil : i < ou.length
                · rw [List.getElem?_append_left hil] at hi2
                  rw [if_neg (by omega)]
                  exact h9 i c2 hi2
                · rw [List.getElem?_append_right (by omega)] at hi2
                  have hk9 := (List.getElem?_eq_some_iff.mp hi2).1
                  simp only [List.length_cons, List.length_nil] at hk9
                  rw [show i - ou.length = 0 by omega] at hi2
                  simp only [List.getElem?_cons_zero, Option.some.injEq] at hi2
                  rw [if_pos ⟨rfl, by omega⟩, hi2]
            · exact absurd rfl hc
theorem s198_2 {c : Int} {k : Int} (hk0 : k ≠ 0) (hk1 : k ≠ 1) {place : Nat} {ip : List Nat} {sc : List xSc} {stg : List (List Int)} {ou : List Int} {st pl es vl : Nat} (h : hMN zs ph (sc, stg, ou, st, pl, es, vl)) (hi : hMi ph ip) (hQ0 : ∀ ph2, hMN zs ph2 (prF c k (sc, stg, ou, st, pl, es, vl)).1 → (prF c k (sc, stg, ou, st, pl, es, vl)).2 = 0 → hFM [19, 24, 25, 26] [153, 156, 157] ph ph2 → Q (.inl none, ph2, g)) (hQ1 : ∀ ph2, hMN zs ph2 (prF c k (sc, stg, ou, st, pl, es, vl)).1 → (prF c k (sc, stg, ou, st, pl, es, vl)).2 ≠ 0 → hFM [20, 22] [154] ph ph2 → hMx ph2 (prF c k (sc, stg, ou, st, pl, es, vl)).2 (ip ++ [place]) → Q (.inl none, ph2, g)) : xTC (d + 1) 198 [.inr (.inl (some 147)), .inl c, .inl 2, .inl (place : Int)] ph g Q := by
  obtain ⟨z1, z2, z3, z4, z5, z6, z7, z8⟩ := hSzM
  obtain ⟨hs, ⟨h1, h2, h3⟩, ⟨h4, h5, h6⟩, ⟨h7, h8, h9⟩, h10, h11, h12, h13, h14, h15⟩ := id h
  simp only at h1 h2 h3 h4 h5 h6 h7 h8 h9 h10 h11 h12 h13 h14 h15
  refine tEn (ls := [some (.inr (.inl (some 147))), some (.inl c), some (.inl 2), some (.inl (place : Int)), none]) (fun k => by match k with | 0 => rfl | 1 => rfl | 2 => rfl | 3 => rfl | 4 => rfl | k + 5 => rfl) ?_
  cases stg with
  | cons t ts =>
    simp only [List.length_cons] at h4 h5
    obtain ⟨⟨a1, a2, a3⟩, a4⟩ := h6
    have e31 : hRd ph 147 31 - 1 = (ts.length : Int) := by omega
    by_cases hl : t.length = 24
    · refine tK (l := xk_198) rfl rfl (fun _ _ _ _ _ => rfl) ?_
      refine tK (l := xk_198) rfl rfl (hGetI hs rfl rfl rfl (by decide) (by decide)) ?_
      refine tIf_le (l := xk_198) (pc' := 66) rfl rfl rfl (fun hc => ?_) (fun hc => ?_)
      · refine tK (l := xk_198) rfl rfl (fun _ _ _ _ _ => rfl) ?_
        refine tK (l := xk_198) rfl rfl (hGetI hs rfl rfl rfl (by decide) (by decide)) ?_
        refine tK (l := xk_198) rfl rfl (fun _ _ _ _ _ => rfl) ?_
        refine tK (l := xk_198) rfl rfl (hSub ⟨by omega, by omega⟩) ?_
        rw [e31]
        refine tSt (l := xk_198) rfl rfl (fun _ _ _ _ _ => rfl) (Nat.le_of_ble_eq_true rfl) ?_
        refine tK (l := xk_198) rfl rfl (fun _ _ _ _ _ => rfl) ?_
        refine tK (l := xk_198) rfl rfl (hGetR (o := some 156) hs rfl rfl rfl (by decide) (by decide) rfl) ?_
        refine tK (l := xk_198) rfl rfl (fun _ _ _ _ _ => rfl) ?_
        first | refine tK (l := xk_198) rfl rfl (hIaldN hs rfl rfl (by omega)) ?_ | refine tK (l := xk_198) rfl rfl (hIald hs rfl (by omega) (by omega)) ?_
        rw [a1]
        refine tK (l := xk_198) rfl rfl (fun _ _ _ _ _ => rfl) ?_
        refine tIc_ne (l := xk_198) (pc' := 35) rfl rfl rfl (fun hc => ?_) (fun hc => ?_)
        · refine tK (l := xk_198) rfl rfl (fun _ _ _ _ _ => rfl) ?_
          refine tK (l := xk_198) rfl rfl (fun _ _ _ _ _ => rfl) ?_
          refine tK (l := xk_198) rfl rfl (fun _ _ _ _ _ => rfl) ?_
          refine tCa (l := xk_198) rfl rfl (hInvV (c := 10) hs rfl rfl rfl rfl rfl (Nat.le_of_ble_eq_true rfl) (Nat.le_of_ble_eq_true rfl)) ?_
          refine s194 (why := 6) (ip := ip) hs hi (fun ph2 hs2 f2 hx2 => ?_)
          refine tKn ?_
          refine tRt (l := xk_198) rfl rfl (fun _ _ _ _ _ => rfl) ?_
          simp only [prF, if_pos hl] at hQ1
          exact hQ1 ph2 (h.fr hs2 f2) (by decide) f2 hx2
        · exfalso; omega
      · exfalso; omega
    · refine tK (l := xk_198) rfl rfl (fun _ _ _ _ _ => rfl) ?_
      refine tK (l := xk_198) rfl rfl (hGetI hs rfl rfl rfl (by decide) (by decide)) ?_
      refine tIf_le (l := xk_198) (pc' := 66) rfl rfl rfl (fun hc => ?_) (fun hc => ?_)
      · refine tK (l := xk_198) rfl rfl (fun _ _ _ _ _ => rfl) ?_
        refine tK (l := xk_198) rfl rfl (hGetI hs rfl rfl rfl (by decide) (by decide)) ?_
        refine tK (l := xk_198) rfl rfl (fun _ _ _ _ _ => rfl) ?_
        refine tK (l := xk_198) rfl rfl (hSub ⟨by omega, by omega⟩) ?_
        rw [e31]
        refine tSt (l := xk_198) rfl rfl (fun _ _ _ _ _ => rfl) (Nat.le_of_ble_eq_true rfl) ?_
        refine tK (l := xk_198) rfl rfl (fun _ _ _ _ _ => rfl) ?_
        refine tK (l := xk_198) rfl rfl (hGetR (o := some 156) hs rfl rfl rfl (by decide) (by decide) rfl) ?_
        refine tK (l := xk_198) rfl rfl (fun _ _ _ _ _ => rfl) ?_
        first | refine tK (l := xk_198) rfl rfl (hIaldN hs rfl rfl (by omega)) ?_ | refine tK (l := xk_198) rfl rfl (hIald hs rfl (by omega) (by omega)) ?_
        rw [a1]
        refine tK (l := xk_198) rfl rfl (fun _ _ _ _ _ => rfl) ?_
        refine tIc_ne (l := xk_198) (pc' := 35) rfl rfl rfl (fun hc => ?_) (fun hc => ?_)
        · exfalso; omega
        · refine tK (l := xk_198) rfl rfl (fun _ _ _ _ _ => rfl) ?_
          refine tK (l := xk_198) rfl rfl (hGetR (o := some 157) hs rfl rfl rfl (by decide) (by decide) rfl) ?_
          refine tK (l := xk_198) rfl rfl (fun _ _ _ _ _ => rfl) ?_
          refine tK (l := xk_198) rfl rfl (fun _ _ _ _ _ => rfl) ?_
          refine tK (l := xk_198) rfl rfl (hMul ⟨by omega, by omega⟩) ?_
          refine tK (l := xk_198) rfl rfl (fun _ _ _ _ _ => rfl) ?_
          refine tK (l := xk_198) rfl rfl (hGetR (o := some 156) hs rfl rfl rfl (by decide) (by decide) rfl) ?_
          refine tK (l := xk_198) rfl rfl (fun _ _ _ _ _ => rfl) ?_
          first | refine tK (l := xk_198) rfl rfl (hIaldN hs rfl rfl (by omega)) ?_ | refine tK (l := xk_198) rfl rfl (hIald hs rfl (by omega) (by omega)) ?_
          rw [a1]
          have e24 : (24 : Int) * (ts.length : Int) + (t.length : Int) = ((24 * ts.length + t.length : Nat) : Int) := by omega
          refine tK (l := xk_198) rfl rfl (hAdd ⟨by omega, by omega⟩) ?_
          rw [e24]
          refine tK (l := xk_198) rfl rfl (fun _ _ _ _ _ => rfl) ?_
          first | refine tK (l := xk_198) rfl rfl (hIastN hs rfl rfl (by omega)) ?_ | refine tK (l := xk_198) rfl rfl (hIast hs rfl (by omega) (by omega)) ?_
          have u1 : hSh zs (hUp ph 157 (24 * ts.length + t.length) c) := hShI1 _ hs rfl rfl
          have rd1 := hRd_up (x := c) hs (show hKi (hTg 157) (24 * ts.length + t.length) = true from rfl) (by omega)
          have b1 : hRd (hUp ph 157 (24 * ts.length + t.length) c) 156 ts.length = (t.length : Int) := by rw [rd1, if_neg (by omega)]; exact a1
          refine tK (l := xk_198) rfl rfl (fun _ _ _ _ _ => rfl) ?_
          refine tK (l := xk_198) rfl rfl (hGetR (o := some 156) (hShI1 _ hs rfl rfl) rfl rfl rfl (by decide) (by decide) rfl) ?_
          refine tK (l := xk_198) rfl rfl (fun _ _ _ _ _ => rfl) ?_
          refine tK (l := xk_198) rfl rfl (fun _ _ _ _ _ => rfl) ?_
          first | refine tK (l := xk_198) rfl rfl (hIaldN (hShI1 _ hs rfl rfl) rfl rfl (by omega)) ?_ | refine tK (l := xk_198) rfl rfl (hIald (hShI1 _ hs rfl rfl) rfl (by omega) (by omega)) ?_
          rw [b1]
          refine tK (l := xk_198) rfl rfl (fun _ _ _ _ _ => rfl) ?_
          refine tK (l := xk_198) rfl rfl (hAdd ⟨by omega, by omega⟩) ?_
          first | refine tK (l := xk_198) rfl rfl (hIastN (hShI1 _ hs rfl rfl) rfl rfl (by omega)) ?_ | refine tK (l := xk_198) rfl rfl (hIast (hShI1 _ hs rfl rfl) rfl (by omega) (by omega)) ?_
          refine tRt (l := xk_198) rfl rfl (fun _ _ _ _ _ => rfl) ?_
          simp only [prF, if_neg hl] at hQ0
          have rd2 := hRd_up (x := (t.length : Int) + 1) u1 (show hKi (hTg 156) ts.length = true from rfl) (by omega)
          have f2 : hFM [19, 24, 25, 26] [153, 156, 157] ph (hUp (hUp ph 157 (24 * ts.length + t.length) c) 156 ts.length ((t.length : Int) + 1)) := (hFM_a hs rfl (by omega) (by decide) (by decide)).trans (hFM_a u1 rfl (by omega) (by decide) (by decide))
          refine hQ0 _ ⟨(hShI1 _ (hShI1 _ hs rfl rfl) rfl rfl), ⟨by rw [rd2, if_neg (by omega), rd1, if_neg (by omega)]; exact h1, h2, h3.eq (fun j _ => by rw [rd2, if_neg (by omega), rd1, if_neg (by omega)])⟩, ⟨by rw [rd2, if_neg (by omega), rd1, if_neg (by omega)]; simp only [List.length_cons]; exact h4, by simp only [List.length_cons]; omega, ⟨⟨by rw [rd2, if_pos ⟨rfl, rfl⟩]; simp, by simp; omega, fun i c2 hi2 => ?_⟩, a4.eq (fun j hj => by rw [rd2, if_neg (by omega), rd1, if_neg (by omega)]) (fun j hj => by rw [rd2, if_neg (by omega), rd1, if_neg (by omega)])⟩⟩, ⟨by rw [rd2, if_neg (by omega), rd1, if_neg (by omega)]; exact h7, h8, fun i c2 hi2 => by rw [rd2, if_neg (by omega), rd1, if_neg (by omega)]; exact h9 i c2 hi2⟩, by rw [rd2, if_neg (by omega), rd1, if_neg (by omega)]; exact h10, h11, by rw [rd2, if_neg (by omega), rd1, if_neg (by omega)]; exact h12, by rw [rd2, if_neg (by omega), rd1, if_neg (by omega)]; exact h13, by rw [rd2, if_neg (by omega), rd1, if_neg (by omega)]; exact h14, h15⟩ (by first | rfl | trivial) f2
          rw [rd2, if_neg (by omega), rd1]
          by_cases hil : i < t.length
          · rw [List.getElem?_append_left hil] at hi2
            rw [if_neg (by omega)]
            exact a3 i c2 hi2
          · rw [List.getElem?_append_right (by omega)] at hi2
            have hk9 := (List.getElem?_eq_some_iff.mp hi2).1
            simp only [List.length_cons, List.length_nil] at hk9
            rw [show i - t.length = 0 by omega] at hi2
            simp only [List.getElem?_cons_zero, Option.some.injEq] at hi2
            rw [if_pos ⟨rfl, by omega⟩, hi2]
      · exfalso; omega
  | nil =>
    have h4 : hRd ph 147 31 = 0 := h4
    by_cases hl : ou.length = 200
    · refine tK (l := xk_198) rfl rfl (fun _ _ _ _ _ => rfl) ?_
      refine tK (l := xk_198) rfl rfl (hGetI hs rfl rfl rfl (by decide) (by decide)) ?_
      refine tIf_le (l := xk_198) (pc' := 66) rfl rfl rfl (fun hc => ?_) (fun hc => ?_)
      · exfalso; omega
      · refine tK (l := xk_198) rfl rfl (fun _ _ _ _ _ => rfl) ?_
        refine tK (l := xk_198) rfl rfl (hGetI hs rfl rfl rfl (by decide) (by decide)) ?_
        rw [h7]
        refine tK (l := xk_198) rfl rfl (fun _ _ _ _ _ => rfl) ?_
        refine tIc_ne (l := xk_198) (pc' := 83) rfl rfl rfl (fun hc => ?_) (fun hc => ?_)
        · refine tK (l := xk_198) rfl rfl (fun _ _ _ _ _ => rfl) ?_
          refine tK (l := xk_198) rfl rfl (fun _ _ _ _ _ => rfl) ?_
          refine tK (l := xk_198) rfl rfl (fun _ _ _ _ _ => rfl) ?_
          refine tCa (l := xk_198) rfl rfl (hInvV (c := 10) hs rfl rfl rfl rfl rfl (Nat.le_of_ble_eq_true rfl) (Nat.le_of_ble_eq_true rfl)) ?_
          refine s194 (why := 2) (ip := ip) hs hi (fun ph2 hs2 f2 hx2 => ?_)
          refine tKn ?_
          refine tRt (l := xk_198) rfl rfl (fun _ _ _ _ _ => rfl) ?_
          simp only [prF, if_pos hl] at hQ1
          exact hQ1 ph2 (h.fr hs2 f2) (by decide) f2 hx2
        · exfalso; omega
    · refine tK (l := xk_198) rfl rfl (fun _ _ _ _ _ => rfl) ?_
      refine tK (l := xk_198) rfl rfl (hGetI hs rfl rfl rfl (by decide) (by decide)) ?_
      refine tIf_le (l := xk_198) (pc' := 66) rfl rfl rfl (fun hc => ?_) (fun hc => ?_)
      · exfalso; omega
      · refine tK (l := xk_198) rfl rfl (fun _ _ _ _ _ => rfl) ?_
        refine tK (l := xk_198) rfl rfl (hGetI hs rfl rfl rfl (by decide) (by decide)) ?_
        rw [h7]
        refine tK (l := xk_198) rfl rfl (fun _ _ _ _ _ => rfl) ?_
        refine tIc_ne (l := xk_198) (pc' := 83) rfl rfl rfl (fun hc => ?_) (fun hc => ?_)
        · exfalso; omega
        · refine tK (l := xk_198) rfl rfl (fun _ _ _ _ _ => rfl) ?_
          refine tK (l := xk_198) rfl rfl (hGetR (o := some 153) hs rfl rfl rfl (by decide) (by decide) rfl) ?_
          refine tK (l := xk_198) rfl rfl (fun _ _ _ _ _ => rfl) ?_
          refine tK (l := xk_198) rfl rfl (hGetI hs rfl rfl rfl (by decide) (by decide)) ?_
          rw [h7]
          refine tK (l := xk_198) rfl rfl (fun _ _ _ _ _ => rfl) ?_
          first | refine tK (l := xk_198) rfl rfl (hIastN hs rfl rfl (by omega)) ?_ | refine tK (l := xk_198) rfl rfl (hIast hs rfl (by omega) (by omega)) ?_
          have u1 : hSh zs (hUp ph 153 ou.length c) := hShI1 _ hs rfl rfl
          have rd1 := hRd_up (x := c) hs (show hKi (hTg 153) ou.length = true from rfl) (by omega)
          have b19 : hRd (hUp ph 153 ou.length c) 147 19 = (ou.length : Int) := by rw [rd1, if_neg (by omega)]; exact h7
          refine tK (l := xk_198) rfl rfl (fun _ _ _ _ _ => rfl) ?_
          refine tK (l := xk_198) rfl rfl (fun _ _ _ _ _ => rfl) ?_
          refine tK (l := xk_198) rfl rfl (hGetI (hShI1 _ hs rfl rfl) rfl rfl rfl (by decide) (by decide)) ?_
          rw [b19]
          refine tK (l := xk_198) rfl rfl (fun _ _ _ _ _ => rfl) ?_
          refine tK (l := xk_198) rfl rfl (hAdd ⟨by omega, by omega⟩) ?_
          refine tK (l := xk_198) rfl rfl (hPutV (hShI1 _ hs rfl rfl) rfl rfl (by decide) (by decide) rfl) ?_
          have u2 : hSh zs (hUp (hUp ph 153 ou.length c) 147 19 ((ou.length : Int) + 1)) := hShI1 _ u1 rfl rfl
          have rd2 := hRd_up (x := (ou.length : Int) + 1) u1 (show hKi (hTg 147) 19 = true from rfl) (by decide)
          have b24 : hRd (hUp (hUp ph 153 ou.length c) 147 19 ((ou.length : Int) + 1)) 147 24 = (pl : Int) := by rw [rd2, if_neg (by omega), rd1, if_neg (by omega)]; exact h12
          refine tK (l := xk_198) rfl rfl (fun _ _ _ _ _ => rfl) ?_
          refine tK (l := xk_198) rfl rfl (fun _ _ _ _ _ => rfl) ?_
          refine tK (l := xk_198) rfl rfl (hGetI (hShI1 _ (hShI1 _ hs rfl rfl) rfl rfl) rfl rfl rfl (by decide) (by decide)) ?_
          rw [b24]
          refine tK (l := xk_198) rfl rfl (fun _ _ _ _ _ => rfl) ?_
          refine tIf_ne (l := xk_198) (pc' := 116) rfl rfl rfl (fun hc => ?_) (fun hc => ?_)
          · exact absurd hc (by decide)
          · refine tK (l := xk_198) rfl rfl (fun _ _ _ _ _ => rfl) ?_
            refine tK (l := xk_198) rfl rfl (hAdd ⟨by omega, by omega⟩) ?_
            refine tK (l := xk_198) rfl rfl (hPutV (hShI1 _ (hShI1 _ hs rfl rfl) rfl rfl) rfl rfl (by decide) (by decide) rfl) ?_
            have u3 : hSh zs (hUp (hUp (hUp ph 153 ou.length c) 147 19 ((ou.length : Int) + 1)) 147 24 ((pl : Int) + 0)) := hShI1 _ u2 rfl rfl
            have rd3 := hRd_up (x := (pl : Int) + 0) u2 (show hKi (hTg 147) 24 = true from rfl) (by decide)
            have b25 : hRd (hUp (hUp (hUp ph 153 ou.length c) 147 19 ((ou.length : Int) + 1)) 147 24 ((pl : Int) + 0)) 147 25 = (es : Int) := by rw [rd3, if_neg (by omega), rd2, if_neg (by omega), rd1, if_neg (by omega)]; exact h13
            refine tK (l := xk_198) rfl rfl (fun _ _ _ _ _ => rfl) ?_
            refine tK (l := xk_198) rfl rfl (fun _ _ _ _ _ => rfl) ?_
            refine tK (l := xk_198) rfl rfl (hGetI (hShI1 _ (hShI1 _ (hShI1 _ hs rfl rfl) rfl rfl) rfl rfl) rfl rfl rfl (by decide) (by decide)) ?_
            rw [b25]
            refine tK (l := xk_198) rfl rfl (fun _ _ _ _ _ => rfl) ?_
            refine tK (l := xk_198) rfl rfl (fun _ _ _ _ _ => rfl) ?_
            refine tIc_ne (l := xk_198) (pc' := 135) rfl rfl rfl (fun hc => ?_) (fun hc => ?_)
            · exact absurd hc (by decide)
            · refine tK (l := xk_198) rfl rfl (fun _ _ _ _ _ => rfl) ?_
              refine tK (l := xk_198) rfl rfl (hAdd ⟨by omega, by omega⟩) ?_
              refine tK (l := xk_198) rfl rfl (hPutV (hShI1 _ (hShI1 _ (hShI1 _ hs rfl rfl) rfl rfl) rfl rfl) rfl rfl (by decide) (by decide) rfl) ?_
              have u4 : hSh zs (hUp (hUp (hUp (hUp ph 153 ou.length c) 147 19 ((ou.length : Int) + 1)) 147 24 ((pl : Int) + 0)) 147 25 ((es : Int) + 0)) := hShI1 _ u3 rfl rfl
              have rd4 := hRd_up (x := (es : Int) + 0) u3 (show hKi (hTg 147) 25 = true from rfl) (by decide)
              have b26 : hRd (hUp (hUp (hUp (hUp ph 153 ou.length c) 147 19 ((ou.length : Int) + 1)) 147 24 ((pl : Int) + 0)) 147 25 ((es : Int) + 0)) 147 26 = (vl : Int) := by rw [rd4, if_neg (by omega), rd3, if_neg (by omega), rd2, if_neg (by omega), rd1, if_neg (by omega)]; exact h14
              refine tK (l := xk_198) rfl rfl (fun _ _ _ _ _ => rfl) ?_
              refine tK (l := xk_198) rfl rfl (fun _ _ _ _ _ => rfl) ?_
              refine tK (l := xk_198) rfl rfl (hGetI (hShI1 _ (hShI1 _ (hShI1 _ (hShI1 _ hs rfl rfl) rfl rfl) rfl rfl) rfl rfl) rfl rfl rfl (by decide) (by decide)) ?_
              rw [b26]
              refine tK (l := xk_198) rfl rfl (fun _ _ _ _ _ => rfl) ?_
              refine tK (l := xk_198) rfl rfl (fun _ _ _ _ _ => rfl) ?_
              refine tIc_ne (l := xk_198) (pc' := 154) rfl rfl rfl (fun hc => ?_) (fun hc => ?_)
              · refine tK (l := xk_198) rfl rfl (fun _ _ _ _ _ => rfl) ?_
                refine tK (l := xk_198) rfl rfl (fun _ _ _ _ _ => rfl) ?_
                refine tK (l := xk_198) rfl rfl (hAdd ⟨by omega, by omega⟩) ?_
                refine tK (l := xk_198) rfl rfl (hPutV (hShI1 _ (hShI1 _ (hShI1 _ (hShI1 _ hs rfl rfl) rfl rfl) rfl rfl) rfl rfl) rfl rfl (by decide) (by decide) rfl) ?_
                refine tRt (l := xk_198) rfl rfl (fun _ _ _ _ _ => rfl) ?_
                simp only [prF, if_neg hl, if_neg hk0, if_neg hk1] at hQ0
                have rd5 := hRd_up (x := (vl : Int) + 1) u4 (show hKi (hTg 147) 26 = true from rfl) (by decide)
                have f2 : hFM [19, 24, 25, 26] [153, 156, 157] ph (hUp (hUp (hUp (hUp (hUp ph 153 ou.length c) 147 19 ((ou.length : Int) + 1)) 147 24 ((pl : Int) + 0)) 147 25 ((es : Int) + 0)) 147 26 ((vl : Int) + 1)) := ((((hFM_a hs rfl (by omega) (by decide) (by decide)).trans (hFM_f u1 rfl (by decide) (by decide))).trans (hFM_f u2 rfl (by decide) (by decide))).trans (hFM_f u3 rfl (by decide) (by decide))).trans (hFM_f u4 rfl (by decide) (by decide))
                refine hQ0 (hUp (hUp (hUp (hUp (hUp ph 153 ou.length c) 147 19 ((ou.length : Int) + 1)) 147 24 ((pl : Int) + 0)) 147 25 ((es : Int) + 0)) 147 26 ((vl : Int) + 1)) ⟨(hShI1 _ (hShI1 _ (hShI1 _ (hShI1 _ (hShI1 _ hs rfl rfl) rfl rfl) rfl rfl) rfl rfl) rfl rfl), ⟨by rw [rd5, if_neg (by omega), rd4, if_neg (by omega), rd3, if_neg (by omega), rd2, if_neg (by omega), rd1, if_neg (by omega)]; exact h1, h2, h3.eq (fun j _ => by rw [rd5, if_neg (by omega), rd4, if_neg (by omega), rd3, if_neg (by omega), rd2, if_neg (by omega), rd1, if_neg (by omega)])⟩, ⟨by rw [rd5, if_neg (by omega), rd4, if_neg (by omega), rd3, if_neg (by omega), rd2, if_neg (by omega), rd1, if_neg (by omega)]; exact h4, h5, trivial⟩, ⟨by rw [rd5, if_neg (by omega), rd4, if_neg (by omega), rd3, if_neg (by omega), rd2, if_pos ⟨rfl, rfl⟩]; simp, by simp; omega, fun i c2 hi2 => ?_⟩, by rw [rd5, if_neg (by omega), rd4, if_neg (by omega), rd3, if_neg (by omega), rd2, if_neg (by omega), rd1, if_neg (by omega)]; exact h10, h11, by rw [rd5, if_neg (by omega), rd4, if_neg (by omega), rd3, if_pos ⟨rfl, rfl⟩]; exact Int.add_zero _, by rw [rd5, if_neg (by omega), rd4, if_pos ⟨rfl, rfl⟩]; exact Int.add_zero _, by rw [rd5, if_pos ⟨rfl, rfl⟩]; push_cast; rfl, by simp; omega⟩ (by first | rfl | trivial) f2
                rw [rd5, if_neg (by omega), rd4, if_neg (by omega), rd3, if_neg (by omega), rd2, if_neg (by omega), rd1]
                by_cases hil : i < ou.length
                · rw [List.getElem?_append_left hil] at hi2
                  rw [if_neg (by omega)]
                  exact h9 i c2 hi2
                · rw [List.getElem?_append_right (by omega)] at hi2
                  have hk9 := (List.getElem?_eq_some_iff.mp hi2).1
                  simp only [List.length_cons, List.length_nil] at hk9
                  rw [show i - ou.length = 0 by omega] at hi2
                  simp only [List.getElem?_cons_zero, Option.some.injEq] at hi2
                  rw [if_pos ⟨rfl, by omega⟩, hi2]
              · exact absurd rfl hc
end MGR
