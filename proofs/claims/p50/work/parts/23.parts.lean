/-! ===== Template.readFrom and what it tells ===== -/
theorem hTpt {T t : Nat} (ht : hTg T = 7) (htt : hTg t = 8) : t + 1 ∉ tS T ∧ t + 2 ∉ tS T := by
  have h0 := hTg_all (fun a => decide (hTg a = 7 → 8 ≤ a) && (List.range 7).all (fun j => decide (hTg a = 7 → hTg (a + j - 2) ≠ 8 ∧ hTg (a + j - 1) ≠ 8))) (by decide +kernel) (hTg_in (by omega : hTg T < 104)).2
  rw [Bool.and_eq_true] at h0
  have h : 8 ≤ T ∧ ∀ j, j < 7 → hTg (T + j - 2) ≠ 8 ∧ hTg (T + j - 1) ≠ 8 := ⟨of_decide_eq_true h0.1 ht, fun j hj => of_decide_eq_true (List.all_eq_true.mp h0.2 j (List.mem_range.mpr hj)) ht⟩
  have k1 : ∀ j, j < 7 → t + 1 ≠ T + j := fun j hj e => by
    have h2 := (h.2 j hj).2
    have e2 : T + j - 1 = t := by omega
    rw [e2] at h2
    exact h2 htt
  have k2 : ∀ j, j < 7 → t + 2 ≠ T + j := fun j hj e => by
    have h2 := (h.2 j hj).1
    have e2 : T + j - 2 = t := by omega
    rw [e2] at h2
    exact h2 htt
  refine ⟨fun h2 => ?_, fun h2 => ?_⟩ <;> simp only [tS, List.mem_cons, List.not_mem_nil, or_false] at h2
  · rcases h2 with h2 | h2 | h2 | h2 | h2 | h2 | h2
    · exact k1 0 (by decide) h2
    · exact k1 1 (by decide) h2
    · exact k1 2 (by decide) h2
    · exact k1 3 (by decide) h2
    · exact k1 4 (by decide) h2
    · exact k1 5 (by decide) h2
    · exact k1 6 (by decide) h2
  · rcases h2 with h2 | h2 | h2 | h2 | h2 | h2 | h2
    · exact k2 0 (by decide) h2
    · exact k2 1 (by decide) h2
    · exact k2 2 (by decide) h2
    · exact k2 3 (by decide) h2
    · exact k2 4 (by decide) h2
    · exact k2 5 (by decide) h2
    · exact k2 6 (by decide) h2
theorem pAll_in : ∀ (l : List Int) (i : Nat) (s : PSt), pIn i s → (∀ j s2, pAll i l s = (j, some s2) → j = i + l.length ∧ pIn j s2) ∧ (∀ j, pAll i l s = (j, none) → j < i + l.length) := by
  intro l
  induction l with
  | nil =>
    intro i s h
    refine ⟨fun j s2 e => ?_, fun j e => ?_⟩
    · simp only [pAll, Prod.mk.injEq, Option.some.injEq] at e
      obtain ⟨rfl, rfl⟩ := e
      exact ⟨rfl, h⟩
    · simp [pAll] at e
  | cons c cs ih =>
    intro i s h
    simp only [pAll, List.length_cons]
    cases e : pRd i c s with
    | none =>
      refine ⟨fun j s2 e2 => ?_, fun j e2 => ?_⟩
      · simp at e2
      · simp only [Prod.mk.injEq, and_true] at e2
        omega
    | some s2 =>
      obtain ⟨q1, q2⟩ := ih (i + 1) s2 (pRd_in h e)
      refine ⟨fun j s3 e2 => ?_, fun j e2 => ?_⟩
      · have := q1 j s3 e2
        exact ⟨by omega, this.2⟩
      · have := q2 j e2
        omega
theorem pIn0 : pIn 0 (0, [], [], 0) := ⟨Nat.le_refl _, Nat.le_refl _, fun p hp => absurd hp (by simp), Nat.zero_le _, fun q => absurd rfl q, Nat.le_refl _⟩
theorem pRes_some {t : List Int} {s : PSt} (h : (pRes t).2 = some s) : (pRes t).1 = t.length ∧ pIn t.length s := by
  have h2 := (pAll_in t 0 _ pIn0).1 (pRes t).1 s (by rw [← h]; rfl)
  have e : (pRes t).1 = t.length := by omega
  rw [e] at h2
  exact ⟨e, h2.2⟩
theorem pRes_none {t : List Int} (h : (pRes t).2 = none) : (pRes t).1 < t.length := by
  have h2 := (pAll_in t 0 _ pIn0).2 (pRes t).1 (by rw [← h]; rfl)
  omega
theorem pWh_iff {t : List Int} : pWh t = true ↔ ∃ ps mo, (pRes t).2 = some (0, ps, [], mo) := by
  unfold pWh
  constructor
  · intro h
    split at h
    · rename_i ps mo e
      exact ⟨ps, mo, e⟩
    · cases h
  · rintro ⟨ps, mo, e⟩
    rw [e]
    rfl
def hRes (zs : List xV) (ph : xH) (T : Nat) (txt : List Int) : Prop := hSh zs ph ∧ hRd ph T 12 = ((pRes txt).1 : Int) ∧ hRd ph T 13 = (txt.length : Int) ∧ ∀ s, (pRes txt).2 = some s → hTp zs ph T s
def hPp (ph : xH) (T : Nat) (ps : List PP) : Prop := hRd ph T 8 = (ps.length : Int) ∧ ps.length ≤ 60 ∧ ∀ (i : Nat) (p : PP), ps[i]? = some p → hRd ph (T + 1) i = (p.1 : Int) ∧ hRd ph (T + 2) i = (p.2.1 : Int) ∧ hRd ph (T + 3) i = p.2.2.1 ∧ (2 ≤ p.1 → hRd ph (T + 4) i = (p.2.2.2.1 : Int)) ∧ hRd ph (T + 5) i = (p.2.2.2.2 : Int)
def pDp (t : List Int) : Nat := match (pRes t).2 with
  | some s => if s.2.1.length = 0 then 0 else s.2.2.2 + 1
  | none => 0
theorem hPp.fr {S : List Nat} {ph ph2 : xH} {T : Nat} {ps : List PP} (h : hPp ph T ps) (hf : hFr S ph ph2) (hS : ∀ a ∈ tS T, a ∉ S) : hPp ph2 T ps := by
  have k : ∀ a ∈ tS T, ∀ j, hRd ph2 a j = hRd ph a j := fun a ha j => hf.1 a j (hS a ha)
  refine ⟨by rw [k T (by simp [tS])]; exact h.1, h.2.1, fun i p hp => ?_⟩
  rw [k (T + 1) (by simp [tS]), k (T + 2) (by simp [tS]), k (T + 3) (by simp [tS]), k (T + 4) (by simp [tS]), k (T + 5) (by simp [tS])]
  exact h.2.2 i p hp
theorem hRes.pp {zs : List xV} {ph : xH} {T : Nat} {txt : List Int} (h : hRes zs ph T txt) (hw : pWh txt = true) (hl : txt.length ≤ 60) : hPp ph T (pPs txt) := by
  obtain ⟨ps, mo, e⟩ := pWh_iff.mp hw
  have h2 := h.2.2.2 _ e
  have h3 := (pRes_some e).2
  obtain ⟨i1, -⟩ := h3
  obtain ⟨hs, h8, h9, h10, h11, hA, hM, hO⟩ := h2
  simp only at i1 h8 h9 h10 h11 hA hM hO
  have ep : pPs txt = ps := by unfold pPs; rw [e]
  rw [ep]
  refine ⟨h8, by omega, fun i p hp => ?_⟩
  obtain ⟨a1, a2, a3, a5⟩ := hA i p hp
  exact ⟨a1, a2, a3, fun hk => hM i p hp hk (fun _ => ⟨by omega, by omega⟩), a5⟩
def oi (x y : Int) : Int := (Int32.ofInt x ||| Int32.ofInt y).toInt
def sl (n : Int) : Int := (Int32.ofInt 1 <<< (Int32.ofInt n &&& 31)).toInt
def mkU : List PP → Int → Int
  | [], m => m
  | p :: ps, m => mkU ps (if p.1 = 0 ∨ p.1 = 1 then m else oi m (sl (p.2.2.2.1 : Int)))
def mkG : List PP → Int → Int
  | [], m => m
  | p :: ps, m => mkG ps (if p.1 = 7 then oi m (sl (p.2.2.2.1 : Int)) else m)
def mkL : List PP → Nat → Nat
  | [], m => m
  | p :: ps, m => mkL ps (if p.1 = 5 then m + 1 else m)
section TPR
variable {d : Nat} {ph : xH} {zs : List xV} {g : Nat} {Q : xR → Prop} {T : Nat} {ps : List PP}
theorem s61 (hs : hSh zs ph) (ht : hTg T = 7) (hQ : Q (.inl (some (.inl (hRd ph T 12))), ph, g)) : xTC d 61 [.inr (.inl (some T))] ph g Q := by
  refine tEn (ls := [some (.inr (.inl (some T)))]) (fun k => by match k with | 0 => rfl | k + 1 => rfl) ?_
  refine tK (l := xk_61) rfl rfl (fun _ _ _ _ _ => rfl) ?_
  refine tK (l := xk_61) rfl rfl (hGetI hs rfl ht rfl (by decide) (by decide)) ?_
  refine tRt (l := xk_61) rfl rfl (fun _ _ _ _ _ => rfl) ?_
  exact hQ
theorem s63 (hs : hSh zs ph) (ht : hTg T = 7) (hQ : Q (.inl (some (.inl (hRd ph T 8))), ph, g)) : xTC d 63 [.inr (.inl (some T))] ph g Q := by
  refine tEn (ls := [some (.inr (.inl (some T)))]) (fun k => by match k with | 0 => rfl | k + 1 => rfl) ?_
  refine tK (l := xk_63) rfl rfl (fun _ _ _ _ _ => rfl) ?_
  refine tK (l := xk_63) rfl rfl (hGetI hs rfl ht rfl (by decide) (by decide)) ?_
  refine tRt (l := xk_63) rfl rfl (fun _ _ _ _ _ => rfl) ?_
  exact hQ
theorem s64 {j : Nat} {p : PP} (hs : hSh zs ph) (ht : hTg T = 7) (h : hPp ph T ps) (hp : ps[j]? = some p) (hQ : Q (.inl (some (.inl (p.1 : Int))), ph, g)) : xTC d 64 [.inr (.inl (some T)), .inl (j : Int)] ph g Q := by
  have hz := hTp_sz ht
  have hj := (List.getElem?_eq_some_iff.mp hp).1
  have hl := h.2.1
  obtain ⟨a1, a2, a3, a4, a5⟩ := h.2.2 j p hp
  refine tEn (ls := [some (.inr (.inl (some T))), some (.inl (j : Int))]) (fun k => by match k with | 0 => rfl | 1 => rfl | k + 2 => rfl) ?_
  refine tK (l := xk_64) rfl rfl (fun _ _ _ _ _ => rfl) ?_
  refine tIf_lt (l := xk_64) (pc' := 22) rfl rfl rfl (fun hc => ?_) (fun hc => ?_)
  · exfalso; omega
  · refine tK (l := xk_64) rfl rfl (fun _ _ _ _ _ => rfl) ?_
    refine tK (l := xk_64) rfl rfl (fun _ _ _ _ _ => rfl) ?_
    refine tK (l := xk_64) rfl rfl (hGetR (o := some (T + 1)) hs rfl ht rfl (by decide) (by decide) (hrf_7_2 ht)) ?_
    refine tK (l := xk_64) rfl rfl (hAlen1 hs (htg_7_2 ht) (by decide) (by decide)) ?_
    refine tIc_ge (l := xk_64) (pc' := 22) rfl rfl rfl (fun hc => ?_) (fun hc => ?_)
    · refine tK (l := xk_64) rfl rfl (fun _ _ _ _ _ => rfl) ?_
      refine tK (l := xk_64) rfl rfl (hGetR (o := some (T + 1)) hs rfl ht rfl (by decide) (by decide) (hrf_7_2 ht)) ?_
      refine tK (l := xk_64) rfl rfl (fun _ _ _ _ _ => rfl) ?_
      first | refine tK (l := xk_64) rfl rfl (hIaldN hs (htg_7_2 ht) rfl (by omega)) ?_ | refine tK (l := xk_64) rfl rfl (hIald hs (htg_7_2 ht) (by omega) (by omega)) ?_
      refine tK (l := xk_64) rfl rfl (fun _ _ _ _ _ => rfl) ?_
      refine tRt (l := xk_64) rfl rfl (fun _ _ _ _ _ => rfl) ?_
      rw [a1]
      exact hQ
    · exfalso; omega
theorem s66 {j : Nat} {p : PP} (hs : hSh zs ph) (ht : hTg T = 7) (h : hPp ph T ps) (hp : ps[j]? = some p) (hQ : Q (.inl (some (.inl (p.2.1 : Int))), ph, g)) : xTC d 66 [.inr (.inl (some T)), .inl (j : Int)] ph g Q := by
  have hz := hTp_sz ht
  have hj := (List.getElem?_eq_some_iff.mp hp).1
  have hl := h.2.1
  obtain ⟨a1, a2, a3, a4, a5⟩ := h.2.2 j p hp
  refine tEn (ls := [some (.inr (.inl (some T))), some (.inl (j : Int))]) (fun k => by match k with | 0 => rfl | 1 => rfl | k + 2 => rfl) ?_
  refine tK (l := xk_66) rfl rfl (fun _ _ _ _ _ => rfl) ?_
  refine tIf_lt (l := xk_66) (pc' := 22) rfl rfl rfl (fun hc => ?_) (fun hc => ?_)
  · exfalso; omega
  · refine tK (l := xk_66) rfl rfl (fun _ _ _ _ _ => rfl) ?_
    refine tK (l := xk_66) rfl rfl (fun _ _ _ _ _ => rfl) ?_
    refine tK (l := xk_66) rfl rfl (hGetR (o := some (T + 2)) hs rfl ht rfl (by decide) (by decide) (hrf_7_3 ht)) ?_
    refine tK (l := xk_66) rfl rfl (hAlen1 hs (htg_7_3 ht) (by decide) (by decide)) ?_
    refine tIc_ge (l := xk_66) (pc' := 22) rfl rfl rfl (fun hc => ?_) (fun hc => ?_)
    · refine tK (l := xk_66) rfl rfl (fun _ _ _ _ _ => rfl) ?_
      refine tK (l := xk_66) rfl rfl (hGetR (o := some (T + 2)) hs rfl ht rfl (by decide) (by decide) (hrf_7_3 ht)) ?_
      refine tK (l := xk_66) rfl rfl (fun _ _ _ _ _ => rfl) ?_
      first | refine tK (l := xk_66) rfl rfl (hIaldN hs (htg_7_3 ht) rfl (by omega)) ?_ | refine tK (l := xk_66) rfl rfl (hIald hs (htg_7_3 ht) (by omega) (by omega)) ?_
      refine tK (l := xk_66) rfl rfl (fun _ _ _ _ _ => rfl) ?_
      refine tRt (l := xk_66) rfl rfl (fun _ _ _ _ _ => rfl) ?_
      rw [a2]
      exact hQ
    · exfalso; omega
theorem s68 {j : Nat} {p : PP} (hs : hSh zs ph) (ht : hTg T = 7) (h : hPp ph T ps) (hp : ps[j]? = some p) (hQ : Q (.inl (some (.inl p.2.2.1)), ph, g)) : xTC d 68 [.inr (.inl (some T)), .inl (j : Int)] ph g Q := by
  have hz := hTp_sz ht
  have hj := (List.getElem?_eq_some_iff.mp hp).1
  have hl := h.2.1
  obtain ⟨a1, a2, a3, a4, a5⟩ := h.2.2 j p hp
  refine tEn (ls := [some (.inr (.inl (some T))), some (.inl (j : Int))]) (fun k => by match k with | 0 => rfl | 1 => rfl | k + 2 => rfl) ?_
  refine tK (l := xk_68) rfl rfl (fun _ _ _ _ _ => rfl) ?_
  refine tIf_lt (l := xk_68) (pc' := 22) rfl rfl rfl (fun hc => ?_) (fun hc => ?_)
  · exfalso; omega
  · refine tK (l := xk_68) rfl rfl (fun _ _ _ _ _ => rfl) ?_
    refine tK (l := xk_68) rfl rfl (fun _ _ _ _ _ => rfl) ?_
    refine tK (l := xk_68) rfl rfl (hGetR (o := some (T + 3)) hs rfl ht rfl (by decide) (by decide) (hrf_7_4 ht)) ?_
    refine tK (l := xk_68) rfl rfl (hAlen1 hs (htg_7_4 ht) (by decide) (by decide)) ?_
    refine tIc_ge (l := xk_68) (pc' := 22) rfl rfl rfl (fun hc => ?_) (fun hc => ?_)
    · refine tK (l := xk_68) rfl rfl (fun _ _ _ _ _ => rfl) ?_
      refine tK (l := xk_68) rfl rfl (hGetR (o := some (T + 3)) hs rfl ht rfl (by decide) (by decide) (hrf_7_4 ht)) ?_
      refine tK (l := xk_68) rfl rfl (fun _ _ _ _ _ => rfl) ?_
      first | refine tK (l := xk_68) rfl rfl (hIaldN hs (htg_7_4 ht) rfl (by omega)) ?_ | refine tK (l := xk_68) rfl rfl (hIald hs (htg_7_4 ht) (by omega) (by omega)) ?_
      refine tK (l := xk_68) rfl rfl (fun _ _ _ _ _ => rfl) ?_
      refine tRt (l := xk_68) rfl rfl (fun _ _ _ _ _ => rfl) ?_
      rw [a3]
      exact hQ
    · exfalso; omega
theorem s65 {j : Nat} {p : PP} (hs : hSh zs ph) (ht : hTg T = 7) (h : hPp ph T ps) (hp : ps[j]? = some p) (hk : 2 ≤ p.1) (hQ : Q (.inl (some (.inl (p.2.2.2.1 : Int))), ph, g)) : xTC d 65 [.inr (.inl (some T)), .inl (j : Int)] ph g Q := by
  have hz := hTp_sz ht
  have hj := (List.getElem?_eq_some_iff.mp hp).1
  have hl := h.2.1
  obtain ⟨a1, a2, a3, a4, a5⟩ := h.2.2 j p hp
  refine tEn (ls := [some (.inr (.inl (some T))), some (.inl (j : Int))]) (fun k => by match k with | 0 => rfl | 1 => rfl | k + 2 => rfl) ?_
  refine tK (l := xk_65) rfl rfl (fun _ _ _ _ _ => rfl) ?_
  refine tIf_lt (l := xk_65) (pc' := 22) rfl rfl rfl (fun hc => ?_) (fun hc => ?_)
  · exfalso; omega
  · refine tK (l := xk_65) rfl rfl (fun _ _ _ _ _ => rfl) ?_
    refine tK (l := xk_65) rfl rfl (fun _ _ _ _ _ => rfl) ?_
    refine tK (l := xk_65) rfl rfl (hGetR (o := some (T + 4)) hs rfl ht rfl (by decide) (by decide) (hrf_7_5 ht)) ?_
    refine tK (l := xk_65) rfl rfl (hAlen1 hs (htg_7_5 ht) (by decide) (by decide)) ?_
    refine tIc_ge (l := xk_65) (pc' := 22) rfl rfl rfl (fun hc => ?_) (fun hc => ?_)
    · refine tK (l := xk_65) rfl rfl (fun _ _ _ _ _ => rfl) ?_
      refine tK (l := xk_65) rfl rfl (hGetR (o := some (T + 4)) hs rfl ht rfl (by decide) (by decide) (hrf_7_5 ht)) ?_
      refine tK (l := xk_65) rfl rfl (fun _ _ _ _ _ => rfl) ?_
      first | refine tK (l := xk_65) rfl rfl (hIaldN hs (htg_7_5 ht) rfl (by omega)) ?_ | refine tK (l := xk_65) rfl rfl (hIald hs (htg_7_5 ht) (by omega) (by omega)) ?_
      refine tK (l := xk_65) rfl rfl (fun _ _ _ _ _ => rfl) ?_
      refine tRt (l := xk_65) rfl rfl (fun _ _ _ _ _ => rfl) ?_
      rw [a4 hk]
      exact hQ
    · exfalso; omega
theorem s67 {j : Nat} {p : PP} (hs : hSh zs ph) (ht : hTg T = 7) (h : hPp ph T ps) (hp : ps[j]? = some p) (hQ : Q (.inl (some (.inl (p.2.2.2.2 : Int))), ph, g)) : xTC d 67 [.inr (.inl (some T)), .inl (j : Int)] ph g Q := by
  have hz := hTp_sz ht
  have hj := (List.getElem?_eq_some_iff.mp hp).1
  have hl := h.2.1
  obtain ⟨a1, a2, a3, a4, a5⟩ := h.2.2 j p hp
  refine tEn (ls := [some (.inr (.inl (some T))), some (.inl (j : Int))]) (fun k => by match k with | 0 => rfl | 1 => rfl | k + 2 => rfl) ?_
  refine tK (l := xk_67) rfl rfl (fun _ _ _ _ _ => rfl) ?_
  refine tIf_lt (l := xk_67) (pc' := 22) rfl rfl rfl (fun hc => ?_) (fun hc => ?_)
  · exfalso; omega
  · refine tK (l := xk_67) rfl rfl (fun _ _ _ _ _ => rfl) ?_
    refine tK (l := xk_67) rfl rfl (fun _ _ _ _ _ => rfl) ?_
    refine tK (l := xk_67) rfl rfl (hGetR (o := some (T + 5)) hs rfl ht rfl (by decide) (by decide) (hrf_7_6 ht)) ?_
    refine tK (l := xk_67) rfl rfl (hAlen1 hs (htg_7_6 ht) (by decide) (by decide)) ?_
    refine tIc_ge (l := xk_67) (pc' := 22) rfl rfl rfl (fun hc => ?_) (fun hc => ?_)
    · refine tK (l := xk_67) rfl rfl (fun _ _ _ _ _ => rfl) ?_
      refine tK (l := xk_67) rfl rfl (hGetR (o := some (T + 5)) hs rfl ht rfl (by decide) (by decide) (hrf_7_6 ht)) ?_
      refine tK (l := xk_67) rfl rfl (fun _ _ _ _ _ => rfl) ?_
      first | refine tK (l := xk_67) rfl rfl (hIaldN hs (htg_7_6 ht) rfl (by omega)) ?_ | refine tK (l := xk_67) rfl rfl (hIald hs (htg_7_6 ht) (by omega) (by omega)) ?_
      refine tK (l := xk_67) rfl rfl (fun _ _ _ _ _ => rfl) ?_
      refine tRt (l := xk_67) rfl rfl (fun _ _ _ _ _ => rfl) ?_
      rw [a5]
      exact hQ
    · exfalso; omega
theorem s69 {txt : List Int} (h : hRes zs ph T txt) (ht : hTg T = 7) (hw : pWh txt = true) (hl : txt.length ≤ 60) (hQ : Q (.inl (some (.inl (pDp txt : Int))), ph, g)) : xTC d 69 [.inr (.inl (some T))] ph g Q := by
  obtain ⟨ps, mo, e⟩ := pWh_iff.mp hw
  have h2 := h.2.2.2 _ e
  have h3 := (pRes_some e).2
  obtain ⟨i1, i2, i3, i4, i5, i6⟩ := h3
  obtain ⟨hs, h8, h9, h10, h11, hA, hM, hO⟩ := h2
  simp only at i1 i6 h8 h9 h10 h11 hA hM hO
  have ep : pDp txt = if ps.length = 0 then 0 else mo + 1 := by unfold pDp; rw [e]
  refine tEn (ls := [some (.inr (.inl (some T)))]) (fun k => by match k with | 0 => rfl | k + 1 => rfl) ?_
  refine tK (l := xk_69) rfl rfl (fun _ _ _ _ _ => rfl) ?_
  refine tK (l := xk_69) rfl rfl (hGetI hs rfl ht rfl (by decide) (by decide)) ?_
  refine tIf_le (l := xk_69) (pc' := 16) rfl rfl rfl (fun hc => ?_) (fun hc => ?_)
  · have hc4 := hc
    refine tK (l := xk_69) rfl rfl (fun _ _ _ _ _ => rfl) ?_
    refine tK (l := xk_69) rfl rfl (hGetI hs rfl ht rfl (by decide) (by decide)) ?_
    refine tK (l := xk_69) rfl rfl (fun _ _ _ _ _ => rfl) ?_
    refine tK (l := xk_69) rfl rfl (hAdd ⟨by omega, by omega⟩) ?_
    refine tK (l := xk_69) rfl rfl (fun _ _ _ _ _ => rfl) ?_
    refine tRt (l := xk_69) rfl rfl (fun _ _ _ _ _ => rfl) ?_
    rw [ep, if_neg (by omega)] at hQ
    rw [h10]
    exact hQ
  · have hc4 := hc
    refine tK (l := xk_69) rfl rfl (fun _ _ _ _ _ => rfl) ?_
    refine tRt (l := xk_69) rfl rfl (fun _ _ _ _ _ => rfl) ?_
    rw [ep, if_pos (by omega)] at hQ
    exact hQ
theorem s62 {txt : List Int} (h : hRes zs ph T txt) (ht : hTg T = 7) (hQ : Q (.inl (some (.inl (if pWh txt = true then 1 else 0))), ph, g)) : xTC d 62 [.inr (.inl (some T))] ph g Q := by
  obtain ⟨hs, h12, h13, hS⟩ := id h
  have key : (hRd ph T 12 = hRd ph T 13 ∧ hRd ph T 11 = 0 ∧ hRd ph T 9 = 0) ↔ pWh txt = true := by
    constructor
    · rintro ⟨q1, q2, q3⟩
      cases e : (pRes txt).2 with
      | none => have := pRes_none e; omega
      | some s =>
        obtain ⟨k, ps, op, mo⟩ := s
        obtain ⟨-, h8, h9, h10, h11, -⟩ := hS _ e
        simp only at h9 h11
        have e1 : k = 0 := by omega
        have e2 : op.length = 0 := by omega
        rw [List.length_eq_zero_iff] at e2
        subst e1 e2
        exact pWh_iff.mpr ⟨ps, mo, e⟩
    · intro hw
      obtain ⟨ps, mo, e⟩ := pWh_iff.mp hw
      obtain ⟨-, h8, h9, h10, h11, -⟩ := hS _ e
      have := (pRes_some e).1
      exact ⟨by omega, h11, h9⟩
  refine tEn (ls := [some (.inr (.inl (some T)))]) (fun k => by match k with | 0 => rfl | k + 1 => rfl) ?_
  refine tK (l := xk_62) rfl rfl (fun _ _ _ _ _ => rfl) ?_
  refine tK (l := xk_62) rfl rfl (hGetI hs rfl ht rfl (by decide) (by decide)) ?_
  refine tK (l := xk_62) rfl rfl (fun _ _ _ _ _ => rfl) ?_
  refine tK (l := xk_62) rfl rfl (hGetI hs rfl ht rfl (by decide) (by decide)) ?_
  refine tIc_ne (l := xk_62) (pc' := 29) rfl rfl rfl (fun hc => ?_) (fun hc => ?_)
  · have hc8 := hc
    refine tK (l := xk_62) rfl rfl (fun _ _ _ _ _ => rfl) ?_
    refine tK (l := xk_62) rfl rfl (hGetI hs rfl ht rfl (by decide) (by decide)) ?_
    refine tIf_ne (l := xk_62) (pc' := 29) rfl rfl rfl (fun hc => ?_) (fun hc => ?_)
    · have hc15 := hc
      refine tK (l := xk_62) rfl rfl (fun _ _ _ _ _ => rfl) ?_
      refine tK (l := xk_62) rfl rfl (hGetI hs rfl ht rfl (by decide) (by decide)) ?_
      refine tIf_ne (l := xk_62) (pc' := 29) rfl rfl rfl (fun hc => ?_) (fun hc => ?_)
      · have hc22 := hc
        refine tK (l := xk_62) rfl rfl (fun _ _ _ _ _ => rfl) ?_
        refine tK (l := xk_62) rfl rfl (fun _ _ _ _ _ => rfl) ?_
        refine tRt (l := xk_62) rfl rfl (fun _ _ _ _ _ => rfl) ?_
        rw [if_pos (key.mp ⟨hc8, hc15, hc22⟩)] at hQ
        exact hQ
      · have hc22 := hc
        refine tK (l := xk_62) rfl rfl (fun _ _ _ _ _ => rfl) ?_
        refine tRt (l := xk_62) rfl rfl (fun _ _ _ _ _ => rfl) ?_
        rw [if_neg (fun hw => hc22 (key.mpr hw).2.2)] at hQ
        exact hQ
    · have hc15 := hc
      refine tK (l := xk_62) rfl rfl (fun _ _ _ _ _ => rfl) ?_
      refine tRt (l := xk_62) rfl rfl (fun _ _ _ _ _ => rfl) ?_
      rw [if_neg (fun hw => hc15 (key.mpr hw).2.1)] at hQ
      exact hQ
  · have hc8 := hc
    refine tK (l := xk_62) rfl rfl (fun _ _ _ _ _ => rfl) ?_
    refine tRt (l := xk_62) rfl rfl (fun _ _ _ _ _ => rfl) ?_
    rw [if_neg (fun hw => hc8 (key.mpr hw).1)] at hQ
    exact hQ
theorem s70 (hs : hSh zs ph) (ht : hTg T = 7) (h : hPp ph T ps) (hQ : Q (.inl (some (.inl (mkU ps 0))), ph, g)) : xTC (d + 1) 70 [.inr (.inl (some T))] ph g Q := by
  have loop : ∀ (l : List PP) (i : Nat) (m : Int), i + l.length = ps.length → ps.drop i = l → mkU l m = mkU ps 0 → xT (d + 1) 70 4 (xlo [some (.inr (.inl (some T))), some (.inl m), some (.inl (i : Int))]) [] ph g Q := by
    intro l
    induction l with
    | nil =>
      intro i m him hdr he
      have hi : i = ps.length := by simpa using him
      have e8 := h.1
      refine tK (l := xk_70) rfl rfl (fun _ _ _ _ _ => rfl) ?_
      refine tK (l := xk_70) rfl rfl (fun _ _ _ _ _ => rfl) ?_
      refine tK (l := xk_70) rfl rfl (hGetI hs rfl ht rfl (by decide) (by decide)) ?_
      refine tIc_ge (l := xk_70) (pc' := 45) rfl rfl rfl (fun hc => ?_) (fun hc => ?_)
      · have hc9 := hc
        exfalso
        have h9 : (i : Int) < hRd ph T 8 := hc
        omega
      · have hc9 := hc
        refine tK (l := xk_70) rfl rfl (fun _ _ _ _ _ => rfl) ?_
        refine tRt (l := xk_70) rfl rfl (fun _ _ _ _ _ => rfl) ?_
        rw [← he] at hQ
        exact hQ
    | cons p l ih =>
      intro i m him hdr he
      have e8 := h.1
      have hl60 := h.2.1
      have hp : ps[i]? = some p := by
        have := congrArg (fun l => l[0]?) hdr
        simpa using this
      have hdr2 : ps.drop (i + 1) = l := by rw [← List.drop_drop, hdr]; rfl
      simp only [List.length_cons] at him
      have him2 : i + 1 + l.length = ps.length := by omega
      simp only [mkU] at he
      refine tK (l := xk_70) rfl rfl (fun _ _ _ _ _ => rfl) ?_
      refine tK (l := xk_70) rfl rfl (fun _ _ _ _ _ => rfl) ?_
      refine tK (l := xk_70) rfl rfl (hGetI hs rfl ht rfl (by decide) (by decide)) ?_
      refine tIc_ge (l := xk_70) (pc' := 45) rfl rfl rfl (fun hc => ?_) (fun hc => ?_)
      · have hc9 := hc
        refine tK (l := xk_70) rfl rfl (fun _ _ _ _ _ => rfl) ?_
        refine tK (l := xk_70) rfl rfl (fun _ _ _ _ _ => rfl) ?_
        refine tCa (l := xk_70) rfl rfl (hInvV (c := 7) hs rfl rfl rfl ht rfl (Nat.le_of_ble_eq_true rfl) (Nat.le_of_ble_eq_true rfl)) ?_
        refine s64 hs ht h hp ?_
        refine tKv ?_
        refine tIf_eq (l := xk_70) (pc' := 39) rfl rfl rfl (fun hc => ?_) (fun hc => ?_)
        · have hc17 := hc
          refine tSt (l := xk_70) rfl rfl (hIinc rfl (Nat.le_of_ble_eq_true rfl) ⟨by omega, by omega⟩) (Nat.le_of_ble_eq_true rfl) ?_
          refine tK (l := xk_70) rfl rfl (fun _ _ _ _ _ => rfl) ?_
          have w : (p.1 : Int) = 0 := hc17
          rw [if_pos (Or.inl (by omega))] at he
          exact ih (i + 1) _ him2 hdr2 he
        · have hc17 := hc
          refine tK (l := xk_70) rfl rfl (fun _ _ _ _ _ => rfl) ?_
          refine tK (l := xk_70) rfl rfl (fun _ _ _ _ _ => rfl) ?_
          refine tCa (l := xk_70) rfl rfl (hInvV (c := 7) hs rfl rfl rfl ht rfl (Nat.le_of_ble_eq_true rfl) (Nat.le_of_ble_eq_true rfl)) ?_
          refine s64 hs ht h hp ?_
          refine tKv ?_
          refine tK (l := xk_70) rfl rfl (fun _ _ _ _ _ => rfl) ?_
          refine tIc_eq (l := xk_70) (pc' := 39) rfl rfl rfl (fun hc => ?_) (fun hc => ?_)
          · have hc26 := hc
            refine tSt (l := xk_70) rfl rfl (hIinc rfl (Nat.le_of_ble_eq_true rfl) ⟨by omega, by omega⟩) (Nat.le_of_ble_eq_true rfl) ?_
            refine tK (l := xk_70) rfl rfl (fun _ _ _ _ _ => rfl) ?_
            have w : (p.1 : Int) = 1 := hc26
            rw [if_pos (Or.inr (by omega))] at he
            exact ih (i + 1) _ him2 hdr2 he
          · have hc26 := hc
            refine tK (l := xk_70) rfl rfl (fun _ _ _ _ _ => rfl) ?_
            refine tK (l := xk_70) rfl rfl (fun _ _ _ _ _ => rfl) ?_
            refine tK (l := xk_70) rfl rfl (fun _ _ _ _ _ => rfl) ?_
            refine tK (l := xk_70) rfl rfl (fun _ _ _ _ _ => rfl) ?_
            refine tCa (l := xk_70) rfl rfl (hInvV (c := 7) hs rfl rfl rfl ht rfl (Nat.le_of_ble_eq_true rfl) (Nat.le_of_ble_eq_true rfl)) ?_
            have w1 : ¬ (p.1 : Int) = 0 := hc17
            have w2 : ¬ (p.1 : Int) = 1 := hc26
            refine s65 hs ht h hp (by omega) ?_
            refine tKv ?_
            refine tK (l := xk_70) rfl rfl (fun _ _ _ _ _ => rfl) ?_
            refine tK (l := xk_70) rfl rfl (fun _ _ _ _ _ => rfl) ?_
            refine tSt (l := xk_70) rfl rfl (fun _ _ _ _ _ => rfl) (Nat.le_of_ble_eq_true rfl) ?_
            refine tSt (l := xk_70) rfl rfl (hIinc rfl (Nat.le_of_ble_eq_true rfl) ⟨by omega, by omega⟩) (Nat.le_of_ble_eq_true rfl) ?_
            refine tK (l := xk_70) rfl rfl (fun _ _ _ _ _ => rfl) ?_
            rw [if_neg (fun q => by have w1 : ¬ (p.1 : Int) = 0 := hc17; have w2 : ¬ (p.1 : Int) = 1 := hc26; omega)] at he
            exact ih (i + 1) _ him2 hdr2 he
      · have hc9 := hc
        exfalso
        have h9 : ¬ (i : Int) < hRd ph T 8 := hc
        omega
  refine tEn (ls := [some (.inr (.inl (some T))), none, none]) (fun k => by match k with | 0 => rfl | 1 => rfl | 2 => rfl | k + 3 => rfl) ?_
  refine tK (l := xk_70) rfl rfl (fun _ _ _ _ _ => rfl) ?_
  refine tSt (l := xk_70) rfl rfl (fun _ _ _ _ _ => rfl) (Nat.le_of_ble_eq_true rfl) ?_
  refine tK (l := xk_70) rfl rfl (fun _ _ _ _ _ => rfl) ?_
  refine tSt (l := xk_70) rfl rfl (fun _ _ _ _ _ => rfl) (Nat.le_of_ble_eq_true rfl) ?_
  exact loop ps 0 _ (by simp) rfl rfl
theorem s71 (hs : hSh zs ph) (ht : hTg T = 7) (h : hPp ph T ps) (hQ : Q (.inl (some (.inl (mkG ps 0))), ph, g)) : xTC (d + 1) 71 [.inr (.inl (some T))] ph g Q := by
  have loop : ∀ (l : List PP) (i : Nat) (m : Int), i + l.length = ps.length → ps.drop i = l → mkG l m = mkG ps 0 → xT (d + 1) 71 4 (xlo [some (.inr (.inl (some T))), some (.inl m), some (.inl (i : Int))]) [] ph g Q := by
    intro l
    induction l with
    | nil =>
      intro i m him hdr he
      have hi : i = ps.length := by simpa using him
      have e8 := h.1
      refine tK (l := xk_71) rfl rfl (fun _ _ _ _ _ => rfl) ?_
      refine tK (l := xk_71) rfl rfl (fun _ _ _ _ _ => rfl) ?_
      refine tK (l := xk_71) rfl rfl (hGetI hs rfl ht rfl (by decide) (by decide)) ?_
      refine tIc_ge (l := xk_71) (pc' := 38) rfl rfl rfl (fun hc => ?_) (fun hc => ?_)
      · have hc9 := hc
        exfalso
        have h9 : (i : Int) < hRd ph T 8 := hc
        omega
      · have hc9 := hc
        refine tK (l := xk_71) rfl rfl (fun _ _ _ _ _ => rfl) ?_
        refine tRt (l := xk_71) rfl rfl (fun _ _ _ _ _ => rfl) ?_
        rw [← he] at hQ
        exact hQ
    | cons p l ih =>
      intro i m him hdr he
      have e8 := h.1
      have hl60 := h.2.1
      have hp : ps[i]? = some p := by
        have := congrArg (fun l => l[0]?) hdr
        simpa using this
      have hdr2 : ps.drop (i + 1) = l := by rw [← List.drop_drop, hdr]; rfl
      simp only [List.length_cons] at him
      have him2 : i + 1 + l.length = ps.length := by omega
      simp only [mkG] at he
      refine tK (l := xk_71) rfl rfl (fun _ _ _ _ _ => rfl) ?_
      refine tK (l := xk_71) rfl rfl (fun _ _ _ _ _ => rfl) ?_
      refine tK (l := xk_71) rfl rfl (hGetI hs rfl ht rfl (by decide) (by decide)) ?_
      refine tIc_ge (l := xk_71) (pc' := 38) rfl rfl rfl (fun hc => ?_) (fun hc => ?_)
      · have hc9 := hc
        refine tK (l := xk_71) rfl rfl (fun _ _ _ _ _ => rfl) ?_
        refine tK (l := xk_71) rfl rfl (fun _ _ _ _ _ => rfl) ?_
        refine tCa (l := xk_71) rfl rfl (hInvV (c := 7) hs rfl rfl rfl ht rfl (Nat.le_of_ble_eq_true rfl) (Nat.le_of_ble_eq_true rfl)) ?_
        refine s64 hs ht h hp ?_
        refine tKv ?_
        refine tK (l := xk_71) rfl rfl (fun _ _ _ _ _ => rfl) ?_
        refine tIc_ne (l := xk_71) (pc' := 32) rfl rfl rfl (fun hc => ?_) (fun hc => ?_)
        · have hc19 := hc
          refine tK (l := xk_71) rfl rfl (fun _ _ _ _ _ => rfl) ?_
          refine tK (l := xk_71) rfl rfl (fun _ _ _ _ _ => rfl) ?_
          refine tK (l := xk_71) rfl rfl (fun _ _ _ _ _ => rfl) ?_
          refine tK (l := xk_71) rfl rfl (fun _ _ _ _ _ => rfl) ?_
          refine tCa (l := xk_71) rfl rfl (hInvV (c := 7) hs rfl rfl rfl ht rfl (Nat.le_of_ble_eq_true rfl) (Nat.le_of_ble_eq_true rfl)) ?_
          have w1 : (p.1 : Int) = 7 := hc19
          refine s65 hs ht h hp (by omega) ?_
          refine tKv ?_
          refine tK (l := xk_71) rfl rfl (fun _ _ _ _ _ => rfl) ?_
          refine tK (l := xk_71) rfl rfl (fun _ _ _ _ _ => rfl) ?_
          refine tSt (l := xk_71) rfl rfl (fun _ _ _ _ _ => rfl) (Nat.le_of_ble_eq_true rfl) ?_
          refine tSt (l := xk_71) rfl rfl (hIinc rfl (Nat.le_of_ble_eq_true rfl) ⟨by omega, by omega⟩) (Nat.le_of_ble_eq_true rfl) ?_
          refine tK (l := xk_71) rfl rfl (fun _ _ _ _ _ => rfl) ?_
          have w : (p.1 : Int) = 7 := hc19
          rw [if_pos (by omega)] at he
          exact ih (i + 1) _ him2 hdr2 he
        · have hc19 := hc
          refine tSt (l := xk_71) rfl rfl (hIinc rfl (Nat.le_of_ble_eq_true rfl) ⟨by omega, by omega⟩) (Nat.le_of_ble_eq_true rfl) ?_
          refine tK (l := xk_71) rfl rfl (fun _ _ _ _ _ => rfl) ?_
          have w : ¬ (p.1 : Int) = 7 := hc19
          rw [if_neg (by omega)] at he
          exact ih (i + 1) _ him2 hdr2 he
      · have hc9 := hc
        exfalso
        have h9 : ¬ (i : Int) < hRd ph T 8 := hc
        omega
  refine tEn (ls := [some (.inr (.inl (some T))), none, none]) (fun k => by match k with | 0 => rfl | 1 => rfl | 2 => rfl | k + 3 => rfl) ?_
  refine tK (l := xk_71) rfl rfl (fun _ _ _ _ _ => rfl) ?_
  refine tSt (l := xk_71) rfl rfl (fun _ _ _ _ _ => rfl) (Nat.le_of_ble_eq_true rfl) ?_
  refine tK (l := xk_71) rfl rfl (fun _ _ _ _ _ => rfl) ?_
  refine tSt (l := xk_71) rfl rfl (fun _ _ _ _ _ => rfl) (Nat.le_of_ble_eq_true rfl) ?_
  exact loop ps 0 _ (by simp) rfl rfl
theorem s72 (hs : hSh zs ph) (ht : hTg T = 7) (h : hPp ph T ps) (hQ : Q (.inl (some (.inl ((mkL ps 0 : Nat) : Int))), ph, g)) : xTC (d + 1) 72 [.inr (.inl (some T))] ph g Q := by
  have loop : ∀ (l : List PP) (i : Nat) (m : Nat), i + l.length = ps.length → ps.drop i = l → mkL l m = mkL ps 0 → m ≤ i → xT (d + 1) 72 4 (xlo [some (.inr (.inl (some T))), some (.inl (m : Int)), some (.inl (i : Int))]) [] ph g Q := by
    intro l
    induction l with
    | nil =>
      intro i m him hdr he hmi
      have hi : i = ps.length := by simpa using him
      have e8 := h.1
      refine tK (l := xk_72) rfl rfl (fun _ _ _ _ _ => rfl) ?_
      refine tK (l := xk_72) rfl rfl (fun _ _ _ _ _ => rfl) ?_
      refine tK (l := xk_72) rfl rfl (hGetI hs rfl ht rfl (by decide) (by decide)) ?_
      refine tIc_ge (l := xk_72) (pc' := 30) rfl rfl rfl (fun hc => ?_) (fun hc => ?_)
      · have hc9 := hc
        exfalso
        have h9 : (i : Int) < hRd ph T 8 := hc
        omega
      · have hc9 := hc
        refine tK (l := xk_72) rfl rfl (fun _ _ _ _ _ => rfl) ?_
        refine tRt (l := xk_72) rfl rfl (fun _ _ _ _ _ => rfl) ?_
        rw [← he] at hQ
        exact hQ
    | cons p l ih =>
      intro i m him hdr he hmi
      have e8 := h.1
      have hl60 := h.2.1
      have hp : ps[i]? = some p := by
        have := congrArg (fun l => l[0]?) hdr
        simpa using this
      have hdr2 : ps.drop (i + 1) = l := by rw [← List.drop_drop, hdr]; rfl
      simp only [List.length_cons] at him
      have him2 : i + 1 + l.length = ps.length := by omega
      simp only [mkL] at he
      refine tK (l := xk_72) rfl rfl (fun _ _ _ _ _ => rfl) ?_
      refine tK (l := xk_72) rfl rfl (fun _ _ _ _ _ => rfl) ?_
      refine tK (l := xk_72) rfl rfl (hGetI hs rfl ht rfl (by decide) (by decide)) ?_
      refine tIc_ge (l := xk_72) (pc' := 30) rfl rfl rfl (fun hc => ?_) (fun hc => ?_)
      · have hc9 := hc
        refine tK (l := xk_72) rfl rfl (fun _ _ _ _ _ => rfl) ?_
        refine tK (l := xk_72) rfl rfl (fun _ _ _ _ _ => rfl) ?_
        refine tCa (l := xk_72) rfl rfl (hInvV (c := 7) hs rfl rfl rfl ht rfl (Nat.le_of_ble_eq_true rfl) (Nat.le_of_ble_eq_true rfl)) ?_
        refine s64 hs ht h hp ?_
        refine tKv ?_
        refine tK (l := xk_72) rfl rfl (fun _ _ _ _ _ => rfl) ?_
        refine tIc_ne (l := xk_72) (pc' := 24) rfl rfl rfl (fun hc => ?_) (fun hc => ?_)
        · have hc18 := hc
          refine tSt (l := xk_72) rfl rfl (hIinc rfl (Nat.le_of_ble_eq_true rfl) ⟨by omega, by omega⟩) (Nat.le_of_ble_eq_true rfl) ?_
          refine tSt (l := xk_72) rfl rfl (hIinc rfl (Nat.le_of_ble_eq_true rfl) ⟨by omega, by omega⟩) (Nat.le_of_ble_eq_true rfl) ?_
          refine tK (l := xk_72) rfl rfl (fun _ _ _ _ _ => rfl) ?_
          have w : (p.1 : Int) = 5 := hc18
          rw [if_pos (by omega)] at he
          exact ih (i + 1) (m + 1) him2 hdr2 he (by omega)
        · have hc18 := hc
          refine tSt (l := xk_72) rfl rfl (hIinc rfl (Nat.le_of_ble_eq_true rfl) ⟨by omega, by omega⟩) (Nat.le_of_ble_eq_true rfl) ?_
          refine tK (l := xk_72) rfl rfl (fun _ _ _ _ _ => rfl) ?_
          have w : ¬ (p.1 : Int) = 5 := hc18
          rw [if_neg (by omega)] at he
          exact ih (i + 1) _ him2 hdr2 he (by omega)
      · have hc9 := hc
        exfalso
        have h9 : ¬ (i : Int) < hRd ph T 8 := hc
        omega
  refine tEn (ls := [some (.inr (.inl (some T))), none, none]) (fun k => by match k with | 0 => rfl | 1 => rfl | 2 => rfl | k + 3 => rfl) ?_
  refine tK (l := xk_72) rfl rfl (fun _ _ _ _ _ => rfl) ?_
  refine tSt (l := xk_72) rfl rfl (fun _ _ _ _ _ => rfl) (Nat.le_of_ble_eq_true rfl) ?_
  refine tK (l := xk_72) rfl rfl (fun _ _ _ _ _ => rfl) ?_
  refine tSt (l := xk_72) rfl rfl (fun _ _ _ _ _ => rfl) (Nat.le_of_ble_eq_true rfl) ?_
  exact loop ps 0 _ (by simp) rfl rfl (Nat.le_refl _)
end TPR
