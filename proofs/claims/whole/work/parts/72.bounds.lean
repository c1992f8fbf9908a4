/-! ===== bounds ===== -/
theorem prF_6 (c k : Int) (s : RS) : (prF c k s).2 ≤ 6 := by
  obtain ⟨sc, sg, ou, st, pl, es, vl⟩ := s
  cases sg with
  | nil =>
    simp only [prF]
    split
    · exact (by decide : (2 : Nat) ≤ 6)
    · split
      · exact Nat.zero_le 6
      · split
        · exact Nat.zero_le 6
        · exact Nat.zero_le 6
  | cons t ts =>
    simp only [prF]
    split
    · exact Nat.le_refl 6
    · exact Nat.zero_le 6
theorem pvF_6 (e : Bool) (k : Int) : ∀ (v : List Int) (s : RS), (pvF e k v s).2 ≤ 6 := by
  intro v
  induction v with
  | nil => intro s; exact Nat.zero_le 6
  | cons c cs ih =>
    intro s
    simp only [pvF]
    have two : ∀ (s : RS), (match prF c k s with
        | (s2, 0) => pvF e k cs s2
        | q => q).2 ≤ 6 := by
      intro s
      have h := prF_6 c k s
      split
      · exact ih _
      · exact h
    split
    · have h := prF_6 126 k s
      split
      · exact two _
      · exact h
    · exact two s
theorem oP_6 {fs : List Fm} {x y : Nat} {q : RS × Nat} (h : q.2 ≤ 6) : (oP fs x y q).2.2.1 ≤ 6 := by
  unfold oP
  split
  · exact Nat.zero_le 6
  · exact h
theorem Sto_6 {c d : Cf} (h : Sto c d) : d.2.2.1 ≤ 6 := by
  rcases h with ⟨fs, rs, k, cd, nm, rfl, hne, hsh, h⟩ | ⟨f, g, gs, rs, rfl, h⟩
  · rcases h with ⟨-, rfl⟩ | ⟨-, -, h⟩ | ⟨-, -, h⟩
    · exact (by decide : (3 : Nat) ≤ 6)
    · rcases h with ⟨-, rfl⟩ | ⟨-, -, rfl⟩ | ⟨-, v, -, rfl⟩ | ⟨-, -, rfl⟩ | ⟨-, v, -, -, rfl⟩ | ⟨-, v, -, h5, -, -, rfl⟩ | ⟨-, v, -, h5, -, -, -, -, rfl⟩
      · exact oP_6 (prF_6 _ _ _)
      · exact (by decide : (1 : Nat) ≤ 6)
      · exact oP_6 (pvF_6 _ _ _ _)
      · exact (by decide : (1 : Nat) ≤ 6)
      · exact (by decide : (4 : Nat) ≤ 6)
      · exact (by decide : (5 : Nat) ≤ 6)
      · exact Nat.zero_le 6
    · rcases h with ⟨-, -, rfl⟩ | ⟨-, n, ps, p, q, e, -, -, rfl⟩ | ⟨-, -, -, c, v, -, -, rfl⟩ | ⟨-, -, -, rfl⟩ | ⟨-, -, -, rfl⟩
      · exact (by decide : (1 : Nat) ≤ 6)
      · exact Nat.zero_le 6
      · exact Nat.zero_le 6
      · exact Nat.zero_le 6
      · exact Nat.zero_le 6
  · rcases h with ⟨-, -, f0, sc, -, rfl⟩ | ⟨-, -, f0, sc, -, ⟨c2, -, rfl⟩ | ⟨-, rfl⟩⟩ | ⟨-, -, rfl⟩ | ⟨-, -, -, f0, sc, s0, sg, -, -, rfl⟩
    · exact Nat.zero_le 6
    · exact Nat.zero_le 6
    · exact Nat.zero_le 6
    · exact Nat.zero_le 6
    · exact Nat.zero_le 6
theorem Run_6 : ∀ {n : Nat} {c d : Cf}, Run n c d → c.2.2.1 ≤ 6 → d.2.2.1 ≤ 6 := by
  intro n
  induction n with
  | zero => intro c d h h6; cases h; exact h6
  | succ n ih =>
    intro c d ⟨e, h1, h2⟩ _
    exact ih h2 (Sto_6 h1)
theorem okS_u {B : Nat} {c : KS} (h : okKS B c) : ∀ v, v < 8 → ∀ s, c.2.1.1 v = some s → oks s := fun v hv s hs => (h.2.1.1 v hv s hs).1
theorem Fin_ok {zs : List xV} {ph : xH} {c : KS} {B : Nat} {D : Cf} (m : hMm zs ph c) (ho : okKS B c) (hw : pWh c.1 = true) {w : Int} (hD : Fin c.1 c.2.1.1 w D) : (oks (ocD D).1 ∧ (ocD D).1.length ≤ 200) ∧ (ocD D).2.2.1.length ≤ 5 ∧ (0 ≤ (ocD D).2.1 ∧ (ocD D).2.1 ≤ 6) ∧ (∃ p e v : Nat, (ocD D).2.2.2.2.1 = p ∧ (ocD D).2.2.2.2.2.1 = e ∧ (ocD D).2.2.2.2.2.2 = v ∧ p + e + v = (ocD D).1.length) ∧ (0 ≤ (ocD D).2.2.2.1 ∧ (ocD D).2.2.2.1 ≤ 200) := by
  have hok := ho.1.1
  have hl := ho.1.2
  have hov := okS_u ho
  have key : D.2.1.2.2.1.length ≤ 200 ∧ D.2.1.2.2.2.1 ≤ 200 ∧ D.2.1.2.2.2.2.1 + D.2.1.2.2.2.2.2.1 + D.2.1.2.2.2.2.2.2 = D.2.1.2.2.1.length := by
    have h1 : xTC (3 + 5) 157 [.inr (.inl (some 147))] ph 0 (fun _ => D.2.1.2.2.1.length ≤ 200 ∧ D.2.1.2.2.2.1 ≤ 200 ∧ D.2.1.2.2.2.2.1 + D.2.1.2.2.2.2.2.1 + D.2.1.2.2.2.2.2.2 = D.2.1.2.2.1.length) := by
      refine s157 m hok hw (fun ph2 k2 f2 hmr hsg h9 => ?_)
      have h2 : xTC (0 + 8) 186 [.inr (.inl (some 147)), .inl w] ph2 0 (fun _ => D.2.1.2.2.1.length ≤ 200 ∧ D.2.1.2.2.2.1 ≤ 200 ∧ D.2.1.2.2.2.2.1 + D.2.1.2.2.2.2.2.1 + D.2.1.2.2.2.2.2.2 = D.2.1.2.2.1.length) := by
        refine s186k k2 hok hov hsg h9 hD (fun ph3 t _ _ => ?_)
        obtain ⟨-, -, -, ⟨-, h8, -⟩, -, h11, -, -, -, h15⟩ := t.1
        exact ⟨h8, h11, h15⟩
      obtain ⟨n, r, e, q⟩ := h2
      exact q
    obtain ⟨n, r, e, q⟩ := h1
    exact q
  obtain ⟨k1, k2, k3⟩ := key
  obtain ⟨⟨n9, hrun⟩, hfin⟩ := hD
  have hokc : okC (RU (fs0 0 c.1) (rs0 c.2.1.1 w)) := by
    refine ⟨fun q hq => ?_, fun q hq n v hv => ?_, fun q hq => by simp [RU, rs0] at hq, fun q hq => by simp [RU, rs0] at hq⟩
    · have e : q = (0, 0, 0, 0, 0, c.1) := List.mem_singleton.mp hq
      rw [e]; exact ⟨hok, hl⟩
    · have e : q = sc0 c.2.1.1 w := List.mem_singleton.mp hq
      rw [e] at hv
      unfold sc0 at hv
      split at hv
      · rename_i h8; exact hov n h8.1 v hv
      · cases hv
  have h6 := Run_6 hrun (Nat.zero_le 6)
  have h5 := Run_pl hrun (Nat.zero_le _) (Nat.zero_le _)
  refine ⟨⟨(Rn_ok ⟨n9, hrun⟩ hokc).2.2.2, k1⟩, by show (D.2.2.2.map _).length ≤ 5; rw [List.length_map]; exact h5, ⟨by show (0 : Int) ≤ (D.2.2.1 : Int); omega, by show (D.2.2.1 : Int) ≤ 6; omega⟩, ⟨_, _, _, rfl, rfl, rfl, k3⟩, by show (0 : Int) ≤ (D.2.1.2.2.2.1 : Int); omega, by show (D.2.1.2.2.2.1 : Int) ≤ 200; omega⟩
theorem okSS.up {B : Nat} {st : SS} (h : okSS B st) : okSS (B + 1) st := by
  obtain ⟨h1, h2, h3, h4, h5, h6, h7, h8, h9⟩ := h
  exact ⟨h1, h2, h3, h4, by omega, by omega, by omega, h8, h9⟩
theorem okKS.up {B : Nat} {c : KS} (h : okKS B c) : okKS (B + 1) c := ⟨h.1, h.2.1.up, fun st hs => (h.2.2.1 st hs).up, fun st hs => (h.2.2.2.1 st hs).up, h.2.2.2.2⟩
theorem okKS.hpsh {B : Nat} {c : KS} (h : okKS B c) : (∀ st ∈ psh c, okSS B st) ∧ (psh c).length ≤ 6 := by
  obtain ⟨-, h2, -, h4, h5⟩ := h
  unfold psh
  constructor
  · intro st hs
    rcases List.mem_append.mp hs with h | h
    · split at h
      · exact h4 st (List.mem_of_mem_tail h)
      · exact h4 st h
    · rw [List.mem_singleton.mp h]; exact h2
  · rw [List.length_append]
    split
    · simp only [List.length_tail, List.length_singleton]; omega
    · simp only [List.length_singleton]; omega
theorem okKS.hndo {B : Nat} {c : KS} {st : SS} (h : okKS B c) (hs : okSS B st) : okKS B (ndo c st) := ⟨h.1, hs, h.2.2.1, h.hpsh.1, h.hpsh.2⟩
theorem okSS.hset {B : Nat} {st : SS} {n : Nat} {v : Option (List Int)} (h : okSS B st) (hv : ∀ s, v = some s → oks s ∧ s.length ≤ 24) : okSS B (setV st n v) := by
  refine ⟨fun j hj s hs => ?_, h.2⟩
  simp only [setV] at hs
  split at hs
  · exact hv s hs
  · exact h.1 j hj s hs
theorem okKS.setv {B : Nat} {c : KS} {n : Nat} {v : Option (List Int)} (h : okKS B c) (hv : ∀ s, v = some s → oks s ∧ s.length ≤ 24) : okKS (B + 1) (ndo c (setV c.2.1 n v)) := (h.hndo (h.2.1.hset hv)).up
theorem oks_one {x : Int} (h : 33 ≤ x ∧ x ≤ 126) : oks [x] := fun y hy => by rw [List.mem_singleton.mp hy]; omega
theorem okKS.buf {B : Nat} {c : KS} {x : Int} (h : okKS B c) (hx : 33 ≤ x ∧ x ≤ 126) (hl : c.1.length < 60) : okKS (B + 1) (c.1 ++ [x], c.2) := by
  have h2 := h.up
  exact ⟨⟨oks_app h.1.1 (by omega), by rw [List.length_append, List.length_singleton]; omega⟩, h2.2⟩
theorem okKS.clr {B : Nat} {c : KS} (h : okKS B c) : okKS (B + 1) ([], c.2) := ⟨⟨fun x hx => (by simp at hx), Nat.zero_le 60⟩, h.up.2⟩
theorem okKS.hrnd {B : Nat} {zs : List xV} {ph : xH} {c : KS} {D : Cf} (m : hMm zs ph c) (h : okKS B c) (hw : pWh c.1 = true) (hD : Fin c.1 c.2.1.1 (-1) D) : okKS (B + 1) (ndo c (rnd c.2.1 (ocD D))) := by
  obtain ⟨f1, f2, f3, f4, f5⟩ := Fin_ok m h hw hD
  refine h.up.hndo ?_
  obtain ⟨h1, -, -, -, h5, h6, h7, -, -⟩ := h.2.1
  refine ⟨h1, f1, f2, f3, ?_, ?_, ?_, f4, f5⟩
  · show 0 ≤ c.2.1.2.2.1 + 1 ∧ c.2.1.2.2.1 + 1 ≤ ((B + 1 : Nat) : Int); omega
  · show 0 ≤ (if (ocD D).2.1 = 0 then c.2.1.2.2.2.1 else c.2.1.2.2.2.1 + 1) ∧ (if (ocD D).2.1 = 0 then c.2.1.2.2.2.1 else c.2.1.2.2.2.1 + 1) ≤ ((B + 1 : Nat) : Int)
    split
    · omega
    · omega
  · show 0 ≤ c.2.1.2.2.2.2 + ((ocD D).1.length : Int) ∧ c.2.1.2.2.2.2 + ((ocD D).1.length : Int) ≤ 200 * ((B + 1 : Nat) : Int); omega
theorem okKS.snp {B : Nat} {c : KS} (h : okKS B c) : okKS (B + 1) (c.1, c.2.1, some c.2.1, c.2.2.2) := by
  refine okKS.up ⟨h.1, h.2.1, fun st hs => ?_, h.2.2.2⟩
  cases hs; exact h.2.1
theorem okKS.und {B : Nat} {c : KS} {l : List SS} {st : SS} (h : okKS B c) (he : c.2.2.2 = l ++ [st]) : okKS (B + 1) (c.1, st, c.2.2.1, l) := by
  obtain ⟨h1, h2, h3, h4, h5⟩ := h
  rw [he] at h4 h5
  refine okKS.up ⟨h1, h4 st (by simp), h3, fun s hs => h4 s (by simp [hs]), ?_⟩
  rw [List.length_append, List.length_singleton] at h5
  show l.length ≤ 6
  omega
theorem okKS.res {B : Nat} {c : KS} {st : SS} (h : okKS B c) (he : c.2.2.1 = some st) : okKS (B + 1) (ndo c st) := (h.hndo (h.2.2.1 st he)).up
theorem oks_esc : ∀ {v : List Int}, oks v → oks (esc v) := by
  intro v
  induction v with
  | nil => intro h; exact h
  | cons c cs ih =>
    intro h
    have h1 := h c (List.mem_cons_self ..)
    have h2 := ih (fun x hx => h x (List.mem_cons_of_mem _ hx))
    simp only [esc]
    split
    · intro x hx
      rcases List.mem_cons.mp hx with rfl | hx
      · omega
      · rcases List.mem_cons.mp hx with rfl | hx
        · exact h1
        · exact h2 x hx
    · intro x hx
      rcases List.mem_cons.mp hx with rfl | hx
      · exact h1
      · exact h2 x hx
