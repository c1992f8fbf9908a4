/-! ===== ByParts at every level ===== -/
theorem BP_lev {zs : List xV} {L C : Nat} (hC : 2 ≤ C) (ihL : L < 4 → ∀ d, BPn zs (d + C + 1) 61 (L + 1)) : ∀ n d, BPn zs (d + C + 4 * n) n L := by
  intro n
  induction n with
  | zero =>
    intro d ph g Q fs rs p q x y deep _ hsg
    exact absurd hsg (fun q => q)
  | succ n ih =>
    intro d
    have h1 := ih d
    have h2 : L < 4 → BPn zs ((d + 4 * n) + C + 1) 61 (L + 1) := fun hL => ihL hL (d + 4 * n)
    rw [show d + C + 4 * n = (d + C - 2 + 4 * n) + 2 by omega] at h1
    rw [show (d + 4 * n) + C + 1 = (d + C - 2 + 4 * n) + 3 by omega] at h2
    rw [show d + C + 4 * (n + 1) = (d + C - 2 + 4 * n) + 6 by omega]
    exact BP_step h1 h2
theorem BP_4 {zs : List xV} (d : Nat) : BPn zs (d + 246) 61 4 := BP_lev (C := 2) (by decide) (fun h => absurd h (by decide)) 61 d
theorem BP_3 {zs : List xV} (d : Nat) : BPn zs (d + 489) 61 3 := BP_lev (C := 245) (by decide) (fun _ e => BP_4 e) 61 d
theorem BP_2 {zs : List xV} (d : Nat) : BPn zs (d + 732) 61 2 := BP_lev (C := 488) (by decide) (fun _ e => BP_3 e) 61 d
theorem BP_1 {zs : List xV} (d : Nat) : BPn zs (d + 975) 61 1 := BP_lev (C := 731) (by decide) (fun _ e => BP_2 e) 61 d
theorem BP_0 {zs : List xV} (d : Nat) : BPn zs (d + 1218) 61 0 := BP_lev (C := 974) (by decide) (fun _ e => BP_1 e) 61 d
