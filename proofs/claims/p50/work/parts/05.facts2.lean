/-! ===== fields, classes, constants, exceptions: what the tables say ===== -/
def xCl (ci : Nat) : String × u_T × Nat := match vwCl[ci]? with
  | some q => q
  | none => ("", TX0, 0)
def xtyF (ci : Nat) : Nat → FieldType := match ci with
  | 0 => tyX0
  | 1 => tyX1
  | 2 => tyX2
  | 3 => tyX3
  | 4 => tyX4
  | 5 => tyX5
  | 6 => tyX6
  | 7 => tyX7
  | 8 => tyX8
  | _ => tyX9
def xKd : Nat → FieldType → Prop
  | 0, t => t = .int
  | 1, t => t = .boolean
  | 2, t => ∃ n, t = .object n ∨ ∃ u, t = .array u
  | 3, t => t = .long
  | _, _ => False
def xdv : xV → Value
  | .inl x => .int (Int32.ofInt x)
  | .inr (.inl none) => .null
  | .inr (.inl (some _)) => .int 0
  | .inr (.inr (.inl l)) => .long l
  | .inr (.inr (.inr d)) => .double d
def xCok (ci : Nat) : Prop := vwCl[ci]? = some (xCl ci) ∧ (xCl ci).1 = xRn ci ∧ (∀ w ∈ u_ws (xCl ci).1 (xCl ci).2.1 (xCl ci).2.2, xG w) ∧ (∀ k, k < (xCl ci).2.2 → parseFieldDescriptor ((xCl ci).2.1 k).2.2.1 = some (xtyF ci k)) ∧ (∀ a, a < (xCl ci).2.2 → ∀ b, b < (xCl ci).2.2 → a ≠ b → ((xCl ci).2.1 a).2.1 ≠ ((xCl ci).2.1 b).2.1) ∧ (xdf ci).length = (xCl ci).2.2 ∧ xG (.instantiable (xCl ci).1 (xCl ci).2.2) ∧ xG (.initialized (xCl ci).1) ∧ (∀ k, k < (xCl ci).2.2 → ((xCl ci).2.1 k).1 = (xCl ci).1) ∧ (∀ k, k < (xCl ci).2.2 → ((xdf ci)[k]?).map xdv = some (defaultValue (xtyF ci k)))
theorem xc_0 : xCok 0 := ⟨rfl, rfl, List.forall_mem_cons.mpr ⟨xg1 202 (by decide +kernel) rfl, List.forall_mem_cons.mpr ⟨xg1 204 (by decide +kernel) rfl, List.forall_mem_cons.mpr ⟨xg1 206 (by decide +kernel) rfl, fun _ h => absurd h List.not_mem_nil⟩⟩⟩, tyX0_ok, nmX0, rfl, xg1 194 (by decide +kernel) rfl, xg1 8 (by decide +kernel) rfl, by decide +kernel, by decide +kernel⟩
theorem xc_1 : xCok 1 := ⟨rfl, rfl, List.forall_mem_cons.mpr ⟨xg1 231 (by decide +kernel) rfl, List.forall_mem_cons.mpr ⟨xg1 233 (by decide +kernel) rfl, List.forall_mem_cons.mpr ⟨xg1 235 (by decide +kernel) rfl, List.forall_mem_cons.mpr ⟨xg1 237 (by decide +kernel) rfl, List.forall_mem_cons.mpr ⟨xg1 239 (by decide +kernel) rfl, List.forall_mem_cons.mpr ⟨xg2 1 (by decide +kernel) rfl, List.forall_mem_cons.mpr ⟨xg2 3 (by decide +kernel) rfl, List.forall_mem_cons.mpr ⟨xg2 5 (by decide +kernel) rfl, List.forall_mem_cons.mpr ⟨xg2 7 (by decide +kernel) rfl, List.forall_mem_cons.mpr ⟨xg2 9 (by decide +kernel) rfl, List.forall_mem_cons.mpr ⟨xg2 11 (by decide +kernel) rfl, List.forall_mem_cons.mpr ⟨xg2 13 (by decide +kernel) rfl, fun _ h => absurd h List.not_mem_nil⟩⟩⟩⟩⟩⟩⟩⟩⟩⟩⟩⟩, tyX1_ok, nmX1, rfl, xg1 210 (by decide +kernel) rfl, xg1 9 (by decide +kernel) rfl, by decide +kernel, by decide +kernel⟩
theorem xc_2 : xCok 2 := ⟨rfl, rfl, List.forall_mem_cons.mpr ⟨xg2 58 (by decide +kernel) rfl, List.forall_mem_cons.mpr ⟨xg2 60 (by decide +kernel) rfl, fun _ h => absurd h List.not_mem_nil⟩⟩, tyX2_ok, nmX2, rfl, xg2 48 (by decide +kernel) rfl, xg1 11 (by decide +kernel) rfl, by decide +kernel, by decide +kernel⟩
theorem xc_3 : xCok 3 := ⟨rfl, rfl, List.forall_mem_cons.mpr ⟨xg1 139 (by decide +kernel) rfl, List.forall_mem_cons.mpr ⟨xg1 141 (by decide +kernel) rfl, List.forall_mem_cons.mpr ⟨xg1 143 (by decide +kernel) rfl, List.forall_mem_cons.mpr ⟨xg1 145 (by decide +kernel) rfl, List.forall_mem_cons.mpr ⟨xg1 147 (by decide +kernel) rfl, List.forall_mem_cons.mpr ⟨xg1 149 (by decide +kernel) rfl, List.forall_mem_cons.mpr ⟨xg1 151 (by decide +kernel) rfl, List.forall_mem_cons.mpr ⟨xg1 153 (by decide +kernel) rfl, fun _ h => absurd h List.not_mem_nil⟩⟩⟩⟩⟩⟩⟩⟩, tyX3_ok, nmX3, rfl, xg1 109 (by decide +kernel) rfl, xg1 6 (by decide +kernel) rfl, by decide +kernel, by decide +kernel⟩
theorem xc_4 : xCok 4 := ⟨rfl, rfl, List.forall_mem_cons.mpr ⟨xg1 184 (by decide +kernel) rfl, List.forall_mem_cons.mpr ⟨xg1 186 (by decide +kernel) rfl, List.forall_mem_cons.mpr ⟨xg1 188 (by decide +kernel) rfl, List.forall_mem_cons.mpr ⟨xg1 190 (by decide +kernel) rfl, fun _ h => absurd h List.not_mem_nil⟩⟩⟩⟩, tyX4_ok, nmX4, rfl, xg1 103 (by decide +kernel) rfl, xg1 5 (by decide +kernel) rfl, by decide +kernel, by decide +kernel⟩
theorem xc_5 : xCok 5 := ⟨rfl, rfl, List.forall_mem_cons.mpr ⟨xg1 169 (by decide +kernel) rfl, List.forall_mem_cons.mpr ⟨xg1 171 (by decide +kernel) rfl, fun _ h => absurd h List.not_mem_nil⟩⟩, tyX5_ok, nmX5, rfl, xg1 157 (by decide +kernel) rfl, xg1 7 (by decide +kernel) rfl, by decide +kernel, by decide +kernel⟩
theorem xc_6 : xCok 6 := ⟨rfl, rfl, List.forall_mem_cons.mpr ⟨xg2 36 (by decide +kernel) rfl, List.forall_mem_cons.mpr ⟨xg2 38 (by decide +kernel) rfl, List.forall_mem_cons.mpr ⟨xg2 40 (by decide +kernel) rfl, List.forall_mem_cons.mpr ⟨xg2 42 (by decide +kernel) rfl, List.forall_mem_cons.mpr ⟨xg2 44 (by decide +kernel) rfl, fun _ h => absurd h List.not_mem_nil⟩⟩⟩⟩⟩, tyX6_ok, nmX6, rfl, xg2 17 (by decide +kernel) rfl, xg1 10 (by decide +kernel) rfl, by decide +kernel, by decide +kernel⟩
theorem xc_7 : xCok 7 := ⟨rfl, rfl, List.forall_mem_cons.mpr ⟨xg1 73 (by decide +kernel) rfl, List.forall_mem_cons.mpr ⟨xg1 75 (by decide +kernel) rfl, List.forall_mem_cons.mpr ⟨xg1 77 (by decide +kernel) rfl, List.forall_mem_cons.mpr ⟨xg1 79 (by decide +kernel) rfl, List.forall_mem_cons.mpr ⟨xg1 81 (by decide +kernel) rfl, List.forall_mem_cons.mpr ⟨xg1 83 (by decide +kernel) rfl, List.forall_mem_cons.mpr ⟨xg1 85 (by decide +kernel) rfl, List.forall_mem_cons.mpr ⟨xg1 87 (by decide +kernel) rfl, List.forall_mem_cons.mpr ⟨xg1 89 (by decide +kernel) rfl, List.forall_mem_cons.mpr ⟨xg1 91 (by decide +kernel) rfl, List.forall_mem_cons.mpr ⟨xg1 93 (by decide +kernel) rfl, List.forall_mem_cons.mpr ⟨xg1 95 (by decide +kernel) rfl, List.forall_mem_cons.mpr ⟨xg1 97 (by decide +kernel) rfl, List.forall_mem_cons.mpr ⟨xg1 99 (by decide +kernel) rfl, fun _ h => absurd h List.not_mem_nil⟩⟩⟩⟩⟩⟩⟩⟩⟩⟩⟩⟩⟩⟩, tyX7_ok, nmX7, rfl, xg1 52 (by decide +kernel) rfl, xg1 4 (by decide +kernel) rfl, by decide +kernel, by decide +kernel⟩
theorem xc_8 : xCok 8 := ⟨rfl, rfl, List.forall_mem_cons.mpr ⟨xg1 38 (by decide +kernel) rfl, List.forall_mem_cons.mpr ⟨xg1 40 (by decide +kernel) rfl, List.forall_mem_cons.mpr ⟨xg1 42 (by decide +kernel) rfl, fun _ h => absurd h List.not_mem_nil⟩⟩⟩, tyX8_ok, nmX8, rfl, xg1 27 (by decide +kernel) rfl, xg1 2 (by decide +kernel) rfl, by decide +kernel, by decide +kernel⟩
theorem xc_9 : xCok 9 := ⟨rfl, rfl, List.forall_mem_cons.mpr ⟨xg2 73 (by decide +kernel) rfl, List.forall_mem_cons.mpr ⟨xg2 75 (by decide +kernel) rfl, List.forall_mem_cons.mpr ⟨xg2 77 (by decide +kernel) rfl, List.forall_mem_cons.mpr ⟨xg2 79 (by decide +kernel) rfl, List.forall_mem_cons.mpr ⟨xg2 81 (by decide +kernel) rfl, List.forall_mem_cons.mpr ⟨xg2 83 (by decide +kernel) rfl, List.forall_mem_cons.mpr ⟨xg2 85 (by decide +kernel) rfl, List.forall_mem_cons.mpr ⟨xg2 87 (by decide +kernel) rfl, List.forall_mem_cons.mpr ⟨xg2 89 (by decide +kernel) rfl, List.forall_mem_cons.mpr ⟨xg2 91 (by decide +kernel) rfl, fun _ h => absurd h List.not_mem_nil⟩⟩⟩⟩⟩⟩⟩⟩⟩⟩, tyX9_ok, nmX9, rfl, xg1 19 (by decide +kernel) rfl, xg1 1 (by decide +kernel) rfl, by decide +kernel, by decide +kernel⟩
theorem xCall {ci : Nat} (h : ci < 10) : xCok ci := by
  match ci, h with
  | 0, _ => exact xc_0
  | 1, _ => exact xc_1
  | 2, _ => exact xc_2
  | 3, _ => exact xc_3
  | 4, _ => exact xc_4
  | 5, _ => exact xc_5
  | 6, _ => exact xc_6
  | 7, _ => exact xc_7
  | 8, _ => exact xc_8
  | 9, _ => exact xc_9
def xFok (q : Nat × Nat × Nat × Nat × Nat × Nat) : Prop := q.2.2.1 < 10 ∧ q.2.2.2.1 < (xCl q.2.2.1).2.2 ∧ xKd q.2.2.2.2.1 (xtyF q.2.2.1 q.2.2.2.1) ∧ ((q.2.2.2.2.2 = 0 ∧ ((xCl q.2.2.1).2.1 q.2.2.2.1).2.2.2 = false) ∨ (q.2.2.2.2.2 = 1 ∧ ((xCl q.2.2.1).2.1 q.2.2.2.1).2.2.2 = true)) ∧ (xG (.fieldLink (xRn q.1) q.2.1 (xCl q.2.2.1).1 ((xCl q.2.2.1).2.1 q.2.2.2.1).2.1 ((xCl q.2.2.1).2.1 q.2.2.2.1).2.2.1) ∨ (Cond.fieldLinkNest (xRn q.1) q.2.1 (xCl q.2.2.1).1 ((xCl q.2.2.1).2.1 q.2.2.2.1).2.1 ((xCl q.2.2.1).2.1 q.2.2.2.1).2.2.1 "TemplateScopes" ∈ lw_tbl ∧ q.2.2.2.2.2 = 0 ∨ Cond.fieldLinkNest (xRn q.1) q.2.1 (xCl q.2.2.1).1 ((xCl q.2.2.1).2.1 q.2.2.2.1).2.1 ((xCl q.2.2.1).2.1 q.2.2.2.1).2.2.1 "TemplateScopes" ∈ lw_tbl ∧ q.1 ≠ q.2.2.1))
theorem xf_0_9 : xFok (0, 9, 0, 0, 2, 1) := ⟨by decide, by decide, ⟨_, Or.inl rfl⟩, Or.inr ⟨rfl, rfl⟩, Or.inl (xg1 199 (by decide +kernel) rfl)⟩
theorem xf_0_15 : xFok (0, 15, 4, 1, 2, 1) := ⟨by decide, by decide, ⟨_, Or.inl rfl⟩, Or.inr ⟨rfl, rfl⟩, Or.inr (Or.inr ⟨(xh1 179 (by decide +kernel)), by decide⟩)⟩
theorem xf_0_21 : xFok (0, 21, 0, 1, 2, 1) := ⟨by decide, by decide, ⟨_, Or.inl rfl⟩, Or.inr ⟨rfl, rfl⟩, Or.inl (xg1 200 (by decide +kernel) rfl)⟩
theorem xf_0_22 : xFok (0, 22, 4, 0, 2, 1) := ⟨by decide, by decide, ⟨_, Or.inl rfl⟩, Or.inr ⟨rfl, rfl⟩, Or.inr (Or.inr ⟨(xh1 177 (by decide +kernel)), by decide⟩)⟩
theorem xf_0_26 : xFok (0, 26, 0, 2, 2, 1) := ⟨by decide, by decide, ⟨_, Or.inl rfl⟩, Or.inr ⟨rfl, rfl⟩, Or.inl (xg1 201 (by decide +kernel) rfl)⟩
theorem xf_0_31 : xFok (0, 31, 7, 0, 0, 1) := ⟨by decide, by decide, rfl, Or.inr ⟨rfl, rfl⟩, Or.inr (Or.inr ⟨(xh1 58 (by decide +kernel)), by decide⟩)⟩
theorem xf_0_91 : xFok (0, 91, 7, 1, 2, 1) := ⟨by decide, by decide, ⟨_, Or.inl rfl⟩, Or.inr ⟨rfl, rfl⟩, Or.inr (Or.inr ⟨(xh1 60 (by decide +kernel)), by decide⟩)⟩
theorem xf_0_95 : xFok (0, 95, 5, 0, 2, 1) := ⟨by decide, by decide, ⟨_, Or.inl rfl⟩, Or.inr ⟨rfl, rfl⟩, Or.inr (Or.inr ⟨(xh1 167 (by decide +kernel)), by decide⟩)⟩
theorem xf_1_9 : xFok (1, 9, 1, 0, 2, 1) := ⟨by decide, by decide, ⟨_, Or.inl rfl⟩, Or.inr ⟨rfl, rfl⟩, Or.inl (xg1 219 (by decide +kernel) rfl)⟩
theorem xf_1_15 : xFok (1, 15, 4, 1, 2, 1) := ⟨by decide, by decide, ⟨_, Or.inl rfl⟩, Or.inr ⟨rfl, rfl⟩, Or.inr (Or.inr ⟨(xh1 180 (by decide +kernel)), by decide⟩)⟩
theorem xf_1_21 : xFok (1, 21, 1, 1, 2, 1) := ⟨by decide, by decide, ⟨_, Or.inl rfl⟩, Or.inr ⟨rfl, rfl⟩, Or.inl (xg1 220 (by decide +kernel) rfl)⟩
theorem xf_1_27 : xFok (1, 27, 1, 2, 2, 1) := ⟨by decide, by decide, ⟨_, Or.inl rfl⟩, Or.inr ⟨rfl, rfl⟩, Or.inl (xg1 221 (by decide +kernel) rfl)⟩
theorem xf_1_36 : xFok (1, 36, 1, 3, 2, 1) := ⟨by decide, by decide, ⟨_, Or.inl rfl⟩, Or.inr ⟨rfl, rfl⟩, Or.inl (xg1 222 (by decide +kernel) rfl)⟩
theorem xf_1_40 : xFok (1, 40, 1, 6, 2, 1) := ⟨by decide, by decide, ⟨"", Or.inr ⟨_, rfl⟩⟩, Or.inr ⟨rfl, rfl⟩, Or.inl (xg1 225 (by decide +kernel) rfl)⟩
theorem xf_1_44 : xFok (1, 44, 1, 7, 2, 1) := ⟨by decide, by decide, ⟨"", Or.inr ⟨_, rfl⟩⟩, Or.inr ⟨rfl, rfl⟩, Or.inl (xg1 226 (by decide +kernel) rfl)⟩
theorem xf_1_47 : xFok (1, 47, 1, 8, 2, 1) := ⟨by decide, by decide, ⟨"", Or.inr ⟨_, rfl⟩⟩, Or.inr ⟨rfl, rfl⟩, Or.inl (xg1 227 (by decide +kernel) rfl)⟩
theorem xf_1_50 : xFok (1, 50, 1, 9, 2, 1) := ⟨by decide, by decide, ⟨"", Or.inr ⟨_, rfl⟩⟩, Or.inr ⟨rfl, rfl⟩, Or.inl (xg1 228 (by decide +kernel) rfl)⟩
theorem xf_1_53 : xFok (1, 53, 1, 10, 2, 1) := ⟨by decide, by decide, ⟨"", Or.inr ⟨_, rfl⟩⟩, Or.inr ⟨rfl, rfl⟩, Or.inl (xg1 229 (by decide +kernel) rfl)⟩
theorem xf_1_60 : xFok (1, 60, 1, 4, 0, 0) := ⟨by decide, by decide, rfl, Or.inl ⟨rfl, rfl⟩, Or.inl (xg1 223 (by decide +kernel) rfl)⟩
theorem xf_1_64 : xFok (1, 64, 1, 5, 0, 0) := ⟨by decide, by decide, rfl, Or.inl ⟨rfl, rfl⟩, Or.inl (xg1 224 (by decide +kernel) rfl)⟩
theorem xf_1_67 : xFok (1, 67, 1, 11, 0, 0) := ⟨by decide, by decide, rfl, Or.inl ⟨rfl, rfl⟩, Or.inl (xg1 230 (by decide +kernel) rfl)⟩
theorem xf_1_122 : xFok (1, 122, 5, 0, 2, 1) := ⟨by decide, by decide, ⟨_, Or.inl rfl⟩, Or.inr ⟨rfl, rfl⟩, Or.inr (Or.inr ⟨(xh1 166 (by decide +kernel)), by decide⟩)⟩
theorem xf_2_11 : xFok (2, 11, 2, 0, 2, 1) := ⟨by decide, by decide, ⟨"", Or.inr ⟨_, rfl⟩⟩, Or.inr ⟨rfl, rfl⟩, Or.inl (xg2 56 (by decide +kernel) rfl)⟩
theorem xf_2_18 : xFok (2, 18, 2, 1, 0, 0) := ⟨by decide, by decide, rfl, Or.inl ⟨rfl, rfl⟩, Or.inl (xg2 57 (by decide +kernel) rfl)⟩
theorem xf_3_14 : xFok (3, 14, 3, 0, 2, 1) := ⟨by decide, by decide, ⟨_, Or.inl rfl⟩, Or.inr ⟨rfl, rfl⟩, Or.inl (xg1 117 (by decide +kernel) rfl)⟩
theorem xf_3_24 : xFok (3, 24, 3, 1, 2, 1) := ⟨by decide, by decide, ⟨"", Or.inr ⟨_, rfl⟩⟩, Or.inr ⟨rfl, rfl⟩, Or.inl (xg1 121 (by decide +kernel) rfl)⟩
theorem xf_3_28 : xFok (3, 28, 3, 2, 0, 0) := ⟨by decide, by decide, rfl, Or.inl ⟨rfl, rfl⟩, Or.inl (xg1 122 (by decide +kernel) rfl)⟩
theorem xf_3_32 : xFok (3, 32, 3, 3, 0, 0) := ⟨by decide, by decide, rfl, Or.inl ⟨rfl, rfl⟩, Or.inl (xg1 124 (by decide +kernel) rfl)⟩
theorem xf_3_35 : xFok (3, 35, 3, 4, 0, 0) := ⟨by decide, by decide, rfl, Or.inl ⟨rfl, rfl⟩, Or.inl (xg1 127 (by decide +kernel) rfl)⟩
theorem xf_3_38 : xFok (3, 38, 3, 5, 0, 0) := ⟨by decide, by decide, rfl, Or.inl ⟨rfl, rfl⟩, Or.inl (xg1 130 (by decide +kernel) rfl)⟩
theorem xf_3_41 : xFok (3, 41, 3, 6, 0, 0) := ⟨by decide, by decide, rfl, Or.inl ⟨rfl, rfl⟩, Or.inl (xg1 133 (by decide +kernel) rfl)⟩
theorem xf_3_44 : xFok (3, 44, 3, 7, 0, 0) := ⟨by decide, by decide, rfl, Or.inl ⟨rfl, rfl⟩, Or.inl (xg1 136 (by decide +kernel) rfl)⟩
theorem xf_4_12 : xFok (4, 12, 4, 0, 2, 1) := ⟨by decide, by decide, ⟨_, Or.inl rfl⟩, Or.inr ⟨rfl, rfl⟩, Or.inl (xg1 176 (by decide +kernel) rfl)⟩
theorem xf_4_21 : xFok (4, 21, 4, 1, 2, 1) := ⟨by decide, by decide, ⟨_, Or.inl rfl⟩, Or.inr ⟨rfl, rfl⟩, Or.inl (xg1 181 (by decide +kernel) rfl)⟩
theorem xf_4_30 : xFok (4, 30, 4, 2, 2, 1) := ⟨by decide, by decide, ⟨_, Or.inl rfl⟩, Or.inr ⟨rfl, rfl⟩, Or.inl (xg1 182 (by decide +kernel) rfl)⟩
theorem xf_4_40 : xFok (4, 40, 4, 3, 0, 0) := ⟨by decide, by decide, rfl, Or.inl ⟨rfl, rfl⟩, Or.inl (xg1 183 (by decide +kernel) rfl)⟩
theorem xf_4_44 : xFok (4, 44, 3, 4, 0, 0) := ⟨by decide, by decide, rfl, Or.inl ⟨rfl, rfl⟩, Or.inr (Or.inl ⟨(xh1 128 (by decide +kernel)), rfl⟩)⟩
theorem xf_4_67 : xFok (4, 67, 5, 0, 2, 1) := ⟨by decide, by decide, ⟨_, Or.inl rfl⟩, Or.inr ⟨rfl, rfl⟩, Or.inr (Or.inr ⟨(xh1 165 (by decide +kernel)), by decide⟩)⟩
theorem xf_4_51 : xFok (4, 51, 3, 0, 2, 1) := ⟨by decide, by decide, ⟨_, Or.inl rfl⟩, Or.inr ⟨rfl, rfl⟩, Or.inr (Or.inr ⟨(xh1 119 (by decide +kernel)), by decide⟩)⟩
theorem xf_4_54 : xFok (4, 54, 3, 5, 0, 0) := ⟨by decide, by decide, rfl, Or.inl ⟨rfl, rfl⟩, Or.inr (Or.inl ⟨(xh1 131 (by decide +kernel)), rfl⟩)⟩
theorem xf_4_57 : xFok (4, 57, 3, 6, 0, 0) := ⟨by decide, by decide, rfl, Or.inl ⟨rfl, rfl⟩, Or.inr (Or.inl ⟨(xh1 134 (by decide +kernel)), rfl⟩)⟩
theorem xf_4_60 : xFok (4, 60, 3, 7, 0, 0) := ⟨by decide, by decide, rfl, Or.inl ⟨rfl, rfl⟩, Or.inr (Or.inl ⟨(xh1 137 (by decide +kernel)), rfl⟩)⟩
theorem xf_5_14 : xFok (5, 14, 5, 0, 2, 1) := ⟨by decide, by decide, ⟨_, Or.inl rfl⟩, Or.inr ⟨rfl, rfl⟩, Or.inl (xg1 164 (by decide +kernel) rfl)⟩
theorem xf_5_20 : xFok (5, 20, 5, 1, 0, 0) := ⟨by decide, by decide, rfl, Or.inl ⟨rfl, rfl⟩, Or.inl (xg1 168 (by decide +kernel) rfl)⟩
theorem xf_6_14 : xFok (6, 14, 6, 0, 2, 1) := ⟨by decide, by decide, ⟨_, Or.inl rfl⟩, Or.inr ⟨rfl, rfl⟩, Or.inl (xg2 26 (by decide +kernel) rfl)⟩
theorem xf_6_23 : xFok (6, 23, 6, 1, 2, 1) := ⟨by decide, by decide, ⟨_, Or.inl rfl⟩, Or.inr ⟨rfl, rfl⟩, Or.inl (xg2 28 (by decide +kernel) rfl)⟩
theorem xf_6_35 : xFok (6, 35, 6, 2, 0, 0) := ⟨by decide, by decide, rfl, Or.inl ⟨rfl, rfl⟩, Or.inl (xg2 30 (by decide +kernel) rfl)⟩
theorem xf_6_39 : xFok (6, 39, 6, 3, 0, 0) := ⟨by decide, by decide, rfl, Or.inl ⟨rfl, rfl⟩, Or.inl (xg2 32 (by decide +kernel) rfl)⟩
theorem xf_6_42 : xFok (6, 42, 6, 4, 0, 0) := ⟨by decide, by decide, rfl, Or.inl ⟨rfl, rfl⟩, Or.inl (xg2 34 (by decide +kernel) rfl)⟩
theorem xf_6_45 : xFok (6, 45, 3, 3, 0, 0) := ⟨by decide, by decide, rfl, Or.inl ⟨rfl, rfl⟩, Or.inr (Or.inl ⟨(xh1 125 (by decide +kernel)), rfl⟩)⟩
theorem xf_6_48 : xFok (6, 48, 3, 0, 2, 1) := ⟨by decide, by decide, ⟨_, Or.inl rfl⟩, Or.inr ⟨rfl, rfl⟩, Or.inr (Or.inr ⟨(xh1 118 (by decide +kernel)), by decide⟩)⟩
theorem xf_7_9 : xFok (7, 9, 7, 0, 0, 1) := ⟨by decide, by decide, rfl, Or.inr ⟨rfl, rfl⟩, Or.inl (xg1 57 (by decide +kernel) rfl)⟩
theorem xf_7_15 : xFok (7, 15, 7, 1, 2, 1) := ⟨by decide, by decide, ⟨_, Or.inl rfl⟩, Or.inr ⟨rfl, rfl⟩, Or.inl (xg1 59 (by decide +kernel) rfl)⟩
theorem xf_7_19 : xFok (7, 19, 7, 2, 2, 1) := ⟨by decide, by decide, ⟨"", Or.inr ⟨_, rfl⟩⟩, Or.inr ⟨rfl, rfl⟩, Or.inl (xg1 61 (by decide +kernel) rfl)⟩
theorem xf_7_23 : xFok (7, 23, 7, 3, 2, 1) := ⟨by decide, by decide, ⟨"", Or.inr ⟨_, rfl⟩⟩, Or.inr ⟨rfl, rfl⟩, Or.inl (xg1 62 (by decide +kernel) rfl)⟩
theorem xf_7_26 : xFok (7, 26, 7, 4, 2, 1) := ⟨by decide, by decide, ⟨"", Or.inr ⟨_, rfl⟩⟩, Or.inr ⟨rfl, rfl⟩, Or.inl (xg1 63 (by decide +kernel) rfl)⟩
theorem xf_7_29 : xFok (7, 29, 7, 5, 2, 1) := ⟨by decide, by decide, ⟨"", Or.inr ⟨_, rfl⟩⟩, Or.inr ⟨rfl, rfl⟩, Or.inl (xg1 64 (by decide +kernel) rfl)⟩
theorem xf_7_32 : xFok (7, 32, 7, 6, 2, 1) := ⟨by decide, by decide, ⟨"", Or.inr ⟨_, rfl⟩⟩, Or.inr ⟨rfl, rfl⟩, Or.inl (xg1 65 (by decide +kernel) rfl)⟩
theorem xf_7_35 : xFok (7, 35, 7, 7, 2, 1) := ⟨by decide, by decide, ⟨"", Or.inr ⟨_, rfl⟩⟩, Or.inr ⟨rfl, rfl⟩, Or.inl (xg1 66 (by decide +kernel) rfl)⟩
theorem xf_7_38 : xFok (7, 38, 7, 8, 0, 0) := ⟨by decide, by decide, rfl, Or.inl ⟨rfl, rfl⟩, Or.inl (xg1 67 (by decide +kernel) rfl)⟩
theorem xf_7_41 : xFok (7, 41, 7, 9, 0, 0) := ⟨by decide, by decide, rfl, Or.inl ⟨rfl, rfl⟩, Or.inl (xg1 68 (by decide +kernel) rfl)⟩
theorem xf_7_44 : xFok (7, 44, 7, 10, 0, 0) := ⟨by decide, by decide, rfl, Or.inl ⟨rfl, rfl⟩, Or.inl (xg1 69 (by decide +kernel) rfl)⟩
theorem xf_7_47 : xFok (7, 47, 7, 11, 0, 0) := ⟨by decide, by decide, rfl, Or.inl ⟨rfl, rfl⟩, Or.inl (xg1 70 (by decide +kernel) rfl)⟩
theorem xf_7_56 : xFok (7, 56, 7, 13, 0, 0) := ⟨by decide, by decide, rfl, Or.inl ⟨rfl, rfl⟩, Or.inl (xg1 72 (by decide +kernel) rfl)⟩
theorem xf_7_59 : xFok (7, 59, 7, 12, 0, 0) := ⟨by decide, by decide, rfl, Or.inl ⟨rfl, rfl⟩, Or.inl (xg1 71 (by decide +kernel) rfl)⟩
theorem xf_8_9 : xFok (8, 9, 8, 0, 0, 1) := ⟨by decide, by decide, rfl, Or.inr ⟨rfl, rfl⟩, Or.inl (xg1 35 (by decide +kernel) rfl)⟩
theorem xf_8_21 : xFok (8, 21, 8, 1, 2, 1) := ⟨by decide, by decide, ⟨"", Or.inr ⟨_, rfl⟩⟩, Or.inr ⟨rfl, rfl⟩, Or.inl (xg1 36 (by decide +kernel) rfl)⟩
theorem xf_8_25 : xFok (8, 25, 8, 2, 2, 1) := ⟨by decide, by decide, ⟨"", Or.inr ⟨_, rfl⟩⟩, Or.inr ⟨rfl, rfl⟩, Or.inl (xg1 37 (by decide +kernel) rfl)⟩
theorem xf_9_14 : xFok (9, 14, 9, 0, 2, 1) := ⟨by decide, by decide, ⟨_, Or.inl rfl⟩, Or.inr ⟨rfl, rfl⟩, Or.inl (xg2 63 (by decide +kernel) rfl)⟩
theorem xf_9_22 : xFok (9, 22, 9, 1, 2, 1) := ⟨by decide, by decide, ⟨_, Or.inl rfl⟩, Or.inr ⟨rfl, rfl⟩, Or.inl (xg2 64 (by decide +kernel) rfl)⟩
theorem xf_9_30 : xFok (9, 30, 9, 2, 2, 1) := ⟨by decide, by decide, ⟨_, Or.inl rfl⟩, Or.inr ⟨rfl, rfl⟩, Or.inl (xg2 65 (by decide +kernel) rfl)⟩
theorem xf_9_37 : xFok (9, 37, 9, 3, 2, 1) := ⟨by decide, by decide, ⟨_, Or.inl rfl⟩, Or.inr ⟨rfl, rfl⟩, Or.inl (xg2 66 (by decide +kernel) rfl)⟩
theorem xf_9_46 : xFok (9, 46, 9, 4, 2, 1) := ⟨by decide, by decide, ⟨_, Or.inl rfl⟩, Or.inr ⟨rfl, rfl⟩, Or.inl (xg2 67 (by decide +kernel) rfl)⟩
theorem xf_9_53 : xFok (9, 53, 9, 5, 2, 1) := ⟨by decide, by decide, ⟨_, Or.inl rfl⟩, Or.inr ⟨rfl, rfl⟩, Or.inl (xg2 68 (by decide +kernel) rfl)⟩
theorem xf_9_60 : xFok (9, 60, 9, 6, 2, 1) := ⟨by decide, by decide, ⟨_, Or.inl rfl⟩, Or.inr ⟨rfl, rfl⟩, Or.inl (xg2 69 (by decide +kernel) rfl)⟩
theorem xf_9_64 : xFok (9, 64, 9, 7, 2, 1) := ⟨by decide, by decide, ⟨_, Or.inl rfl⟩, Or.inr ⟨rfl, rfl⟩, Or.inl (xg2 70 (by decide +kernel) rfl)⟩
theorem xf_9_70 : xFok (9, 70, 9, 8, 2, 1) := ⟨by decide, by decide, ⟨_, Or.inl rfl⟩, Or.inr ⟨rfl, rfl⟩, Or.inl (xg2 71 (by decide +kernel) rfl)⟩
theorem xf_9_74 : xFok (9, 74, 9, 9, 1, 0) := ⟨by decide, by decide, rfl, Or.inl ⟨rfl, rfl⟩, Or.inl (xg2 72 (by decide +kernel) rfl)⟩
theorem xf_9_159 : xFok (9, 159, 6, 1, 2, 1) := ⟨by decide, by decide, ⟨_, Or.inl rfl⟩, Or.inr ⟨rfl, rfl⟩, Or.inr (Or.inr ⟨(xh2 29 (by decide +kernel)), by decide⟩)⟩
theorem xf_9_163 : xFok (9, 163, 3, 0, 2, 1) := ⟨by decide, by decide, ⟨_, Or.inl rfl⟩, Or.inr ⟨rfl, rfl⟩, Or.inr (Or.inr ⟨(xh1 120 (by decide +kernel)), by decide⟩)⟩
theorem xf_9_193 : xFok (9, 193, 3, 3, 0, 0) := ⟨by decide, by decide, rfl, Or.inl ⟨rfl, rfl⟩, Or.inr (Or.inl ⟨(xh1 126 (by decide +kernel)), rfl⟩)⟩
theorem xf_9_202 : xFok (9, 202, 3, 2, 0, 0) := ⟨by decide, by decide, rfl, Or.inl ⟨rfl, rfl⟩, Or.inr (Or.inl ⟨(xh1 123 (by decide +kernel)), rfl⟩)⟩
theorem xf_9_213 : xFok (9, 213, 3, 4, 0, 0) := ⟨by decide, by decide, rfl, Or.inl ⟨rfl, rfl⟩, Or.inr (Or.inl ⟨(xh1 129 (by decide +kernel)), rfl⟩)⟩
theorem xf_9_216 : xFok (9, 216, 3, 5, 0, 0) := ⟨by decide, by decide, rfl, Or.inl ⟨rfl, rfl⟩, Or.inr (Or.inl ⟨(xh1 132 (by decide +kernel)), rfl⟩)⟩
theorem xf_9_219 : xFok (9, 219, 3, 6, 0, 0) := ⟨by decide, by decide, rfl, Or.inl ⟨rfl, rfl⟩, Or.inr (Or.inl ⟨(xh1 135 (by decide +kernel)), rfl⟩)⟩
theorem xf_9_222 : xFok (9, 222, 3, 7, 0, 0) := ⟨by decide, by decide, rfl, Or.inl ⟨rfl, rfl⟩, Or.inr (Or.inl ⟨(xh1 138 (by decide +kernel)), rfl⟩)⟩
theorem xf_9_225 : xFok (9, 225, 6, 2, 0, 0) := ⟨by decide, by decide, rfl, Or.inl ⟨rfl, rfl⟩, Or.inr (Or.inl ⟨(xh2 31 (by decide +kernel)), rfl⟩)⟩
theorem xf_9_228 : xFok (9, 228, 6, 3, 0, 0) := ⟨by decide, by decide, rfl, Or.inl ⟨rfl, rfl⟩, Or.inr (Or.inl ⟨(xh2 33 (by decide +kernel)), rfl⟩)⟩
theorem xf_9_231 : xFok (9, 231, 6, 4, 0, 0) := ⟨by decide, by decide, rfl, Or.inl ⟨rfl, rfl⟩, Or.inr (Or.inl ⟨(xh2 35 (by decide +kernel)), rfl⟩)⟩
theorem xf_9_129 : xFok (9, 129, 6, 0, 2, 1) := ⟨by decide, by decide, ⟨_, Or.inl rfl⟩, Or.inr ⟨rfl, rfl⟩, Or.inr (Or.inr ⟨(xh2 27 (by decide +kernel)), by decide⟩)⟩
theorem xf_9_183 : xFok (9, 183, 4, 0, 2, 1) := ⟨by decide, by decide, ⟨_, Or.inl rfl⟩, Or.inr ⟨rfl, rfl⟩, Or.inr (Or.inr ⟨(xh1 178 (by decide +kernel)), by decide⟩)⟩
def xFs_l0 : List (Nat × Nat × Nat × Nat × Nat × Nat) := [(0, 9, 0, 0, 2, 1), (0, 15, 4, 1, 2, 1), (0, 21, 0, 1, 2, 1), (0, 22, 4, 0, 2, 1), (0, 26, 0, 2, 2, 1), (0, 31, 7, 0, 0, 1), (0, 91, 7, 1, 2, 1), (0, 95, 5, 0, 2, 1), (1, 9, 1, 0, 2, 1), (1, 15, 4, 1, 2, 1), (1, 21, 1, 1, 2, 1), (1, 27, 1, 2, 2, 1), (1, 36, 1, 3, 2, 1), (1, 40, 1, 6, 2, 1), (1, 44, 1, 7, 2, 1), (1, 47, 1, 8, 2, 1)]
theorem xFs_b0 : ∀ q ∈ xFs_l0, xFok q := List.forall_mem_cons.mpr ⟨xf_0_9, List.forall_mem_cons.mpr ⟨xf_0_15, List.forall_mem_cons.mpr ⟨xf_0_21, List.forall_mem_cons.mpr ⟨xf_0_22, List.forall_mem_cons.mpr ⟨xf_0_26, List.forall_mem_cons.mpr ⟨xf_0_31, List.forall_mem_cons.mpr ⟨xf_0_91, List.forall_mem_cons.mpr ⟨xf_0_95, List.forall_mem_cons.mpr ⟨xf_1_9, List.forall_mem_cons.mpr ⟨xf_1_15, List.forall_mem_cons.mpr ⟨xf_1_21, List.forall_mem_cons.mpr ⟨xf_1_27, List.forall_mem_cons.mpr ⟨xf_1_36, List.forall_mem_cons.mpr ⟨xf_1_40, List.forall_mem_cons.mpr ⟨xf_1_44, List.forall_mem_cons.mpr ⟨xf_1_47, fun _ h => absurd h List.not_mem_nil⟩⟩⟩⟩⟩⟩⟩⟩⟩⟩⟩⟩⟩⟩⟩⟩
def xFs_l16 : List (Nat × Nat × Nat × Nat × Nat × Nat) := [(1, 50, 1, 9, 2, 1), (1, 53, 1, 10, 2, 1), (1, 60, 1, 4, 0, 0), (1, 64, 1, 5, 0, 0), (1, 67, 1, 11, 0, 0), (1, 122, 5, 0, 2, 1), (2, 11, 2, 0, 2, 1), (2, 18, 2, 1, 0, 0), (3, 14, 3, 0, 2, 1), (3, 24, 3, 1, 2, 1), (3, 28, 3, 2, 0, 0), (3, 32, 3, 3, 0, 0), (3, 35, 3, 4, 0, 0), (3, 38, 3, 5, 0, 0), (3, 41, 3, 6, 0, 0), (3, 44, 3, 7, 0, 0)]
theorem xFs_b16 : ∀ q ∈ xFs_l16, xFok q := List.forall_mem_cons.mpr ⟨xf_1_50, List.forall_mem_cons.mpr ⟨xf_1_53, List.forall_mem_cons.mpr ⟨xf_1_60, List.forall_mem_cons.mpr ⟨xf_1_64, List.forall_mem_cons.mpr ⟨xf_1_67, List.forall_mem_cons.mpr ⟨xf_1_122, List.forall_mem_cons.mpr ⟨xf_2_11, List.forall_mem_cons.mpr ⟨xf_2_18, List.forall_mem_cons.mpr ⟨xf_3_14, List.forall_mem_cons.mpr ⟨xf_3_24, List.forall_mem_cons.mpr ⟨xf_3_28, List.forall_mem_cons.mpr ⟨xf_3_32, List.forall_mem_cons.mpr ⟨xf_3_35, List.forall_mem_cons.mpr ⟨xf_3_38, List.forall_mem_cons.mpr ⟨xf_3_41, List.forall_mem_cons.mpr ⟨xf_3_44, fun _ h => absurd h List.not_mem_nil⟩⟩⟩⟩⟩⟩⟩⟩⟩⟩⟩⟩⟩⟩⟩⟩
def xFs_l32 : List (Nat × Nat × Nat × Nat × Nat × Nat) := [(4, 12, 4, 0, 2, 1), (4, 21, 4, 1, 2, 1), (4, 30, 4, 2, 2, 1), (4, 40, 4, 3, 0, 0), (4, 44, 3, 4, 0, 0), (4, 67, 5, 0, 2, 1), (4, 51, 3, 0, 2, 1), (4, 54, 3, 5, 0, 0), (4, 57, 3, 6, 0, 0), (4, 60, 3, 7, 0, 0), (5, 14, 5, 0, 2, 1), (5, 20, 5, 1, 0, 0), (6, 14, 6, 0, 2, 1), (6, 23, 6, 1, 2, 1), (6, 35, 6, 2, 0, 0), (6, 39, 6, 3, 0, 0)]
theorem xFs_b32 : ∀ q ∈ xFs_l32, xFok q := List.forall_mem_cons.mpr ⟨xf_4_12, List.forall_mem_cons.mpr ⟨xf_4_21, List.forall_mem_cons.mpr ⟨xf_4_30, List.forall_mem_cons.mpr ⟨xf_4_40, List.forall_mem_cons.mpr ⟨xf_4_44, List.forall_mem_cons.mpr ⟨xf_4_67, List.forall_mem_cons.mpr ⟨xf_4_51, List.forall_mem_cons.mpr ⟨xf_4_54, List.forall_mem_cons.mpr ⟨xf_4_57, List.forall_mem_cons.mpr ⟨xf_4_60, List.forall_mem_cons.mpr ⟨xf_5_14, List.forall_mem_cons.mpr ⟨xf_5_20, List.forall_mem_cons.mpr ⟨xf_6_14, List.forall_mem_cons.mpr ⟨xf_6_23, List.forall_mem_cons.mpr ⟨xf_6_35, List.forall_mem_cons.mpr ⟨xf_6_39, fun _ h => absurd h List.not_mem_nil⟩⟩⟩⟩⟩⟩⟩⟩⟩⟩⟩⟩⟩⟩⟩⟩
def xFs_l48 : List (Nat × Nat × Nat × Nat × Nat × Nat) := [(6, 42, 6, 4, 0, 0), (6, 45, 3, 3, 0, 0), (6, 48, 3, 0, 2, 1), (7, 9, 7, 0, 0, 1), (7, 15, 7, 1, 2, 1), (7, 19, 7, 2, 2, 1), (7, 23, 7, 3, 2, 1), (7, 26, 7, 4, 2, 1), (7, 29, 7, 5, 2, 1), (7, 32, 7, 6, 2, 1), (7, 35, 7, 7, 2, 1), (7, 38, 7, 8, 0, 0), (7, 41, 7, 9, 0, 0), (7, 44, 7, 10, 0, 0), (7, 47, 7, 11, 0, 0), (7, 56, 7, 13, 0, 0)]
theorem xFs_b48 : ∀ q ∈ xFs_l48, xFok q := List.forall_mem_cons.mpr ⟨xf_6_42, List.forall_mem_cons.mpr ⟨xf_6_45, List.forall_mem_cons.mpr ⟨xf_6_48, List.forall_mem_cons.mpr ⟨xf_7_9, List.forall_mem_cons.mpr ⟨xf_7_15, List.forall_mem_cons.mpr ⟨xf_7_19, List.forall_mem_cons.mpr ⟨xf_7_23, List.forall_mem_cons.mpr ⟨xf_7_26, List.forall_mem_cons.mpr ⟨xf_7_29, List.forall_mem_cons.mpr ⟨xf_7_32, List.forall_mem_cons.mpr ⟨xf_7_35, List.forall_mem_cons.mpr ⟨xf_7_38, List.forall_mem_cons.mpr ⟨xf_7_41, List.forall_mem_cons.mpr ⟨xf_7_44, List.forall_mem_cons.mpr ⟨xf_7_47, List.forall_mem_cons.mpr ⟨xf_7_56, fun _ h => absurd h List.not_mem_nil⟩⟩⟩⟩⟩⟩⟩⟩⟩⟩⟩⟩⟩⟩⟩⟩
def xFs_l64 : List (Nat × Nat × Nat × Nat × Nat × Nat) := [(7, 59, 7, 12, 0, 0), (8, 9, 8, 0, 0, 1), (8, 21, 8, 1, 2, 1), (8, 25, 8, 2, 2, 1), (9, 14, 9, 0, 2, 1), (9, 22, 9, 1, 2, 1), (9, 30, 9, 2, 2, 1), (9, 37, 9, 3, 2, 1), (9, 46, 9, 4, 2, 1), (9, 53, 9, 5, 2, 1), (9, 60, 9, 6, 2, 1), (9, 64, 9, 7, 2, 1), (9, 70, 9, 8, 2, 1), (9, 74, 9, 9, 1, 0), (9, 159, 6, 1, 2, 1), (9, 163, 3, 0, 2, 1)]
theorem xFs_b64 : ∀ q ∈ xFs_l64, xFok q := List.forall_mem_cons.mpr ⟨xf_7_59, List.forall_mem_cons.mpr ⟨xf_8_9, List.forall_mem_cons.mpr ⟨xf_8_21, List.forall_mem_cons.mpr ⟨xf_8_25, List.forall_mem_cons.mpr ⟨xf_9_14, List.forall_mem_cons.mpr ⟨xf_9_22, List.forall_mem_cons.mpr ⟨xf_9_30, List.forall_mem_cons.mpr ⟨xf_9_37, List.forall_mem_cons.mpr ⟨xf_9_46, List.forall_mem_cons.mpr ⟨xf_9_53, List.forall_mem_cons.mpr ⟨xf_9_60, List.forall_mem_cons.mpr ⟨xf_9_64, List.forall_mem_cons.mpr ⟨xf_9_70, List.forall_mem_cons.mpr ⟨xf_9_74, List.forall_mem_cons.mpr ⟨xf_9_159, List.forall_mem_cons.mpr ⟨xf_9_163, fun _ h => absurd h List.not_mem_nil⟩⟩⟩⟩⟩⟩⟩⟩⟩⟩⟩⟩⟩⟩⟩⟩
def xFs_l80 : List (Nat × Nat × Nat × Nat × Nat × Nat) := [(9, 193, 3, 3, 0, 0), (9, 202, 3, 2, 0, 0), (9, 213, 3, 4, 0, 0), (9, 216, 3, 5, 0, 0), (9, 219, 3, 6, 0, 0), (9, 222, 3, 7, 0, 0), (9, 225, 6, 2, 0, 0), (9, 228, 6, 3, 0, 0), (9, 231, 6, 4, 0, 0), (9, 129, 6, 0, 2, 1), (9, 183, 4, 0, 2, 1)]
theorem xFs_b80 : ∀ q ∈ xFs_l80, xFok q := List.forall_mem_cons.mpr ⟨xf_9_193, List.forall_mem_cons.mpr ⟨xf_9_202, List.forall_mem_cons.mpr ⟨xf_9_213, List.forall_mem_cons.mpr ⟨xf_9_216, List.forall_mem_cons.mpr ⟨xf_9_219, List.forall_mem_cons.mpr ⟨xf_9_222, List.forall_mem_cons.mpr ⟨xf_9_225, List.forall_mem_cons.mpr ⟨xf_9_228, List.forall_mem_cons.mpr ⟨xf_9_231, List.forall_mem_cons.mpr ⟨xf_9_129, List.forall_mem_cons.mpr ⟨xf_9_183, fun _ h => absurd h List.not_mem_nil⟩⟩⟩⟩⟩⟩⟩⟩⟩⟩⟩
def xFs_l : List (Nat × Nat × Nat × Nat × Nat × Nat) := xFs_l0 ++ (xFs_l16 ++ (xFs_l32 ++ (xFs_l48 ++ (xFs_l64 ++ (xFs_l80)))))
theorem xFs_all : ∀ q ∈ xFs_l, xFok q := List.forall_mem_append.mpr ⟨xFs_b0, List.forall_mem_append.mpr ⟨xFs_b16, List.forall_mem_append.mpr ⟨xFs_b32, List.forall_mem_append.mpr ⟨xFs_b48, List.forall_mem_append.mpr ⟨xFs_b64, xFs_b80⟩⟩⟩⟩⟩
def xFin : Bool := (List.range 14).all (fun own => match xfldT[own]? with
  | some l => l.all (fun q => decide ((own, q) ∈ xFs_l))
  | none => true)
theorem xFin_ok : xFin = true := by decide +kernel
theorem xfld_ok {own i : Nat} {q : Nat × Nat × Nat × Nat} (h : xfld own i = some q) : xFok (own, i, q) := by
  unfold xfld at h
  cases hl : xfldT[own]? with
  | none => rw [hl] at h; cases h
  | some l =>
    rw [hl] at h
    have hlt : own < xfldT.length := (List.getElem?_eq_some_iff.mp hl).1
    have hlen : xfldT.length = 14 := by decide +kernel
    have h1 := List.all_eq_true.mp xFin_ok own (List.mem_range.mpr (by omega))
    rw [hl] at h1
    have h2 := List.all_eq_true.mp h1 _ (xfin_mem h)
    exact xFs_all _ (of_decide_eq_true h2)
def xKok (q : Nat × Nat × Nat) : Prop := q.2.2 < 10 ∧ xG (.classLink (xRn q.1) q.2.1 (xCl q.2.2).1)
def xKs_l0 : List (Nat × Nat × Nat) := [(1, 22, 7), (1, 31, 8), (2, 9, 6), (3, 9, 8), (4, 9, 3), (4, 18, 5), (4, 25, 8), (5, 9, 8), (6, 9, 8), (6, 20, 3), (9, 7, 8), (9, 25, 7), (9, 34, 4), (9, 41, 0), (9, 50, 1), (9, 57, 6)]
theorem xKs_b0 : ∀ q ∈ xKs_l0, xKok q := List.forall_mem_cons.mpr ⟨⟨by decide, xg1 215 (by decide +kernel) rfl⟩, List.forall_mem_cons.mpr ⟨⟨by decide, xg1 217 (by decide +kernel) rfl⟩, List.forall_mem_cons.mpr ⟨⟨by decide, xg2 53 (by decide +kernel) rfl⟩, List.forall_mem_cons.mpr ⟨⟨by decide, xg1 114 (by decide +kernel) rfl⟩, List.forall_mem_cons.mpr ⟨⟨by decide, xg1 108 (by decide +kernel) rfl⟩, List.forall_mem_cons.mpr ⟨⟨by decide, xg1 156 (by decide +kernel) rfl⟩, List.forall_mem_cons.mpr ⟨⟨by decide, xg1 174 (by decide +kernel) rfl⟩, List.forall_mem_cons.mpr ⟨⟨by decide, xg1 162 (by decide +kernel) rfl⟩, List.forall_mem_cons.mpr ⟨⟨by decide, xg2 22 (by decide +kernel) rfl⟩, List.forall_mem_cons.mpr ⟨⟨by decide, xg2 24 (by decide +kernel) rfl⟩, List.forall_mem_cons.mpr ⟨⟨by decide, xg1 26 (by decide +kernel) rfl⟩, List.forall_mem_cons.mpr ⟨⟨by decide, xg1 51 (by decide +kernel) rfl⟩, List.forall_mem_cons.mpr ⟨⟨by decide, xg1 102 (by decide +kernel) rfl⟩, List.forall_mem_cons.mpr ⟨⟨by decide, xg1 193 (by decide +kernel) rfl⟩, List.forall_mem_cons.mpr ⟨⟨by decide, xg1 209 (by decide +kernel) rfl⟩, List.forall_mem_cons.mpr ⟨⟨by decide, xg2 16 (by decide +kernel) rfl⟩, fun _ h => absurd h List.not_mem_nil⟩⟩⟩⟩⟩⟩⟩⟩⟩⟩⟩⟩⟩⟩⟩⟩
def xKs_l16 : List (Nat × Nat × Nat) := [(9, 67, 2), (11, 9, 9)]
theorem xKs_b16 : ∀ q ∈ xKs_l16, xKok q := List.forall_mem_cons.mpr ⟨⟨by decide, xg2 47 (by decide +kernel) rfl⟩, List.forall_mem_cons.mpr ⟨⟨by decide, xg1 18 (by decide +kernel) rfl⟩, fun _ h => absurd h List.not_mem_nil⟩⟩
def xKs_l : List (Nat × Nat × Nat) := xKs_l0 ++ (xKs_l16)
theorem xKs_all : ∀ q ∈ xKs_l, xKok q := List.forall_mem_append.mpr ⟨xKs_b0, xKs_b16⟩
def xKin : Bool := (List.range 14).all (fun own => match xclsT[own]? with
  | some l => l.all (fun q => decide ((own, q) ∈ xKs_l))
  | none => true)
theorem xKin_ok : xKin = true := by decide +kernel
theorem xcls_ok {own i : Nat} {q : Nat} (h : xcls own i = some q) : xKok (own, i, q) := by
  unfold xcls at h
  cases hl : xclsT[own]? with
  | none => rw [hl] at h; cases h
  | some l =>
    rw [hl] at h
    have hlt : own < xclsT.length := (List.getElem?_eq_some_iff.mp hl).1
    have hlen : xclsT.length = 14 := by decide +kernel
    have h1 := List.all_eq_true.mp xKin_ok own (List.mem_range.mpr (by omega))
    rw [hl] at h1
    have h2 := List.all_eq_true.mp h1 _ (xfin_mem h)
    exact xKs_all _ (of_decide_eq_true h2)
def xEn : Nat → String
  | 0 => "java/lang/IllegalArgumentException"
  | 1 => "java/lang/IllegalStateException"
  | 2 => "java/lang/IndexOutOfBoundsException"
  | _ => ""
def xEok (q : Nat × Nat × Nat) : Prop := q.2.2 < 3 ∧ xG (.classLink (xRn q.1) q.2.1 (xEn q.2.2))
def xEs_l0 : List (Nat × Nat × Nat) := [(9, 85, 1), (9, 172, 2), (9, 327, 0), (11, 37, 2), (11, 39, 0), (11, 41, 1)]
theorem xEs_b0 : ∀ q ∈ xEs_l0, xEok q := List.forall_mem_cons.mpr ⟨⟨by decide, xg2 134 (by decide +kernel) rfl⟩, List.forall_mem_cons.mpr ⟨⟨by decide, xg3 39 (by decide +kernel) rfl⟩, List.forall_mem_cons.mpr ⟨⟨by decide, xg2 239 (by decide +kernel) rfl⟩, List.forall_mem_cons.mpr ⟨⟨by decide, xg3 29 (by decide +kernel) rfl⟩, List.forall_mem_cons.mpr ⟨⟨by decide, xg3 30 (by decide +kernel) rfl⟩, List.forall_mem_cons.mpr ⟨⟨by decide, xg3 31 (by decide +kernel) rfl⟩, fun _ h => absurd h List.not_mem_nil⟩⟩⟩⟩⟩⟩
def xEs_l : List (Nat × Nat × Nat) := xEs_l0
theorem xEs_all : ∀ q ∈ xEs_l, xEok q := xEs_b0
def xEin : Bool := (List.range 14).all (fun own => match xcatT[own]? with
  | some l => l.all (fun q => decide ((own, q) ∈ xEs_l))
  | none => true)
theorem xEin_ok : xEin = true := by decide +kernel
theorem xcat_ok {own i : Nat} {q : Nat} (h : xcat own i = some q) : xEok (own, i, q) := by
  unfold xcat at h
  cases hl : xcatT[own]? with
  | none => rw [hl] at h; cases h
  | some l =>
    rw [hl] at h
    have hlt : own < xcatT.length := (List.getElem?_eq_some_iff.mp hl).1
    have hlen : xcatT.length = 14 := by decide +kernel
    have h1 := List.all_eq_true.mp xEin_ok own (List.mem_range.mpr (by omega))
    rw [hl] at h1
    have h2 := List.all_eq_true.mp h1 _ (xfin_mem h)
    exact xEs_all _ (of_decide_eq_true h2)
theorem xcast_0 : Cond.castable (xEn 0) (xEn 0) ∈ lw_tbl := (xh3 1 (by decide +kernel))
theorem xcast_1 : Cond.castable (xEn 1) (xEn 1) ∈ lw_tbl := (xh2 136 (by decide +kernel))
theorem xcast_2 : Cond.castable (xEn 2) (xEn 2) ∈ lw_tbl := (xh3 41 (by decide +kernel))
theorem xcast {e : Nat} (h : e < 3) : Cond.castable (xEn e) (xEn e) ∈ lw_tbl := by
  match e, h with
  | 0, _ => exact xcast_0
  | 1, _ => exact xcast_1
  | 2, _ => exact xcast_2
def xTok (q : Nat × Nat × xV) : Prop := match q.2.2 with
  | .inl x => xin x ∧ xG (.constant (xRn q.1) q.2.1 (Int32.ofInt x))
  | .inr (.inr (.inl v)) => xG (.constantLong (xRn q.1) q.2.1 v)
  | .inr (.inr (.inr v)) => xG (.constantDouble (xRn q.1) q.2.1 v)
  | _ => False
theorem xTo_0 : ∀ q ∈ ([] : List (Nat × xV)), xTok (0, q) := fun _ h => absurd h List.not_mem_nil
theorem xTo_1 : ∀ q ∈ ([(70, .inl 100000)] : List (Nat × xV)), xTok (1, q) := List.forall_mem_cons.mpr ⟨⟨by decide, xg5 1 (by decide +kernel) rfl⟩, fun _ h => absurd h List.not_mem_nil⟩
theorem xTo_2 : ∀ q ∈ ([] : List (Nat × xV)), xTok (2, q) := fun _ h => absurd h List.not_mem_nil
theorem xTo_3 : ∀ q ∈ ([] : List (Nat × xV)), xTok (3, q) := fun _ h => absurd h List.not_mem_nil
theorem xTo_4 : ∀ q ∈ ([] : List (Nat × xV)), xTok (4, q) := fun _ h => absurd h List.not_mem_nil
theorem xTo_5 : ∀ q ∈ ([] : List (Nat × xV)), xTok (5, q) := fun _ h => absurd h List.not_mem_nil
theorem xTo_6 : ∀ q ∈ ([] : List (Nat × xV)), xTok (6, q) := fun _ h => absurd h List.not_mem_nil
theorem xTo_7 : ∀ q ∈ ([] : List (Nat × xV)), xTok (7, q) := fun _ h => absurd h List.not_mem_nil
theorem xTo_8 : ∀ q ∈ ([] : List (Nat × xV)), xTok (8, q) := fun _ h => absurd h List.not_mem_nil
theorem xTo_9 : ∀ q ∈ ([] : List (Nat × xV)), xTok (9, q) := fun _ h => absurd h List.not_mem_nil
theorem xTo_10 : ∀ q ∈ ([] : List (Nat × xV)), xTok (10, q) := fun _ h => absurd h List.not_mem_nil
theorem xTo_11 : ∀ q ∈ ([(7, .inl 2147483647)] : List (Nat × xV)), xTok (11, q) := List.forall_mem_cons.mpr ⟨⟨by decide, xg2 216 (by decide +kernel) rfl⟩, fun _ h => absurd h List.not_mem_nil⟩
theorem xTo_12 : ∀ q ∈ ([] : List (Nat × xV)), xTok (12, q) := fun _ h => absurd h List.not_mem_nil
theorem xTo_13 : ∀ q ∈ ([] : List (Nat × xV)), xTok (13, q) := fun _ h => absurd h List.not_mem_nil
theorem xcst_ok {own i : Nat} {q : xV} (h : xcst own i = some q) : xTok (own, i, q) := by
  unfold xcst at h
  cases hl : xcstT[own]? with
  | none => rw [hl] at h; cases h
  | some l =>
    rw [hl] at h
    have hm := xfin_mem h
    have hlt : own < xcstT.length := (List.getElem?_eq_some_iff.mp hl).1
    have hlen : xcstT.length = 14 := by decide +kernel
    match own, hlt, hl with
    | 0, _, hl => cases hl; exact xTo_0 _ hm
    | 1, _, hl => cases hl; exact xTo_1 _ hm
    | 2, _, hl => cases hl; exact xTo_2 _ hm
    | 3, _, hl => cases hl; exact xTo_3 _ hm
    | 4, _, hl => cases hl; exact xTo_4 _ hm
    | 5, _, hl => cases hl; exact xTo_5 _ hm
    | 6, _, hl => cases hl; exact xTo_6 _ hm
    | 7, _, hl => cases hl; exact xTo_7 _ hm
    | 8, _, hl => cases hl; exact xTo_8 _ hm
    | 9, _, hl => cases hl; exact xTo_9 _ hm
    | 10, _, hl => cases hl; exact xTo_10 _ hm
    | 11, _, hl => cases hl; exact xTo_11 _ hm
    | 12, _, hl => cases hl; exact xTo_12 _ hm
    | 13, _, hl => cases hl; exact xTo_13 _ hm
    | k + 14, hlt, _ => omega
def xJok (q : Nat × Nat × Nat) : Prop := (q.2.2 = 0 ∧ xG (.methodLink (xRn q.1) q.2.1 Lib.Math.max.name)) ∨ (q.2.2 = 1 ∧ xG (.methodLink (xRn q.1) q.2.1 Lib.Math.min.name))
def xJs_l0 : List (Nat × Nat × Nat) := [(2, 29, 0), (4, 88, 0), (5, 40, 0), (7, 103, 0), (8, 15, 0), (8, 33, 1), (9, 144, 0)]
theorem xJs_b0 : ∀ q ∈ xJs_l0, xJok q := List.forall_mem_cons.mpr ⟨Or.inl ⟨rfl, xg3 64 (by decide +kernel) rfl⟩, List.forall_mem_cons.mpr ⟨Or.inl ⟨rfl, xg4 72 (by decide +kernel) rfl⟩, List.forall_mem_cons.mpr ⟨Or.inl ⟨rfl, xg4 30 (by decide +kernel) rfl⟩, List.forall_mem_cons.mpr ⟨Or.inl ⟨rfl, xg3 162 (by decide +kernel) rfl⟩, List.forall_mem_cons.mpr ⟨Or.inl ⟨rfl, xg1 32 (by decide +kernel) rfl⟩, List.forall_mem_cons.mpr ⟨Or.inr ⟨rfl, xg2 118 (by decide +kernel) rfl⟩, List.forall_mem_cons.mpr ⟨Or.inl ⟨rfl, xg3 82 (by decide +kernel) rfl⟩, fun _ h => absurd h List.not_mem_nil⟩⟩⟩⟩⟩⟩⟩
def xJs_l : List (Nat × Nat × Nat) := xJs_l0
theorem xJs_all : ∀ q ∈ xJs_l, xJok q := xJs_b0
def xJin : Bool := (List.range 14).all (fun own => match xmatT[own]? with
  | some l => l.all (fun q => decide ((own, q) ∈ xJs_l))
  | none => true)
theorem xJin_ok : xJin = true := by decide +kernel
theorem xmat_ok {own i : Nat} {q : Nat} (h : xmat own i = some q) : xJok (own, i, q) := by
  unfold xmat at h
  cases hl : xmatT[own]? with
  | none => rw [hl] at h; cases h
  | some l =>
    rw [hl] at h
    have hlt : own < xmatT.length := (List.getElem?_eq_some_iff.mp hl).1
    have hlen : xmatT.length = 14 := by decide +kernel
    have h1 := List.all_eq_true.mp xJin_ok own (List.mem_range.mpr (by omega))
    rw [hl] at h1
    have h2 := List.all_eq_true.mp h1 _ (xfin_mem h)
    exact xJs_all _ (of_decide_eq_true h2)
def xOok (q : Nat × Nat × Nat) : Prop := xG (.methodLink (xRn q.1) q.2.1 Lib.objectInit)
def xOs_l0 : List (Nat × Nat × Nat) := [(0, 3, 0), (1, 3, 0), (2, 3, 0), (3, 3, 0), (4, 3, 0), (5, 3, 0), (6, 3, 0), (7, 3, 0), (8, 3, 0), (9, 1, 0)]
theorem xOs_b0 : ∀ q ∈ xOs_l0, xOok q := List.forall_mem_cons.mpr ⟨(xg1 198 (by decide +kernel) rfl), List.forall_mem_cons.mpr ⟨(xg1 214 (by decide +kernel) rfl), List.forall_mem_cons.mpr ⟨(xg2 52 (by decide +kernel) rfl), List.forall_mem_cons.mpr ⟨(xg1 113 (by decide +kernel) rfl), List.forall_mem_cons.mpr ⟨(xg1 107 (by decide +kernel) rfl), List.forall_mem_cons.mpr ⟨(xg1 161 (by decide +kernel) rfl), List.forall_mem_cons.mpr ⟨(xg2 21 (by decide +kernel) rfl), List.forall_mem_cons.mpr ⟨(xg1 56 (by decide +kernel) rfl), List.forall_mem_cons.mpr ⟨(xg1 31 (by decide +kernel) rfl), List.forall_mem_cons.mpr ⟨(xg1 23 (by decide +kernel) rfl), fun _ h => absurd h List.not_mem_nil⟩⟩⟩⟩⟩⟩⟩⟩⟩⟩
def xOs_l : List (Nat × Nat × Nat) := xOs_l0
theorem xOs_all : ∀ q ∈ xOs_l, xOok q := xOs_b0
def xOin : Bool := (List.range 14).all (fun own => match xobjT[own]? with
  | some l => l.all (fun q => decide ((own, q) ∈ xOs_l))
  | none => true)
theorem xOin_ok : xOin = true := by decide +kernel
theorem xobj_ok {own i : Nat} {q : Nat} (h : xobj own i = some q) : xOok (own, i, q) := by
  unfold xobj at h
  cases hl : xobjT[own]? with
  | none => rw [hl] at h; cases h
  | some l =>
    rw [hl] at h
    have hlt : own < xobjT.length := (List.getElem?_eq_some_iff.mp hl).1
    have hlen : xobjT.length = 14 := by decide +kernel
    have h1 := List.all_eq_true.mp xOin_ok own (List.mem_range.mpr (by omega))
    rw [hl] at h1
    have h2 := List.all_eq_true.mp h1 _ (xfin_mem h)
    exact xOs_all _ (of_decide_eq_true h2)
theorem xmath_max : xG (.static Lib.Math.max.name) ∧ xG (.code Lib.Math.max.name Lib.Math.max.code 2 (some .int)) := ⟨xg1 33 (by decide +kernel) rfl, xg1 34 (by decide +kernel) rfl⟩
theorem xmath_min : xG (.static Lib.Math.min.name) ∧ xG (.code Lib.Math.min.name Lib.Math.min.code 2 (some .int)) := ⟨xg2 119 (by decide +kernel) rfl, xg2 120 (by decide +kernel) rfl⟩
theorem xmath_ini : xG (.initialized "java/lang/Math") := xg1 3 (by decide +kernel) rfl
theorem xobj_w : xG (.instanceMethod Lib.objectInit) ∧ xG (.code Lib.objectInit ⟨#[0xb1]⟩ 1 none) := ⟨xg1 24 (by decide +kernel) rfl, xg1 25 (by decide +kernel) rfl⟩
theorem xarr_int : xG (.arrayClass .int) := xg1 46 (by decide +kernel) rfl
theorem xarr_char : xG (.arrayClass .char) := xg1 45 (by decide +kernel) rfl
-- no arrays of long here
theorem xarr_over : Cond.arrayOver (.object (xCl 6).1) ∈ lw_tbl := (xh2 54 (by decide +kernel))
def xDc : List MethodName := [⟨"java/lang/RuntimeException", "<init>", "(Ljava/lang/String;)V"⟩, ⟨"java/lang/Exception", "<init>", "(Ljava/lang/String;)V"⟩, ⟨"java/lang/Throwable", "<init>", "(Ljava/lang/String;)V"⟩]
theorem xDc_all : ∀ q ∈ xDc, Cond.declares q ∈ lw_tbl := List.forall_mem_cons.mpr ⟨(xh2 138 (by decide +kernel)), List.forall_mem_cons.mpr ⟨(xh2 140 (by decide +kernel)), List.forall_mem_cons.mpr ⟨(xh2 142 (by decide +kernel)), fun _ h => absurd h List.not_mem_nil⟩⟩⟩
theorem xat_1 : ((vx_atS RX9 89 (xEn 1) ["java/lang/RuntimeException", "java/lang/Exception"]).filter goodWord).all (fun w => decide (w ∈ lw_tbl)) = true := by decide +kernel
theorem xau_1 : (vx_atS RX9 89 (xEn 1) ["java/lang/RuntimeException", "java/lang/Exception"]).filter (fun w => !goodWord w) = xDc.map Cond.declares ++ [.castable (xEn 1) (xEn 1)] := by decide +kernel
theorem xav_1 : (vx_atS RX9 89 (xEn 1) ["java/lang/RuntimeException", "java/lang/Exception"]).all vx_ot = true := by decide +kernel
theorem xat_2 : ((vx_atS RX9 176 (xEn 2) ["java/lang/RuntimeException", "java/lang/Exception"]).filter goodWord).all (fun w => decide (w ∈ lw_tbl)) = true := by decide +kernel
theorem xau_2 : (vx_atS RX9 176 (xEn 2) ["java/lang/RuntimeException", "java/lang/Exception"]).filter (fun w => !goodWord w) = xDc.map Cond.declares ++ [.castable (xEn 2) (xEn 2)] := by decide +kernel
theorem xav_2 : (vx_atS RX9 176 (xEn 2) ["java/lang/RuntimeException", "java/lang/Exception"]).all vx_ot = true := by decide +kernel
theorem xat_0 : ((vx_atS RX9 331 (xEn 0) ["java/lang/RuntimeException", "java/lang/Exception"]).filter goodWord).all (fun w => decide (w ∈ lw_tbl)) = true := by decide +kernel
theorem xau_0 : (vx_atS RX9 331 (xEn 0) ["java/lang/RuntimeException", "java/lang/Exception"]).filter (fun w => !goodWord w) = xDc.map Cond.declares ++ [.castable (xEn 0) (xEn 0)] := by decide +kernel
theorem xav_0 : (vx_atS RX9 331 (xEn 0) ["java/lang/RuntimeException", "java/lang/Exception"]).all vx_ot = true := by decide +kernel
def xSs : List (Nat × String) := [(87, "the buffer is full"), (132, "the value is full"), (157, "the escaped value is too long"), (174, "the value has no such place"), (191, "the output has no such place"), (200, "the latest rendering did not fail"), (208, "the failure has no such place"), (245, "no state is saved"), (329, "the code is not 33 to 126"), (332, "there is no such variable"), (334, "the variable has no value"), (336, "the template is not complete"), (338, "the text is too long for a value")]
theorem xstr_87 : Cond.stringRef RX9 87 "the buffer is full" ∈ lw_tbl := (xh3 19 (by decide +kernel))
theorem xstr_132 : Cond.stringRef RX9 132 "the value is full" ∈ lw_tbl := (xh3 55 (by decide +kernel))
theorem xstr_157 : Cond.stringRef RX9 157 "the escaped value is too long" ∈ lw_tbl := (xh3 100 (by decide +kernel))
theorem xstr_174 : Cond.stringRef RX9 174 "the value has no such place" ∈ lw_tbl := (xh4 145 (by decide +kernel))
theorem xstr_191 : Cond.stringRef RX9 191 "the output has no such place" ∈ lw_tbl := (xh4 132 (by decide +kernel))
theorem xstr_200 : Cond.stringRef RX9 200 "the latest rendering did not fail" ∈ lw_tbl := (xh4 159 (by decide +kernel))
theorem xstr_208 : Cond.stringRef RX9 208 "the failure has no such place" ∈ lw_tbl := (xh4 165 (by decide +kernel))
theorem xstr_245 : Cond.stringRef RX9 245 "no state is saved" ∈ lw_tbl := (xh2 175 (by decide +kernel))
theorem xstr_329 : Cond.stringRef RX9 329 "the code is not 33 to 126" ∈ lw_tbl := (xh3 8 (by decide +kernel))
theorem xstr_332 : Cond.stringRef RX9 332 "there is no such variable" ∈ lw_tbl := (xh3 48 (by decide +kernel))
theorem xstr_334 : Cond.stringRef RX9 334 "the variable has no value" ∈ lw_tbl := (xh3 73 (by decide +kernel))
theorem xstr_336 : Cond.stringRef RX9 336 "the template is not complete" ∈ lw_tbl := (xh3 167 (by decide +kernel))
theorem xstr_338 : Cond.stringRef RX9 338 "the text is too long for a value" ∈ lw_tbl := (xh3 109 (by decide +kernel))
theorem xSs_all : ∀ q ∈ xSs, Cond.stringRef RX9 q.1 q.2 ∈ lw_tbl := List.forall_mem_cons.mpr ⟨xstr_87, List.forall_mem_cons.mpr ⟨xstr_132, List.forall_mem_cons.mpr ⟨xstr_157, List.forall_mem_cons.mpr ⟨xstr_174, List.forall_mem_cons.mpr ⟨xstr_191, List.forall_mem_cons.mpr ⟨xstr_200, List.forall_mem_cons.mpr ⟨xstr_208, List.forall_mem_cons.mpr ⟨xstr_245, List.forall_mem_cons.mpr ⟨xstr_329, List.forall_mem_cons.mpr ⟨xstr_332, List.forall_mem_cons.mpr ⟨xstr_334, List.forall_mem_cons.mpr ⟨xstr_336, List.forall_mem_cons.mpr ⟨xstr_338, fun _ h => absurd h List.not_mem_nil⟩⟩⟩⟩⟩⟩⟩⟩⟩⟩⟩⟩⟩
/-- a throw: the five instructions, and what they name -/
def xHok (q : Nat × Nat × Nat) : Prop := xown q.1 = 9 ∧ xhh q.1 = [] ∧ q.2.2 < 3 ∧ ∃ (ik is ic : Nat) (tx : String), (is, tx) ∈ xSs ∧ xG (.classLink RX9 ik (xEn q.2.2)) ∧ ((q.2.2 = 0 ∧ ic = 331) ∨ (q.2.2 = 1 ∧ ic = 89) ∨ (q.2.2 = 2 ∧ ic = 176)) ∧ decode (xby q.1) q.2.1 = .ok (.new ik, 3) ∧ decode (xby q.1) (q.2.1 + 3) = .ok (.dup, 1) ∧ ((decode (xby q.1) (q.2.1 + 4) = .ok (.ldc is, 2) ∧ decode (xby q.1) (q.2.1 + 6) = .ok (.invokespecial ic, 3) ∧ decode (xby q.1) (q.2.1 + 9) = .ok (.athrow, 1)) ∨ (decode (xby q.1) (q.2.1 + 4) = .ok (.ldc_w is, 3) ∧ decode (xby q.1) (q.2.1 + 7) = .ok (.invokespecial ic, 3) ∧ decode (xby q.1) (q.2.1 + 10) = .ok (.athrow, 1)))
theorem xth_105_7 : xHok (105, 7, 1) := ⟨by decide +kernel, by decide +kernel, by decide, 85, 200, 89, _, List.mem_of_getElem? (i := 5) rfl, xg2 134 (by decide +kernel) rfl, Or.inr (Or.inl ⟨rfl, rfl⟩), by decide +kernel, by decide +kernel, Or.inl ⟨by decide +kernel, by decide +kernel, by decide +kernel⟩⟩
theorem xth_106_12 : xHok (106, 12, 2) := ⟨by decide +kernel, by decide +kernel, by decide, 172, 208, 176, _, List.mem_of_getElem? (i := 6) rfl, xg3 39 (by decide +kernel) rfl, Or.inr (Or.inr ⟨rfl, rfl⟩), by decide +kernel, by decide +kernel, Or.inl ⟨by decide +kernel, by decide +kernel, by decide +kernel⟩⟩
theorem xth_108_10 : xHok (108, 10, 2) := ⟨by decide +kernel, by decide +kernel, by decide, 172, 332, 176, _, List.mem_of_getElem? (i := 9) rfl, xg3 39 (by decide +kernel) rfl, Or.inr (Or.inr ⟨rfl, rfl⟩), by decide +kernel, by decide +kernel, Or.inr ⟨by decide +kernel, by decide +kernel, by decide +kernel⟩⟩
theorem xth_110_21 : xHok (110, 21, 1) := ⟨by decide +kernel, by decide +kernel, by decide, 85, 334, 89, _, List.mem_of_getElem? (i := 10) rfl, xg2 134 (by decide +kernel) rfl, Or.inr (Or.inl ⟨rfl, rfl⟩), by decide +kernel, by decide +kernel, Or.inr ⟨by decide +kernel, by decide +kernel, by decide +kernel⟩⟩
theorem xth_117_22 : xHok (117, 22, 1) := ⟨by decide +kernel, by decide +kernel, by decide, 85, 336, 89, _, List.mem_of_getElem? (i := 11) rfl, xg2 134 (by decide +kernel) rfl, Or.inr (Or.inl ⟨rfl, rfl⟩), by decide +kernel, by decide +kernel, Or.inr ⟨by decide +kernel, by decide +kernel, by decide +kernel⟩⟩
theorem xth_126_16 : xHok (126, 16, 1) := ⟨by decide +kernel, by decide +kernel, by decide, 85, 87, 89, _, List.mem_of_getElem? (i := 0) rfl, xg2 134 (by decide +kernel) rfl, Or.inr (Or.inl ⟨rfl, rfl⟩), by decide +kernel, by decide +kernel, Or.inl ⟨by decide +kernel, by decide +kernel, by decide +kernel⟩⟩
theorem xth_127_12 : xHok (127, 12, 0) := ⟨by decide +kernel, by decide +kernel, by decide, 327, 329, 331, _, List.mem_of_getElem? (i := 8) rfl, xg2 239 (by decide +kernel) rfl, Or.inl ⟨rfl, rfl⟩, by decide +kernel, by decide +kernel, Or.inr ⟨by decide +kernel, by decide +kernel, by decide +kernel⟩⟩
theorem xth_128_26 : xHok (128, 26, 1) := ⟨by decide +kernel, by decide +kernel, by decide, 85, 132, 89, _, List.mem_of_getElem? (i := 1) rfl, xg2 134 (by decide +kernel) rfl, Or.inr (Or.inl ⟨rfl, rfl⟩), by decide +kernel, by decide +kernel, Or.inl ⟨by decide +kernel, by decide +kernel, by decide +kernel⟩⟩
theorem xth_132_18 : xHok (132, 18, 1) := ⟨by decide +kernel, by decide +kernel, by decide, 85, 157, 89, _, List.mem_of_getElem? (i := 2) rfl, xg2 134 (by decide +kernel) rfl, Or.inr (Or.inl ⟨rfl, rfl⟩), by decide +kernel, by decide +kernel, Or.inl ⟨by decide +kernel, by decide +kernel, by decide +kernel⟩⟩
theorem xth_134_12 : xHok (134, 12, 1) := ⟨by decide +kernel, by decide +kernel, by decide, 85, 338, 89, _, List.mem_of_getElem? (i := 12) rfl, xg2 134 (by decide +kernel) rfl, Or.inr (Or.inl ⟨rfl, rfl⟩), by decide +kernel, by decide +kernel, Or.inr ⟨by decide +kernel, by decide +kernel, by decide +kernel⟩⟩
theorem xth_137_15 : xHok (137, 15, 2) := ⟨by decide +kernel, by decide +kernel, by decide, 172, 174, 176, _, List.mem_of_getElem? (i := 3) rfl, xg3 39 (by decide +kernel) rfl, Or.inr (Or.inr ⟨rfl, rfl⟩), by decide +kernel, by decide +kernel, Or.inl ⟨by decide +kernel, by decide +kernel, by decide +kernel⟩⟩
theorem xth_139_12 : xHok (139, 12, 2) := ⟨by decide +kernel, by decide +kernel, by decide, 172, 191, 176, _, List.mem_of_getElem? (i := 4) rfl, xg3 39 (by decide +kernel) rfl, Or.inr (Or.inr ⟨rfl, rfl⟩), by decide +kernel, by decide +kernel, Or.inl ⟨by decide +kernel, by decide +kernel, by decide +kernel⟩⟩
theorem xth_141_14 : xHok (141, 14, 1) := ⟨by decide +kernel, by decide +kernel, by decide, 85, 245, 89, _, List.mem_of_getElem? (i := 7) rfl, xg2 134 (by decide +kernel) rfl, Or.inr (Or.inl ⟨rfl, rfl⟩), by decide +kernel, by decide +kernel, Or.inl ⟨by decide +kernel, by decide +kernel, by decide +kernel⟩⟩
def xHs_l0 : List (Nat × Nat × Nat) := [(105, 7, 1), (106, 12, 2), (108, 10, 2), (110, 21, 1), (117, 22, 1), (126, 16, 1), (127, 12, 0), (128, 26, 1), (132, 18, 1), (134, 12, 1), (137, 15, 2), (139, 12, 2), (141, 14, 1)]
theorem xHs_b0 : ∀ q ∈ xHs_l0, xHok q := List.forall_mem_cons.mpr ⟨xth_105_7, List.forall_mem_cons.mpr ⟨xth_106_12, List.forall_mem_cons.mpr ⟨xth_108_10, List.forall_mem_cons.mpr ⟨xth_110_21, List.forall_mem_cons.mpr ⟨xth_117_22, List.forall_mem_cons.mpr ⟨xth_126_16, List.forall_mem_cons.mpr ⟨xth_127_12, List.forall_mem_cons.mpr ⟨xth_128_26, List.forall_mem_cons.mpr ⟨xth_132_18, List.forall_mem_cons.mpr ⟨xth_134_12, List.forall_mem_cons.mpr ⟨xth_137_15, List.forall_mem_cons.mpr ⟨xth_139_12, List.forall_mem_cons.mpr ⟨xth_141_14, fun _ h => absurd h List.not_mem_nil⟩⟩⟩⟩⟩⟩⟩⟩⟩⟩⟩⟩⟩
def xHs_l : List (Nat × Nat × Nat) := xHs_l0
theorem xHs_all : ∀ q ∈ xHs_l, xHok q := xHs_b0
theorem xHs_eq : xthrT = xHs_l := by decide +kernel
theorem xthr_ok {mi pc E : Nat} (h : xthr mi pc = some E) : xHok (mi, pc, E) := by
  unfold xthr at h
  cases hf : xthrT.find? (fun q => Nat.beq q.1 mi && Nat.beq q.2.1 pc) with
  | none => rw [hf] at h; cases h
  | some q =>
    rw [hf] at h
    have h1 := List.find?_some hf
    have h2 := List.mem_of_find?_eq_some hf
    rw [xHs_eq] at h2
    have h3 := xHs_all q h2
    obtain ⟨a, b, e⟩ := q
    simp only [Bool.and_eq_true] at h1
    have e1 := Nat.eq_of_beq_eq_true h1.1
    have e2 := Nat.eq_of_beq_eq_true h1.2
    simp only at e1 e2 h
    cases h
    subst e1; subst e2
    exact h3
