/-! ===== the start ===== -/
def ini1 : Option xR := xr 100000 1999 81 0 (xent [.inr (.inl (some 1))]) [] [(99, []), (9, xdf 9)] 0
def ini2 : Option xR := match ini1 with
  | some (.inl none, ph, 0) => xr 100000 1999 143 0 (xent [.inr (.inl (some 147))]) [] (ph ++ [(10, xdf 10)]) 0
  | _ => none
theorem ini2_ok : (match ini2 with | some (.inl none, ph, 0) => decide (ph.length = 168) | _ => false) = true := by decide +kernel
