/-! ===== the start ===== -/
def ini1 : Option xR := xr 100000 1999 81 0 (xent [.inr (.inl (some 1))]) [] [(99, []), (9, xdf 9)] 0
theorem ini1_ok : (match ini1 with | some (.inl none, ph, 0) => decide (ph.length = 147) | _ => false) = true := by decide +kernel
