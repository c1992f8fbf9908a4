/-! ===== isTemplateSo ===== -/
section TSK
variable {zs : List xV} {xo : Int} {d : Nat} {t : List Int} {f : Nat → Option (List Int)} {oc : OC} {rn fl pr : Nat} {n1 : Option SS} {e1 : List SS} {c2 : KS} {D D1 : Cf}
theorem w83 {R : xH} {g : Nat} {Q : xR → Prop} (hR : hPP zs R ((t, (f, oc, (rn : Int), (fl : Int), (pr : Int)), n1, e1), c2) xo) (hQ : ∀ R2, hPP zs R2 ((t, (f, oc, (rn : Int), (fl : Int), (pr : Int)), n1, e1), c2) xo → Q (.inl (some (.inl (t.length : Int))), R2, g)) : xTC (d + 1224) 83 [.inr (.inl (some (ob false)))] R g Q := k83 (s := ((t, (f, oc, (rn : Int), (fl : Int), (pr : Int)), n1, e1), c2)) false  hR hQ
theorem w84 {R : xH} {g : Nat} {Q : xR → Prop} (hl : t.length ≤ 60) (hR : hPP zs R ((t, (f, oc, (rn : Int), (fl : Int), (pr : Int)), n1, e1), c2) xo) (hQ : ∀ R2, hPP zs R2 ((t, (f, oc, (rn : Int), (fl : Int), (pr : Int)), n1, e1), c2) xo → Q (.inl (some (.inl ((pRes t).1 : Int))), R2, g)) : xTC (d + 1224) 84 [.inr (.inl (some (ob false)))] R g Q := k84 (s := ((t, (f, oc, (rn : Int), (fl : Int), (pr : Int)), n1, e1), c2)) false hl hR hQ
theorem w86 {R : xH} {g : Nat} {Q : xR → Prop} (hl : t.length ≤ 60) (hR : hPP zs R ((t, (f, oc, (rn : Int), (fl : Int), (pr : Int)), n1, e1), c2) xo) (hQ : ∀ R2, hPP zs R2 ((t, (f, oc, (rn : Int), (fl : Int), (pr : Int)), n1, e1), c2) xo → Q (.inl (some (.inl (if pWh t = true then 1 else 0))), R2, g)) : xTC (d + 1224) 86 [.inr (.inl (some (ob false)))] R g Q := k86 (s := ((t, (f, oc, (rn : Int), (fl : Int), (pr : Int)), n1, e1), c2)) false hl hR hQ
theorem w116 {R : xH} {g : Nat} {Q : xR → Prop} (hl : t.length ≤ 60) (hw : pWh t = true) (hR : hPP zs R ((t, (f, oc, (rn : Int), (fl : Int), (pr : Int)), n1, e1), c2) xo) (hQ : ∀ R2, hPP zs R2 ((t, (f, oc, (rn : Int), (fl : Int), (pr : Int)), n1, e1), c2) xo → Q (.inl (some (.inl ((pPs t).length : Int))), R2, g)) : xTC (d + 1224) 116 [.inr (.inl (some (ob false)))] R g Q := k116 (s := ((t, (f, oc, (rn : Int), (fl : Int), (pr : Int)), n1, e1), c2)) false hl hw hR hQ
theorem w118 {R : xH} {g : Nat} {Q : xR → Prop} (hl : t.length ≤ 60) (hw : pWh t = true) (hR : hPP zs R ((t, (f, oc, (rn : Int), (fl : Int), (pr : Int)), n1, e1), c2) xo) (hQ : ∀ R2, hPP zs R2 ((t, (f, oc, (rn : Int), (fl : Int), (pr : Int)), n1, e1), c2) xo → Q (.inl (some (.inl (pDp t : Int))), R2, g)) : xTC (d + 1224) 118 [.inr (.inl (some (ob false)))] R g Q := k118 (s := ((t, (f, oc, (rn : Int), (fl : Int), (pr : Int)), n1, e1), c2)) false hl hw hR hQ
theorem w119 {R : xH} {g : Nat} {Q : xR → Prop} (hl : t.length ≤ 60) (hw : pWh t = true) (hR : hPP zs R ((t, (f, oc, (rn : Int), (fl : Int), (pr : Int)), n1, e1), c2) xo) (hQ : ∀ R2, hPP zs R2 ((t, (f, oc, (rn : Int), (fl : Int), (pr : Int)), n1, e1), c2) xo → Q (.inl (some (.inl (mkU (pPs t) 0))), R2, g)) : xTC (d + 1224) 119 [.inr (.inl (some (ob false)))] R g Q := k119 (s := ((t, (f, oc, (rn : Int), (fl : Int), (pr : Int)), n1, e1), c2)) false hl hw hR hQ
theorem w120 {R : xH} {g : Nat} {Q : xR → Prop} (hl : t.length ≤ 60) (hw : pWh t = true) (hR : hPP zs R ((t, (f, oc, (rn : Int), (fl : Int), (pr : Int)), n1, e1), c2) xo) (hQ : ∀ R2, hPP zs R2 ((t, (f, oc, (rn : Int), (fl : Int), (pr : Int)), n1, e1), c2) xo → Q (.inl (some (.inl (mkG (pPs t) 0))), R2, g)) : xTC (d + 1224) 120 [.inr (.inl (some (ob false)))] R g Q := k120 (s := ((t, (f, oc, (rn : Int), (fl : Int), (pr : Int)), n1, e1), c2)) false hl hw hR hQ
theorem w121 {R : xH} {g : Nat} {Q : xR → Prop} (hl : t.length ≤ 60) (hw : pWh t = true) (hR : hPP zs R ((t, (f, oc, (rn : Int), (fl : Int), (pr : Int)), n1, e1), c2) xo) (hQ : ∀ R2, hPP zs R2 ((t, (f, oc, (rn : Int), (fl : Int), (pr : Int)), n1, e1), c2) xo → Q (.inl (some (.inl ((mkL (pPs t) 0 : Nat) : Int))), R2, g)) : xTC (d + 1224) 121 [.inr (.inl (some (ob false)))] R g Q := k121 (s := ((t, (f, oc, (rn : Int), (fl : Int), (pr : Int)), n1, e1), c2)) false hl hw hR hQ
theorem w122 {R : xH} {g : Nat} {Q : xR → Prop} (hl : t.length ≤ 60) (hok : oks t) (hw : pWh t = true) (hD : Fin t f (-1) D) (hR : hPP zs R ((t, (f, oc, (rn : Int), (fl : Int), (pr : Int)), n1, e1), c2) xo) (hQ : ∀ R2, hPP zs R2 ((t, (f, oc, (rn : Int), (fl : Int), (pr : Int)), n1, e1), c2) xo → Q (.inl (some (.inl (D.2.1.2.2.1.length : Int))), R2, g)) : xTC (d + 1224) 122 [.inr (.inl (some (ob false)))] R g Q := k122 (s := ((t, (f, oc, (rn : Int), (fl : Int), (pr : Int)), n1, e1), c2)) false hl hok hw hD hR hQ
theorem w123 {R : xH} {g : Nat} {Q : xR → Prop} (hl : t.length ≤ 60) (hok : oks t) (hw : pWh t = true) (hD : Fin t f (-1) D) (hR : hPP zs R ((t, (f, oc, (rn : Int), (fl : Int), (pr : Int)), n1, e1), c2) xo) (hQ : ∀ R2, hPP zs R2 ((t, (f, oc, (rn : Int), (fl : Int), (pr : Int)), n1, e1), c2) xo → Q (.inl (some (.inl (D.2.1.2.2.1.length : Int))), R2, g)) : xTC (d + 1224) 123 [.inr (.inl (some (ob false)))] R g Q := k123d (s := ((t, (f, oc, (rn : Int), (fl : Int), (pr : Int)), n1, e1), c2)) false hl hok hw hD hR hQ
theorem w124 {R : xH} {g : Nat} {Q : xR → Prop} (hl : t.length ≤ 60) (hok : oks t) (hw : pWh t = true) (hD : Fin t f (-1) D) (hR : hPP zs R ((t, (f, oc, (rn : Int), (fl : Int), (pr : Int)), n1, e1), c2) xo) (hQ : ∀ R2, hPP zs R2 ((t, (f, oc, (rn : Int), (fl : Int), (pr : Int)), n1, e1), c2) xo → Q (.inl (some (.inl (D.2.2.1 : Int))), R2, g)) : xTC (d + 1224) 124 [.inr (.inl (some (ob false)))] R g Q := k124 (s := ((t, (f, oc, (rn : Int), (fl : Int), (pr : Int)), n1, e1), c2)) false hl hok hw hD hR hQ
theorem w96 {R : xH} {g : Nat} {Q : xR → Prop} (hR : hPP zs R ((t, (f, oc, (rn : Int), (fl : Int), (pr : Int)), n1, e1), c2) xo) (hQ : ∀ R2, hPP zs R2 ((t, (f, oc, (rn : Int), (fl : Int), (pr : Int)), n1, e1), c2) xo → Q (.inl (some (.inl (pr : Int))), R2, g)) : xTC (d + 1224) 96 [.inr (.inl (some (ob false)))] R g Q := k96 (s := ((t, (f, oc, (rn : Int), (fl : Int), (pr : Int)), n1, e1), c2)) false  hR hQ
theorem w95 {R : xH} {g : Nat} {Q : xR → Prop} (hR : hPP zs R ((t, (f, oc, (rn : Int), (fl : Int), (pr : Int)), n1, e1), c2) xo) (hQ : ∀ R2, hPP zs R2 ((t, (f, oc, (rn : Int), (fl : Int), (pr : Int)), n1, e1), c2) xo → Q (.inl (some (.inl (fl : Int))), R2, g)) : xTC (d + 1224) 95 [.inr (.inl (some (ob false)))] R g Q := k95 (s := ((t, (f, oc, (rn : Int), (fl : Int), (pr : Int)), n1, e1), c2)) false  hR hQ
theorem v96 {R : xH} {g : Nat} {Q : xR → Prop} (hR : hPP zs R ((t, (f, ocD D, (rn : Int) + 1, (if (D.2.2.1 : Int) = 0 then (fl : Int) else (fl : Int) + 1), (pr : Int) + (D.2.1.2.2.1.length : Int)), n1, (if e1.length = 6 then e1.tail else e1) ++ [(f, oc, (rn : Int), (fl : Int), (pr : Int))]), c2) xo) (hQ : ∀ R2, hPP zs R2 ((t, (f, ocD D, (rn : Int) + 1, (if (D.2.2.1 : Int) = 0 then (fl : Int) else (fl : Int) + 1), (pr : Int) + (D.2.1.2.2.1.length : Int)), n1, (if e1.length = 6 then e1.tail else e1) ++ [(f, oc, (rn : Int), (fl : Int), (pr : Int))]), c2) xo → Q (.inl (some (.inl ((pr : Int) + (D.2.1.2.2.1.length : Int)))), R2, g)) : xTC (d + 1224) 96 [.inr (.inl (some (ob false)))] R g Q := k96 (s := ((t, (f, ocD D, (rn : Int) + 1, (if (D.2.2.1 : Int) = 0 then (fl : Int) else (fl : Int) + 1), (pr : Int) + (D.2.1.2.2.1.length : Int)), n1, (if e1.length = 6 then e1.tail else e1) ++ [(f, oc, (rn : Int), (fl : Int), (pr : Int))]), c2)) false  hR hQ
theorem v95 {R : xH} {g : Nat} {Q : xR → Prop} (hR : hPP zs R ((t, (f, ocD D, (rn : Int) + 1, (if (D.2.2.1 : Int) = 0 then (fl : Int) else (fl : Int) + 1), (pr : Int) + (D.2.1.2.2.1.length : Int)), n1, (if e1.length = 6 then e1.tail else e1) ++ [(f, oc, (rn : Int), (fl : Int), (pr : Int))]), c2) xo) (hQ : ∀ R2, hPP zs R2 ((t, (f, ocD D, (rn : Int) + 1, (if (D.2.2.1 : Int) = 0 then (fl : Int) else (fl : Int) + 1), (pr : Int) + (D.2.1.2.2.1.length : Int)), n1, (if e1.length = 6 then e1.tail else e1) ++ [(f, oc, (rn : Int), (fl : Int), (pr : Int))]), c2) xo → Q (.inl (some (.inl (if (D.2.2.1 : Int) = 0 then (fl : Int) else (fl : Int) + 1))), R2, g)) : xTC (d + 1224) 95 [.inr (.inl (some (ob false)))] R g Q := k95 (s := ((t, (f, ocD D, (rn : Int) + 1, (if (D.2.2.1 : Int) = 0 then (fl : Int) else (fl : Int) + 1), (pr : Int) + (D.2.1.2.2.1.length : Int)), n1, (if e1.length = 6 then e1.tail else e1) ++ [(f, oc, (rn : Int), (fl : Int), (pr : Int))]), c2)) false  hR hQ
theorem v88 {R : xH} {g : Nat} {Q : xR → Prop} (hR : hPP zs R ((t, (f, ocD D, (rn : Int) + 1, (if (D.2.2.1 : Int) = 0 then (fl : Int) else (fl : Int) + 1), (pr : Int) + (D.2.1.2.2.1.length : Int)), n1, (if e1.length = 6 then e1.tail else e1) ++ [(f, oc, (rn : Int), (fl : Int), (pr : Int))]), c2) xo) (hQ : ∀ R2, hPP zs R2 ((t, (f, ocD D, (rn : Int) + 1, (if (D.2.2.1 : Int) = 0 then (fl : Int) else (fl : Int) + 1), (pr : Int) + (D.2.1.2.2.1.length : Int)), n1, (if e1.length = 6 then e1.tail else e1) ++ [(f, oc, (rn : Int), (fl : Int), (pr : Int))]), c2) xo → Q (.inl (some (.inl (if (D.2.2.1 : Int) = 0 then 0 else 1))), R2, g)) : xTC (d + 1224) 88 [.inr (.inl (some (ob false)))] R g Q := k88 (s := ((t, (f, ocD D, (rn : Int) + 1, (if (D.2.2.1 : Int) = 0 then (fl : Int) else (fl : Int) + 1), (pr : Int) + (D.2.1.2.2.1.length : Int)), n1, (if e1.length = 6 then e1.tail else e1) ++ [(f, oc, (rn : Int), (fl : Int), (pr : Int))]), c2)) false  hR hQ
theorem v105 {R : xH} {g : Nat} {Q : xR → Prop} (hr : (D.2.2.1 : Int) ≠ 0) (hR : hPP zs R ((t, (f, ocD D, (rn : Int) + 1, (if (D.2.2.1 : Int) = 0 then (fl : Int) else (fl : Int) + 1), (pr : Int) + (D.2.1.2.2.1.length : Int)), n1, (if e1.length = 6 then e1.tail else e1) ++ [(f, oc, (rn : Int), (fl : Int), (pr : Int))]), c2) xo) (hQ : ∀ R2, hPP zs R2 ((t, (f, ocD D, (rn : Int) + 1, (if (D.2.2.1 : Int) = 0 then (fl : Int) else (fl : Int) + 1), (pr : Int) + (D.2.1.2.2.1.length : Int)), n1, (if e1.length = 6 then e1.tail else e1) ++ [(f, oc, (rn : Int), (fl : Int), (pr : Int))]), c2) xo → Q (.inl (some (.inl (D.2.2.1 : Int))), R2, g)) : xTC (d + 1224) 105 [.inr (.inl (some (ob false)))] R g Q := k105 (s := ((t, (f, ocD D, (rn : Int) + 1, (if (D.2.2.1 : Int) = 0 then (fl : Int) else (fl : Int) + 1), (pr : Int) + (D.2.1.2.2.1.length : Int)), n1, (if e1.length = 6 then e1.tail else e1) ++ [(f, oc, (rn : Int), (fl : Int), (pr : Int))]), c2)) false hr hR hQ
theorem v93 {R : xH} {g : Nat} {Q : xR → Prop} (hR : hPP zs R ((t, (f, ocD D, (rn : Int) + 1, (if (D.2.2.1 : Int) = 0 then (fl : Int) else (fl : Int) + 1), (pr : Int) + (D.2.1.2.2.1.length : Int)), n1, (if e1.length = 6 then e1.tail else e1) ++ [(f, oc, (rn : Int), (fl : Int), (pr : Int))]), c2) xo) (hQ : ∀ R2, hPP zs R2 ((t, (f, ocD D, (rn : Int) + 1, (if (D.2.2.1 : Int) = 0 then (fl : Int) else (fl : Int) + 1), (pr : Int) + (D.2.1.2.2.1.length : Int)), n1, (if e1.length = 6 then e1.tail else e1) ++ [(f, oc, (rn : Int), (fl : Int), (pr : Int))]), c2) xo → Q (.inl (some (.inl (D.2.1.2.2.2.2.2.2 : Int))), R2, g)) : xTC (d + 1224) 93 [.inr (.inl (some (ob false)))] R g Q := k93 (s := ((t, (f, ocD D, (rn : Int) + 1, (if (D.2.2.1 : Int) = 0 then (fl : Int) else (fl : Int) + 1), (pr : Int) + (D.2.1.2.2.1.length : Int)), n1, (if e1.length = 6 then e1.tail else e1) ++ [(f, oc, (rn : Int), (fl : Int), (pr : Int))]), c2)) false  hR hQ
theorem v90 {R : xH} {g : Nat} {Q : xR → Prop} (hR : hPP zs R ((t, (f, ocD D, (rn : Int) + 1, (if (D.2.2.1 : Int) = 0 then (fl : Int) else (fl : Int) + 1), (pr : Int) + (D.2.1.2.2.1.length : Int)), n1, (if e1.length = 6 then e1.tail else e1) ++ [(f, oc, (rn : Int), (fl : Int), (pr : Int))]), c2) xo) (hQ : ∀ R2, hPP zs R2 ((t, (f, ocD D, (rn : Int) + 1, (if (D.2.2.1 : Int) = 0 then (fl : Int) else (fl : Int) + 1), (pr : Int) + (D.2.1.2.2.1.length : Int)), n1, (if e1.length = 6 then e1.tail else e1) ++ [(f, oc, (rn : Int), (fl : Int), (pr : Int))]), c2) xo → Q (.inl (some (.inl (D.2.1.2.2.2.1 : Int))), R2, g)) : xTC (d + 1224) 90 [.inr (.inl (some (ob false)))] R g Q := k90 (s := ((t, (f, ocD D, (rn : Int) + 1, (if (D.2.2.1 : Int) = 0 then (fl : Int) else (fl : Int) + 1), (pr : Int) + (D.2.1.2.2.1.length : Int)), n1, (if e1.length = 6 then e1.tail else e1) ++ [(f, oc, (rn : Int), (fl : Int), (pr : Int))]), c2)) false  hR hQ
theorem x96 {R : xH} {g : Nat} {Q : xR → Prop} (hR : hPP zs R ((t, (f, oc, (rn : Int), (fl : Int), (pr : Int)), n1, (if e1.length = 6 then e1.tail else e1)), c2) xo) (hQ : ∀ R2, hPP zs R2 ((t, (f, oc, (rn : Int), (fl : Int), (pr : Int)), n1, (if e1.length = 6 then e1.tail else e1)), c2) xo → Q (.inl (some (.inl (pr : Int))), R2, g)) : xTC (d + 1224) 96 [.inr (.inl (some (ob false)))] R g Q := k96 (s := ((t, (f, oc, (rn : Int), (fl : Int), (pr : Int)), n1, (if e1.length = 6 then e1.tail else e1)), c2)) false  hR hQ
theorem w138 {R : xH} {g : Nat} {Q : xR → Prop} (hl : t.length ≤ 60) (hok : oks t) (hw : pWh t = true) (hD : Fin t f (-1) D) (hb : rn ≤ 1000 ∧ fl ≤ 1000 ∧ pr ≤ 1000000) (hR : hPP zs R ((t, (f, oc, (rn : Int), (fl : Int), (pr : Int)), n1, e1), c2) xo) (hQ : ∀ R2, hPP zs R2 ((t, (f, ocD D, (rn : Int) + 1, (if (D.2.2.1 : Int) = 0 then (fl : Int) else (fl : Int) + 1), (pr : Int) + (D.2.1.2.2.1.length : Int)), n1, (if e1.length = 6 then e1.tail else e1) ++ [(f, oc, (rn : Int), (fl : Int), (pr : Int))]), c2) xo → Q (.inl (some (.inl (D.2.1.2.2.1.length : Int))), R2, g)) : xTC (d + 1224) 138 [.inr (.inl (some (ob false)))] R g Q := k138 (s := ((t, (f, oc, (rn : Int), (fl : Int), (pr : Int)), n1, e1), c2)) false hl hok hw (show 0 ≤ (rn : Int) ∧ (rn : Int) ≤ 1000000 by omega) (show 0 ≤ (fl : Int) ∧ (fl : Int) ≤ 1000000 by omega) (show 0 ≤ (pr : Int) ∧ (pr : Int) ≤ 1000000 by omega) hD hR hQ
theorem v141 {R : xH} {g : Nat} {Q : xR → Prop} (hR : hPP zs R ((t, (f, ocD D, (rn : Int) + 1, (if (D.2.2.1 : Int) = 0 then (fl : Int) else (fl : Int) + 1), (pr : Int) + (D.2.1.2.2.1.length : Int)), n1, (if e1.length = 6 then e1.tail else e1) ++ [(f, oc, (rn : Int), (fl : Int), (pr : Int))]), c2) xo) (hQ : ∀ R2, hPP zs R2 ((t, (f, oc, (rn : Int), (fl : Int), (pr : Int)), n1, (if e1.length = 6 then e1.tail else e1)), c2) xo → Q (.inl (some (.inl (((if e1.length = 6 then e1.tail else e1)).length : Int))), R2, g)) : xTC (d + 1224) 141 [.inr (.inl (some (ob false)))] R g Q := k141 (s := ((t, (f, ocD D, (rn : Int) + 1, (if (D.2.2.1 : Int) = 0 then (fl : Int) else (fl : Int) + 1), (pr : Int) + (D.2.1.2.2.1.length : Int)), n1, (if e1.length = 6 then e1.tail else e1) ++ [(f, oc, (rn : Int), (fl : Int), (pr : Int))]), c2)) false (l := (if e1.length = 6 then e1.tail else e1)) (st := (f, oc, (rn : Int), (fl : Int), (pr : Int))) rfl hR hQ
variable {R : xH} {g B : Nat} {Q : xR → Prop}
set_option maxRecDepth 20000 in
theorem kTs_n {n : Nat} (hn : n < 8) (hl : t.length ≤ 60) (hw : pWh t = false) (hwok : okK 1000 (t, (f, oc, (rn : Int), (fl : Int), (pr : Int)), n1, e1)) (hR : hPP zs R ((t, (f, oc, (rn : Int), (fl : Int), (pr : Int)), n1, e1), c2) xo) (hQ : ∀ R2 g2, g2 ≤ g + 1 → hPP zs R2 ((t, (f, oc, (rn : Int), (fl : Int), (pr : Int)), n1, e1), c2) xo ∨ hPP zs R2 ((t, (f, oc, (rn : Int), (fl : Int), (pr : Int)), n1, (if e1.length = 6 then e1.tail else e1)), c2) xo → Q (.inl (some (.inl 1)), R2, g2)) : xTC (d + 1226) 145 [.inr (.inl (some (ob false))), .inl (n : Int)] R g Q := by
  have hle := pRes_le t
  refine tEn (ls := [some (.inr (.inl (some (ob false)))), some (.inl (n : Int)), none, none, none, none, none, none, none, none, none, none, none]) (fun k => by match k with | 0 => rfl | 1 => rfl | 2 => rfl | 3 => rfl | 4 => rfl | 5 => rfl | 6 => rfl | 7 => rfl | 8 => rfl | 9 => rfl | 10 => rfl | 11 => rfl | 12 => rfl | k + 13 => rfl) ?_
  refine tK (l := xk_145) rfl rfl (fun _ _ _ _ _ => rfl) ?_
  refine tCa (l := xk_145) rfl rfl (kInvV hR rfl rfl rfl rfl (Nat.le_of_ble_eq_true rfl) (Nat.le_of_ble_eq_true rfl)) ?_
  refine w83 hR (fun R1_ hR1_ => ?_)
  refine tKv ?_
  refine tSt (l := xk_145) rfl rfl (fun _ _ _ _ _ => rfl) (Nat.le_of_ble_eq_true rfl) ?_
  refine tK (l := xk_145) rfl rfl (fun _ _ _ _ _ => rfl) ?_
  refine tCa (l := xk_145) rfl rfl (kInvV hR1_ rfl rfl rfl rfl (Nat.le_of_ble_eq_true rfl) (Nat.le_of_ble_eq_true rfl)) ?_
  refine w84 hl hR1_ (fun R2_ hR2_ => ?_)
  refine tKv ?_
  refine tSt (l := xk_145) rfl rfl (fun _ _ _ _ _ => rfl) (Nat.le_of_ble_eq_true rfl) ?_
  refine tK (l := xk_145) rfl rfl (fun _ _ _ _ _ => rfl) ?_
  refine tCa (l := xk_145) rfl rfl (kInvV hR2_ rfl rfl rfl rfl (Nat.le_of_ble_eq_true rfl) (Nat.le_of_ble_eq_true rfl)) ?_
  refine w86 hl hR2_ (fun R3_ hR3_ => ?_)
  refine tKv ?_
  refine tSt (l := xk_145) rfl rfl (fun _ _ _ _ _ => rfl) (Nat.le_of_ble_eq_true rfl) ?_
  refine tK (l := xk_145) rfl rfl (fun _ _ _ _ _ => rfl) ?_
  refine tIf_ne (l := xk_145) (pc' := 46) rfl rfl rfl (fun hc => ?_) (fun hc => ?_)
  rotate_left
  · exfalso
    rw [hw] at hc
    exact hc rfl
  refine tK (l := xk_145) rfl rfl (fun _ _ _ _ _ => rfl) ?_
  refine tIf_lt (l := xk_145) (pc' := 44) rfl rfl rfl (fun hc => ?_) (fun hc => ?_)
  · exfalso
    omega
  refine tK (l := xk_145) rfl rfl (fun _ _ _ _ _ => rfl) ?_
  refine tK (l := xk_145) rfl rfl (fun _ _ _ _ _ => rfl) ?_
  refine tIc_gt (l := xk_145) (pc' := 44) rfl rfl rfl (fun hc => ?_) (fun hc => ?_)
  · exfalso
    omega
  refine tK (l := xk_145) rfl rfl (fun _ _ _ _ _ => rfl) ?_
  refine tK (l := xk_145) rfl rfl (fun _ _ _ _ _ => rfl) ?_
  refine tCa (l := xk_145) rfl rfl (hInvS rfl rfl rfl rfl (Nat.le_of_ble_eq_true rfl) (Nat.le_of_ble_eq_true rfl)) ?_
  refine kWon (s := ((t, (f, oc, (rn : Int), (fl : Int), (pr : Int)), n1, e1), c2)) false hn hR3_ hwok hw (fun R4_ hR4_ => ?_)
  refine tKv ?_
  refine tK (l := xk_145) rfl rfl (fun _ _ _ _ _ => rfl) ?_
  refine tIc_ne (l := xk_145) (pc' := 44) rfl rfl rfl (fun hc => ?_) (fun hc => ?_)
  rotate_left
  · exfalso
    exact hc rfl
  refine tK (l := xk_145) rfl rfl (fun _ _ _ _ _ => rfl) ?_
  refine tK (l := xk_145) rfl rfl (fun _ _ _ _ _ => rfl) ?_
  refine tRt (l := xk_145) rfl rfl (fun _ _ _ _ _ => rfl) ?_
  exact hQ _ _ (Nat.le_refl _) (Or.inl hR4_)
set_option maxRecDepth 20000 in
theorem kTs_e {n : Nat} {c4 : Int} (hl : t.length ≤ 60) (hok : oks t) (hw : pWh t = true) (hD : Fin t f (-1) D) (hb : rn ≤ 1000 ∧ fl ≤ 1000 ∧ pr ≤ 1000000) (hB : B < 1000) (hok2 : okT (B + 1) (f, ocD D, (rn : Int) + 1, (if (D.2.2.1 : Int) = 0 then (fl : Int) else (fl : Int) + 1), (pr : Int) + (D.2.1.2.2.1.length : Int))) (hQ : ∀ R2 g2, g2 ≤ g + 1 → hPP zs R2 ((t, (f, oc, (rn : Int), (fl : Int), (pr : Int)), n1, e1), c2) xo ∨ hPP zs R2 ((t, (f, oc, (rn : Int), (fl : Int), (pr : Int)), n1, (if e1.length = 6 then e1.tail else e1)), c2) xo → Q (.inl (some (.inl 1)), R2, g2)) (hlen : D.2.1.2.2.1.length ≤ 200) : ∀ R, hPP zs R ((t, (f, oc, (rn : Int), (fl : Int), (pr : Int)), n1, e1), c2) xo → xT (d + 1225) 145 225 (xlo [some (.inr (.inl (some (ob false)))), some (.inl (n : Int)), some (.inl (t.length : Int)), some (.inl ((pRes t).1 : Int)), some (.inl c4), some (.inl ((pPs t).length : Int)), some (.inl (pDp t : Int)), some (.inl (mkU (pPs t) 0)), some (.inl 1), some (.inl (D.2.1.2.2.1.length : Int)), some (.inl (D.2.2.1 : Int)), some (.inl (pr : Int)), some (.inl (fl : Int))]) [] R g Q := by
  intro R hR
  have hpl : mkU (pPs t) 0 = 0 → D.2.2.1 = 0 ∧ D.2.1.2.2.2.1 = (pPs t).length ∧ D.2.1.2.2.2.2.2.2 = 0 := fun z => (Fin_plain hw hl z hD).2
  by_cases hz : D.2.2.1 = 0
  · skip
    refine tK (l := xk_145) rfl rfl (fun _ _ _ _ _ => rfl) ?_
    refine tCa (l := xk_145) rfl rfl (kInvV hR rfl rfl rfl rfl (Nat.le_of_ble_eq_true rfl) (Nat.le_of_ble_eq_true rfl)) ?_
    refine w138 hl hok hw hD hb hR (fun R1_ hR1_ => ?_)
    refine tKv ?_
    refine tK (l := xk_145) rfl rfl (fun _ _ _ _ _ => rfl) ?_
    refine tIc_ne (l := xk_145) (pc' := 334) rfl rfl rfl (fun hc => ?_) (fun hc => ?_)
    rotate_left
    · exfalso
      exact hc rfl
    refine tK (l := xk_145) rfl rfl (fun _ _ _ _ _ => rfl) ?_
    refine tCa (l := xk_145) rfl rfl (kInvV hR1_ rfl rfl rfl rfl (Nat.le_of_ble_eq_true rfl) (Nat.le_of_ble_eq_true rfl)) ?_
    refine v88 hR1_ (fun R2_ hR2_ => ?_)
    refine tKv ?_
    refine tK (l := xk_145) rfl rfl (fun _ _ _ _ _ => rfl) ?_
    refine tIf_le (l := xk_145) (pc' := 247) rfl rfl rfl (fun hc => ?_) (fun hc => ?_)
    · exfalso
      omega
    refine tK (l := xk_145) rfl rfl (fun _ _ _ _ _ => rfl) ?_
    refine tIc_ne (l := xk_145) (pc' := 334) rfl rfl rfl (fun hc => ?_) (fun hc => ?_)
    rotate_left
    · exfalso
      rw [if_pos (show (D.2.2.1 : Int) = 0 by omega)] at hc
      exact hc rfl
    refine tK (l := xk_145) rfl rfl (fun _ _ _ _ _ => rfl) ?_
    refine tIf_eq (l := xk_145) (pc' := 265) rfl rfl rfl (fun hc => ?_) (fun hc => ?_)
    rotate_left
    · exfalso
      omega
    refine tK (l := xk_145) rfl rfl (fun _ _ _ _ _ => rfl) ?_
    refine tCa (l := xk_145) rfl rfl (kInvV hR2_ rfl rfl rfl rfl (Nat.le_of_ble_eq_true rfl) (Nat.le_of_ble_eq_true rfl)) ?_
    refine v96 hR2_ (fun R3_ hR3_ => ?_)
    refine tKv ?_
    refine tK (l := xk_145) rfl rfl (fun _ _ _ _ _ => rfl) ?_
    refine tK (l := xk_145) rfl rfl (fun _ _ _ _ _ => rfl) ?_
    refine tK (l := xk_145) rfl rfl (hAdd ⟨by omega, by omega⟩) ?_
    refine tIc_ne (l := xk_145) (pc' := 334) rfl rfl rfl (fun hc => ?_) (fun hc => ?_)
    rotate_left
    · exfalso
      omega
    refine tK (l := xk_145) rfl rfl (fun _ _ _ _ _ => rfl) ?_
    refine tCa (l := xk_145) rfl rfl (kInvV hR3_ rfl rfl rfl rfl (Nat.le_of_ble_eq_true rfl) (Nat.le_of_ble_eq_true rfl)) ?_
    refine v95 hR3_ (fun R4_ hR4_ => ?_)
    refine tKv ?_
    refine tK (l := xk_145) rfl rfl (fun _ _ _ _ _ => rfl) ?_
    refine tK (l := xk_145) rfl rfl (fun _ _ _ _ _ => rfl) ?_
    refine tIf_le (l := xk_145) (pc' := 292) rfl rfl rfl (fun hc => ?_) (fun hc => ?_)
    · exfalso
      omega
    refine tK (l := xk_145) rfl rfl (fun _ _ _ _ _ => rfl) ?_
    refine tK (l := xk_145) rfl rfl (hAdd ⟨by omega, by omega⟩) ?_
    refine tIc_ne (l := xk_145) (pc' := 334) rfl rfl rfl (fun hc => ?_) (fun hc => ?_)
    rotate_left
    · exfalso
      rw [if_pos (show (D.2.2.1 : Int) = 0 by omega)] at hc
      omega
    refine tK (l := xk_145) rfl rfl (fun _ _ _ _ _ => rfl) ?_
    refine tCa (l := xk_145) rfl rfl (hInvS rfl rfl rfl rfl (Nat.le_of_ble_eq_true rfl) (Nat.le_of_ble_eq_true rfl)) ?_
    refine kOs (s := ((t, (f, ocD D, (rn : Int) + 1, (if (D.2.2.1 : Int) = 0 then (fl : Int) else (fl : Int) + 1), (pr : Int) + (D.2.1.2.2.1.length : Int)), n1, (if e1.length = 6 then e1.tail else e1) ++ [(f, oc, (rn : Int), (fl : Int), (pr : Int))]), c2)) (B := B + 1) (by omega) hok2 hR4_ (fun R5_ hR5_ => ?_)
    refine tKv ?_
    refine tIf_eq (l := xk_145) (pc' := 334) rfl rfl rfl (fun hc => ?_) (fun hc => ?_)
    · exfalso
      exact absurd hc (by decide)
    refine tK (l := xk_145) rfl rfl (fun _ _ _ _ _ => rfl) ?_
    refine tIf_ne (l := xk_145) (pc' := 330) rfl rfl rfl (fun hc => ?_) (fun hc => ?_)
    · skip
      refine tK (l := xk_145) rfl rfl (fun _ _ _ _ _ => rfl) ?_
      refine tCa (l := xk_145) rfl rfl (kInvV hR5_ rfl rfl rfl rfl (Nat.le_of_ble_eq_true rfl) (Nat.le_of_ble_eq_true rfl)) ?_
      refine v93 hR5_ (fun R6_ hR6_ => ?_)
      refine tKv ?_
      refine tIf_ne (l := xk_145) (pc' := 334) rfl rfl rfl (fun hc => ?_) (fun hc => ?_)
      rotate_left
      · exfalso
        have := (hpl (by omega)).2.2
        omega
      refine tK (l := xk_145) rfl rfl (fun _ _ _ _ _ => rfl) ?_
      refine tIf_ne (l := xk_145) (pc' := 334) rfl rfl rfl (fun hc => ?_) (fun hc => ?_)
      rotate_left
      · exfalso
        have := (hpl (by omega)).1
        omega
      refine tK (l := xk_145) rfl rfl (fun _ _ _ _ _ => rfl) ?_
      refine tCa (l := xk_145) rfl rfl (kInvV hR6_ rfl rfl rfl rfl (Nat.le_of_ble_eq_true rfl) (Nat.le_of_ble_eq_true rfl)) ?_
      refine v90 hR6_ (fun R7_ hR7_ => ?_)
      refine tKv ?_
      refine tK (l := xk_145) rfl rfl (fun _ _ _ _ _ => rfl) ?_
      refine tIc_ne (l := xk_145) (pc' := 334) rfl rfl rfl (fun hc => ?_) (fun hc => ?_)
      rotate_left
      · exfalso
        have := (hpl (by omega)).2.1
        omega
      refine tK (l := xk_145) rfl rfl (fun _ _ _ _ _ => rfl) ?_
      refine tK (l := xk_145) rfl rfl (fun _ _ _ _ _ => rfl) ?_
      refine tSt (l := xk_145) rfl rfl (fun _ _ _ _ _ => rfl) (Nat.le_of_ble_eq_true rfl) ?_
      refine tK (l := xk_145) rfl rfl (fun _ _ _ _ _ => rfl) ?_
      refine tIf_eq (l := xk_145) (pc' := 362) rfl rfl rfl (fun hc => ?_) (fun hc => ?_)
      · exfalso
        exact absurd hc (by decide)
      refine tK (l := xk_145) rfl rfl (fun _ _ _ _ _ => rfl) ?_
      refine tCa (l := xk_145) rfl rfl (kInvV hR7_ rfl rfl rfl rfl (Nat.le_of_ble_eq_true rfl) (Nat.le_of_ble_eq_true rfl)) ?_
      refine v141 hR7_ (fun R8_ hR8_ => ?_)
      refine tKv ?_
      refine tIf_lt (l := xk_145) (pc' := 362) rfl rfl rfl (fun hc => ?_) (fun hc => ?_)
      · exfalso
        omega
      refine tK (l := xk_145) rfl rfl (fun _ _ _ _ _ => rfl) ?_
      refine tCa (l := xk_145) rfl rfl (kInvV hR8_ rfl rfl rfl rfl (Nat.le_of_ble_eq_true rfl) (Nat.le_of_ble_eq_true rfl)) ?_
      refine x96 hR8_ (fun R9_ hR9_ => ?_)
      refine tKv ?_
      refine tK (l := xk_145) rfl rfl (fun _ _ _ _ _ => rfl) ?_
      refine tIc_ne (l := xk_145) (pc' := 362) rfl rfl rfl (fun hc => ?_) (fun hc => ?_)
      rotate_left
      · exfalso
        exact hc rfl
      refine tK (l := xk_145) rfl rfl (fun _ _ _ _ _ => rfl) ?_
      refine tK (l := xk_145) rfl rfl (fun _ _ _ _ _ => rfl) ?_
      refine tRt (l := xk_145) rfl rfl (fun _ _ _ _ _ => rfl) ?_
      exact hQ _ _ (Nat.le_succ _) (Or.inr hR9_)
    · skip
      refine tK (l := xk_145) rfl rfl (fun _ _ _ _ _ => rfl) ?_
      refine tK (l := xk_145) rfl rfl (fun _ _ _ _ _ => rfl) ?_
      refine tSt (l := xk_145) rfl rfl (fun _ _ _ _ _ => rfl) (Nat.le_of_ble_eq_true rfl) ?_
      refine tK (l := xk_145) rfl rfl (fun _ _ _ _ _ => rfl) ?_
      refine tIf_eq (l := xk_145) (pc' := 362) rfl rfl rfl (fun hc => ?_) (fun hc => ?_)
      · exfalso
        exact absurd hc (by decide)
      refine tK (l := xk_145) rfl rfl (fun _ _ _ _ _ => rfl) ?_
      refine tCa (l := xk_145) rfl rfl (kInvV hR5_ rfl rfl rfl rfl (Nat.le_of_ble_eq_true rfl) (Nat.le_of_ble_eq_true rfl)) ?_
      refine v141 hR5_ (fun R6_ hR6_ => ?_)
      refine tKv ?_
      refine tIf_lt (l := xk_145) (pc' := 362) rfl rfl rfl (fun hc => ?_) (fun hc => ?_)
      · exfalso
        omega
      refine tK (l := xk_145) rfl rfl (fun _ _ _ _ _ => rfl) ?_
      refine tCa (l := xk_145) rfl rfl (kInvV hR6_ rfl rfl rfl rfl (Nat.le_of_ble_eq_true rfl) (Nat.le_of_ble_eq_true rfl)) ?_
      refine x96 hR6_ (fun R7_ hR7_ => ?_)
      refine tKv ?_
      refine tK (l := xk_145) rfl rfl (fun _ _ _ _ _ => rfl) ?_
      refine tIc_ne (l := xk_145) (pc' := 362) rfl rfl rfl (fun hc => ?_) (fun hc => ?_)
      rotate_left
      · exfalso
        exact hc rfl
      refine tK (l := xk_145) rfl rfl (fun _ _ _ _ _ => rfl) ?_
      refine tK (l := xk_145) rfl rfl (fun _ _ _ _ _ => rfl) ?_
      refine tRt (l := xk_145) rfl rfl (fun _ _ _ _ _ => rfl) ?_
      exact hQ _ _ (Nat.le_succ _) (Or.inr hR7_)
  · skip
    refine tK (l := xk_145) rfl rfl (fun _ _ _ _ _ => rfl) ?_
    refine tCa (l := xk_145) rfl rfl (kInvV hR rfl rfl rfl rfl (Nat.le_of_ble_eq_true rfl) (Nat.le_of_ble_eq_true rfl)) ?_
    refine w138 hl hok hw hD hb hR (fun R1_ hR1_ => ?_)
    refine tKv ?_
    refine tK (l := xk_145) rfl rfl (fun _ _ _ _ _ => rfl) ?_
    refine tIc_ne (l := xk_145) (pc' := 334) rfl rfl rfl (fun hc => ?_) (fun hc => ?_)
    rotate_left
    · exfalso
      exact hc rfl
    refine tK (l := xk_145) rfl rfl (fun _ _ _ _ _ => rfl) ?_
    refine tCa (l := xk_145) rfl rfl (kInvV hR1_ rfl rfl rfl rfl (Nat.le_of_ble_eq_true rfl) (Nat.le_of_ble_eq_true rfl)) ?_
    refine v88 hR1_ (fun R2_ hR2_ => ?_)
    refine tKv ?_
    refine tK (l := xk_145) rfl rfl (fun _ _ _ _ _ => rfl) ?_
    refine tIf_le (l := xk_145) (pc' := 247) rfl rfl rfl (fun hc => ?_) (fun hc => ?_)
    rotate_left
    · exfalso
      omega
    refine tK (l := xk_145) rfl rfl (fun _ _ _ _ _ => rfl) ?_
    refine tK (l := xk_145) rfl rfl (fun _ _ _ _ _ => rfl) ?_
    refine tIc_ne (l := xk_145) (pc' := 334) rfl rfl rfl (fun hc => ?_) (fun hc => ?_)
    rotate_left
    · exfalso
      rw [if_neg (show ¬ (D.2.2.1 : Int) = 0 by omega)] at hc
      exact hc rfl
    refine tK (l := xk_145) rfl rfl (fun _ _ _ _ _ => rfl) ?_
    refine tIf_eq (l := xk_145) (pc' := 265) rfl rfl rfl (fun hc => ?_) (fun hc => ?_)
    · exfalso
      omega
    refine tK (l := xk_145) rfl rfl (fun _ _ _ _ _ => rfl) ?_
    refine tCa (l := xk_145) rfl rfl (kInvV hR2_ rfl rfl rfl rfl (Nat.le_of_ble_eq_true rfl) (Nat.le_of_ble_eq_true rfl)) ?_
    refine v105 (by omega) hR2_ (fun R3_ hR3_ => ?_)
    refine tKv ?_
    refine tK (l := xk_145) rfl rfl (fun _ _ _ _ _ => rfl) ?_
    refine tIc_ne (l := xk_145) (pc' := 334) rfl rfl rfl (fun hc => ?_) (fun hc => ?_)
    rotate_left
    · exfalso
      exact hc rfl
    refine tK (l := xk_145) rfl rfl (fun _ _ _ _ _ => rfl) ?_
    refine tCa (l := xk_145) rfl rfl (kInvV hR3_ rfl rfl rfl rfl (Nat.le_of_ble_eq_true rfl) (Nat.le_of_ble_eq_true rfl)) ?_
    refine v96 hR3_ (fun R4_ hR4_ => ?_)
    refine tKv ?_
    refine tK (l := xk_145) rfl rfl (fun _ _ _ _ _ => rfl) ?_
    refine tK (l := xk_145) rfl rfl (fun _ _ _ _ _ => rfl) ?_
    refine tK (l := xk_145) rfl rfl (hAdd ⟨by omega, by omega⟩) ?_
    refine tIc_ne (l := xk_145) (pc' := 334) rfl rfl rfl (fun hc => ?_) (fun hc => ?_)
    rotate_left
    · exfalso
      omega
    refine tK (l := xk_145) rfl rfl (fun _ _ _ _ _ => rfl) ?_
    refine tCa (l := xk_145) rfl rfl (kInvV hR4_ rfl rfl rfl rfl (Nat.le_of_ble_eq_true rfl) (Nat.le_of_ble_eq_true rfl)) ?_
    refine v95 hR4_ (fun R5_ hR5_ => ?_)
    refine tKv ?_
    refine tK (l := xk_145) rfl rfl (fun _ _ _ _ _ => rfl) ?_
    refine tK (l := xk_145) rfl rfl (fun _ _ _ _ _ => rfl) ?_
    refine tIf_le (l := xk_145) (pc' := 292) rfl rfl rfl (fun hc => ?_) (fun hc => ?_)
    rotate_left
    · exfalso
      omega
    refine tK (l := xk_145) rfl rfl (fun _ _ _ _ _ => rfl) ?_
    refine tK (l := xk_145) rfl rfl (fun _ _ _ _ _ => rfl) ?_
    refine tK (l := xk_145) rfl rfl (hAdd ⟨by omega, by omega⟩) ?_
    refine tIc_ne (l := xk_145) (pc' := 334) rfl rfl rfl (fun hc => ?_) (fun hc => ?_)
    rotate_left
    · exfalso
      rw [if_neg (show ¬ (D.2.2.1 : Int) = 0 by omega)] at hc
      omega
    refine tK (l := xk_145) rfl rfl (fun _ _ _ _ _ => rfl) ?_
    refine tCa (l := xk_145) rfl rfl (hInvS rfl rfl rfl rfl (Nat.le_of_ble_eq_true rfl) (Nat.le_of_ble_eq_true rfl)) ?_
    refine kOs (s := ((t, (f, ocD D, (rn : Int) + 1, (if (D.2.2.1 : Int) = 0 then (fl : Int) else (fl : Int) + 1), (pr : Int) + (D.2.1.2.2.1.length : Int)), n1, (if e1.length = 6 then e1.tail else e1) ++ [(f, oc, (rn : Int), (fl : Int), (pr : Int))]), c2)) (B := B + 1) (by omega) hok2 hR5_ (fun R6_ hR6_ => ?_)
    refine tKv ?_
    refine tIf_eq (l := xk_145) (pc' := 334) rfl rfl rfl (fun hc => ?_) (fun hc => ?_)
    · exfalso
      exact absurd hc (by decide)
    refine tK (l := xk_145) rfl rfl (fun _ _ _ _ _ => rfl) ?_
    refine tIf_ne (l := xk_145) (pc' := 330) rfl rfl rfl (fun hc => ?_) (fun hc => ?_)
    · skip
      refine tK (l := xk_145) rfl rfl (fun _ _ _ _ _ => rfl) ?_
      refine tCa (l := xk_145) rfl rfl (kInvV hR6_ rfl rfl rfl rfl (Nat.le_of_ble_eq_true rfl) (Nat.le_of_ble_eq_true rfl)) ?_
      refine v93 hR6_ (fun R7_ hR7_ => ?_)
      refine tKv ?_
      refine tIf_ne (l := xk_145) (pc' := 334) rfl rfl rfl (fun hc => ?_) (fun hc => ?_)
      rotate_left
      · exfalso
        have := (hpl (by omega)).2.2
        omega
      refine tK (l := xk_145) rfl rfl (fun _ _ _ _ _ => rfl) ?_
      refine tIf_ne (l := xk_145) (pc' := 334) rfl rfl rfl (fun hc => ?_) (fun hc => ?_)
      rotate_left
      · exfalso
        have := (hpl (by omega)).1
        omega
      refine tK (l := xk_145) rfl rfl (fun _ _ _ _ _ => rfl) ?_
      refine tCa (l := xk_145) rfl rfl (kInvV hR7_ rfl rfl rfl rfl (Nat.le_of_ble_eq_true rfl) (Nat.le_of_ble_eq_true rfl)) ?_
      refine v90 hR7_ (fun R8_ hR8_ => ?_)
      refine tKv ?_
      refine tK (l := xk_145) rfl rfl (fun _ _ _ _ _ => rfl) ?_
      refine tIc_ne (l := xk_145) (pc' := 334) rfl rfl rfl (fun hc => ?_) (fun hc => ?_)
      rotate_left
      · exfalso
        have := (hpl (by omega)).2.1
        omega
      refine tK (l := xk_145) rfl rfl (fun _ _ _ _ _ => rfl) ?_
      refine tK (l := xk_145) rfl rfl (fun _ _ _ _ _ => rfl) ?_
      refine tSt (l := xk_145) rfl rfl (fun _ _ _ _ _ => rfl) (Nat.le_of_ble_eq_true rfl) ?_
      refine tK (l := xk_145) rfl rfl (fun _ _ _ _ _ => rfl) ?_
      refine tIf_eq (l := xk_145) (pc' := 362) rfl rfl rfl (fun hc => ?_) (fun hc => ?_)
      · exfalso
        exact absurd hc (by decide)
      refine tK (l := xk_145) rfl rfl (fun _ _ _ _ _ => rfl) ?_
      refine tCa (l := xk_145) rfl rfl (kInvV hR8_ rfl rfl rfl rfl (Nat.le_of_ble_eq_true rfl) (Nat.le_of_ble_eq_true rfl)) ?_
      refine v141 hR8_ (fun R9_ hR9_ => ?_)
      refine tKv ?_
      refine tIf_lt (l := xk_145) (pc' := 362) rfl rfl rfl (fun hc => ?_) (fun hc => ?_)
      · exfalso
        omega
      refine tK (l := xk_145) rfl rfl (fun _ _ _ _ _ => rfl) ?_
      refine tCa (l := xk_145) rfl rfl (kInvV hR9_ rfl rfl rfl rfl (Nat.le_of_ble_eq_true rfl) (Nat.le_of_ble_eq_true rfl)) ?_
      refine x96 hR9_ (fun R10_ hR10_ => ?_)
      refine tKv ?_
      refine tK (l := xk_145) rfl rfl (fun _ _ _ _ _ => rfl) ?_
      refine tIc_ne (l := xk_145) (pc' := 362) rfl rfl rfl (fun hc => ?_) (fun hc => ?_)
      rotate_left
      · exfalso
        exact hc rfl
      refine tK (l := xk_145) rfl rfl (fun _ _ _ _ _ => rfl) ?_
      refine tK (l := xk_145) rfl rfl (fun _ _ _ _ _ => rfl) ?_
      refine tRt (l := xk_145) rfl rfl (fun _ _ _ _ _ => rfl) ?_
      exact hQ _ _ (Nat.le_succ _) (Or.inr hR10_)
    · skip
      refine tK (l := xk_145) rfl rfl (fun _ _ _ _ _ => rfl) ?_
      refine tK (l := xk_145) rfl rfl (fun _ _ _ _ _ => rfl) ?_
      refine tSt (l := xk_145) rfl rfl (fun _ _ _ _ _ => rfl) (Nat.le_of_ble_eq_true rfl) ?_
      refine tK (l := xk_145) rfl rfl (fun _ _ _ _ _ => rfl) ?_
      refine tIf_eq (l := xk_145) (pc' := 362) rfl rfl rfl (fun hc => ?_) (fun hc => ?_)
      · exfalso
        exact absurd hc (by decide)
      refine tK (l := xk_145) rfl rfl (fun _ _ _ _ _ => rfl) ?_
      refine tCa (l := xk_145) rfl rfl (kInvV hR6_ rfl rfl rfl rfl (Nat.le_of_ble_eq_true rfl) (Nat.le_of_ble_eq_true rfl)) ?_
      refine v141 hR6_ (fun R7_ hR7_ => ?_)
      refine tKv ?_
      refine tIf_lt (l := xk_145) (pc' := 362) rfl rfl rfl (fun hc => ?_) (fun hc => ?_)
      · exfalso
        omega
      refine tK (l := xk_145) rfl rfl (fun _ _ _ _ _ => rfl) ?_
      refine tCa (l := xk_145) rfl rfl (kInvV hR7_ rfl rfl rfl rfl (Nat.le_of_ble_eq_true rfl) (Nat.le_of_ble_eq_true rfl)) ?_
      refine x96 hR7_ (fun R8_ hR8_ => ?_)
      refine tKv ?_
      refine tK (l := xk_145) rfl rfl (fun _ _ _ _ _ => rfl) ?_
      refine tIc_ne (l := xk_145) (pc' := 362) rfl rfl rfl (fun hc => ?_) (fun hc => ?_)
      rotate_left
      · exfalso
        exact hc rfl
      refine tK (l := xk_145) rfl rfl (fun _ _ _ _ _ => rfl) ?_
      refine tK (l := xk_145) rfl rfl (fun _ _ _ _ _ => rfl) ?_
      refine tRt (l := xk_145) rfl rfl (fun _ _ _ _ _ => rfl) ?_
      exact hQ _ _ (Nat.le_succ _) (Or.inr hR8_)
set_option maxRecDepth 20000 in
theorem kTs_m {n : Nat} (hn : n < 8) {c4 : Int} (hl : t.length ≤ 60) (hok : oks t) (hw : pWh t = true) (hD : Fin t f (-1) D) (hb : rn ≤ 1000 ∧ fl ≤ 1000 ∧ pr ≤ 1000000) (hB : B < 1000) (hok2 : okT (B + 1) (f, ocD D, (rn : Int) + 1, (if (D.2.2.1 : Int) = 0 then (fl : Int) else (fl : Int) + 1), (pr : Int) + (D.2.1.2.2.1.length : Int))) (hQ : ∀ R2 g2, g2 ≤ g + 1 → hPP zs R2 ((t, (f, oc, (rn : Int), (fl : Int), (pr : Int)), n1, e1), c2) xo ∨ hPP zs R2 ((t, (f, oc, (rn : Int), (fl : Int), (pr : Int)), n1, (if e1.length = 6 then e1.tail else e1)), c2) xo → Q (.inl (some (.inl 1)), R2, g2)) (hlen : D.2.1.2.2.1.length ≤ 200) (hwok : okK 1000 (t, (f, oc, (rn : Int), (fl : Int), (pr : Int)), n1, e1)) (hD1 : Fin t f (n : Int) D1) : ∀ R, hPP zs R ((t, (f, oc, (rn : Int), (fl : Int), (pr : Int)), n1, e1), c2) xo → xT (d + 1226) 145 126 (xlo [some (.inr (.inl (some (ob false)))), some (.inl (n : Int)), some (.inl (t.length : Int)), some (.inl ((pRes t).1 : Int)), some (.inl c4), some (.inl ((pPs t).length : Int)), some (.inl (pDp t : Int)), some (.inl (mkU (pPs t) 0)), none, none, none, none, none]) [] R g Q := by
  intro R hR
  have hin := names_in (whole_nm hw)
  have hst := names_set (pPs t)
  have hlo := mkL_le (pPs t) 0
  refine tK (l := xk_145) rfl rfl (fun _ _ _ _ _ => rfl) ?_
  refine tCa (l := xk_145) rfl rfl (kInvV hR rfl rfl rfl rfl (Nat.le_of_ble_eq_true rfl) (Nat.le_of_ble_eq_true rfl)) ?_
  refine w120 hl hw hR (fun R1_ hR1_ => ?_)
  refine tKv ?_
  refine tK (l := xk_145) rfl rfl (fun _ _ _ _ _ => rfl) ?_
  refine tK (l := xk_145) rfl rfl (fun _ _ _ _ _ => rfl) ?_
  refine tK (l := xk_145) rfl rfl (fun _ _ _ _ _ => rfl) ?_
  refine tK (l := xk_145) rfl rfl (fun _ _ _ _ _ => rfl) ?_
  refine tIf_ne (l := xk_145) (pc' := 159) rfl rfl rfl (fun hc => ?_) (fun hc => ?_)
  rotate_left
  · exfalso
    refine hc ?_
    rw [xi_of, hst]
    rfl
  refine tK (l := xk_145) rfl rfl (fun _ _ _ _ _ => rfl) ?_
  refine tK (l := xk_145) rfl rfl (fun _ _ _ _ _ => rfl) ?_
  refine tIc_ge (l := xk_145) (pc' := 159) rfl rfl rfl (fun hc => ?_) (fun hc => ?_)
  rotate_left
  · exfalso
    omega
  refine tK (l := xk_145) rfl rfl (fun _ _ _ _ _ => rfl) ?_
  refine tCa (l := xk_145) rfl rfl (kInvV hR1_ rfl rfl rfl rfl (Nat.le_of_ble_eq_true rfl) (Nat.le_of_ble_eq_true rfl)) ?_
  refine w121 hl hw hR1_ (fun R2_ hR2_ => ?_)
  refine tKv ?_
  refine tK (l := xk_145) rfl rfl (fun _ _ _ _ _ => rfl) ?_
  refine tIc_gt (l := xk_145) (pc' := 159) rfl rfl rfl (fun hc => ?_) (fun hc => ?_)
  · exfalso
    omega
  refine tK (l := xk_145) rfl rfl (fun _ _ _ _ _ => rfl) ?_
  refine tK (l := xk_145) rfl rfl (fun _ _ _ _ _ => rfl) ?_
  refine tSt (l := xk_145) rfl rfl (fun _ _ _ _ _ => rfl) (Nat.le_of_ble_eq_true rfl) ?_
  refine tK (l := xk_145) rfl rfl (fun _ _ _ _ _ => rfl) ?_
  refine tCa (l := xk_145) rfl rfl (kInvV hR2_ rfl rfl rfl rfl (Nat.le_of_ble_eq_true rfl) (Nat.le_of_ble_eq_true rfl)) ?_
  refine w122 hl hok hw hD hR2_ (fun R3_ hR3_ => ?_)
  refine tKv ?_
  refine tSt (l := xk_145) rfl rfl (fun _ _ _ _ _ => rfl) (Nat.le_of_ble_eq_true rfl) ?_
  refine tK (l := xk_145) rfl rfl (fun _ _ _ _ _ => rfl) ?_
  refine tCa (l := xk_145) rfl rfl (kInvV hR3_ rfl rfl rfl rfl (Nat.le_of_ble_eq_true rfl) (Nat.le_of_ble_eq_true rfl)) ?_
  refine w124 hl hok hw hD hR3_ (fun R4_ hR4_ => ?_)
  refine tKv ?_
  refine tSt (l := xk_145) rfl rfl (fun _ _ _ _ _ => rfl) (Nat.le_of_ble_eq_true rfl) ?_
  refine tK (l := xk_145) rfl rfl (fun _ _ _ _ _ => rfl) ?_
  refine tCa (l := xk_145) rfl rfl (kInvV hR4_ rfl rfl rfl rfl (Nat.le_of_ble_eq_true rfl) (Nat.le_of_ble_eq_true rfl)) ?_
  refine w96 hR4_ (fun R5_ hR5_ => ?_)
  refine tKv ?_
  refine tSt (l := xk_145) rfl rfl (fun _ _ _ _ _ => rfl) (Nat.le_of_ble_eq_true rfl) ?_
  refine tK (l := xk_145) rfl rfl (fun _ _ _ _ _ => rfl) ?_
  refine tCa (l := xk_145) rfl rfl (kInvV hR5_ rfl rfl rfl rfl (Nat.le_of_ble_eq_true rfl) (Nat.le_of_ble_eq_true rfl)) ?_
  refine w95 hR5_ (fun R6_ hR6_ => ?_)
  refine tKv ?_
  refine tSt (l := xk_145) rfl rfl (fun _ _ _ _ _ => rfl) (Nat.le_of_ble_eq_true rfl) ?_
  refine tK (l := xk_145) rfl rfl (fun _ _ _ _ _ => rfl) ?_
  refine tIf_eq (l := xk_145) (pc' := 334) rfl rfl rfl (fun hc => ?_) (fun hc => ?_)
  · exfalso
    exact absurd hc (by decide)
  refine tK (l := xk_145) rfl rfl (fun _ _ _ _ _ => rfl) ?_
  refine tCa (l := xk_145) rfl rfl (kInvV hR6_ rfl rfl rfl rfl (Nat.le_of_ble_eq_true rfl) (Nat.le_of_ble_eq_true rfl)) ?_
  refine w123 hl hok hw hD hR6_ (fun R7_ hR7_ => ?_)
  refine tKv ?_
  refine tK (l := xk_145) rfl rfl (fun _ _ _ _ _ => rfl) ?_
  refine tIc_ne (l := xk_145) (pc' := 334) rfl rfl rfl (fun hc => ?_) (fun hc => ?_)
  rotate_left
  · exfalso
    exact hc rfl
  refine tK (l := xk_145) rfl rfl (fun _ _ _ _ _ => rfl) ?_
  refine tK (l := xk_145) rfl rfl (fun _ _ _ _ _ => rfl) ?_
  refine tK (l := xk_145) rfl rfl (fun _ _ _ _ _ => rfl) ?_
  refine tK (l := xk_145) rfl rfl (fun _ _ _ _ _ => rfl) ?_
  refine tK (l := xk_145) rfl rfl (fun _ _ _ _ _ => rfl) ?_
  refine tK (l := xk_145) rfl rfl (fun _ _ _ _ _ => rfl) ?_
  refine tIc_eq (l := xk_145) (pc' := 225) rfl rfl rfl (fun hc => ?_) (fun hc => ?_)
  · skip
    exact kTs_e (d := d + 1) hl hok hw hD hb hB hok2 hQ hlen _ hR7_
  · skip
    refine tK (l := xk_145) rfl rfl (fun _ _ _ _ _ => rfl) ?_
    refine tIf_ne (l := xk_145) (pc' := 225) rfl rfl rfl (fun hc => ?_) (fun hc => ?_)
    · skip
      refine tK (l := xk_145) rfl rfl (fun _ _ _ _ _ => rfl) ?_
      refine tK (l := xk_145) rfl rfl (fun _ _ _ _ _ => rfl) ?_
      refine tCa (l := xk_145) rfl rfl (hInvS rfl rfl rfl rfl (Nat.le_of_ble_eq_true rfl) (Nat.le_of_ble_eq_true rfl)) ?_
      refine kWo (s := ((t, (f, oc, (rn : Int), (fl : Int), (pr : Int)), n1, e1), c2)) false hn hR7_ hwok hw hD1 (fun R8_ hR8_ => ?_)
      refine tKv ?_
      refine tK (l := xk_145) rfl rfl (fun _ _ _ _ _ => rfl) ?_
      refine tIc_ne (l := xk_145) (pc' := 334) rfl rfl rfl (fun hc => ?_) (fun hc => ?_)
      rotate_left
      · exfalso
        have e1 : D.2.1.2.2.1.length = _ := (Fin_plain hw hl (by omega) hD).1
        have e2 : D1.2.1.2.2.1.length = _ := (Fin_plain hw hl (by omega) hD1).1
        have e3 : ((ocD D1).1.length : Int) = (D1.2.1.2.2.1.length : Int) := rfl
        omega
      exact kTs_e (d := d + 1) hl hok hw hD hb hB hok2 hQ hlen _ hR8_
    · skip
      exact kTs_e (d := d + 1) hl hok hw hD hb hB hok2 hQ hlen _ hR7_
set_option maxRecDepth 20000 in
theorem kTs_w {n : Nat} (hn : n < 8) (hl : t.length ≤ 60) (hok : oks t) (hw : pWh t = true) (hD : Fin t f (-1) D) (hb : rn ≤ 1000 ∧ fl ≤ 1000 ∧ pr ≤ 1000000) (hB : B < 1000) (hok2 : okT (B + 1) (f, ocD D, (rn : Int) + 1, (if (D.2.2.1 : Int) = 0 then (fl : Int) else (fl : Int) + 1), (pr : Int) + (D.2.1.2.2.1.length : Int))) (hQ : ∀ R2 g2, g2 ≤ g + 1 → hPP zs R2 ((t, (f, oc, (rn : Int), (fl : Int), (pr : Int)), n1, e1), c2) xo ∨ hPP zs R2 ((t, (f, oc, (rn : Int), (fl : Int), (pr : Int)), n1, (if e1.length = 6 then e1.tail else e1)), c2) xo → Q (.inl (some (.inl 1)), R2, g2)) (hlen : D.2.1.2.2.1.length ≤ 200) (hwok : okK 1000 (t, (f, oc, (rn : Int), (fl : Int), (pr : Int)), n1, e1)) (hD1 : Fin t f (n : Int) D1) (hR : hPP zs R ((t, (f, oc, (rn : Int), (fl : Int), (pr : Int)), n1, e1), c2) xo) : xTC (d + 1226) 145 [.inr (.inl (some (ob false))), .inl (n : Int)] R g Q := by
  obtain ⟨f1, f2, f3, f4, f5⟩ := whole_facts hw
  refine tEn (ls := [some (.inr (.inl (some (ob false)))), some (.inl (n : Int)), none, none, none, none, none, none, none, none, none, none, none]) (fun k => by match k with | 0 => rfl | 1 => rfl | 2 => rfl | 3 => rfl | 4 => rfl | 5 => rfl | 6 => rfl | 7 => rfl | 8 => rfl | 9 => rfl | 10 => rfl | 11 => rfl | 12 => rfl | k + 13 => rfl) ?_
  by_cases hz : t.length = 0
  · have p0 := f4
    have p1 := f5
    refine tK (l := xk_145) rfl rfl (fun _ _ _ _ _ => rfl) ?_
    refine tCa (l := xk_145) rfl rfl (kInvV hR rfl rfl rfl rfl (Nat.le_of_ble_eq_true rfl) (Nat.le_of_ble_eq_true rfl)) ?_
    refine w83 hR (fun R1_ hR1_ => ?_)
    refine tKv ?_
    refine tSt (l := xk_145) rfl rfl (fun _ _ _ _ _ => rfl) (Nat.le_of_ble_eq_true rfl) ?_
    refine tK (l := xk_145) rfl rfl (fun _ _ _ _ _ => rfl) ?_
    refine tCa (l := xk_145) rfl rfl (kInvV hR1_ rfl rfl rfl rfl (Nat.le_of_ble_eq_true rfl) (Nat.le_of_ble_eq_true rfl)) ?_
    refine w84 hl hR1_ (fun R2_ hR2_ => ?_)
    refine tKv ?_
    refine tSt (l := xk_145) rfl rfl (fun _ _ _ _ _ => rfl) (Nat.le_of_ble_eq_true rfl) ?_
    refine tK (l := xk_145) rfl rfl (fun _ _ _ _ _ => rfl) ?_
    refine tCa (l := xk_145) rfl rfl (kInvV hR2_ rfl rfl rfl rfl (Nat.le_of_ble_eq_true rfl) (Nat.le_of_ble_eq_true rfl)) ?_
    refine w86 hl hR2_ (fun R3_ hR3_ => ?_)
    refine tKv ?_
    refine tSt (l := xk_145) rfl rfl (fun _ _ _ _ _ => rfl) (Nat.le_of_ble_eq_true rfl) ?_
    refine tK (l := xk_145) rfl rfl (fun _ _ _ _ _ => rfl) ?_
    refine tIf_ne (l := xk_145) (pc' := 46) rfl rfl rfl (fun hc => ?_) (fun hc => ?_)
    · exfalso
      rw [hw] at hc
      exact absurd hc (by decide)
    refine tK (l := xk_145) rfl rfl (fun _ _ _ _ _ => rfl) ?_
    refine tCa (l := xk_145) rfl rfl (kInvV hR3_ rfl rfl rfl rfl (Nat.le_of_ble_eq_true rfl) (Nat.le_of_ble_eq_true rfl)) ?_
    refine w116 hl hw hR3_ (fun R4_ hR4_ => ?_)
    refine tKv ?_
    refine tSt (l := xk_145) rfl rfl (fun _ _ _ _ _ => rfl) (Nat.le_of_ble_eq_true rfl) ?_
    refine tK (l := xk_145) rfl rfl (fun _ _ _ _ _ => rfl) ?_
    refine tCa (l := xk_145) rfl rfl (kInvV hR4_ rfl rfl rfl rfl (Nat.le_of_ble_eq_true rfl) (Nat.le_of_ble_eq_true rfl)) ?_
    refine w118 hl hw hR4_ (fun R5_ hR5_ => ?_)
    refine tKv ?_
    refine tSt (l := xk_145) rfl rfl (fun _ _ _ _ _ => rfl) (Nat.le_of_ble_eq_true rfl) ?_
    refine tK (l := xk_145) rfl rfl (fun _ _ _ _ _ => rfl) ?_
    refine tCa (l := xk_145) rfl rfl (kInvV hR5_ rfl rfl rfl rfl (Nat.le_of_ble_eq_true rfl) (Nat.le_of_ble_eq_true rfl)) ?_
    refine w119 hl hw hR5_ (fun R6_ hR6_ => ?_)
    refine tKv ?_
    refine tSt (l := xk_145) rfl rfl (fun _ _ _ _ _ => rfl) (Nat.le_of_ble_eq_true rfl) ?_
    refine tK (l := xk_145) rfl rfl (fun _ _ _ _ _ => rfl) ?_
    refine tK (l := xk_145) rfl rfl (fun _ _ _ _ _ => rfl) ?_
    refine tIc_ne (l := xk_145) (pc' := 159) rfl rfl rfl (fun hc => ?_) (fun hc => ?_)
    rotate_left
    · exfalso
      omega
    refine tK (l := xk_145) rfl rfl (fun _ _ _ _ _ => rfl) ?_
    refine tK (l := xk_145) rfl rfl (fun _ _ _ _ _ => rfl) ?_
    refine tIc_gt (l := xk_145) (pc' := 159) rfl rfl rfl (fun hc => ?_) (fun hc => ?_)
    · exfalso
      omega
    refine tK (l := xk_145) rfl rfl (fun _ _ _ _ _ => rfl) ?_
    refine tK (l := xk_145) rfl rfl (fun _ _ _ _ _ => rfl) ?_
    refine tIc_gt (l := xk_145) (pc' := 159) rfl rfl rfl (fun hc => ?_) (fun hc => ?_)
    · exfalso
      omega
    refine tK (l := xk_145) rfl rfl (fun _ _ _ _ _ => rfl) ?_
    refine tIf_ne (l := xk_145) (pc' := 91) rfl rfl rfl (fun hc => ?_) (fun hc => ?_)
    rotate_left
    · exfalso
      omega
    refine tK (l := xk_145) rfl rfl (fun _ _ _ _ _ => rfl) ?_
    refine tK (l := xk_145) rfl rfl (fun _ _ _ _ _ => rfl) ?_
    refine tK (l := xk_145) rfl rfl (fun _ _ _ _ _ => rfl) ?_
    refine tIf_ne (l := xk_145) (pc' := 100) rfl rfl rfl (fun hc => ?_) (fun hc => ?_)
    rotate_left
    · exfalso
      omega
    refine tK (l := xk_145) rfl rfl (fun _ _ _ _ _ => rfl) ?_
    refine tK (l := xk_145) rfl rfl (fun _ _ _ _ _ => rfl) ?_
    refine tIc_ne (l := xk_145) (pc' := 159) rfl rfl rfl (fun hc => ?_) (fun hc => ?_)
    rotate_left
    · exfalso
      exact hc rfl
    refine tK (l := xk_145) rfl rfl (fun _ _ _ _ _ => rfl) ?_
    refine tIf_ne (l := xk_145) (pc' := 113) rfl rfl rfl (fun hc => ?_) (fun hc => ?_)
    rotate_left
    · exfalso
      omega
    refine tK (l := xk_145) rfl rfl (fun _ _ _ _ _ => rfl) ?_
    refine tK (l := xk_145) rfl rfl (fun _ _ _ _ _ => rfl) ?_
    refine tK (l := xk_145) rfl rfl (fun _ _ _ _ _ => rfl) ?_
    refine tIf_ne (l := xk_145) (pc' := 122) rfl rfl rfl (fun hc => ?_) (fun hc => ?_)
    rotate_left
    · exfalso
      omega
    refine tK (l := xk_145) rfl rfl (fun _ _ _ _ _ => rfl) ?_
    refine tK (l := xk_145) rfl rfl (fun _ _ _ _ _ => rfl) ?_
    refine tIc_ne (l := xk_145) (pc' := 159) rfl rfl rfl (fun hc => ?_) (fun hc => ?_)
    rotate_left
    · exfalso
      exact hc rfl
    exact kTs_m hn hl hok hw hD hb hB hok2 hQ hlen hwok hD1 _ hR6_
  · have p0 := f4
    have p1 := f5
    refine tK (l := xk_145) rfl rfl (fun _ _ _ _ _ => rfl) ?_
    refine tCa (l := xk_145) rfl rfl (kInvV hR rfl rfl rfl rfl (Nat.le_of_ble_eq_true rfl) (Nat.le_of_ble_eq_true rfl)) ?_
    refine w83 hR (fun R1_ hR1_ => ?_)
    refine tKv ?_
    refine tSt (l := xk_145) rfl rfl (fun _ _ _ _ _ => rfl) (Nat.le_of_ble_eq_true rfl) ?_
    refine tK (l := xk_145) rfl rfl (fun _ _ _ _ _ => rfl) ?_
    refine tCa (l := xk_145) rfl rfl (kInvV hR1_ rfl rfl rfl rfl (Nat.le_of_ble_eq_true rfl) (Nat.le_of_ble_eq_true rfl)) ?_
    refine w84 hl hR1_ (fun R2_ hR2_ => ?_)
    refine tKv ?_
    refine tSt (l := xk_145) rfl rfl (fun _ _ _ _ _ => rfl) (Nat.le_of_ble_eq_true rfl) ?_
    refine tK (l := xk_145) rfl rfl (fun _ _ _ _ _ => rfl) ?_
    refine tCa (l := xk_145) rfl rfl (kInvV hR2_ rfl rfl rfl rfl (Nat.le_of_ble_eq_true rfl) (Nat.le_of_ble_eq_true rfl)) ?_
    refine w86 hl hR2_ (fun R3_ hR3_ => ?_)
    refine tKv ?_
    refine tSt (l := xk_145) rfl rfl (fun _ _ _ _ _ => rfl) (Nat.le_of_ble_eq_true rfl) ?_
    refine tK (l := xk_145) rfl rfl (fun _ _ _ _ _ => rfl) ?_
    refine tIf_ne (l := xk_145) (pc' := 46) rfl rfl rfl (fun hc => ?_) (fun hc => ?_)
    · exfalso
      rw [hw] at hc
      exact absurd hc (by decide)
    refine tK (l := xk_145) rfl rfl (fun _ _ _ _ _ => rfl) ?_
    refine tCa (l := xk_145) rfl rfl (kInvV hR3_ rfl rfl rfl rfl (Nat.le_of_ble_eq_true rfl) (Nat.le_of_ble_eq_true rfl)) ?_
    refine w116 hl hw hR3_ (fun R4_ hR4_ => ?_)
    refine tKv ?_
    refine tSt (l := xk_145) rfl rfl (fun _ _ _ _ _ => rfl) (Nat.le_of_ble_eq_true rfl) ?_
    refine tK (l := xk_145) rfl rfl (fun _ _ _ _ _ => rfl) ?_
    refine tCa (l := xk_145) rfl rfl (kInvV hR4_ rfl rfl rfl rfl (Nat.le_of_ble_eq_true rfl) (Nat.le_of_ble_eq_true rfl)) ?_
    refine w118 hl hw hR4_ (fun R5_ hR5_ => ?_)
    refine tKv ?_
    refine tSt (l := xk_145) rfl rfl (fun _ _ _ _ _ => rfl) (Nat.le_of_ble_eq_true rfl) ?_
    refine tK (l := xk_145) rfl rfl (fun _ _ _ _ _ => rfl) ?_
    refine tCa (l := xk_145) rfl rfl (kInvV hR5_ rfl rfl rfl rfl (Nat.le_of_ble_eq_true rfl) (Nat.le_of_ble_eq_true rfl)) ?_
    refine w119 hl hw hR5_ (fun R6_ hR6_ => ?_)
    refine tKv ?_
    refine tSt (l := xk_145) rfl rfl (fun _ _ _ _ _ => rfl) (Nat.le_of_ble_eq_true rfl) ?_
    refine tK (l := xk_145) rfl rfl (fun _ _ _ _ _ => rfl) ?_
    refine tK (l := xk_145) rfl rfl (fun _ _ _ _ _ => rfl) ?_
    refine tIc_ne (l := xk_145) (pc' := 159) rfl rfl rfl (fun hc => ?_) (fun hc => ?_)
    rotate_left
    · exfalso
      omega
    refine tK (l := xk_145) rfl rfl (fun _ _ _ _ _ => rfl) ?_
    refine tK (l := xk_145) rfl rfl (fun _ _ _ _ _ => rfl) ?_
    refine tIc_gt (l := xk_145) (pc' := 159) rfl rfl rfl (fun hc => ?_) (fun hc => ?_)
    · exfalso
      omega
    refine tK (l := xk_145) rfl rfl (fun _ _ _ _ _ => rfl) ?_
    refine tK (l := xk_145) rfl rfl (fun _ _ _ _ _ => rfl) ?_
    refine tIc_gt (l := xk_145) (pc' := 159) rfl rfl rfl (fun hc => ?_) (fun hc => ?_)
    · exfalso
      omega
    refine tK (l := xk_145) rfl rfl (fun _ _ _ _ _ => rfl) ?_
    refine tIf_ne (l := xk_145) (pc' := 91) rfl rfl rfl (fun hc => ?_) (fun hc => ?_)
    · exfalso
      omega
    refine tK (l := xk_145) rfl rfl (fun _ _ _ _ _ => rfl) ?_
    refine tK (l := xk_145) rfl rfl (fun _ _ _ _ _ => rfl) ?_
    refine tIf_ne (l := xk_145) (pc' := 100) rfl rfl rfl (fun hc => ?_) (fun hc => ?_)
    · exfalso
      omega
    refine tK (l := xk_145) rfl rfl (fun _ _ _ _ _ => rfl) ?_
    refine tIc_ne (l := xk_145) (pc' := 159) rfl rfl rfl (fun hc => ?_) (fun hc => ?_)
    rotate_left
    · exfalso
      exact hc rfl
    refine tK (l := xk_145) rfl rfl (fun _ _ _ _ _ => rfl) ?_
    refine tIf_ne (l := xk_145) (pc' := 113) rfl rfl rfl (fun hc => ?_) (fun hc => ?_)
    · exfalso
      omega
    refine tK (l := xk_145) rfl rfl (fun _ _ _ _ _ => rfl) ?_
    refine tK (l := xk_145) rfl rfl (fun _ _ _ _ _ => rfl) ?_
    refine tIf_ne (l := xk_145) (pc' := 122) rfl rfl rfl (fun hc => ?_) (fun hc => ?_)
    · exfalso
      omega
    refine tK (l := xk_145) rfl rfl (fun _ _ _ _ _ => rfl) ?_
    refine tIc_ne (l := xk_145) (pc' := 159) rfl rfl rfl (fun hc => ?_) (fun hc => ?_)
    rotate_left
    · exfalso
      exact hc rfl
    exact kTs_m hn hl hok hw hD hb hB hok2 hQ hlen hwok hD1 _ hR6_
end TSK
theorem kTs {zs : List xV} {xo : Int} {d g B n : Nat} {R : xH} {Q : xR → Prop} {c c2 : KS} (hn : n < 8) (hB : B < 999) (ok : okK B c) (hR : hPP zs R (c, c2) xo) (hQ : ∀ R2 g2 e2, g2 ≤ g + 1 → hPP zs R2 ((c.1, c.2.1, c.2.2.1, e2), c2) xo → okK B (c.1, c.2.1, c.2.2.1, e2) → Q (.inl (some (.inl 1)), R2, g2)) : xTC (d + 1226) 145 [.inr (.inl (some (ob false))), .inl (n : Int)] R g Q := by
  obtain ⟨t, ⟨f, oc, a1, a2, a3⟩, n1, e1⟩ := c
  obtain ⟨⟨hok, hl⟩, hst, hhi, h6⟩ := id ok
  have hst0 := hst
  obtain ⟨hv, hoc, rn, fl, pr, rfl, rfl, rfl, q12, q13, q14, q15, q16⟩ := hst
  have h1000 : okK 1000 (t, (f, oc, (rn : Int), (fl : Int), (pr : Int)), n1, e1) := by
    have up : ∀ k, okK (B + k) (t, (f, oc, (rn : Int), (fl : Int), (pr : Int)), n1, e1) := by
      intro k
      induction k with
      | zero => exact ok
      | succ k ih => exact ih.up
    have := up (1000 - B)
    rw [show B + (1000 - B) = 1000 by omega] at this
    exact this
  have hhi2 : okK B (t, (f, oc, (rn : Int), (fl : Int), (pr : Int)), n1, if e1.length = 6 then e1.tail else e1) := by
    refine ⟨⟨hok, hl⟩, hst0, fun st hs => ?_, ?_⟩
    · have hs : st ∈ (if e1.length = 6 then e1.tail else e1) := hs
      split at hs
      · exact hhi st (List.mem_of_mem_tail hs)
      · exact hhi st hs
    · show (if e1.length = 6 then e1.tail else e1).length ≤ 6
      split
      · rw [List.length_tail]; exact Nat.le_trans (Nat.sub_le _ _) h6
      · exact h6
  cases hw : pWh t with
  | false =>
    exact kTs_n hn hl hw h1000 hR (fun R2 g2 hg h => by
      rcases h with h | h
      · exact hQ R2 g2 e1 hg h ok
      · exact hQ R2 g2 _ hg h hhi2)
  | true =>
    obtain ⟨po, pp, -, ko, -⟩ := id hR
    obtain ⟨⟨D, hD⟩, hDn⟩ := Fin_exK ko hl hok hw
    obtain ⟨D1, hD1⟩ := hDn n hn
    have hock := ocK_D hl hok (fun k hk s e => (hv k hk s e).1) hD
    have hok2 := okT_rnd hst0 hock
    have hlen : D.2.1.2.2.1.length ≤ 200 := (Fin_j hl hD).1.1
    exact kTs_w hn hl hok hw hD ⟨by omega, by omega, by omega⟩ (by omega) hok2 (fun R2 g2 hg h => by
      rcases h with h | h
      · exact hQ R2 g2 e1 hg h ok
      · exact hQ R2 g2 _ hg h hhi2) hlen h1000 hD1 hR
