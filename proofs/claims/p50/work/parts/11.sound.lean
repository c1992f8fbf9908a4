/-! ===== a run of the small machine is a run of the machine ===== -/
set_option maxHeartbeats 16000000 in
set_option maxRecDepth 100000 in
theorem xsound {l : Launch} (hlf : l.stackTraces = false) {b B : Nat} {D : va_G} {ca : Nat → ClassId} {xs : List xV} : ∀ (n d mi pc : Nat) (lv : xL) (st : List xV) (ph : xH) (g : Nat) (r : xR), xr n d mi pc lv st ph g = some r → mi < 148 →
    ∀ {p : Program} {e : Env} {s : State} {m : MethodId} {args : Array Value} {below : List Frame} {meth : Method} {c : Code} {R : Room}, xCx b B D ca xs p s m args meth c mi → 8 + d ≤ R.frames ∧ 120 + 40 * d ≤ R.locals →
    ∀ (H : Heap) (locs : List Loc) (cells slots mc ms : Nat) (ls : Array Slot), xlvR b B ls (xmaxL mi) lv → xwfl lv → xwfs st → xRelH b B D ca xs ph g H → va_S (xA B) s.heap H locs → cells + xcc r.2.1 r.2.2 = mc + xcc ph g → slots + xcs r.2.1 r.2.2 = ms + xcs ph g → mc ≤ R.cells → ms ≤ R.slots →
      W p l e R s m args below meth c H locs cells slots (vx_MQ below (xQc b B D ca xs r) (xXc b B D ca xs r) args s mc ms (xA B)) (F0 m pc ls (st.map (xm b B))) := by
  intro n
  induction n with
  | zero => intro d mi pc lv st ph g r h; cases h
  | succ n ih =>
    intro d mi pc lv st ph g r h hmi p e s m args below meth c R CX hR H locs cells slots mc ms ls hlv hwl hws hrel hS hc1 hc2 hm1 hm2
    obtain ⟨hx, hb, hml, hown, hts, hr, hlocks, hin, htab, hfx⟩ := id CX
    have hK := hfx.1
    have hP := hrel.1
    have hDd := hrel.2.1
    have hA0 : ∀ q : Nat, s.heap.size ≤ q → xA B q := fun q hq => Nat.lt_of_lt_of_le hfx.2.2.2.2.2.2.2.2.2.2 hq
    have hlsz : ls.size = c.maxLocals := by rw [hml]; exact hlv.1
    cases hf : xfetch mi pc with
    | none => rw [xr_none n d mi pc lv st ph g hf] at h; cases h
    | some op =>
      obtain ⟨len, hdg0, hlen, hj⟩ := xdec hf
      have hdg : xsw op = false → decode (xby mi) pc = .ok (op, xlen op) := by
        intro h0
        rcases hlen with h1 | h1
        · rw [← h1]; exact hdg0
        · rw [h0] at h1; cases h1
      have nx : ∀ (pc' : Nat) (lv' : xL) (st' : List xV) (ph' : xH) (H' : Heap) (locs' : List Loc) (ls' : Array Slot), xr n d mi pc' lv' st' ph' g = some r → xlvR b B ls' (xmaxL mi) lv' → xwfl lv' → xwfs st' → xRelH b B D ca xs ph' g H' → va_S (xA B) s.heap H' locs' → xcc ph' g = xcc ph g → xcs ph' g = xcs ph g →
          W p l e R s m args below meth c H' locs' cells slots (vx_MQ below (xQc b B D ca xs r) (xXc b B D ca xs r) args s mc ms (xA B)) (F0 m pc' ls' (st'.map (xm b B))) :=
        fun pc' lv' st' ph' H' locs' ls' h1 h2 h3 h4 h5 h6 h7 h8 => ih d mi pc' lv' st' ph' g r h1 hmi CX hR H' locs' cells slots mc ms ls' h2 h3 h4 h5 h6 (by rw [h7]; exact hc1) (by rw [h8]; exact hc2) hm1 hm2
      have nk : ∀ (pc' : Nat) (lv' : xL) (st' : List xV) (ls' : Array Slot), xr n d mi pc' lv' st' ph g = some r → xlvR b B ls' (xmaxL mi) lv' → xwfl lv' → xwfs st' →
          W p l e R s m args below meth c H locs cells slots (vx_MQ below (xQc b B D ca xs r) (xXc b B D ca xs r) args s mc ms (xA B)) (F0 m pc' ls' (st'.map (xm b B))) :=
        fun pc' lv' st' ls' h1 h2 h3 h4 => nx pc' lv' st' ph H locs ls' h1 h2 h3 h4 hrel hS rfl rfl
      have aft : ∀ (mi' : Nat) (as rest : List xV) (a9 : Array Value), mi' < 148 → mi' ≠ 147 → xasz as ≤ xmaxL mi' → xwfs as → xwfs rest → xcont xr n d mi pc lv ph g mi' as rest = some r →
          (∀ (d' : Nat) (r1 : xR), d = d' + 1 → xr n d' mi' 0 (xent as) [] ph g = some r1 → xCon l b B D ca xs d' mi' as ph g r1 → (cells + xmc r1 ph g ≤ R.cells ∧ slots + xms r1 ph g ≤ R.slots) → vx_Run p l e R s m args below meth c H locs cells slots (xmc r1 ph g) (xms r1 ph g) (F0 m pc ls (st.map (xm b B))) (rest.map (xm b B)) (xQc b B D ca xs r1 a9) (xXc b B D ca xs r1) (xA B)) →
          W p l e R s m args below meth c H locs cells slots (vx_MQ below (xQc b B D ca xs r) (xXc b B D ca xs r) args s mc ms (xA B)) (F0 m pc ls (st.map (xm b B))) := by
        intro mi' as rest a9 hlt hne hsz hwa hwr hc hrun
        cases d with
        | zero => cases hc
        | succ d' =>
          simp only [xcont] at hc
          cases hq : xr n d' mi' 0 (xent as) [] ph g with
          | none => rw [hq] at hc; cases hc
          | some r1 =>
            rw [hq] at hc
            have hg1 := xr_grow2 hq
            have hcon : xCon l b B D ca xs d' mi' as ph g r1 := xCon_of (xMall hlt hne) hsz (fun p2 e2 s2 m2 args2 below2 meth2 c2 CX2 hrel2 ls2 hlv2 => ih d' mi' 0 (xent as) [] ph g r1 hq hlt CX2 ⟨Nat.le_refl _, Nat.le_refl _⟩ s2.heap [] 0 0 (xmc r1 ph g) (xms r1 ph g) ls2 hlv2 (xent_wf hwa) (fun v hv => by cases hv) hrel2 va_S.rf (by unfold xmc; omega) (by unfold xms; omega) (Nat.le_refl _) (Nat.le_refl _))
            obtain ⟨o, ph1, g1⟩ := r1
            have hg2 : xcc ph1 g1 ≤ xcc r.2.1 r.2.2 ∧ xcs ph1 g1 ≤ xcs r.2.1 r.2.2 := by
              cases o with
              | inl v => exact xr_grow2 hc
              | inr E =>
                simp only at hc
                cases hh : xhan mi pc E with
                | none => rw [hh] at hc; cases hc; exact ⟨Nat.le_refl _, Nat.le_refl _⟩
                | some w => rw [hh] at hc; exact xr_grow2 hc
            simp only at hg1
            have hmm : xmc ((o, ph1, g1) : xR) ph g = xcc ph1 g1 - xcc ph g ∧ xms ((o, ph1, g1) : xR) ph g = xcs ph1 g1 - xcs ph g := ⟨rfl, rfl⟩
            refine xAfter (hrun d' _ rfl hq hcon ⟨by omega, by omega⟩) hS (fun v ph2 g2 H1 locs1 e1 hwv hrel1 hS1 => ?_) (fun E ph2 g2 H1 locs1 ce q9 e1 hE hrel1 hS1 hce hcv hcl => ?_)
            · cases e1
              simp only at hc
              have e9 : (v.map (xm b B)).toList ++ rest.map (xm b B) = (v.toList ++ rest).map (xm b B) := by cases v <;> rfl
              rw [e9]
              refine ih (d' + 1) mi (pc + 3) lv (v.toList ++ rest) ph1 g1 r hc hmi CX hR H1 locs1 _ _ mc ms ls hlv hwl (fun w hw => ?_) hrel1 hS1 (by omega) (by omega) hm1 hm2
              rcases List.mem_append.mp hw with hw | hw
              · exact hwv w (Option.mem_toList.mp hw)
              · exact hwr w hw
            · cases e1
              simp only at hc
              have hNc := hfx.2.2.2.2.2.1
              cases hh : xhan mi pc E with
              | none =>
                rw [hh] at hc
                cases hc
                have hpn := xhan_none hmi hh
                refine vx_outP hown hlocks (fun z hz => ?_) hce hcv hcl (fun t ht ha => ⟨E, ph1, g1, rfl, hE, rfl, by rw [ht]; exact hrel1, hS1.F ht⟩) (fun z hz => hS1.2.2 z hz) (by simp only at hc1; omega) (by simp only at hc2; omega)
                rw [htab] at hz
                obtain ⟨q, hq9, rfl⟩ := List.mem_map.mp hz
                exact xpass hmi hq9 hE hts hNc (hpn q hq9)
              | some w =>
                rw [hh] at hc
                obtain ⟨q, pre, suf, e1, e2, e3, e4, e5⟩ := xhan_some hh
                have hqm : q ∈ xhh mi := by rw [e1]; simp
                have hka := xcat_ok e4
                have hkl : ∀ k9 : Nat, ((∃ k : Fin 4, xfetch mi q.2.2.1 = some (.astore_n k) ∧ k9 = k) ∨ xfetch mi q.2.2.1 = some (.astore k9)) → k9 < xmaxL mi := fun k9 h9 => by
                  have hst := xhh_st mi hmi q hqm
                  rcases h9 with ⟨k, h9, rfl⟩ | h9 <;> (rw [h9] at hst; exact of_decide_eq_true hst)
                refine vx_catch hown (pre.map fun q => ⟨q.1, q.2.1, q.2.2.1, q.2.2.2⟩) ⟨q.1, q.2.1, q.2.2.1, q.2.2.2⟩ (suf.map fun q => ⟨q.1, q.2.1, q.2.2.1, q.2.2.2⟩) (by rw [htab, e1]; simp [tableOf]) (fun z hz => ?_) e3 (xhh_all mi hmi q hqm).2 (hts _ hka.2) (hfx.2.2.2.2.1 E hE).use hce hcv hcl ?_
                · obtain ⟨q2, hq2, rfl⟩ := List.mem_map.mp hz
                  exact xpass hmi (by rw [e1]; exact List.mem_append_left _ hq2) hE hts hNc (e2 q2 hq2)
                · rcases e5 with ⟨k, hk, rfl⟩ | ⟨k, hk, rfl⟩
                  · obtain ⟨len9, hd9, hl9, -⟩ := xdec hk
                    have hl9 : len9 = 1 := by rcases hl9 with h | h; exact h; cases h
                    subst hl9
                    exact lv_astore_n hx hb hd9 rfl (xlvR_has hlv) (hkl k (Or.inl ⟨k, hk, rfl⟩)) rfl (fun ls' h' => ih (d' + 1) mi (q.2.2.1 + 1) (xclr lv k) [] ph1 g1 r hc hmi CX hR H1 locs1 _ _ mc ms ls' (xlvR_clr hlv h') (xclr_wf hwl) (fun v hv => by cases hv) hrel1 hS1 (by omega) (by omega) hm1 hm2)
                  · obtain ⟨len9, hd9, hl9, -⟩ := xdec hk
                    have hl9 : len9 = 2 := by rcases hl9 with h | h; exact h; cases h
                    subst hl9
                    exact lv_astore hx hb hd9 (xlvR_has hlv) (hkl k (Or.inr hk)) rfl (fun ls' h' => ih (d' + 1) mi (q.2.2.1 + 2) (xclr lv k) [] ph1 g1 r hc hmi CX hR H1 locs1 _ _ mc ms ls' (xlvR_clr hlv h') (xclr_wf hwl) (fun v hv => by cases hv) hrel1 hS1 (by omega) (by omega) hm1 hm2)
      replace h : xop mi pc op lv st ph g (fun pc' lv' st' ph' => xr n d mi pc' lv' st' ph' g) (xcont xr n d mi pc lv ph g) (fun v => some (.inl v, ph, g)) (fun E => some (.inr E, ph, g + 1)) none = some r := by
        rw [xr, hf] at h
        exact h
      cases op with
      | iconst k =>
        simp only [xop] at h
        split at h
        · rename_i hk
          have h9 := nk _ _ _ _ h hlv hwl (xwfs_cons.mpr ⟨⟨by omega, by omega⟩, hws⟩)
          exact lv_iconst hx hb (hdg rfl) rfl h9
        · cases h
      | bipush k =>
        simp only [xop] at h
        split at h
        · rename_i hk
          have h9 := nk _ _ _ _ h hlv hwl (xwfs_cons.mpr ⟨⟨by omega, by omega⟩, hws⟩)
          exact lv_bipush hx hb (hdg rfl) (xi_b hk.1 hk.2) h9
        · cases h
      | sipush k =>
        simp only [xop] at h
        split at h
        · rename_i hk
          have h9 := nk _ _ _ _ h hlv hwl (xwfs_cons.mpr ⟨⟨by omega, by omega⟩, hws⟩)
          exact lv_sipush hx hb (hdg rfl) (xi_s hk.1 hk.2) h9
        · cases h
      | aconst_null =>
        simp only [xop] at h
        have h9 := nk _ _ _ _ h hlv hwl (xwfs_cons.mpr ⟨trivial, hws⟩)
        exact lv_null hx hb (hdg rfl) h9
      | lconst k =>
        simp only [xop] at h
        have h9 := nk _ _ _ _ h hlv hwl (xwfs_cons.mpr ⟨trivial, hws⟩)
        exact lv_lconst hx hb (hdg rfl) rfl h9
      | dconst k =>
        simp only [xop] at h
        split at h
        · rename_i hk
          subst hk
          have h9 := nk _ _ _ _ h hlv hwl (xwfs_cons.mpr ⟨trivial, hws⟩)
          exact lv_dconst0 hx hb (hdg rfl) h9
        · rename_i hk
          have hk1 : k = 1 := by
            match k, hk with
            | 0, hk => exact absurd rfl hk
            | 1, _ => rfl
          subst hk1
          have h9 := nk _ _ _ _ h hlv hwl (xwfs_cons.mpr ⟨trivial, hws⟩)
          exact lv_dconst1 hx hb (hdg rfl) h9
      | ldc i =>
        simp only [xop] at h
        split at h
        · rename_i x hc
          have h8 := xcst_ok hc
          have h9 := nk _ _ _ _ h hlv hwl (xwfs_cons.mpr ⟨h8.1, hws⟩)
          exact lv_ldc hx hb hown (hts _ h8.2) (hdg rfl) h9
        · cases h
      | ldc2_w i =>
        simp only [xop] at h
        split at h
        · rename_i x hc
          have h8 := xcst_ok hc
          have h9 := nk _ _ _ _ h hlv hwl (xwfs_cons.mpr ⟨trivial, hws⟩)
          cases x with
          | inl y => exact lv_ldc2 hx hb hown (hts _ h8) (hdg rfl) h9
          | inr y => exact lv_ldc2d hx hb hown (hts _ h8) (hdg rfl) h9
        · cases h
      | iload_n k =>
        simp only [xop] at h
        split at h
        · rename_i x hv
          have h9 := nk _ _ _ _ h hlv hwl (xwfs_cons.mpr ⟨hwl _ _ hv, hws⟩)
          exact lv_iload_n hx hb (hdg rfl) rfl (hlv.2.2 _ _ hv) h9
        · cases h
      | iload k =>
        simp only [xop] at h
        split at h
        · rename_i x hv
          have h9 := nk _ _ _ _ h hlv hwl (xwfs_cons.mpr ⟨hwl _ _ hv, hws⟩)
          exact lv_iload hx hb (hdg rfl) (hlv.2.2 _ _ hv) h9
        · cases h
      | lload_n k =>
        simp only [xop] at h
        split at h
        · rename_i x hv
          have h9 := nk _ _ _ _ h hlv hwl (xwfs_cons.mpr ⟨hwl _ _ hv, hws⟩)
          exact lv_lload_n hx hb (hdg rfl) rfl (hlv.2.2 _ _ hv) h9
        · cases h
      | lload k =>
        simp only [xop] at h
        split at h
        · rename_i x hv
          have h9 := nk _ _ _ _ h hlv hwl (xwfs_cons.mpr ⟨hwl _ _ hv, hws⟩)
          exact lv_lload hx hb (hdg rfl) (hlv.2.2 _ _ hv) h9
        · cases h
      | dload_n k =>
        simp only [xop] at h
        split at h
        · rename_i x hv
          have h9 := nk _ _ _ _ h hlv hwl (xwfs_cons.mpr ⟨hwl _ _ hv, hws⟩)
          exact lv_dload_n hx hb (hdg rfl) rfl (hlv.2.2 _ _ hv) h9
        · cases h
      | dload k =>
        simp only [xop] at h
        split at h
        · rename_i x hv
          have h9 := nk _ _ _ _ h hlv hwl (xwfs_cons.mpr ⟨hwl _ _ hv, hws⟩)
          exact lv_dload hx hb (hdg rfl) (hlv.2.2 _ _ hv) h9
        · cases h
      | aload_n k =>
        simp only [xop] at h
        split at h
        · rename_i x hv
          have h9 := nk _ _ _ _ h hlv hwl (xwfs_cons.mpr ⟨hwl _ _ hv, hws⟩)
          cases x with
          | none => exact lv_aload_nN hx hb (hdg rfl) rfl (hlv.2.2 _ _ hv) h9
          | some a => exact lv_aload_n hx hb (hdg rfl) rfl (hlv.2.2 _ _ hv) h9
        · cases h
      | aload k =>
        simp only [xop] at h
        split at h
        · rename_i x hv
          have h9 := nk _ _ _ _ h hlv hwl (xwfs_cons.mpr ⟨hwl _ _ hv, hws⟩)
          cases x with
          | none => exact lv_aloadN hx hb (hdg rfl) (hlv.2.2 _ _ hv) h9
          | some a => exact lv_aload hx hb (hdg rfl) (hlv.2.2 _ _ hv) h9
        · cases h
      | istore_n k =>
        simp only [xop] at h
        split at h
        · split at h
          · rename_i hk
            exact lv_istore_n hx hb (hdg rfl) rfl (xlvR_has hlv) hk rfl (fun ls' h' => nk _ _ _ _ h (xlvR_set hlv h') (xset_wf hwl (xwfs_cons.mp hws).1) (xwfs_cons.mp hws).2)
          · cases h
        · cases h
      | istore k =>
        simp only [xop] at h
        split at h
        · split at h
          · rename_i hk
            exact lv_istore hx hb (hdg rfl) (xlvR_has hlv) hk rfl (fun ls' h' => nk _ _ _ _ h (xlvR_set hlv h') (xset_wf hwl (xwfs_cons.mp hws).1) (xwfs_cons.mp hws).2)
          · cases h
        · cases h
      | lstore_n k =>
        simp only [xop] at h
        split at h
        · split at h
          · rename_i hk
            exact lv_lstore_n hx hb (hdg rfl) rfl (xlvR_has hlv) hk rfl (fun ls' h' => nk _ _ _ _ h (xlvR_set2 hlv h') (xset2_wf hwl (xwfs_cons.mp hws).1) (xwfs_cons.mp hws).2)
          · cases h
        · cases h
      | lstore k =>
        simp only [xop] at h
        split at h
        · split at h
          · rename_i hk
            exact lv_lstore hx hb (hdg rfl) (xlvR_has hlv) hk rfl (fun ls' h' => nk _ _ _ _ h (xlvR_set2 hlv h') (xset2_wf hwl (xwfs_cons.mp hws).1) (xwfs_cons.mp hws).2)
          · cases h
        · cases h
      | dstore_n k =>
        simp only [xop] at h
        split at h
        · split at h
          · rename_i hk
            exact lv_dstore_n hx hb (hdg rfl) rfl (xlvR_has hlv) hk rfl (fun ls' h' => nk _ _ _ _ h (xlvR_set2 hlv h') (xset2_wf hwl (xwfs_cons.mp hws).1) (xwfs_cons.mp hws).2)
          · cases h
        · cases h
      | dstore k =>
        simp only [xop] at h
        split at h
        · split at h
          · rename_i hk
            exact lv_dstore hx hb (hdg rfl) (xlvR_has hlv) hk rfl (fun ls' h' => nk _ _ _ _ h (xlvR_set2 hlv h') (xset2_wf hwl (xwfs_cons.mp hws).1) (xwfs_cons.mp hws).2)
          · cases h
        · cases h
      | astore_n k =>
        simp only [xop] at h
        split at h
        · rename_i x st'
          split at h
          · rename_i hk
            cases x with
            | none => exact lv_astore_nN hx hb (hdg rfl) rfl (xlvR_has hlv) hk rfl (fun ls' h' => nk _ _ _ _ h (xlvR_set hlv h') (xset_wf hwl (xwfs_cons.mp hws).1) (xwfs_cons.mp hws).2)
            | some a => exact lv_astore_n hx hb (hdg rfl) rfl (xlvR_has hlv) hk rfl (fun ls' h' => nk _ _ _ _ h (xlvR_set hlv h') (xset_wf hwl (xwfs_cons.mp hws).1) (xwfs_cons.mp hws).2)
          · cases h
        · cases h
      | astore k =>
        simp only [xop] at h
        split at h
        · rename_i x st'
          split at h
          · rename_i hk
            cases x with
            | none => exact lv_astoreN hx hb (hdg rfl) (xlvR_has hlv) hk rfl (fun ls' h' => nk _ _ _ _ h (xlvR_set hlv h') (xset_wf hwl (xwfs_cons.mp hws).1) (xwfs_cons.mp hws).2)
            | some a => exact lv_astore hx hb (hdg rfl) (xlvR_has hlv) hk rfl (fun ls' h' => nk _ _ _ _ h (xlvR_set hlv h') (xset_wf hwl (xwfs_cons.mp hws).1) (xwfs_cons.mp hws).2)
          · cases h
        · cases h
      | iinc k w =>
        simp only [xop] at h
        split at h
        · rename_i x hv
          split at h
          · rename_i hk
            obtain ⟨i9, h9⟩ := List.getElem?_of_mem (xls_mem (b := b) (B := B) (q := (k, Value.int (Int32.ofInt x))).mpr ⟨.inl x, hk.2, hv, rfl⟩)
            exact lv_iinc (v := Int32.ofInt (x + w)) hx hb (hdg rfl) (xlvR_has hlv) h9 (xi_add x w) hk.2 rfl (fun ls' h' => nk _ _ _ _ h (xlvR_set (v := .inl (x + w)) hlv h') (xset_wf hwl hk.1) hws)
          · cases h
        · cases h
      | iadd =>
        simp only [xop] at h
        split at h
        · rename_i y x st'
          split at h
          · rename_i hk
            have hw1 := xwfs_cons.mp hws
            have h9 := nk _ _ _ _ h hlv hwl (xwfs_cons.mpr ⟨hk, (xwfs_cons.mp hw1.2).2⟩)
            exact lv_iadd hx hb (hdg rfl) (by rw [xi_add]; exact h9)
          · cases h
        · cases h
      | isub =>
        simp only [xop] at h
        split at h
        · rename_i y x st'
          split at h
          · rename_i hk
            have hw1 := xwfs_cons.mp hws
            have h9 := nk _ _ _ _ h hlv hwl (xwfs_cons.mpr ⟨hk, (xwfs_cons.mp hw1.2).2⟩)
            exact lv_isub hx hb (hdg rfl) (by rw [xi_sub]; exact h9)
          · cases h
        · cases h
      | imul =>
        simp only [xop] at h
        split at h
        · rename_i y x st'
          split at h
          · rename_i hk
            have hw1 := xwfs_cons.mp hws
            have h9 := nk _ _ _ _ h hlv hwl (xwfs_cons.mpr ⟨hk, (xwfs_cons.mp hw1.2).2⟩)
            exact lv_imul hx hb (hdg rfl) (by rw [xi_mul]; exact h9)
          · cases h
        · cases h
      | idiv =>
        simp only [xop] at h
        split at h
        · rename_i y x st'
          split at h
          · rename_i hk
            have hw1 := xwfs_cons.mp hws
            have hw2 := xwfs_cons.mp hw1.2
            have e1 : xin x := hw2.1
            have e2 : xin y := hw1.1
            have e3 : xin (x / y) := by
              have := Int.ediv_le_self y hk.1
              have := Int.ediv_nonneg hk.1 (Int.le_of_lt hk.2)
              have := e1.2
              exact ⟨by omega, by omega⟩
            have h9 := nk _ _ _ _ h hlv hwl (xwfs_cons.mpr ⟨e3, hw2.2⟩)
            exact lv_idiv hx hb (hdg rfl) (xi_ne0 hk.2 e2) (by rw [xi_div hk.1 hk.2 e1 e2]; exact h9)
          · cases h
        · cases h
      | irem =>
        simp only [xop] at h
        split at h
        · rename_i y x st'
          split at h
          · rename_i hk
            have hw1 := xwfs_cons.mp hws
            have hw2 := xwfs_cons.mp hw1.2
            have e1 : xin x := hw2.1
            have e2 : xin y := hw1.1
            have e3 : xin (x % y) := by
              have := Int.emod_nonneg x (Int.ne_of_gt hk.2)
              have := Int.emod_lt_of_pos x hk.2
              have := e2.2
              exact ⟨by omega, by omega⟩
            have h9 := nk _ _ _ _ h hlv hwl (xwfs_cons.mpr ⟨e3, hw2.2⟩)
            exact lv_irem hx hb (hdg rfl) (xi_ne0 hk.2 e2) (by rw [xi_rem hk.1 hk.2 e1 e2]; exact h9)
          · cases h
        · cases h
      | iand =>
        simp only [xop] at h
        split at h
        · rename_i y x st'
          have hw2 := xwfs_cons.mp (xwfs_cons.mp hws).2
          have h9 := nk _ _ _ _ h hlv hwl (xwfs_cons.mpr ⟨xin_of _, hw2.2⟩)
          simp only [List.map_cons, xm, xi_of] at h9
          exact lv_iand hx hb (hdg rfl) h9
        · cases h
      | ior =>
        simp only [xop] at h
        split at h
        · rename_i y x st'
          have hw2 := xwfs_cons.mp (xwfs_cons.mp hws).2
          have h9 := nk _ _ _ _ h hlv hwl (xwfs_cons.mpr ⟨xin_of _, hw2.2⟩)
          simp only [List.map_cons, xm, xi_of] at h9
          exact lv_ior hx hb (hdg rfl) h9
        · cases h
      | ixor =>
        simp only [xop] at h
        split at h
        · rename_i y x st'
          have hw2 := xwfs_cons.mp (xwfs_cons.mp hws).2
          have h9 := nk _ _ _ _ h hlv hwl (xwfs_cons.mpr ⟨xin_of _, hw2.2⟩)
          simp only [List.map_cons, xm, xi_of] at h9
          exact lv_ixor hx hb (hdg rfl) h9
        · cases h
      | ishl =>
        simp only [xop] at h
        split at h
        · rename_i y x st'
          have hw2 := xwfs_cons.mp (xwfs_cons.mp hws).2
          have h9 := nk _ _ _ _ h hlv hwl (xwfs_cons.mpr ⟨xin_of _, hw2.2⟩)
          simp only [List.map_cons, xm, xi_of] at h9
          exact lv_ishl hx hb (hdg rfl) h9
        · cases h
      | ishr =>
        simp only [xop] at h
        split at h
        · rename_i y x st'
          have hw2 := xwfs_cons.mp (xwfs_cons.mp hws).2
          have h9 := nk _ _ _ _ h hlv hwl (xwfs_cons.mpr ⟨xin_of _, hw2.2⟩)
          simp only [List.map_cons, xm, xi_of] at h9
          exact lv_ishr hx hb (hdg rfl) h9
        · cases h
      | i2c =>
        simp only [xop] at h
        split at h
        · rename_i x st'
          split at h
          · rename_i hk
            have h9 := nk _ _ _ _ h hlv hwl (xwfs_cons.mpr ⟨(xwfs_cons.mp hws).1, (xwfs_cons.mp hws).2⟩)
            exact lv_i2c hx hb (hdg rfl) (xi_c hk.1 hk.2) h9
          · cases h
        · cases h
      | i2l =>
        simp only [xop] at h
        split at h
        · rename_i x st'
          have h9 := nk _ _ _ _ h hlv hwl (xwfs_cons.mpr ⟨trivial, (xwfs_cons.mp hws).2⟩)
          exact lv_i2l hx hb (hdg rfl) (xi_l (xwfs_cons.mp hws).1) h9
        · cases h
      | i2d =>
        simp only [xop] at h
        split at h
        · rename_i x st'
          have h9 := nk _ _ _ _ h hlv hwl (xwfs_cons.mpr ⟨trivial, (xwfs_cons.mp hws).2⟩)
          exact lv_i2d hx hb (hdg rfl) h9
        · cases h
      | d2l =>
        simp only [xop] at h
        split at h
        · rename_i x st'
          have h9 := nk _ _ _ _ h hlv hwl (xwfs_cons.mpr ⟨trivial, (xwfs_cons.mp hws).2⟩)
          exact lv_d2l hx hb (hdg rfl) h9
        · cases h
      | ladd =>
        simp only [xop] at h
        split at h
        · rename_i y x st'
          have h9 := nk _ _ _ _ h hlv hwl (xwfs_cons.mpr ⟨trivial, (xwfs_cons.mp (xwfs_cons.mp hws).2).2⟩)
          exact lv_ladd hx hb (hdg rfl) h9
        · cases h
      | lsub =>
        simp only [xop] at h
        split at h
        · rename_i y x st'
          have h9 := nk _ _ _ _ h hlv hwl (xwfs_cons.mpr ⟨trivial, (xwfs_cons.mp (xwfs_cons.mp hws).2).2⟩)
          exact lv_lsub hx hb (hdg rfl) h9
        · cases h
      | lmul =>
        simp only [xop] at h
        split at h
        · rename_i y x st'
          have h9 := nk _ _ _ _ h hlv hwl (xwfs_cons.mpr ⟨trivial, (xwfs_cons.mp (xwfs_cons.mp hws).2).2⟩)
          exact lv_lmul hx hb (hdg rfl) h9
        · cases h
      | lshl =>
        simp only [xop] at h
        split at h
        · rename_i y x st'
          have h9 := nk _ _ _ _ h hlv hwl (xwfs_cons.mpr ⟨trivial, (xwfs_cons.mp (xwfs_cons.mp hws).2).2⟩)
          exact lv_lshl hx hb (hdg rfl) rfl h9
        · cases h
      | lcmp =>
        simp only [xop] at h
        split at h
        · rename_i y x st'
          have h9 := nk _ _ _ _ h hlv hwl (xwfs_cons.mpr ⟨xin_of _, (xwfs_cons.mp (xwfs_cons.mp hws).2).2⟩)
          simp only [List.map_cons, xm, xi_of] at h9
          exact W.lcmp hx hb (hdg rfl) h9
        · cases h
      | dcmp w =>
        simp only [xop] at h
        split at h
        · rename_i y x st'
          have h9 := nk _ _ _ _ h hlv hwl (xwfs_cons.mpr ⟨xin_of _, (xwfs_cons.mp (xwfs_cons.mp hws).2).2⟩)
          simp only [List.map_cons, xm, xi_of] at h9
          exact lv_dcmp hx hb (hdg rfl) h9
        · cases h
      | dsub =>
        simp only [xop] at h
        split at h
        · rename_i y x st'
          split at h
          · rename_i hk
            have h9 := nk _ _ _ _ h hlv hwl (xwfs_cons.mpr ⟨trivial, (xwfs_cons.mp (xwfs_cons.mp hws).2).2⟩)
            exact lv_dsub hx hb (hdg rfl) hk h9
          · cases h
        · cases h
      | dmul =>
        simp only [xop] at h
        split at h
        · rename_i y x st'
          split at h
          · rename_i hk
            have h9 := nk _ _ _ _ h hlv hwl (xwfs_cons.mpr ⟨trivial, (xwfs_cons.mp (xwfs_cons.mp hws).2).2⟩)
            exact lv_dmul hx hb (hdg rfl) hk h9
          · cases h
        · cases h
      | ddiv =>
        simp only [xop] at h
        split at h
        · rename_i y x st'
          split at h
          · rename_i hk
            have h9 := nk _ _ _ _ h hlv hwl (xwfs_cons.mpr ⟨trivial, (xwfs_cons.mp (xwfs_cons.mp hws).2).2⟩)
            exact lv_ddiv hx hb (hdg rfl) hk h9
          · cases h
        · cases h
      | dup =>
        simp only [xop] at h
        split at h
        · have hw1 := xwfs_cons.mp hws
          have h9 := nk _ _ _ _ h hlv hwl (xwfs_cons.mpr ⟨hw1.1, hws⟩)
          exact lv_dup hx hb (hdg rfl) rfl h9
        · rename_i x st'
          have hw1 := xwfs_cons.mp hws
          have h9 := nk _ _ _ _ h hlv hwl (xwfs_cons.mpr ⟨hw1.1, hws⟩)
          exact lv_dup hx hb (hdg rfl) (by rw [xcat_eq]; rfl) h9
        · cases h
      | dup2 =>
        simp only [xop] at h
        split at h
        · have hw1 := xwfs_cons.mp hws
          have h9 := nk _ _ _ _ h hlv hwl (xwfs_cons.mpr ⟨hw1.1, xwfs_cons.mpr ⟨(xwfs_cons.mp hw1.2).1, hws⟩⟩)
          exact lv_dup2_11 hx hb (hdg rfl) rfl (by rw [xcat_eq]; rfl) h9
        · cases h
      | pop =>
        simp only [xop] at h
        split at h
        · have h9 := nk _ _ _ _ h hlv hwl (xwfs_cons.mp hws).2
          exact lv_pop hx hb (hdg rfl) rfl h9
        · have h9 := nk _ _ _ _ h hlv hwl (xwfs_cons.mp hws).2
          exact lv_pop hx hb (hdg rfl) (by rw [xcat_eq]; rfl) h9
        · cases h
      | ifCond w off =>
        simp only [xop] at h
        split at h
        · rename_i x st'
          have hw1 := xwfs_cons.mp hws
          have e0 : xin x := hw1.1
          have ht := xpc_ok (of_decide_eq_true hj)
          cases w with
          | eq =>
            simp only [xcmp] at h
            refine lv_if_eq hx hb (hdg rfl) ht (fun hq => ?_) (fun hq => ?_)
            · rw [if_pos ((xz_eq e0).mp hq)] at h; exact nk _ _ _ _ h hlv hwl hw1.2
            · rw [if_neg (fun q => hq ((xz_eq e0).mpr q))] at h; exact nk _ _ _ _ h hlv hwl hw1.2
          | ne =>
            simp only [xcmp] at h
            refine lv_if_ne hx hb (hdg rfl) ht (fun hq => ?_) (fun hq => ?_)
            · rw [if_neg (fun q => hq ((xz_eq e0).mpr q))] at h; exact nk _ _ _ _ h hlv hwl hw1.2
            · rw [if_pos ((xz_eq e0).mp hq)] at h; exact nk _ _ _ _ h hlv hwl hw1.2
          | lt =>
            simp only [xcmp] at h
            refine lv_if_lt hx hb (hdg rfl) ht (fun hq => ?_) (fun hq => ?_)
            · rw [if_pos ((xz_lt e0).mp hq)] at h; exact nk _ _ _ _ h hlv hwl hw1.2
            · rw [if_neg (fun q => hq ((xz_lt e0).mpr q))] at h; exact nk _ _ _ _ h hlv hwl hw1.2
          | ge =>
            simp only [xcmp] at h
            refine lv_if_ge hx hb (hdg rfl) ht (fun hq => ?_) (fun hq => ?_)
            · rw [if_neg (fun q => by have := (xz_ge e0).mp hq; omega)] at h; exact nk _ _ _ _ h hlv hwl hw1.2
            · rw [if_pos (Int.not_le.mp (fun q => hq ((xz_ge e0).mpr q)))] at h; exact nk _ _ _ _ h hlv hwl hw1.2
          | gt =>
            simp only [xcmp] at h
            refine lv_if_gt hx hb (hdg rfl) ht (fun hq => ?_) (fun hq => ?_)
            · rw [if_pos ((xz_gt e0).mp hq)] at h; exact nk _ _ _ _ h hlv hwl hw1.2
            · rw [if_neg (fun q => hq ((xz_gt e0).mpr q))] at h; exact nk _ _ _ _ h hlv hwl hw1.2
          | le =>
            simp only [xcmp] at h
            refine lv_if_le hx hb (hdg rfl) ht (fun hq => ?_) (fun hq => ?_)
            · rw [if_neg (fun q => by have := (xz_le e0).mp hq; omega)] at h; exact nk _ _ _ _ h hlv hwl hw1.2
            · rw [if_pos (Int.not_le.mp (fun q => hq ((xz_le e0).mpr q)))] at h; exact nk _ _ _ _ h hlv hwl hw1.2
        · cases h
      | if_icmp w off =>
        simp only [xop] at h
        split at h
        · rename_i y x st'
          have hw1 := xwfs_cons.mp hws
          have hw2 := xwfs_cons.mp hw1.2
          have e1 : xin x := hw2.1
          have e2 : xin y := hw1.1
          have ht := xpc_ok (of_decide_eq_true hj)
          cases w with
          | eq =>
            simp only [xcmp] at h
            refine lv_icmp_eq hx hb (hdg rfl) ht (fun hq => ?_) (fun hq => ?_)
            · rw [if_pos ((xi_eq e1 e2).mp hq)] at h; exact nk _ _ _ _ h hlv hwl hw2.2
            · rw [if_neg (fun q => hq ((xi_eq e1 e2).mpr q))] at h; exact nk _ _ _ _ h hlv hwl hw2.2
          | ne =>
            simp only [xcmp] at h
            refine lv_icmp_ne hx hb (hdg rfl) ht (fun hq => ?_) (fun hq => ?_)
            · rw [if_neg (fun q => hq ((xi_eq e1 e2).mpr q))] at h; exact nk _ _ _ _ h hlv hwl hw2.2
            · rw [if_pos ((xi_eq e1 e2).mp hq)] at h; exact nk _ _ _ _ h hlv hwl hw2.2
          | lt =>
            simp only [xcmp] at h
            refine lv_icmp_lt hx hb (hdg rfl) ht (fun hq => ?_) (fun hq => ?_)
            · rw [if_pos ((xi_lt e1 e2).mp hq)] at h; exact nk _ _ _ _ h hlv hwl hw2.2
            · rw [if_neg (fun q => hq ((xi_lt e1 e2).mpr q))] at h; exact nk _ _ _ _ h hlv hwl hw2.2
          | ge =>
            simp only [xcmp] at h
            refine lv_icmp_ge hx hb (hdg rfl) ht (fun hq => ?_) (fun hq => ?_)
            · rw [if_neg (fun q => by have := (xi_le e2 e1).mp hq; omega)] at h; exact nk _ _ _ _ h hlv hwl hw2.2
            · rw [if_pos (Int.not_le.mp (fun q => hq ((xi_le e2 e1).mpr q)))] at h; exact nk _ _ _ _ h hlv hwl hw2.2
          | gt =>
            simp only [xcmp] at h
            refine lv_icmp_gt hx hb (hdg rfl) ht (fun hq => ?_) (fun hq => ?_)
            · rw [if_pos ((xi_lt e2 e1).mp hq)] at h; exact nk _ _ _ _ h hlv hwl hw2.2
            · rw [if_neg (fun q => hq ((xi_lt e2 e1).mpr q))] at h; exact nk _ _ _ _ h hlv hwl hw2.2
          | le =>
            simp only [xcmp] at h
            refine lv_icmp_le hx hb (hdg rfl) ht (fun hq => ?_) (fun hq => ?_)
            · rw [if_neg (fun q => by have := (xi_le e1 e2).mp hq; omega)] at h; exact nk _ _ _ _ h hlv hwl hw2.2
            · rw [if_pos (Int.not_le.mp (fun q => hq ((xi_le e1 e2).mpr q)))] at h; exact nk _ _ _ _ h hlv hwl hw2.2
        · cases h
      | goto off =>
        simp only [xop] at h
        exact lv_goto hx hb (hdg rfl) (xpc_ok (of_decide_eq_true hj)) (nk _ _ _ _ h hlv hwl hws)
      | ifnull off =>
        simp only [xop] at h
        split at h
        · exact lv_ifnullN hx hb (hdg rfl) (xpc_ok (of_decide_eq_true hj)) (nk _ _ _ _ h hlv hwl (xwfs_cons.mp hws).2)
        · exact lv_ifnull hx hb (hdg rfl) (nk _ _ _ _ h hlv hwl (xwfs_cons.mp hws).2)
        · cases h
      | ifnonnull off =>
        simp only [xop] at h
        split at h
        · exact lv_ifnonnullN hx hb (hdg rfl) (nk _ _ _ _ h hlv hwl (xwfs_cons.mp hws).2)
        · exact lv_ifnonnull hx hb (hdg rfl) (xpc_ok (of_decide_eq_true hj)) (nk _ _ _ _ h hlv hwl (xwfs_cons.mp hws).2)
        · cases h
      | tableswitch dflt lo hi offs =>
        simp only [xop] at h
        split at h
        · rename_i x st'
          have hw1 := xwfs_cons.mp hws
          have e0 : xin x := hw1.1
          simp only [xjmp, Bool.and_eq_true, decide_eq_true_eq, List.all_eq_true] at hj
          split at h
          · rename_i hk
            exact lv_tableOut hx hb hdg0 (by rw [xi_toInt e0]; exact hk) (xpc_ok hj.1) (nk _ _ _ _ h hlv hwl hw1.2)
          · rename_i hk
            split at h
            · rename_i off ho
              have hm : off ∈ offs.toList := by
                rw [Array.mem_toList_iff]
                exact Array.mem_of_getElem? ho
              exact lv_tableIn hx hb hdg0 (by rw [xi_toInt e0]; omega) (by rw [xi_toInt e0]; omega) (by rw [xi_toInt e0]; exact ho) (xpc_ok (hj.2 off hm)) (nk _ _ _ _ h hlv hwl hw1.2)
            · cases h
        · cases h
      | lookupswitch dflt ps =>
        simp only [xop] at h
        split at h
        · rename_i x st'
          have hw1 := xwfs_cons.mp hws
          have e0 : xin x := hw1.1
          simp only [xjmp, Bool.and_eq_true, decide_eq_true_eq, List.all_eq_true] at hj
          have hoff : ∀ l : List (Int × Int), (∀ q ∈ l, 0 ≤ (pc : Int) + q.2) → 0 ≤ (pc : Int) + Op.lookupswitch.offset l dflt x := by
            intro l
            induction l with
            | nil => intro _; exact hj.1.1
            | cons q t iht =>
              intro hq
              obtain ⟨a, o⟩ := q
              rw [Op.lookupswitch.offset_cons]
              split
              · exact hq (a, o) List.mem_cons_self
              · exact iht (fun q hq2 => hq q (List.mem_cons_of_mem _ hq2))
          exact lv_lookup hx hb hdg0 (List.all_eq_true.mpr (fun q hq => by have h2 := hj.2 q hq; obtain ⟨⟨a1, a2⟩, b1, b2⟩ := q; exact decide_eq_true h2)) (by rw [xi_toInt e0]) (xpc_ok (hoff _ hj.1.2)) (nk _ _ _ _ h hlv hwl hw1.2)
        · cases h
      | getfield i =>
        simp only [xop] at h
        split at h
        · rename_i a st'
          split at h
          · rename_i ci k kd fin hfl
            split at h
            · rename_i t vs hph
              split at h
              · rename_i ht
                subst ht
                split at h
                · rename_i v hv
                  have hF := xfld_ok hfl
                  obtain ⟨hF1, hF2, -, -, hF5⟩ := hF
                  replace hF1 : t < 10 := hF1
                  replace hF2 : k < (xCl t).2.2 := hF2
                  have hC := xCall hF1
                  have hat := (xRelH_at hrel hph (by omega)).2
                  rw [xce_obj b B ca (by omega)] at hat
                  have h9 := nk _ _ _ _ h hlv hwl (xwfs_cons.mpr ⟨xRelH_wf hrel hph hv, (xwfs_cons.mp hws).2⟩)
                  have hv2 : (vs.map (xm b B))[k]? = some (xm b B v) := by rw [List.getElem?_map, hv]; rfl
                  have hsm : ∀ x, s.fieldFound? ((xCl t).2.1 k).1 ((xCl t).2.1 k).2.1 ((xCl t).2.1 k).2.2.1 = some x → s.fieldFound? (xCl t).1 ((xCl t).2.1 k).2.1 ((xCl t).2.1 k).2.2.1 = some x := fun x h0 => by rw [hC.2.2.2.2.2.2.2.2.1 k hF2] at h0; exact h0
                  rcases hF5 with h5 | h5 | h5
                  · exact va_get (Ts := lw_tbl.filter goodWord) hx hb (fun w hw => hts w (List.mem_filter.mp hw)) (fun w hw => List.mem_filter.mpr (hC.2.2.1 w hw)) hown hK hP _ hat hC.1 k hF2 (hts _ h5) hsm hv2 (hdg rfl) h9
                  · exact va_getN (Ts := lw_tbl.filter goodWord) hx hb (fun w hw => hts w (List.mem_filter.mp hw)) (fun w hw => List.mem_filter.mpr (hC.2.2.1 w hw)) hown hK hP _ hat hC.1 k hF2 (va_Nw.use rfl (hfx.2.2.2.2.2.2.2.1.1 _ _ _ _ _ _ h5.1)) hsm hv2 (hdg rfl) h9
                  · exact va_getN (Ts := lw_tbl.filter goodWord) hx hb (fun w hw => hts w (List.mem_filter.mp hw)) (fun w hw => List.mem_filter.mpr (hC.2.2.1 w hw)) hown hK hP _ hat hC.1 k hF2 (va_Nw.use rfl (hfx.2.2.2.2.2.2.2.1.1 _ _ _ _ _ _ h5.1)) hsm hv2 (hdg rfl) h9
                · cases h
              · cases h
            · cases h
          · cases h
        · cases h
      | putfield i =>
        simp only [xop] at h
        split at h
        · rename_i v a st'
          split at h
          · rename_i ci k kd fin hfl
            split at h
            · rename_i t vs hph
              split at h
              · rename_i ht
                obtain ⟨rfl, hkl, hkd, hfi⟩ := ht
                have hF := xfld_ok hfl
                obtain ⟨hF1, hF2, hF3, hF4, hF5⟩ := hF
                replace hF1 : t < 10 := hF1
                replace hF2 : k < (xCl t).2.2 := hF2
                replace hF3 : xKd kd (xtyF t k) := hF3
                have hC := xCall hF1
                have hat := (xRelH_at hrel hph (by omega)).2
                rw [xce_obj b B ca (by omega)] at hat
                have hw1 := xwfs_cons.mp hws
                have hw2 := xwfs_cons.mp hw1.2
                have hd := hC.2.2.2.1 k hF2
                have hkt := xkd_ok (b := b) (B := B) hkd hF3
                have fin9 : ∀ (H1 : Heap) (locs1 : List Loc), va_P D vwCl ((xw b B ca ph).set (a - 1) (xad b B a, .inr (t, (vs.map (xm b B)).set k (xm b B v)))) H1 → va_D (xA B) ((xw b B ca ph).set (a - 1) (xad b B a, .inr (t, (vs.map (xm b B)).set k (xm b B v)))) → va_S (xA B) s.heap H1 locs1 → H1.size = H.size →
                    W p l e R s m args below meth c H1 locs1 cells slots (vx_MQ below (xQc b B D ca xs r) (xXc b B D ca xs r) args s mc ms (xA B)) (F0 m (pc + 3) ls (st'.map (xm b B))) := by
                  intro H1 locs1 q1 q2 q3 q4
                  refine nx _ _ _ _ H1 locs1 _ h hlv hwl hw2.2 (xRelH_set hrel hph (by omega) q4 (xwfs_set (xwfs_at hrel hph) hw1.1) (by rw [xce_obj b B ca (by omega), List.map_set]; exact q1) (by rw [xce_obj b B ca (by omega), List.map_set]; exact q2)) q3 (by unfold xcc; rw [List.length_set]) (by unfold xcs; rw [xsl_set hph (by simp)])
                have hl9 : k < (vs.map (xm b B)).length := by rw [List.length_map]; exact hkl
                rcases hF4 with ⟨f1, f2⟩ | ⟨f1, f2⟩
                · rcases hF5 with h5 | h5 | h5
                  · exact xputW hx hb (fun w hw => hts w hw) hown hK hP hDd hS hat hC k hF2 (Or.inl ⟨hts _ h5, Or.inl f2⟩) hd hkt hl9 (hdg rfl) fin9
                  · exact xputW hx hb (fun w hw => hts w hw) hown hK hP hDd hS hat hC k hF2 (Or.inr ⟨va_Nw.use rfl (hfx.2.2.2.2.2.2.2.1.1 _ _ _ _ _ _ h5.1), f2⟩) hd hkt hl9 (hdg rfl) fin9
                  · exact xputW hx hb (fun w hw => hts w hw) hown hK hP hDd hS hat hC k hF2 (Or.inr ⟨va_Nw.use rfl (hfx.2.2.2.2.2.2.2.1.1 _ _ _ _ _ _ h5.1), f2⟩) hd hkt hl9 (hdg rfl) fin9
                · simp only at f1
                  rcases hfi with hfi | ⟨hfi1, hfi2⟩
                  · omega
                  · have hin2 := hin (Nat.eq_of_beq_eq_true hfi1)
                    rcases hF5 with h5 | h5 | h5
                    · refine xputW hx hb (fun w hw => hts w hw) hown hK hP hDd hS hat hC k hF2 (Or.inl ⟨hts _ h5, Or.inr ⟨f2, hin2, ?_⟩⟩) hd hkt hl9 (hdg rfl) fin9
                      rw [hC.2.2.2.2.2.2.2.2.1 k hF2, hC.2.1, hfi2]
                    · have := h5.2; simp only at this; omega
                    · exact absurd hfi2 h5.2
              · cases h
            · cases h
          · cases h
        · cases h
      | caload =>
        simp only [xop] at h
        split at h
        · rename_i i a st'
          split at h
          · rename_i t vs hph
            split at h
            · rename_i hk
              obtain ⟨rfl, hk0⟩ := hk
              split at h
              · rename_i x hv
                have hw1 := xwfs_cons.mp hws
                have hw2 := xwfs_cons.mp hw1.2
                have e0 : xin i := hw1.1
                have hlt : i < vs.length := by
                  have := (List.getElem?_eq_some_iff.mp hv).1
                  omega
                have hat := (xRelH_at hrel hph (by omega)).2
                rw [xce_c] at hat
                have h9 := nk _ _ _ _ h hlv hwl (xwfs_cons.mpr ⟨xRelH_wf hrel hph hv, hw2.2⟩)
                exact va_cald hx hb hK hP _ 1 hat rfl (xvp_in hk0 hlt e0) (hdg rfl) (by show W p l e R s m args below meth c H locs cells slots _ (F0 m (pc + 1) ls (.int (xmI vs[(Int32.ofInt i).toNatClampNeg]?) :: _)); rw [xi_nat e0, hv]; exact h9)
              · cases h
            · cases h
          · cases h
        · cases h
      | aaload =>
        simp only [xop] at h
        split at h
        · rename_i i a st'
          split at h
          · rename_i t vs hph
            split at h
            · rename_i hk
              obtain ⟨rfl, hk0⟩ := hk
              split at h
              · rename_i x hv
                have hw1 := xwfs_cons.mp hws
                have hw2 := xwfs_cons.mp hw1.2
                have e0 : xin i := hw1.1
                have hlt : i < vs.length := by
                  have := (List.getElem?_eq_some_iff.mp hv).1
                  omega
                have hat := (xRelH_at hrel hph (by omega)).2
                rw [xce_q] at hat
                have h9 := nk _ _ _ _ h hlv hwl (xwfs_cons.mpr ⟨xRelH_wf hrel hph hv, hw2.2⟩)
                exact va_aldq hx hb hK hP _ 3 hat rfl (xvp_in hk0 hlt e0) (hdg rfl) (by show W p l e R s m args below meth c H locs cells slots _ (F0 m (pc + 1) ls (va_rf (xmR b B vs[(Int32.ofInt i).toNatClampNeg]?) :: _)); rw [xi_nat e0, hv]; cases x <;> exact h9)
              · cases h
            · cases h
          · cases h
        · cases h
      | iaload =>
        simp only [xop] at h
        split at h
        · rename_i i a st'
          split at h
          · rename_i t vs hph
            split at h
            · rename_i hk
              obtain ⟨hk1, hk0⟩ := hk
              split at h
              · rename_i x hv
                have hw1 := xwfs_cons.mp hws
                have hw2 := xwfs_cons.mp hw1.2
                have e0 : xin i := hw1.1
                have hlt : i < vs.length := by
                  have := (List.getElem?_eq_some_iff.mp hv).1
                  omega
                have h9 := nk _ _ _ _ h hlv hwl (xwfs_cons.mpr ⟨xRelH_wf hrel hph hv, hw2.2⟩)
                rcases hk1 with rfl | rfl
                · have hat := (xRelH_at hrel hph (by omega)).2
                  rw [xce_i] at hat
                  exact va_iald hx hb hK hP _ 0 hat rfl (xvp_in hk0 hlt e0) (hdg rfl) (by show W p l e R s m args below meth c H locs cells slots _ (F0 m (pc + 1) ls (.int (xmI vs[(Int32.ofInt i).toNatClampNeg]?) :: _)); rw [xi_nat e0, hv]; exact h9)
                · obtain ⟨ha0, hvs⟩ := xRelH_scr hrel hph
                  subst ha0
                  subst hvs
                  have hX := hfx.2.2.2.2.2.2.2.2.1
                  have hbB := hfx.2.2.2.2.2.2.2.2.2
                  exact va_sld hx hb hX (Nat.lt_of_le_of_lt hbB.1 hbB.2) (Nat.not_lt.mpr hbB.1) hS (xvp_in hk0 hlt e0) (hdg rfl) (by show W p l e R s m args below meth c H locs cells slots _ (F0 m (pc + 1) ls (.int (xmI vs[(Int32.ofInt i).toNatClampNeg]?) :: _)); rw [xi_nat e0, hv]; exact h9)
              · cases h
            · cases h
          · cases h
        · cases h
      | iastore =>
        simp only [xop] at h
        split at h
        · rename_i x i a st'
          split at h
          · rename_i t vs hph
            split at h
            · rename_i hk
              obtain ⟨rfl, hk0, hk1⟩ := hk
              have hw1 := xwfs_cons.mp hws
              have hw2 := xwfs_cons.mp hw1.2
              have hw3 := xwfs_cons.mp hw2.2
              have e0 : xin i := hw2.1
              have hat := (xRelH_at hrel hph (by omega)).2
              rw [xce_i] at hat
              refine xiastW hx hb hK hP hDd hS _ 0 hat rfl (xvp_in hk0 hk1 e0) (hdg rfl) (fun H1 locs1 q1 q2 q3 hz => ?_)
              rw [xi_nat e0, xupd_i vs (by omega)] at q1 q2
              exact nx _ _ _ _ H1 locs1 _ h hlv hwl hw3.2 (xRelH_set hrel hph (by omega) hz (xwfs_set (xwfs_at hrel hph) hw1.1) (by rw [xce_i, List.length_set]; exact q1) (by rw [xce_i, List.length_set]; exact q2)) q3 (by unfold xcc; rw [List.length_set]) (by unfold xcs; rw [xsl_set hph (by simp)])
            · cases h
          · cases h
        · cases h
      | castore =>
        simp only [xop] at h
        split at h
        · rename_i x i a st'
          split at h
          · rename_i t vs hph
            split at h
            · rename_i hk
              obtain ⟨rfl, hk0, hk1, hk2, hk3⟩ := hk
              have hw1 := xwfs_cons.mp hws
              have hw2 := xwfs_cons.mp hw1.2
              have hw3 := xwfs_cons.mp hw2.2
              have e0 : xin i := hw2.1
              have hat := (xRelH_at hrel hph (by omega)).2
              rw [xce_c] at hat
              refine xcastW hx hb hK hP hDd hS _ 1 hat rfl (xvp_in hk0 hk1 e0) (hdg rfl) (fun H1 locs1 q1 q2 q3 hz => ?_)
              rw [xi_nat e0, xi_nar hk2 hk3, xupd_i vs (by omega)] at q1 q2
              exact nx _ _ _ _ H1 locs1 _ h hlv hwl hw3.2 (xRelH_set hrel hph (by omega) hz (xwfs_set (xwfs_at hrel hph) hw1.1) (by rw [xce_c, List.length_set]; exact q1) (by rw [xce_c, List.length_set]; exact q2)) q3 (by unfold xcc; rw [List.length_set]) (by unfold xcs; rw [xsl_set hph (by simp)])
            · cases h
          · cases h
        · cases h
      | aastore =>
        simp only [xop] at h
        split at h
        · rename_i v i a st'
          split at h
          · rename_i t vs hph
            split at h
            · rename_i tv vsv hpv
              split at h
              · rename_i hk
                obtain ⟨rfl, rfl, hk0, hk1⟩ := hk
                have hw1 := xwfs_cons.mp hws
                have hw2 := xwfs_cons.mp hw1.2
                have hw3 := xwfs_cons.mp hw2.2
                have e0 : xin i := hw2.1
                have hat := (xRelH_at hrel hph (by omega)).2
                have hav := (xRelH_at hrel hpv (by omega)).2
                rw [xce_q] at hat
                rw [xce_obj b B ca (by omega)] at hav
                refine xastqW hx hb hK hP hDd hS _ 3 _ 6 hat (r := xCl 6) rfl hav (xCall (by omega)).1 (xvp_in hk0 hk1 e0) (hdg rfl) (fun H1 locs1 q1 q2 q3 hz => ?_)
                rw [xi_nat e0, xupd_q b B vs (by omega)] at q1 q2
                exact nx _ _ _ _ H1 locs1 _ h hlv hwl hw3.2 (xRelH_set hrel hph (by omega) hz (xwfs_set (xwfs_at hrel hph) trivial) (by rw [xce_q, List.length_set]; exact q1) (by rw [xce_q, List.length_set]; exact q2)) q3 (by unfold xcc; rw [List.length_set]) (by unfold xcs; rw [xsl_set hph (by simp)])
              · cases h
            · cases h
          · cases h
        · cases h
      | arraylength =>
        simp only [xop] at h
        split at h
        · rename_i a st'
          split at h
          · rename_i t vs hph
            split at h
            · rename_i hk
              obtain ⟨hk0, hk1⟩ := hk
              have hw1 := xwfs_cons.mp hws
              have h9 := nk _ _ _ _ h hlv hwl (xwfs_cons.mpr ⟨⟨by omega, hk1⟩, hw1.2⟩)
              rcases xRelH_tag hrel hph with ⟨rfl, rfl, rfl⟩ | ⟨ha0, ht⟩
              · have hX := hfx.2.2.2.2.2.2.2.2.1
                have hbB := hfx.2.2.2.2.2.2.2.2.2
                exact va_slen hx hb hX (Nat.lt_of_le_of_lt hbB.1 hbB.2) (Nat.not_lt.mpr hbB.1) hS (hdg rfl) h9
              · have hat := (xRelH_at hrel hph (by omega)).2
                have h4 : t = 100 ∨ t = 101 ∨ t = 102 ∨ t = 103 := by omega
                rcases h4 with rfl | rfl | rfl | rfl
                · rw [xce_i] at hat
                  exact va_alen hx hb hK hP _ 0 hat rfl rfl (hdg rfl) h9
                · rw [xce_c] at hat
                  exact va_alen hx hb hK hP _ 1 hat rfl rfl (hdg rfl) h9
                · rw [xce_l] at hat
                  exact va_alen hx hb hK hP _ 2 hat rfl rfl (hdg rfl) h9
                · rw [xce_q] at hat
                  exact va_alen hx hb hK hP _ 3 hat rfl rfl (hdg rfl) h9
            · cases h
          · cases h
        · cases h
      | new i =>
        simp only [xop] at h
        split at h
        · rename_i E hth
          split at h
          · rename_i hst
            subst hst
            cases h
            exact xthrow hlf hx hb hown hts hfx hlocks htab hlsz (by omega) (by omega) hth hrel hS (by unfold xcc at hc1; simp only at hc1; omega) (by unfold xcs at hc2; simp only at hc2; omega) hm1 hm2
          · cases h
        · split at h
          · rename_i ci hcl
            split at h
            · rename_i hg
              subst hg
              have hk := xcls_ok hcl
              have hk1 : ci < 10 := hk.1
              have hC : xCok ci := xCall hk1
              have hg2 := xr_grow2 h
              have hcc : xcc (ph ++ [(ci, xdf ci)]) 0 = xcc ph 0 + 1 := by unfold xcc; simp
              have hcs : xcs (ph ++ [(ci, xdf ci)]) 0 = xcs ph 0 + (xCl ci).2.2 := by unfold xcs; rw [xsl_app]; show xsl ph + (xdf ci).length + _ = _; rw [hC.2.2.2.2.2.1]; omega
              have hH : H.size = B + ph.length := hrel.2.2.1 rfl
              have hfs : ∀ j, j < (xCl ci).2.2 → defaultValue (xtyF ci j) = vp_V ((xdf ci).map (xm b B)) j := fun j hj => by
                have h1 := hC.2.2.2.2.2.2.2.2.2 j hj
                cases hv : (xdf ci)[j]? with
                | none => rw [hv] at h1; cases h1
                | some v =>
                  have h2 := (xdf_ok (List.mem_of_getElem? hv)).2
                  rw [hv] at h1
                  simp only [Option.map_some, Option.some.injEq] at h1
                  rw [← h1, vp_V, List.getD_eq_getElem?_getD, List.getElem?_map, hv]
                  rcases v with x | x | x
                  · rfl
                  · cases x with
                    | none => rfl
                    | some z => exact absurd rfl (h2 z)
                  · cases x <;> rfl
              refine xnewW (t := ci) hx hb hts hown (hts _ hk.2) hC hK hP hDd hS hA0 hfs (by omega) (by omega) (hdg rfl) (fun H1 q1 q2 q3 hz => ?_)
              have e9 : Value.ref H.size = xm b B (.inr (.inl (some ph.length))) := by
                obtain ⟨-, -, -, -, ⟨r9, hr9, -⟩, -⟩ := hrel
                show Value.ref H.size = Value.ref (xad b B ph.length)
                unfold xad
                rw [if_neg (by rw [hr9]; simp), hH]
              rw [e9]
              exact ih d mi (pc + 3) lv _ _ 0 r h hmi CX hR H1 locs (cells + 1) (slots + (xCl ci).2.2) mc ms ls hlv hwl (xwfs_cons.mpr ⟨trivial, hws⟩) (xRelH_app hrel (by omega) hH hz (xdf_wf ci) (by rw [xce_obj b B ca (by omega)]; exact q1) (by rw [xce_obj b B ca (by omega)]; exact q2)) q3 (by omega) (by omega) hm1 hm2
            · cases h
          · cases h
      | newarray ty =>
        simp only [xop] at h
        split at h
        · rename_i n9 st'
          split at h
          · rename_i hk
            obtain ⟨rfl, hk0, hk1⟩ := hk
            have hw1 := xwfs_cons.mp hws
            have e0 : xin n9 := hw1.1
            have hH : H.size = B + ph.length := hrel.2.2.1 rfl
            have hn0 : ¬ Int32.ofInt n9 < 0 := fun q => by have := (xz_lt e0).mp q; omega
            have hn9 : n9.toNat ≤ 100000 := by omega
            have e9 : Value.ref H.size = xm b B (.inr (.inl (some ph.length))) := by
              obtain ⟨-, -, -, -, ⟨r9, hr9, -⟩, -⟩ := hrel
              show Value.ref H.size = Value.ref (xad b B ph.length)
              unfold xad
              rw [if_neg (by rw [hr9]; simp), hH]
            split at h
            · have hcc : xcc (ph ++ [(100, List.replicate n9.toNat (.inl 0))]) 0 = xcc ph 0 + 1 := by unfold xcc; simp
              have hcs : xcs (ph ++ [(100, List.replicate n9.toNat (.inl 0))]) 0 = xcs ph 0 + n9.toNat := by unfold xcs; rw [xsl_app]; simp
              have hg2 := xr_grow2 h
              refine xnewaW hx hb (atype := .int) (hts _ xarr_int) hK hP hDd hS hA0 (va_nm_int (hK.2 0 _ rfl).2) (N' := n9.toNat) (a0 := xca b B 100 (List.replicate n9.toNat (.inl 0))) (xrep_i b B) hn0 (xi_nat e0) (by show n9.toNat * 4 ≤ _; omega) (by omega) (by omega) (hdg rfl) (fun H1 q1 q2 q3 hz => ?_)
              rw [e9]
              exact ih d mi (pc + 2) lv _ _ 0 r h hmi CX hR H1 locs (cells + 1) (slots + n9.toNat) mc ms ls hlv hwl (xwfs_cons.mpr ⟨trivial, hw1.2⟩) (xRelH_app hrel (by omega) hH hz (xwfs_rep xin0) q1 q2) q3 (by omega) (by omega) hm1 hm2
            · have hcc : xcc (ph ++ [(101, List.replicate n9.toNat (.inl 0))]) 0 = xcc ph 0 + 1 := by unfold xcc; simp
              have hcs : xcs (ph ++ [(101, List.replicate n9.toNat (.inl 0))]) 0 = xcs ph 0 + n9.toNat := by unfold xcs; rw [xsl_app]; simp
              have hg2 := xr_grow2 h
              refine xnewaW hx hb (atype := .char) (hts _ xarr_char) hK hP hDd hS hA0 (va_nm_char (hK.2 1 _ rfl).2) (N' := n9.toNat) (a0 := xca b B 101 (List.replicate n9.toNat (.inl 0))) (xrep_c b B) hn0 (xi_nat e0) (by show n9.toNat * 2 ≤ _; omega) (by omega) (by omega) (hdg rfl) (fun H1 q1 q2 q3 hz => ?_)
              rw [e9]
              exact ih d mi (pc + 2) lv _ _ 0 r h hmi CX hR H1 locs (cells + 1) (slots + n9.toNat) mc ms ls hlv hwl (xwfs_cons.mpr ⟨trivial, hw1.2⟩) (xRelH_app hrel (by omega) hH hz (xwfs_rep xin0) q1 q2) q3 (by omega) (by omega) hm1 hm2
            · cases h
          · cases h
        · cases h
      | anewarray i =>
        simp only [xop] at h
        split at h
        · rename_i n9 st'
          split at h
          · rename_i hk
            obtain ⟨rfl, hk0, hk1, hk2⟩ := hk
            have hw1 := xwfs_cons.mp hws
            have e0 : xin n9 := hw1.1
            have hH : H.size = B + ph.length := hrel.2.2.1 rfl
            have hn0 : ¬ Int32.ofInt n9 < 0 := fun q => by have := (xz_lt e0).mp q; omega
            have hn9 : n9.toNat ≤ 100000 := by omega
            have e9 : Value.ref H.size = xm b B (.inr (.inl (some ph.length))) := by
              obtain ⟨-, -, -, -, ⟨r9, hr9, -⟩, -⟩ := hrel
              show Value.ref H.size = Value.ref (xad b B ph.length)
              unfold xad
              rw [if_neg (by rw [hr9]; simp), hH]
            have hcc : xcc (ph ++ [(103, List.replicate n9.toNat (.inr (.inl none)))]) 0 = xcc ph 0 + 1 := by unfold xcc; simp
            have hcs : xcs (ph ++ [(103, List.replicate n9.toNat (.inr (.inl none)))]) 0 = xcs ph 0 + n9.toNat := by unfold xcs; rw [xsl_app]; simp
            have hg2 := xr_grow2 h
            have hkk := xcls_ok hk2
            obtain ⟨kA, comp, -, -, -, hnm⟩ := (hK.2 3 _ rfl).2
            refine xnewqW hx hb hown (hts _ hkk.2) hfx.2.2.2.2.2.2.1 hK hP hDd hS hA0 hnm (N' := n9.toNat) (f := fun j => xmR b B (List.replicate n9.toNat (Sum.inr (Sum.inl none) : xV))[j]?) (fun j hj => by rw [List.getElem?_replicate, if_pos hj]; rfl) hn0 (xi_nat e0) (by omega) (by omega) (by omega) (hdg rfl) (fun H1 q1 q2 q3 hz => ?_)
            rw [e9]
            exact ih d mi (pc + 3) lv _ _ 0 r h hmi CX hR H1 locs (cells + 1) (slots + n9.toNat) mc ms ls hlv hwl (xwfs_cons.mpr ⟨trivial, hw1.2⟩) (xRelH_app hrel (by omega) hH hz (xwfs_rep trivial) (by rw [xce_q, List.length_replicate]; exact q1) (by rw [xce_q, List.length_replicate]; exact q2)) q3 (by omega) (by omega) hm1 hm2
          · cases h
        · cases h
      | invokevirtual i =>
        simp only [xop] at h
        split at h
        · rename_i mi' hcal
          split at h
          · rename_i as a rest hpop
            split at h
            · rename_i t vs hph
              split at h
              · rename_i hk
                obtain ⟨rfl, hsk, hrest, hsz⟩ := hk
                obtain ⟨est, elen⟩ := xpop_eq hpop
                have hL := xcal_ok hcal
                have hL1 : mi' < 148 := hL.1
                have hL2 : mi' ≠ 147 := hL.2.1
                have hM := xMall hL1 hL2
                have hob := xown_obj mi' hL1 (by omega)
                have hwst : xwfs (as ++ (.inr (.inl (some a)) :: rest)) := by
                  intro v hv
                  refine hws v ?_
                  rw [est]
                  rcases List.mem_append.mp hv with h1 | h1
                  · exact List.mem_append_left _ (List.mem_reverse.mpr h1)
                  · exact List.mem_append_right _ h1
                have hwr : xwfs rest := fun v hv => hwst v (List.mem_append_right _ (List.mem_cons_of_mem _ hv))
                have hwa : xwfs (.inr (.inl (some a)) :: as) := fun v hv => by
                  rcases List.mem_cons.mp hv with h1 | h1
                  · rw [h1]; trivial
                  · exact hwst v (List.mem_append_left _ h1)
                have hat := (xRelH_at hrel hph (by omega)).2
                rw [xce_obj b B ca (by omega)] at hat
                refine aft mi' _ rest (.ref (xad b B a) :: as.map (xm b B)).toArray hL1 hL2 hsz hwa hwr h (fun d' r1 hd hr1 hcon hf => ?_)
                subst hd
                have hstk : st.map (xm b B) = (as.map (xm b B)).reverse ++ .ref (xad b B a) :: rest.map (xm b B) := by rw [est]; simp [xm]
                have hpv : PreV s H (xy mi').cls (xad b B a) (xPc b B D ca xs (.inr (.inl (some a)) :: as) ph g) (as.map (xm b B)) := by
                  refine ⟨xPc_blind _ _ _ _ _ _ _ _, ?_, fun U hU hW => ⟨rfl, by rw [hU]; exact hrel, xFx_go hfx hW hU hS.1 hS.2.1⟩⟩
                  have := va_recv hK hP (xCall hob.1).1 hat
                  rw [hM.2.1.2.2.2.2, ← (xCall hob.1).2.1]
                  exact this
                have hcn : (as.map (xm b B)).length = xnp mi' := by rw [List.length_map]; exact elen
                have hinst : (Cond.instanceMethod (xy mi')).before args s = true ∧ (Cond.selects (xy mi').cls (xy mi') (xy mi')).before args s = true := by
                  rcases hM.2.2.2 with h1 | h1 | h1
                  · exact ⟨hts _ h1.2.1, hts _ h1.2.2⟩
                  · omega
                  · omega
                have hfix : CallFix p m c (xby mi) (xmaxL mi) s args (lw_tbl.filter goodWord) (xRn (xown mi)) := ⟨hx, hb, hml, hown, fun w hw => hts w (List.mem_filter.mp hw)⟩
                rcases hL.2.2 with hl | hl
                · exact vx_runV hfix hcon ⟨xCallB hM hL1 hts hob.2 ⟨by omega, by omega⟩ (hts _ hl), hinst⟩ hpv rfl hcn hlv.1 hstk (by have := xcats b B rest hrest; show 2 * 0 + _ ≤ 8; omega) (hdg rfl) hf
                · exact vx_runVN hfix hcon ⟨xCallCN hM hL1 hts hob.2 ⟨by omega, by omega⟩ (hfx.2.2.2.2.2.2.2.1.2 _ _ _ _ hl), hinst⟩ hpv rfl hcn hlv.1 hstk (by have := xcats b B rest hrest; show 2 * 0 + _ ≤ 8; omega) (hdg rfl) hf
              · cases h
            · cases h
          · cases h
        · cases h
      | invokespecial i =>
        simp only [xop] at h
        split at h
        · rename_i o9 hob
          split at h
          · rename_i a st'
            split at h
            · rename_i hk
              have hO := xobj_ok hob
              have h9 := nk _ _ _ _ h hlv hwl (xwfs_cons.mp hws).2
              exact W.objInit hx hb hown (hts _ hO) (hts _ xobj_w.1) (hts _ xobj_w.2) rfl hlsz rfl (hdg rfl) (by omega) (by have := xcats b B st' hk; show 2 * 0 + _ + 12 ≤ _; omega) h9
            · cases h
          · cases h
        · split at h
          · rename_i mi' hcal
            split at h
            · rename_i as a rest hpop
              split at h
              · rename_i hk
                obtain ⟨hsk, hrest, hsz⟩ := hk
                obtain ⟨est, elen⟩ := xpop_eq hpop
                have hL := xcal_ok hcal
                have hL1 : mi' < 148 := hL.1
                have hL2 : mi' ≠ 147 := hL.2.1
                have hM := xMall hL1 hL2
                have hob := xown_obj mi' hL1 (by omega)
                have hwst : xwfs (as ++ (.inr (.inl (some a)) :: rest)) := by
                  intro v hv
                  refine hws v ?_
                  rw [est]
                  rcases List.mem_append.mp hv with h1 | h1
                  · exact List.mem_append_left _ (List.mem_reverse.mpr h1)
                  · exact List.mem_append_right _ h1
                have hwr : xwfs rest := fun v hv => hwst v (List.mem_append_right _ (List.mem_cons_of_mem _ hv))
                have hwa : xwfs (.inr (.inl (some a)) :: as) := fun v hv => by
                  rcases List.mem_cons.mp hv with h1 | h1
                  · rw [h1]; trivial
                  · exact hwst v (List.mem_append_left _ h1)
                refine aft mi' _ rest (.ref (xad b B a) :: as.map (xm b B)).toArray hL1 hL2 hsz hwa hwr h (fun d' r1 hd hr1 hcon hf => ?_)
                subst hd
                have hstk : st.map (xm b B) = (as.map (xm b B)).reverse ++ .ref (xad b B a) :: rest.map (xm b B) := by rw [est]; simp [xm]
                have hps : PreS s H (xPc b B D ca xs (.inr (.inl (some a)) :: as) ph g) (.ref (xad b B a) :: as.map (xm b B)) :=
                  ⟨xPc_blind _ _ _ _ _ _ _ _, fun U hU hW => ⟨rfl, by rw [hU]; exact hrel, xFx_go hfx hW hU hS.1 hS.2.1⟩⟩
                have hcn : (as.map (xm b B)).length = xnp mi' := by rw [List.length_map]; exact elen
                have hfix : CallFix p m c (xby mi) (xmaxL mi) s args (lw_tbl.filter goodWord) (xRn (xown mi)) := ⟨hx, hb, hml, hown, fun w hw => hts w (List.mem_filter.mp hw)⟩
                have hl : xG (.methodLink (xRn (xown mi)) i (xy mi')) := xcal_in hcal (Or.inl hsk)
                rcases hM.2.2.2 with h1 | h1 | h1
                · omega
                · omega
                · have hcb := xCallB (mc := xmc r1 ph g) (ms := xms r1 ph g) hM hL1 hts hob.2 (R := R) (d' := d') ⟨by omega, by omega⟩ (hts _ hl)
                  rw [h1.2.2.2] at hcb
                  exact vx_runI hfix hcon ⟨hcb, h1.2.2.1, hts _ h1.2.1⟩ hps rfl hcn hlv.1 hstk (by have := xcats b B rest hrest; show 2 * 0 + _ ≤ 8; omega) (hdg rfl) hf
              · cases h
            · cases h
          · cases h
      | invokestatic i =>
        simp only [xop] at h
        split at h
        · rename_i w9 hmat
          split at h
          · rename_i y x st'
            split at h
            · rename_i hk
              have hJ : (w9 = 0 ∧ xG (.methodLink (xRn (xown mi)) i Lib.Math.max.name)) ∨ (w9 = 1 ∧ xG (.methodLink (xRn (xown mi)) i Lib.Math.min.name)) := xmat_ok hmat
              have hw1 := xwfs_cons.mp hws
              have hw2 := xwfs_cons.mp hw1.2
              have e1 : xin x := hw2.1
              have e2 : xin y := hw1.1
              have hloc : ((st'.map (xm b B)).map fun v => v.category).sum + 13 ≤ R.locals := by have := xcats b B st' hk; omega
              have hgr : xcc ph g ≤ xcc r.2.1 r.2.2 ∧ xcs ph g ≤ xcs r.2.1 r.2.2 := by split at h <;> exact xr_grow2 h
              have hcm : cells ≤ R.cells := by omega
              have hsm : slots ≤ R.slots := by omega
              rcases hJ with ⟨j1, j2⟩ | ⟨j1, j2⟩
              · rw [if_pos j1] at h
                have h9 := nk _ _ _ _ h hlv hwl (xwfs_cons.mpr ⟨by split <;> assumption, hw2.2⟩)
                refine va_mmax hx hb hlsz.symm hown (hts _ j2) (hts _ xmath_max.1) (hts _ xmath_ini) (hts _ xmath_max.2) (by omega) hloc hcm hsm (hdg rfl) ?_
                rw [xi_max e1 e2]
                exact h9
              · rw [if_neg (by omega)] at h
                have h9 := nk _ _ _ _ h hlv hwl (xwfs_cons.mpr ⟨by split <;> assumption, hw2.2⟩)
                refine va_mmin hx hb hlsz.symm hown (hts _ j2) (hts _ xmath_min.1) (hts _ xmath_ini) (hts _ xmath_min.2) (by omega) hloc hcm hsm (hdg rfl) ?_
                rw [xi_min e1 e2]
                exact h9
            · cases h
          · cases h
        · split at h
          · rename_i mi' hcal
            split at h
            · rename_i as rest hpop
              split at h
              · rename_i hk
                obtain ⟨hsk, hrest, hsz⟩ := hk
                obtain ⟨est, elen⟩ := xpop_eq hpop
                have hL := xcal_ok hcal
                have hL1 : mi' < 148 := hL.1
                have hL2 : mi' ≠ 147 := hL.2.1
                have hM := xMall hL1 hL2
                have hwr : xwfs rest := fun v hv => hws v (by rw [est]; exact List.mem_append_right _ hv)
                have hwa : xwfs as := fun v hv => hws v (by rw [est]; exact List.mem_append_left _ (List.mem_reverse.mpr hv))
                refine aft mi' _ rest (as.map (xm b B)).toArray hL1 hL2 hsz hwa hwr h (fun d' r1 hd hr1 hcon hf => ?_)
                subst hd
                have hstk : st.map (xm b B) = (as.map (xm b B)).reverse ++ rest.map (xm b B) := by rw [est]; simp
                have hps : PreS s H (xPc b B D ca xs as ph g) (as.map (xm b B)) :=
                  ⟨xPc_blind _ _ _ _ _ _ _ _, fun U hU hW => ⟨rfl, by rw [hU]; exact hrel, xFx_go hfx hW hU hS.1 hS.2.1⟩⟩
                have hcn : (as.map (xm b B)).length = xnp mi' := by rw [List.length_map]; exact elen
                have hfix : CallFix p m c (xby mi) (xmaxL mi) s args (lw_tbl.filter goodWord) (xRn (xown mi)) := ⟨hx, hb, hml, hown, fun w hw => hts w (List.mem_filter.mp hw)⟩
                have hst9 : (Cond.static (xy mi')).before args s = true := by
                  rcases hM.2.2.2 with h1 | h1 | h1
                  · omega
                  · exact hts _ h1.2
                  · omega
                by_cases hhe : xhh mi' = []
                · rcases hL.2.2 with hl | hl
                  · exact vx_runS hfix hcon ⟨xCallB hM hL1 hts hhe ⟨by omega, by omega⟩ (hts _ hl), hst9⟩ hps rfl hcn hlv.1 hstk (by have := xcats b B rest hrest; show 2 * 0 + _ ≤ 8; omega) (hdg rfl) hf
                  · exact vx_runSN hfix hcon ⟨xCallCN hM hL1 hts hhe ⟨by omega, by omega⟩ (hfx.2.2.2.2.2.2.2.1.2 _ _ _ _ hl), hst9, trivial⟩ hps rfl hcn hlv.1 hstk (by have := xcats b B rest hrest; show 2 * 0 + _ ≤ 8; omega) (hdg rfl) hf
                · exact vx_runSX hfix hcon (xCallSW hM hL1 hts hhe hsk ⟨by omega, by omega⟩ (hts _ (xcal_in hcal (Or.inr hhe)))) hps rfl hcn hlv.1 hstk (by have := xcats b B rest hrest; show 2 * 0 + _ ≤ 8; omega) (hdg rfl) hf
              · cases h
            · cases h
          · cases h
      | ireturn =>
        simp only [xop] at h
        split at h
        · rename_i x
          split at h
          · rename_i hk
            cases h
            have e1 : cells = mc := Nat.add_right_cancel hc1
            have e2 : slots = ms := Nat.add_right_cancel hc2
            subst e1; subst e2
            have hRk := xrk_all hmi
            have hqq : ∀ (t : State), t.heap = H → s.WarmedH t.vm → xQc b B D ca xs (.inl (some (.inl x)), ph, g) args s (.returned (some (.int (Int32.ofInt x)))) t := fun t ht hW => ⟨some (.inl x), ph, g, rfl, rfl, by rw [ht]; exact hrel, hS.F ht, fun w hw => by cases hw; exact (xwfs_cons.mp hws).1⟩
            rcases hk with hk | ⟨hk, hx01⟩
            · rw [hk] at hRk
              exact vx_ret (W.iret hx hb (hr.trans hRk) hqq (fun q hq => hS.2.2 q hq) (hdg rfl) hlocks)
            · rw [hk] at hRk
              exact vx_ret (W.zret hx hb (hr.trans hRk) (by rcases hx01 with rfl | rfl <;> rfl) hqq (fun q hq => hS.2.2 q hq) (hdg rfl) hlocks)
          · cases h
        · cases h
      | lreturn =>
        simp only [xop] at h
        split at h
        · rename_i x
          split at h
          · rename_i hk
            cases h
            have e1 : cells = mc := Nat.add_right_cancel hc1
            have e2 : slots = ms := Nat.add_right_cancel hc2
            subst e1; subst e2
            have hRk := xrk_all hmi
            rw [hk] at hRk
            have hqq : ∀ (t : State), t.heap = H → s.WarmedH t.vm → xQc b B D ca xs (.inl (some (.inr (.inr (.inl x)))), ph, g) args s (.returned (some (.long x))) t := fun t ht hW => ⟨some (.inr (.inr (.inl x))), ph, g, rfl, rfl, by rw [ht]; exact hrel, hS.F ht, fun w hw => by cases hw; trivial⟩
            exact vx_ret (W.lret hx hb (hr.trans hRk) hqq (fun q hq => hS.2.2 q hq) (hdg rfl) hlocks)
          · cases h
        · cases h
      | dreturn =>
        simp only [xop] at h
        split at h
        · rename_i x
          split at h
          · rename_i hk
            cases h
            have e1 : cells = mc := Nat.add_right_cancel hc1
            have e2 : slots = ms := Nat.add_right_cancel hc2
            subst e1; subst e2
            have hRk := xrk_all hmi
            rw [hk] at hRk
            have hqq : ∀ (t : State), t.heap = H → s.WarmedH t.vm → xQc b B D ca xs (.inl (some (.inr (.inr (.inr x)))), ph, g) args s (.returned (some (.double x))) t := fun t ht hW => ⟨some (.inr (.inr (.inr x))), ph, g, rfl, rfl, by rw [ht]; exact hrel, hS.F ht, fun w hw => by cases hw; trivial⟩
            exact vx_ret (W.dret hx hb (hr.trans hRk) hqq (fun q hq => hS.2.2 q hq) (hdg rfl) hlocks)
          · cases h
        · cases h
      | return_ =>
        simp only [xop] at h
        split at h
        · split at h
          · rename_i hk
            cases h
            have e1 : cells = mc := Nat.add_right_cancel hc1
            have e2 : slots = ms := Nat.add_right_cancel hc2
            subst e1; subst e2
            have hRk := xrk_all hmi
            rw [hk] at hRk
            have hqq : ∀ (t : State), t.heap = H → s.WarmedH t.vm → xQc b B D ca xs (.inl none, ph, g) args s (.returned none) t := fun t ht hW => ⟨none, ph, g, rfl, rfl, by rw [ht]; exact hrel, hS.F ht, fun w hw => by cases hw⟩
            exact vx_ret (W.vret hx hb (hr.trans hRk) hqq (fun q hq => hS.2.2 q hq) (hdg rfl) hlocks)
          · cases h
        · cases h
      | _ => exact absurd h (by simp [xop])
