section TMR
theorem tm_map_v {f : Nat → Nat} {x : Value} {r : List Value} : (x :: r).map (tm_v f) = tm_v f x :: r.map (tm_v f) := rfl
/-- a value that is a reference, or null -/
theorem tm_ref_cases (f : Nat → Nat) (x : Nat) : tm_v f (.ref x) = .null ∨ tm_v f (.ref x) = .ref (f x) := by
  simp only [tm_v]
  split
  · exact Or.inl rfl
  · exact Or.inr rfl
theorem tm_sh_ne {sh : List tm_Sh} {o : Nat} {x : tm_Sh} (h : sh[o]? = some x) (hl : sh.length ≤ 1000000) : o ≠ tm_nul := by
  have h1 := (List.getElem?_eq_some_iff.mp h).1
  have h2 : tm_nul = 1000000000 := rfl
  omega
set_option maxHeartbeats 4000000 in
set_option maxRecDepth 100000 in
/-- ONE STEP of the small machine is a step of the machine -/
theorem tm_step {Γ : tm_G} {own : String} {cc : ByteArray} {nL cells slots : Nat} (C : tm_C Γ own cc nL) {fr : tm_Fr} (hfr : ∀ k q, fr k = some q → tm_FOK own k q) {ins : Instr} {len pc pc' : Nat} {lv lv' : List (Option Value)} {st st' : List Value} {sh : List tm_Sh} {mI mI' : tm_I} {mL mL' : tm_L} {mR mR' : tm_R} {ob : List Prop}
    (hd : decode cc pc = .ok (ins, len)) (hs : tm_stp fr ins len pc lv st sh mI mL mR = some (ob, pc', lv', st', mI', mL', mR')) (hob : tm_all ob) (k : tm_T Γ nL cells slots pc' lv' st' sh mI' mL' mR') : tm_T Γ nL cells slots pc lv st sh mI mL mR := by
  obtain ⟨p, l, e, R, s, m, args, below, meth, c, D, f, cA, b, QQ⟩ := Γ
  obtain ⟨hx, hb, hml, hown, hts, hK, hf, hbs, hlk, hSt⟩ := C
  intro hsh hsz H locs ls hP hS hl
  have k := k hsh hsz
  have hD : va_D (fun q => b ≤ q) (tm_W f cA tm_cl tm_ct sh mI mL mR) := tm_W_D hf hsh
  have hlv : ∀ {i : Nat} {v : Value}, tm_ld lv i = some v → ls[i]? = some (Slot.val (tm_v f v)) := fun h => hl.2.2.2 _ _ (tm_ld_eq h)
  unfold tm_stp at hs
  split at hs
  · -- iconst
    cases hs
    exact lv_iconst hx hb hd rfl (k H locs ls hP hS hl)
  · -- bipush
    cases hs
    exact lv_bipush hx hb hd rfl (k H locs ls hP hS hl)
  · -- sipush
    cases hs
    exact lv_sipush hx hb hd rfl (k H locs ls hP hS hl)
  · -- lconst
    cases hs
    exact lv_lconst hx hb hd rfl (k H locs ls hP hS hl)
  · -- null
    cases hs
    exact lv_null hx hb hd (k H locs ls hP hS hl)
  · -- iload_n
    split at hs
    · rename_i hq
      cases hs
      exact lv_iload_n hx hb hd rfl (hlv hq) (k H locs ls hP hS hl)
    · cases hs
  · -- iload
    split at hs
    · rename_i hq
      cases hs
      exact lv_iload hx hb hd (hlv hq) (k H locs ls hP hS hl)
    · cases hs
  · -- lload_n
    split at hs
    · rename_i hq
      cases hs
      exact lv_lload_n hx hb hd rfl (hlv hq) (k H locs ls hP hS hl)
    · cases hs
  · -- lload
    split at hs
    · rename_i hq
      cases hs
      exact lv_lload hx hb hd (hlv hq) (k H locs ls hP hS hl)
    · cases hs
  · -- aload_n
    split at hs
    · rename_i x hq
      cases hs
      have hv := hlv hq
      have k := k H locs ls hP hS hl
      rw [tm_map_v] at k
      rcases tm_ref_cases f x with h | h <;> rw [h] at k hv
      · exact lv_aload_nN hx hb hd rfl hv k
      · exact lv_aload_n hx hb hd rfl hv k
    · cases hs
  · -- aload
    split at hs
    · rename_i x hq
      cases hs
      have hv := hlv hq
      have k := k H locs ls hP hS hl
      rw [tm_map_v] at k
      rcases tm_ref_cases f x with h | h <;> rw [h] at k hv
      · exact lv_aloadN hx hb hd hv k
      · exact lv_aload hx hb hd hv k
    · cases hs
  · -- istore_n
    split at hs
    · rename_i x r
      split at hs
      · rename_i hlt
        cases hs
        exact lv_istore_n hx hb hd rfl hl.ll (Nat.lt_of_lt_of_le hlt hl.2.2.1) rfl (fun ls' hl' => k H locs ls' hP hS (tm_has_of1 hl.2.2.1 hl'))
      · cases hs
    · cases hs
  · -- istore
    split at hs
    · rename_i x r
      split at hs
      · rename_i hlt
        cases hs
        exact lv_istore hx hb hd hl.ll (Nat.lt_of_lt_of_le hlt hl.2.2.1) rfl (fun ls' hl' => k H locs ls' hP hS (tm_has_of1 hl.2.2.1 hl'))
      · cases hs
    · cases hs
  · -- lstore_n
    split at hs
    · rename_i x r
      split at hs
      · rename_i hlt
        cases hs
        exact lv_lstore_n hx hb hd rfl hl.ll (Nat.lt_of_lt_of_le hlt hl.2.2.1) rfl (fun ls' hl' => k H locs ls' hP hS (tm_has_of2 hl.2.2.1 rfl hl'))
      · cases hs
    · cases hs
  · -- lstore
    split at hs
    · rename_i x r
      split at hs
      · rename_i hlt
        cases hs
        exact lv_lstore hx hb hd hl.ll (Nat.lt_of_lt_of_le hlt hl.2.2.1) rfl (fun ls' hl' => k H locs ls' hP hS (tm_has_of2 hl.2.2.1 rfl hl'))
      · cases hs
    · cases hs
  · -- astore_n
    split at hs
    · rename_i x r
      split at hs
      · rename_i hlt
        cases hs
        rw [tm_map_v]
        rcases tm_ref_cases f x with h | h
        · rw [h]
          exact lv_astore_nN hx hb hd rfl hl.ll (Nat.lt_of_lt_of_le hlt hl.2.2.1) rfl (fun ls' hl' => k H locs ls' hP hS (tm_has_of1 hl.2.2.1 (by rw [h]; exact hl')))
        · rw [h]
          exact lv_astore_n hx hb hd rfl hl.ll (Nat.lt_of_lt_of_le hlt hl.2.2.1) rfl (fun ls' hl' => k H locs ls' hP hS (tm_has_of1 hl.2.2.1 (by rw [h]; exact hl')))
      · cases hs
    · cases hs
  · -- astore
    split at hs
    · rename_i x r
      split at hs
      · rename_i hlt
        cases hs
        rw [tm_map_v]
        rcases tm_ref_cases f x with h | h
        · rw [h]
          exact lv_astoreN hx hb hd hl.ll (Nat.lt_of_lt_of_le hlt hl.2.2.1) rfl (fun ls' hl' => k H locs ls' hP hS (tm_has_of1 hl.2.2.1 (by rw [h]; exact hl')))
        · rw [h]
          exact lv_astore hx hb hd hl.ll (Nat.lt_of_lt_of_le hlt hl.2.2.1) rfl (fun ls' hl' => k H locs ls' hP hS (tm_has_of1 hl.2.2.1 (by rw [h]; exact hl')))
      · cases hs
    · cases hs
  · -- iinc
    split at hs
    · rename_i x hq
      split at hs
      · rename_i hlt
        cases hs
        obtain ⟨i0, hi0⟩ := List.getElem?_of_mem (tm_ll_mem (f := f) (tm_ld_eq hq))
        exact lv_iinc hx hb hd hl.ll hi0 rfl (Nat.lt_of_lt_of_le hlt hl.2.2.1) rfl (fun ls' hl' => k H locs ls' hP hS (tm_has_of1 hl.2.2.1 hl'))
      · cases hs
    · cases hs
  · -- iadd
    split at hs
    · cases hs
      exact lv_iadd hx hb hd (k H locs ls hP hS hl)
    · cases hs
  · -- isub
    split at hs
    · cases hs
      exact lv_isub hx hb hd (k H locs ls hP hS hl)
    · cases hs
  · -- imul
    split at hs
    · cases hs
      exact lv_imul hx hb hd (k H locs ls hP hS hl)
    · cases hs
  · -- iand
    split at hs
    · cases hs
      exact lv_iand hx hb hd (k H locs ls hP hS hl)
    · cases hs
  · -- ior
    split at hs
    · cases hs
      exact lv_ior hx hb hd (k H locs ls hP hS hl)
    · cases hs
  · -- ixor
    split at hs
    · cases hs
      exact lv_ixor hx hb hd (k H locs ls hP hS hl)
    · cases hs
  · -- ishl
    split at hs
    · cases hs
      exact lv_ishl hx hb hd (k H locs ls hP hS hl)
    · cases hs
  · -- ishr
    split at hs
    · cases hs
      exact lv_ishr hx hb hd (k H locs ls hP hS hl)
    · cases hs
  · -- iushr
    split at hs
    · cases hs
      exact lv_iushr hx hb hd rfl (k H locs ls hP hS hl)
    · cases hs
  · -- idiv
    split at hs
    · cases hs
      exact lv_idiv hx hb hd hob.1 (k H locs ls hP hS hl)
    · cases hs
  · -- irem
    split at hs
    · cases hs
      exact lv_irem hx hb hd hob.1 (k H locs ls hP hS hl)
    · cases hs
  · -- ladd
    split at hs
    · cases hs
      exact lv_ladd hx hb hd (k H locs ls hP hS hl)
    · cases hs
  · -- lsub
    split at hs
    · cases hs
      exact lv_lsub hx hb hd (k H locs ls hP hS hl)
    · cases hs
  · -- lmul
    split at hs
    · cases hs
      exact lv_lmul hx hb hd (k H locs ls hP hS hl)
    · cases hs
  · -- land
    split at hs
    · cases hs
      exact lv_land hx hb hd (k H locs ls hP hS hl)
    · cases hs
  · -- lor
    split at hs
    · cases hs
      exact lv_lor hx hb hd (k H locs ls hP hS hl)
    · cases hs
  · -- lxor
    split at hs
    · cases hs
      exact lv_lxor hx hb hd (k H locs ls hP hS hl)
    · cases hs
  · -- ldiv
    split at hs
    · cases hs
      exact lv_ldiv hx hb hd hob.1 (k H locs ls hP hS hl)
    · cases hs
  · -- lrem
    split at hs
    · cases hs
      exact lv_lrem hx hb hd hob.1 (k H locs ls hP hS hl)
    · cases hs
  · -- ineg
    split at hs
    · cases hs
      exact lv_ineg hx hb hd (k H locs ls hP hS hl)
    · cases hs
  · -- lneg
    split at hs
    · cases hs
      exact lv_lneg hx hb hd (k H locs ls hP hS hl)
    · cases hs
  · -- lushr
    split at hs
    · cases hs
      exact lv_lushr hx hb hd rfl (k H locs ls hP hS hl)
    · cases hs
  · -- lshl
    split at hs
    · cases hs
      exact lv_lshl hx hb hd rfl (k H locs ls hP hS hl)
    · cases hs
  · -- lshr
    split at hs
    · cases hs
      exact lv_lshr hx hb hd rfl (k H locs ls hP hS hl)
    · cases hs
  · -- i2l
    split at hs
    · cases hs
      exact lv_i2l hx hb hd rfl (k H locs ls hP hS hl)
    · cases hs
  · -- l2i
    split at hs
    · cases hs
      exact lv_l2i hx hb hd rfl (k H locs ls hP hS hl)
    · cases hs
  · -- i2b
    split at hs
    · cases hs
      exact lv_i2b hx hb hd rfl (k H locs ls hP hS hl)
    · cases hs
  · -- i2s
    split at hs
    · cases hs
      exact lv_i2s hx hb hd rfl (k H locs ls hP hS hl)
    · cases hs
  · -- i2c
    split at hs
    · cases hs
      exact lv_i2c hx hb hd rfl (k H locs ls hP hS hl)
    · cases hs
  · -- lcmp
    split at hs
    · cases hs
      exact W.lcmp hx hb hd (k H locs ls hP hS hl)
    · cases hs
  · -- dup
    split at hs
    · rename_i x r
      split at hs
      · rename_i hc
        cases hs
        exact lv_dup hx hb hd ((tm_v_cat f x).trans hc) (k H locs ls hP hS hl)
      · cases hs
    · cases hs
  · -- pop
    split at hs
    · rename_i x r
      split at hs
      · rename_i hc
        cases hs
        exact lv_pop hx hb hd ((tm_v_cat f x).trans hc) (k H locs ls hP hS hl)
      · cases hs
    · cases hs
  · -- dup_x1
    split at hs
    · rename_i x y r
      split at hs
      · rename_i hc
        cases hs
        exact lv_dup_x1 hx hb hd ((tm_v_cat f x).trans hc.1) ((tm_v_cat f y).trans hc.2) (k H locs ls hP hS hl)
      · cases hs
    · cases hs
  · -- dup_x2
    split at hs
    · rename_i x y z r
      split at hs
      · rename_i hc
        cases hs
        exact lv_dup_x2 hx hb hd ((tm_v_cat f x).trans hc.1) ((tm_v_cat f y).trans hc.2.1) ((tm_v_cat f z).trans hc.2.2) (k H locs ls hP hS hl)
      · cases hs
    · cases hs
  · -- dup2
    split at hs
    · rename_i x y r
      split at hs
      · rename_i hc
        cases hs
        exact lv_dup2_11 hx hb hd ((tm_v_cat f x).trans hc.1) ((tm_v_cat f y).trans hc.2) (k H locs ls hP hS hl)
      · cases hs
    · cases hs
  · -- goto
    split at hs
    · rename_i hg
      cases hs
      exact lv_goto hx hb hd hg (k H locs ls hP hS hl)
    · cases hs
  · -- getfield
    split at hs
    · rename_i o r q hq
      cases hs
      obtain ⟨C, T, N, hc, hk, hct, hlink⟩ := hfr _ _ hq
      have hsho := hob.1
      obtain ⟨hw, hty, hnm⟩ := tm_cl_ok _ _ hc
      have hN : tm_N tm_cl q.1 = N := by simp only [tm_N, hc]
      rw [tm_map_v, tm_v_ref (tm_sh_ne hsho hsh)]
      refine va_get (D := D) (ci := q.1) (v := tm_v f (tm_fv q.2.2 mI mL mR o q.2.1)) (C := C) (T := T) (N := N) hx hb hts hw hown hK hP o (tm_W_at hsho) hc q.2.1 hk (hts _ hlink) (fun _ h => h) ?_ hd (k H locs ls hP hS hl)
      rw [hN, tm_rl hk, hct]
    · cases hs
  · -- putfield
    split at hs
    · rename_i x o r q hq
      split at hs
      · rename_i hcnd
        cases hs
        obtain ⟨C, T, N, hc, hk, hct, hlink⟩ := hfr _ _ hq
        obtain ⟨hw, hty, hnm⟩ := tm_cl_ok _ _ hc
        have hN : tm_N tm_cl q.1 = N := by simp only [tm_N, hc]
        have hfin0 : (T q.2.1).2.2.2 = false := by
          have h9 := hcnd.1
          simp only [tm_fin, hc] at h9
          exact h9
        have hsho := hob.1
        rw [tm_map_v, tm_map_v, tm_v_ref (tm_sh_ne hsho hsh)]
        refine va_put (D := D) (ci := q.1) (v := .int x) (ty := q.2.2) (C := C) (T := T) (N := N) hx hb hts hw (tm_ct q.1) hty hnm hown hK hP hD hS o (tm_W_at hsho) hc q.2.1 hk (hts _ hlink) (fun _ h => h) hfin0 (by rw [hty _ hk, hct]) (by rw [hcnd.2]; rfl) (by rw [hcnd.2]; rfl) (by simpa [hN] using hk) hd (fun H1 locs1 hP1 hD1 hS1 => ?_)
        rw [tm_W_set hsho (tm_put_I (by rw [hN]; exact hk) (by rw [hct]; exact (by rw [hcnd.2]; rfl))) (fun o' x' ho' => tm_E_up_other_I ho')] at hP1
        exact k H1 locs1 ls hP1 hS1 hl
      · split at hs
        · rename_i hcnd
          cases hs
          obtain ⟨C, T, N, hc, hk, hct, hlink⟩ := hfr _ _ hq
          obtain ⟨hw, hty, hnm⟩ := tm_cl_ok _ _ hc
          have hN : tm_N tm_cl q.1 = N := by simp only [tm_N, hc]
          have hfin0 : (T q.2.1).2.2.2 = false := by
            have h9 := hcnd.1
            simp only [tm_fin, hc] at h9
            exact h9
          have hsho := hob.1
          rw [tm_map_v, tm_map_v, tm_v_ref (tm_sh_ne hsho hsh)]
          refine va_put (D := D) (ci := q.1) (v := .int x) (ty := q.2.2) (C := C) (T := T) (N := N) hx hb hts hw (tm_ct q.1) hty hnm hown hK hP hD hS o (tm_W_at hsho) hc q.2.1 hk (hts _ hlink) (fun _ h => h) hfin0 (by rw [hty _ hk, hct]) hob.2.1 hob.2.2.1 (by simpa [hN] using hk) hd (fun H1 locs1 hP1 hD1 hS1 => ?_)
          rw [tm_W_set hsho (tm_put_I (by rw [hN]; exact hk) (by rw [hct]; exact hcnd.2)) (fun o' x' ho' => tm_E_up_other_I ho')] at hP1
          exact k H1 locs1 ls hP1 hS1 hl
        · cases hs
    · rename_i x o r q hq
      split at hs
      · rename_i hcnd
        cases hs
        obtain ⟨C, T, N, hc, hk, hct, hlink⟩ := hfr _ _ hq
        obtain ⟨hw, hty, hnm⟩ := tm_cl_ok _ _ hc
        have hN : tm_N tm_cl q.1 = N := by simp only [tm_N, hc]
        have hfin0 : (T q.2.1).2.2.2 = false := by
          have h9 := hcnd.1
          simp only [tm_fin, hc] at h9
          exact h9
        have hsho := hob.1
        rw [tm_map_v, tm_map_v, tm_v_ref (tm_sh_ne hsho hsh)]
        refine va_put (D := D) (ci := q.1) (v := .long x) (ty := q.2.2) (C := C) (T := T) (N := N) hx hb hts hw (tm_ct q.1) hty hnm hown hK hP hD hS o (tm_W_at hsho) hc q.2.1 hk (hts _ hlink) (fun _ h => h) hfin0 (by rw [hty _ hk, hct]) (by rw [hcnd.2]; rfl) (by rw [hcnd.2]; rfl) (by simpa [hN] using hk) hd (fun H1 locs1 hP1 hD1 hS1 => ?_)
        rw [tm_W_set hsho (tm_put_L (by rw [hN]; exact hk) (by rw [hct]; exact hcnd.2)) (fun o' x' ho' => tm_E_up_other_L ho')] at hP1
        exact k H1 locs1 ls hP1 hS1 hl
      · cases hs
    · rename_i x o r q hq
      split at hs
      · rename_i hcnd
        cases hs
        obtain ⟨C, T, N, hc, hk, hct, hlink⟩ := hfr _ _ hq
        obtain ⟨hw, hty, hnm⟩ := tm_cl_ok _ _ hc
        have hN : tm_N tm_cl q.1 = N := by simp only [tm_N, hc]
        have hfin0 : (T q.2.1).2.2.2 = false := by
          have h9 := hcnd.1
          simp only [tm_fin, hc] at h9
          exact h9
        have hsho := hob.1
        rw [tm_map_v, tm_map_v, tm_v_ref (tm_sh_ne hsho hsh)]
        refine va_put (D := D) (ci := q.1) (v := tm_v f (.ref x)) (ty := q.2.2) (C := C) (T := T) (N := N) hx hb hts hw (tm_ct q.1) hty hnm hown hK hP hD hS o (tm_W_at hsho) hc q.2.1 hk (hts _ hlink) (fun _ h => h) hfin0 (by rw [hty _ hk, hct]) (tm_fits_R hcnd.2 x).2 (tm_fits_R hcnd.2 x).1 (by simpa [hN] using hk) hd (fun H1 locs1 hP1 hD1 hS1 => ?_)
        rw [tm_W_set hsho (tm_put_R (by rw [hN]; exact hk) (by rw [hct]; exact hcnd.2)) (fun o' x' ho' => tm_E_up_other_R ho')] at hP1
        exact k H1 locs1 ls hP1 hS1 hl
      · cases hs
    · cases hs
  · -- iaload
    split at hs
    · rename_i i o r
      cases hs
      obtain ⟨⟨n, hsho, hin⟩, -⟩ := hob
      rw [tm_map_v, tm_map_v, tm_v_ref (tm_sh_ne hsho hsh)]
      exact va_iald hx hb hK hP o 0 (tm_W_at hsho) rfl hin hd (k H locs ls hP hS hl)
    · cases hs
  · -- baload
    split at hs
    · rename_i i o r
      cases hs
      obtain ⟨⟨n, hsho, hin⟩, -⟩ := hob
      rw [tm_map_v, tm_map_v, tm_v_ref (tm_sh_ne hsho hsh)]
      exact va_bald hx hb hK hP o 2 (tm_W_at hsho) rfl hin hd (k H locs ls hP hS hl)
    · cases hs
  · -- laload
    split at hs
    · rename_i i o r
      cases hs
      obtain ⟨⟨n, hsho, hin⟩, -⟩ := hob
      rw [tm_map_v, tm_map_v, tm_v_ref (tm_sh_ne hsho hsh)]
      exact va_lald hx hb hK hP o 1 (tm_W_at hsho) rfl hin hd (k H locs ls hP hS hl)
    · cases hs
  · -- iastore
    split at hs
    · rename_i x i o r
      cases hs
      obtain ⟨⟨n, hsho, hin⟩, -⟩ := hob
      rw [tm_map_v, tm_map_v, tm_map_v, tm_v_ref (tm_sh_ne hsho hsh)]
      refine va_iast hx hb hK hP hD hS o 0 (tm_W_at hsho) rfl hin hd (fun H1 locs1 hP1 hD1 hS1 => ?_)
      rw [tm_W_set hsho (tm_arr_I rfl) (fun o' x' ho' => tm_E_up_other_I ho')] at hP1
      exact k H1 locs1 ls hP1 hS1 hl
    · cases hs
  · -- bastore
    split at hs
    · rename_i x i o r
      cases hs
      obtain ⟨⟨n, hsho, hin⟩, -⟩ := hob
      rw [tm_map_v, tm_map_v, tm_map_v, tm_v_ref (tm_sh_ne hsho hsh)]
      refine va_bast hx hb hK hP hD hS o 2 (tm_W_at hsho) rfl hin hd (fun H1 locs1 hP1 hD1 hS1 => ?_)
      rw [tm_W_set hsho (tm_arr_I rfl) (fun o' x' ho' => tm_E_up_other_I ho')] at hP1
      exact k H1 locs1 ls hP1 hS1 hl
    · cases hs
  · -- lastore
    split at hs
    · rename_i x i o r
      cases hs
      obtain ⟨⟨n, hsho, hin⟩, -⟩ := hob
      rw [tm_map_v, tm_map_v, tm_map_v, tm_v_ref (tm_sh_ne hsho hsh)]
      refine va_last hx hb hK hP hD hS o 1 (tm_W_at hsho) rfl hin hd (fun H1 locs1 hP1 hD1 hS1 => ?_)
      rw [tm_W_set hsho tm_arr_L (fun o' x' ho' => tm_E_up_other_L ho')] at hP1
      exact k H1 locs1 ls hP1 hS1 hl
    · cases hs
  · -- arraylength
    split at hs
    · rename_i o r
      split at hs
      · rename_i q hsho
        split at hs
        · rename_i hty
          cases hs
          rw [tm_map_v, tm_v_ref (tm_sh_ne hsho hsh)]
          rcases hty with h9 | h9 | h9
          · exact va_alen hx hb hK hP o 0 (tm_W_at hsho) (ty := .int) (by rw [h9]; rfl) rfl hd (k H locs ls hP hS hl)
          · exact va_alen hx hb hK hP o 1 (tm_W_at hsho) (ty := .long) (by rw [h9]; rfl) rfl hd (k H locs ls hP hS hl)
          · exact va_alen hx hb hK hP o 2 (tm_W_at hsho) (ty := .byte) (by rw [h9]; rfl) rfl hd (k H locs ls hP hS hl)
        · cases hs
      · cases hs
    · cases hs
  · -- other
    cases hs
/-- A STRETCH of instructions -/
theorem tm_run {Γ : tm_G} {own : String} {cc : ByteArray} {nL cells slots : Nat} (C : tm_C Γ own cc nL) {fr : tm_Fr} (hfr : ∀ k q, fr k = some q → tm_FOK own k q) : ∀ (seg : List (Nat × Instr × Nat)), (∀ q ∈ seg, decode cc q.1 = .ok q.2) → ∀ {pc pc' : Nat} {lv lv' : List (Option Value)} {st st' : List Value} {sh : List tm_Sh} {mI mI' : tm_I} {mL mL' : tm_L} {mR mR' : tm_R} {ob : List Prop},
    tm_fold fr seg pc lv st sh mI mL mR = some (ob, pc', lv', st', mI', mL', mR') → tm_all ob → tm_T Γ nL cells slots pc' lv' st' sh mI' mL' mR' → tm_T Γ nL cells slots pc lv st sh mI mL mR
  | [], _, _, _, _, _, _, _, _, _, _, _, _, _, _, _, h, _, k => by cases h; exact k
  | q :: r, hB, pc, _, lv, _, st, _, sh, mI, _, mL, _, mR, _, _, h, hob, k => by
    simp only [tm_fold] at h
    split at h
    · rename_i hpc
      subst hpc
      split at h
      · cases h
      · rename_i ob1 pc1 lv1 st1 a1 b1 c1 h1
        split at h
        · cases h
        · rename_i ob2 rest h2
          cases h
          obtain ⟨o1, o2⟩ := tm_all_app hob
          exact tm_step C hfr (hB q List.mem_cons_self) h1 o1 (tm_run C hfr r (fun z hz => hB z (List.mem_cons_of_mem _ hz)) h2 o2 k)
    · cases h
end TMR
