/-! what a maker does: final fields, the Object's own maker; and rows of longs copied -/
section TMI
variable {Γ : tm_G} {own : String} {cc : ByteArray} {nL cells slots rf rl rc rs : Nat} {pc idx : Nat} {lv : List (Option Value)} {st : List Value} {sh : List tm_Sh} {mI : tm_I} {mL : tm_L} {mR : tm_R}
def tm_nm (Γ : tm_G) (nm : String) : Prop := match Γ with
  | (_, _, _, _, _, _, _, _, meth, _, _, _, _, _, _) => meth.name = nm
theorem tm_Γ.nm {y : tm_Y} {fm lo mc ms : Nat} {av : List Value} {X : tm_X} {Q : Option Value → tm_X → Prop} (G : tm_Γ y fm lo mc ms av X Q Γ) : tm_nm Γ y.1.name := by
  obtain ⟨p, l, e, R, s, m, args, below, meth, c, D, f, cA, b, QQ⟩ := Γ
  obtain ⟨-, -, -, hn, -⟩ := G
  exact hn
theorem tm_putFI (C : tm_C Γ own cc nL) (hnm0 : tm_nm Γ "<init>") {q : Nat × Nat × FieldType} (F : tm_FOK own idx q) (hfin : tm_fin q.1 q.2.1 = true) (hdecl : ((tm_cl[q.1]?).map fun z => (z.2.1 q.2.1).1) = some own) {o : Nat} {x : Int32} (hty0 : q.2.2 = .int) (hsho : sh[o]? = some (.inl q.1)) (hd : decode cc pc = .ok (.putfield idx, 3))
    (k : tm_T Γ nL cells slots (pc + 3) lv st sh (tm_up mI o q.2.1 x) mL mR) : tm_T Γ nL cells slots pc lv (.int x :: .ref o :: st) sh mI mL mR := by
  obtain ⟨p, l, e, R, s, m, args, below, meth, c, D, f, cA, b, QQ⟩ := Γ
  obtain ⟨hx, hb, hml, hown, hts, hK, hf, hbs, hlk, hSt⟩ := C
  intro hsh hsz H locs ls hP hS hl
  have k := k hsh hsz
  have hD : va_D (fun q => b ≤ q) (tm_W f cA tm_cl tm_ct sh mI mL mR) := tm_W_D hf hsh
  obtain ⟨C, T, N, hc, hk, hct, hlink⟩ := F
  obtain ⟨hw, hty, hnm⟩ := tm_cl_ok _ _ hc
  have hN : tm_N tm_cl q.1 = N := by simp only [tm_N, hc]
  have hfin0 : (T q.2.1).2.2.2 = true := by simp only [tm_fin, hc] at hfin; exact hfin
  have hdecl0 : (T q.2.1).1 = own := by rw [hc] at hdecl; exact Option.some.inj hdecl
  rw [tm_map_v, tm_map_v, tm_v_ref (tm_sh_ne hsho hsh)]
  refine va_putF (D := D) (ci := q.1) (v := .int x) (ty := q.2.2) (C := C) (T := T) (N := N) hx hb hts hw (tm_ct q.1) hty hnm hown hK hP hD hS o (tm_W_at hsho) hc q.2.1 hk (hts _ hlink) (fun _ h => h) hfin0 hnm0 hdecl0 (by rw [hty _ hk, hct]) (by rw [hty0]; rfl) (by rw [hty0]; rfl) (by simpa [hN] using hk) hd (fun H1 locs1 hP1 hD1 hS1 => ?_)
  rw [tm_W_set hsho (tm_put_I (by rw [hN]; exact hk) (by rw [hct, hty0]; rfl)) (fun o' x' ho' => tm_E_up_other_I ho')] at hP1
  exact k H1 locs1 ls hP1 hS1 hl
theorem tm_putFR (C : tm_C Γ own cc nL) (hnm0 : tm_nm Γ "<init>") {q : Nat × Nat × FieldType} (F : tm_FOK own idx q) (hfin : tm_fin q.1 q.2.1 = true) (hdecl : ((tm_cl[q.1]?).map fun z => (z.2.1 q.2.1).1) = some own) {o : Nat} {x : Nat} (hty0 : tm_isR q.2.2 = true) (hsho : sh[o]? = some (.inl q.1)) (hd : decode cc pc = .ok (.putfield idx, 3))
    (k : tm_T Γ nL cells slots (pc + 3) lv st sh mI mL (tm_up mR o q.2.1 x)) : tm_T Γ nL cells slots pc lv (.ref x :: .ref o :: st) sh mI mL mR := by
  obtain ⟨p, l, e, R, s, m, args, below, meth, c, D, f, cA, b, QQ⟩ := Γ
  obtain ⟨hx, hb, hml, hown, hts, hK, hf, hbs, hlk, hSt⟩ := C
  intro hsh hsz H locs ls hP hS hl
  have k := k hsh hsz
  have hD : va_D (fun q => b ≤ q) (tm_W f cA tm_cl tm_ct sh mI mL mR) := tm_W_D hf hsh
  obtain ⟨C, T, N, hc, hk, hct, hlink⟩ := F
  obtain ⟨hw, hty, hnm⟩ := tm_cl_ok _ _ hc
  have hN : tm_N tm_cl q.1 = N := by simp only [tm_N, hc]
  have hfin0 : (T q.2.1).2.2.2 = true := by simp only [tm_fin, hc] at hfin; exact hfin
  have hdecl0 : (T q.2.1).1 = own := by rw [hc] at hdecl; exact Option.some.inj hdecl
  rw [tm_map_v, tm_map_v, tm_v_ref (tm_sh_ne hsho hsh)]
  refine va_putF (D := D) (ci := q.1) (v := tm_v f (.ref x)) (ty := q.2.2) (C := C) (T := T) (N := N) hx hb hts hw (tm_ct q.1) hty hnm hown hK hP hD hS o (tm_W_at hsho) hc q.2.1 hk (hts _ hlink) (fun _ h => h) hfin0 hnm0 hdecl0 (by rw [hty _ hk, hct]) (tm_fits_R hty0 x).2 (tm_fits_R hty0 x).1 (by simpa [hN] using hk) hd (fun H1 locs1 hP1 hD1 hS1 => ?_)
  rw [tm_W_set hsho (tm_put_R (by rw [hN]; exact hk) (by rw [hct]; exact hty0)) (fun o' x' ho' => tm_E_up_other_R ho')] at hP1
  exact k H1 locs1 ls hP1 hS1 hl
/-- the Object's maker -/
theorem tm_obj (C : tm_C Γ own cc nL) (Ro : tm_Ro Γ rf rl rc rs) (hlink : Cond.methodLink own idx objectInit ∈ tm_tb) (hins : Cond.instanceMethod objectInit ∈ tm_tb) (hcode : Cond.code objectInit ⟨#[0xb1]⟩ 1 none ∈ tm_tb) {o : Nat} {x : tm_Sh} (hsho : sh[o]? = some x) (hw : (st.map fun v => v.category).sum ≤ 8) (hr : 1 ≤ rf ∧ 20 ≤ rl) (hd : decode cc pc = .ok (.invokespecial idx, 3))
    (k : tm_T Γ nL cells slots (pc + 3) lv st sh mI mL mR) : tm_T Γ nL cells slots pc lv (.ref o :: st) sh mI mL mR := by
  obtain ⟨p, l, e, R, s, m, args, below, meth, c, D, f, cA, b, QQ⟩ := Γ
  obtain ⟨hx, hb, hml, hown, hts, hK, hf, hbs, hlk, hSt⟩ := C
  obtain ⟨r1, r2, r3, r4⟩ := Ro
  intro hsh hsz H locs ls hP hS hl
  rw [tm_map_v, tm_v_ref (tm_sh_ne hsho hsh)]
  have h8 : 2 * (F0 m pc ls (Value.ref (f o) :: st.map (tm_v f))).monitorRoom + ((st.map (tm_v f)).map fun v => v.category).sum ≤ 8 := lv_room (by rw [tm_cats]; exact hw)
  refine W.objInit hx hb hown (hts _ hlink) (hts _ hins) (hts _ hcode) rfl (by rw [hml]; exact hl.1) rfl hd (by rw [r1]; exact hr.1) (by rw [r2]; omega) ?_
  exact W.eq (g2 := F0 m (pc + 3) ls (st.map (tm_v f))) rfl (k hsh hsz H locs ls hP hS hl)
/-- rows of longs, copied -/
def tm_cpy (mL : tm_L) (o0 o1 sp dp n : Nat) : tm_L := fun a j => if a = o1 then va_cpy (mL o0) (mL o1) sp dp n j else mL a j
theorem tm_copyL (C : tm_C Γ own cc nL) (Ro : tm_Ro Γ rf rl rc rs) (hlink : Cond.methodLink own idx arraycopyName ∈ tm_tb) (hnat : Cond.native arraycopyName ∈ tm_tb) (hstat : Cond.static arraycopyName ∈ tm_tb) (hini : Cond.initialized "java/lang/System" ∈ tm_tb) {o0 o1 n0 n1 : Nat} (h0 : sh[o0]? = some (.inr (.long, n0))) (h1 : sh[o1]? = some (.inr (.long, n1))) {sp dp n : Int32} (hsp : ¬ sp < 0) (hdp : ¬ dp < 0) (hn : ¬ n < 0) (h4 : sp.toNatClampNeg + n.toNatClampNeg ≤ n0) (h5 : dp.toNatClampNeg + n.toNatClampNeg ≤ n1) (hw : (st.map fun v => v.category).sum ≤ 8) (hr : 1 ≤ rf ∧ 26 ≤ rl) (hd : decode cc pc = .ok (.invokestatic idx, 3))
    (k : tm_T Γ nL cells slots (pc + 3) lv st sh mI (tm_cpy mL o0 o1 sp.toNatClampNeg dp.toNatClampNeg n.toNatClampNeg) mR) : tm_T Γ nL cells slots pc lv (.int n :: .int dp :: .ref o1 :: .int sp :: .ref o0 :: st) sh mI mL mR := by
  obtain ⟨p, l, e, R, s, m, args, below, meth, c, D, f, cA, b, QQ⟩ := Γ
  obtain ⟨hx, hb, hml, hown, hts, hK, hf, hbs, hlk, hSt⟩ := C
  obtain ⟨r1, r2, r3, r4⟩ := Ro
  intro hsh hsz H locs ls hP hS hl
  simp only [tm_map_v, tm_v_int, tm_v_ref (tm_sh_ne h0 hsh), tm_v_ref (tm_sh_ne h1 hsh)]
  have hnf : nativeFrameWords "java/lang/System" "arraycopy" 5 = 7 := by decide
  refine va_copyl hx hb (by rw [hml]; exact hl.1.symm) hown (hts _ hlink) (hts _ hnat) (hts _ hstat) (hts _ hini) hK hP (tm_W_D hf hsh) hS o0 o1 1 1 (tm_W_at h0) (tm_W_at h1) rfl rfl rfl hsp hdp hn h4 h5 (fun _ _ => rfl) (by rw [r1]; exact hr.1) (by rw [tm_cats, hnf, r2]; omega) hd (fun H1 locs1 hP1 hD1 hS1 => ?_)
  rw [tm_W_set (mI' := mI) (mR' := mR) (mL' := tm_cpy mL o0 o1 sp.toNatClampNeg dp.toNatClampNeg n.toNatClampNeg) h1 ?_ (fun o' x' ho' => ?_)] at hP1
  · exact k hsh hsz H1 locs1 ls hP1 hS1 hl
  · simp only [tm_E, tm_ar]
    congr 3
    congr 2
    funext j
    simp [tm_cpy]
  · exact tm_E_eq (fun _ => rfl) (fun j => by simp [tm_cpy, ho']) (fun _ => rfl)
end TMI
