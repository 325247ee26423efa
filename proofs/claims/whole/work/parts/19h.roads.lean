/-! the five roads on which a call of the face throws -/
section THB
theorem tm_bodyX {y : tm_Y} {fm lo : Nat} {av : List Value} {X : tm_X} {ci : Nat} (hy : plainName y.1.cls = true) (hav : (tm_sl av).length ≤ y.2.2.1)
    (k : ∀ (p : Program) (l : Launch) (e : Env) (s : State) (m : MethodId) (args : Array Value) (below : List Frame) (meth : Method) (c : Code) (D : va_G) (f : Nat → Nat) (cA : FieldType → ClassId) (b : Nat) (ls : Array Slot),
      tm_C (p, l, e, { frames := fm, cells := 1, slots := 6, locals := lo }, s, m, args, below, meth, c, D, f, cA, b, fun _ => True) y.1.cls y.2.1 y.2.2.1 → l.admits e → l.flags = flags0 → c.exceptionTable.isEmpty = true → va_P D tm_cl (tm_W f cA tm_cl tm_ct X.1 X.2.1 X.2.2.1 X.2.2.2) s.heap → X.1.length + 1 ≤ 1000000 → s.heap.size = b + X.1.length → th_X b s → tm_has f ls y.2.2.1 (tm_lv0 y.2.2.1 av) →
      W p l e { frames := fm, cells := 1, slots := 6, locals := lo } s m args below meth c s.heap [] 0 0 (fun t => ∃ o, t.status = .running ∧ Ended t below o ∧ tm_Qx D f cA b X ci args s o t) (F0 m 0 ls [])) : tm_Mx y fm lo av X ci := by
  intro hlen l hfl D f cA b
  refine MetFree.of_bodyS (code := y.2.1) (maxLocals := y.2.2.1) (ret := y.2.2.2) hy ?_ ?_
  · intro args s m h hn
    obtain ⟨meth, c, h1, h2, h3, h4, h5, h6, -, -⟩ := Cond.code_spec hn (atoms_spec (ws := tm_ws y) h _ List.mem_cons_self)
    exact ⟨meth, c, h1, h2, h3, h4, h5, h6⟩
  · intro p e s m args below meth c s₁ B hml hv _
    obtain ⟨hargs, ⟨hsz, hl6, hP, hK, hf, hSt⟩, hXX⟩ := hv
    have hts := atoms_spec (ws := tm_ws y) B.pre
    have hown : s.vm.findClass y.1.cls = some m.cls := findClass_of_methodNamed B.named
    have hh0 : s₁.heap = s.heap := by rw [B.state]; rfl
    have hC : tm_C (p, l, e, { frames := fm, cells := 1, slots := 6, locals := lo }, s, m, args, below, meth, c, D, f, cA, b, fun _ => True) y.1.cls y.2.1 y.2.2.1 :=
      ⟨B.exec, B.bytes, hml, hown, fun w hw => hts w (List.mem_cons_of_mem _ hw), hK, hf, by omega, B.notSynchronized, hSt⟩
    have K := k p l e s m args below meth c D f cA b _ hC B.admits hfl (B.noHandlers (hts _ List.mem_cons_self)) hP hlen hsz hXX (tm_lv0_has f hav)
    rw [← lg_entry_eq, ← hargs] at K
    obtain ⟨t, a1, o, b1, b2, b3⟩ := K s₁ hh0 (Stand.of_body B)
    exact ⟨t, o, a1, b1, b2, b3⟩
end THB
section THP
variable {p : Program} {l : Launch} {e : Env} {R : Room} {s : State} {m : MethodId} {args : Array Value} {below : List Frame} {meth : Method} {c : Code} {H : Heap} {Q : State → Prop}
theorem th_after {pc : Nat} {ls : Array Slot} {st0 rest : List Value} {r : Int32} (hr : va_Run p l e R s m args below meth c H [] 0 0 0 0 (F0 m pc ls st0) rest (fun st oc t => oc = .returned (some (.int r)) ∧ t.heap = st.heap) (fun _ => False)) (k : W p l e R s m args below meth c H [] 0 0 Q (F0 m (pc + 3) ls (.int r :: rest))) : W p l e R s m args below meth c H [] 0 0 Q (F0 m pc ls st0) := by
  intro T hT X
  obtain ⟨v, st₀, t, T', L, h0, X', hL, e1, e2, ⟨hv, hh⟩, stp⟩ := hr T hT X
  cases hv
  have hLn : L = [] := List.eq_nil_iff_forall_not_mem.mpr hL
  subst hLn
  obtain ⟨t2, a1, b1⟩ := k T' (by rw [e1, hh, h0]) X'
  exact ⟨t2, stp t2 a1, b1⟩
end THP
/-- hasOrder where there is none: it answers 0, and writes nothing -/
theorem th_hasOrder {ex : List tm_Sh} {mI : tm_I} {mL : tm_L} {k : Int32} (hno : k < 0 ∨ mI 20 4 ≤ k) (l : Launch) (D : va_G) (f : Nat → Nat) (cA : FieldType → ClassId) (b : Nat) : Met l ty_Sh_hasOrder.1 (tm_ws ty_Sh_hasOrder) { frames := 0, cells := 0, slots := 0, locals := 0 } (va_Pc [.ref (f 20), .int k] (tm_Pre D f cA b (sh0 ++ ex, mI, mL, rr))) (fun _ st oc t => oc = .returned (some (.int 0)) ∧ t.heap = st.heap) 0 0 (fun _ => False) := by
  refine Met.ofW (cc := ty_Sh_hasOrder.2.1) (maxL := 2) (ret := some .boolean) (by decide) rfl ?_
  intro p e s m args below meth c s₁ B hml hv
  obtain ⟨hargs, hsz, hl6, hP, hK, hf, hSt⟩ := hv
  subst hargs
  have hx := B.exec
  have hb := B.bytes
  have hr := B.returns
  have hts := atoms_spec (ws := tm_ws ty_Sh_hasOrder) B.pre
  have hown : s.vm.findClass "LabelScript$Sheets" = some m.cls := findClass_of_methodNamed B.named
  have hlk := B.notSynchronized
  have hl := lv_entry ([.ref (f 20), .int k]) (n := 2) (Nat.le_of_ble_eq_true rfl)
  rw [lg_entry_eq]
  generalize (lg_sl ([.ref (f 20), .int k]) ++ List.replicate (2 - (lg_sl ([.ref (f 20), .int k])).length) Slot.unset).toArray = ls at hl ⊢
  have hl : lv_has ls 2 [(0, .ref (f 20)), (1, .int k)] := hl
  have hend : W p l e (headSpec (tm_ws ty_Sh_hasOrder) { frames := 0, cells := 0, slots := 0, locals := 0 }).room s m (Array.mk [.ref (f 20), .int k]) below meth c s.heap [] 0 0 (MQ below (fun _ st oc t => oc = .returned (some (.int 0)) ∧ t.heap = st.heap) (Array.mk [.ref (f 20), .int k]) s 0 0 (fun _ => False)) (F0 m 16 ls []) := by
    refine lv_iconst (v := 0) hx hb (tm_get_d to_Sh_hasOrder rfl) (by decide) ?_
    exact W.zret hx hb hr rfl (fun t ht hW => ⟨rfl, ht⟩) (fun q h => by cases h) (tm_get_d to_Sh_hasOrder rfl) hlk
  refine lv_iload_n hx hb (tm_get_d to_Sh_hasOrder rfl) rfl (lv_at hl 1 rfl) ?_
  refine lv_if_lt (tgt := 16) hx hb (tm_get_d to_Sh_hasOrder rfl) (by decide) (fun h => hend) (fun h => ?_)
  refine lv_iload_n hx hb (tm_get_d to_Sh_hasOrder rfl) rfl (lv_at hl 1 rfl) ?_
  refine lv_aload_n hx hb (tm_get_d to_Sh_hasOrder rfl) rfl (lv_at hl 0 rfl) ?_
  refine va_get (D := D) (ci := 8) (v := .int (mI 20 4)) (C := tn_RSh) (T := tn_FSh) (N := 9) hx hb (fun w hw => hts w (List.mem_cons_of_mem _ hw)) tn_wSh hown hK hP 20 (tm_W_at (o := 20) (x := .inl 8) rfl) rfl 4 (by decide) (hts (Cond.fieldLink "LabelScript$Sheets" 31 "LabelScript$Sheets" "orderCount" "I") (List.mem_cons_of_mem _ (tm_in 185 (by decide +kernel) rfl))) (fun _ h => h) rfl (tm_get_d to_Sh_hasOrder rfl) ?_
  refine lv_icmp_ge (tgt := 16) hx hb (tm_get_d to_Sh_hasOrder rfl) (by decide) (fun h => hend) (fun h2 => ?_)
  rcases hno with h3 | h3
  · exact absurd h3 h
  · exact absurd h3 h2
set_option maxRecDepth 100000 in
theorem cx_write {ex : List tm_Sh} {mI : tm_I} {mL : tm_L} {n : Int32} {x : Int64} (hn : n < 1 ∨ 8 < n) : tm_Mx ty_La_write 6 90 [.ref 0, .int n, .long x] (sh0 ++ ex, mI, mL, rr) 10 := by
  refine tm_bodyX (by decide) (Nat.le_of_ble_eq_true rfl) fun p l e s m args below meth c D f cA b ls C hadm hfl hnoh hP hlen hsz hXX hl => ?_
  obtain ⟨hx, hb, hml, hown, hts, hK, hf, hbs, hlk, hSt⟩ := C
  have hend : W p l e { frames := 6, cells := 1, slots := 6, locals := 90 } s m args below meth c s.heap [] 0 0 (fun t => ∃ o, t.status = .running ∧ Ended t below o ∧ tm_Qx D f cA b (sh0 ++ ex, mI, mL, rr) 10 args s o t) (F0 m 11 ls []) := tm_thr hx hb hml hown hts hlk hadm hfl hnoh hK hP hf hlen hsz hSt hXX (ci := 10) (ic := 56) (pc := 11) rfl rfl (fun a ha => th_atA a ha) (by decide) (tm_in 805 (by decide +kernel) rfl) (tm_in 806 (by decide +kernel) rfl) (tm_in 71 (by decide +kernel) rfl) (i := 3) rfl (tm_get_d to_La_write rfl) (tm_get_d to_La_write rfl) (tm_get_d to_La_write rfl) (tm_get_d to_La_write rfl) (tm_get_d to_La_write rfl) hl.1 ⟨by decide, by decide, by decide, by decide⟩
  refine lv_iload_n hx hb (tm_get_d to_La_write rfl) rfl (hl.2.2.2 1 _ rfl) ?_
  refine lv_iconst (v := 1) hx hb (tm_get_d to_La_write rfl) (by decide) ?_
  refine lv_icmp_lt (tgt := 11) hx hb (tm_get_d to_La_write rfl) (by decide) (fun _ => hend) (fun h => ?_)
  refine lv_iload_n hx hb (tm_get_d to_La_write rfl) rfl (hl.2.2.2 1 _ rfl) ?_
  refine lv_bipush (v := 8) hx hb (tm_get_d to_La_write rfl) (by decide) ?_
  refine lv_icmp_le (tgt := 21) hx hb (tm_get_d to_La_write rfl) (by decide) (fun h2 => ?_) (fun _ => hend)
  rcases hn with h3 | h3
  · exact absurd h3 h
  · exact absurd h3 (Int32.not_lt.mpr h2)
set_option maxRecDepth 100000 in
theorem cx_label {ex : List tm_Sh} {mI : tm_I} {mL : tm_L} {k w : Int32} (hn : w < 0 ∨ 4 ≤ w) : tm_Mx ty_La_label 6 90 [.ref 0, .int k, .int w] (sh0 ++ ex, mI, mL, rr) 10 := by
  refine tm_bodyX (by decide) (Nat.le_of_ble_eq_true rfl) fun p l e s m args below meth c D f cA b ls C hadm hfl hnoh hP hlen hsz hXX hl => ?_
  obtain ⟨hx, hb, hml, hown, hts, hK, hf, hbs, hlk, hSt⟩ := C
  have hend : W p l e { frames := 6, cells := 1, slots := 6, locals := 90 } s m args below meth c s.heap [] 0 0 (fun t => ∃ o, t.status = .running ∧ Ended t below o ∧ tm_Qx D f cA b (sh0 ++ ex, mI, mL, rr) 10 args s o t) (F0 m 9 ls []) := tm_thr hx hb hml hown hts hlk hadm hfl hnoh hK hP hf hlen hsz hSt hXX (ci := 10) (ic := 56) (pc := 9) rfl rfl (fun a ha => th_atA a ha) (by decide) (tm_in 805 (by decide +kernel) rfl) (tm_in 806 (by decide +kernel) rfl) (tm_in 71 (by decide +kernel) rfl) (i := 4) rfl (tm_get_d to_La_label rfl) (tm_get_d to_La_label rfl) (tm_get_d to_La_label rfl) (tm_get_d to_La_label rfl) (tm_get_d to_La_label rfl) hl.1 ⟨by decide, by decide, by decide, by decide⟩
  refine lv_iload_n hx hb (tm_get_d to_La_label rfl) rfl (hl.2.2.2 2 _ rfl) ?_
  refine lv_if_lt (tgt := 9) hx hb (tm_get_d to_La_label rfl) (by decide) (fun _ => hend) (fun h => ?_)
  refine lv_iload_n hx hb (tm_get_d to_La_label rfl) rfl (hl.2.2.2 2 _ rfl) ?_
  refine lv_iconst (v := 4) hx hb (tm_get_d to_La_label rfl) (by decide) ?_
  refine lv_icmp_lt (tgt := 19) hx hb (tm_get_d to_La_label rfl) (by decide) (fun h2 => ?_) (fun _ => hend)
  rcases hn with h3 | h3
  · exact absurd h3 h
  · exact absurd h2 (Int32.not_lt.mpr h3)
set_option maxRecDepth 100000 in
theorem cx_orderA {ex : List tm_Sh} {mI : tm_I} {mL : tm_L} {k w : Int32} (hn : w < 0 ∨ 8 < w) : tm_Mx ty_La_order 6 90 [.ref 0, .int k, .int w] (sh0 ++ ex, mI, mL, rr) 10 := by
  refine tm_bodyX (by decide) (Nat.le_of_ble_eq_true rfl) fun p l e s m args below meth c D f cA b ls C hadm hfl hnoh hP hlen hsz hXX hl => ?_
  obtain ⟨hx, hb, hml, hown, hts, hK, hf, hbs, hlk, hSt⟩ := C
  have hend : W p l e { frames := 6, cells := 1, slots := 6, locals := 90 } s m args below meth c s.heap [] 0 0 (fun t => ∃ o, t.status = .running ∧ Ended t below o ∧ tm_Qx D f cA b (sh0 ++ ex, mI, mL, rr) 10 args s o t) (F0 m 10 ls []) := tm_thr hx hb hml hown hts hlk hadm hfl hnoh hK hP hf hlen hsz hSt hXX (ci := 10) (ic := 56) (pc := 10) rfl rfl (fun a ha => th_atA a ha) (by decide) (tm_in 805 (by decide +kernel) rfl) (tm_in 806 (by decide +kernel) rfl) (tm_in 71 (by decide +kernel) rfl) (i := 5) rfl (tm_get_d to_La_order rfl) (tm_get_d to_La_order rfl) (tm_get_d to_La_order rfl) (tm_get_d to_La_order rfl) (tm_get_d to_La_order rfl) hl.1 ⟨by decide, by decide, by decide, by decide⟩
  refine lv_iload_n hx hb (tm_get_d to_La_order rfl) rfl (hl.2.2.2 2 _ rfl) ?_
  refine lv_if_lt (tgt := 10) hx hb (tm_get_d to_La_order rfl) (by decide) (fun _ => hend) (fun h => ?_)
  refine lv_iload_n hx hb (tm_get_d to_La_order rfl) rfl (hl.2.2.2 2 _ rfl) ?_
  refine lv_bipush (v := 8) hx hb (tm_get_d to_La_order rfl) (by decide) ?_
  refine lv_icmp_le (tgt := 20) hx hb (tm_get_d to_La_order rfl) (by decide) (fun h2 => ?_) (fun _ => hend)
  rcases hn with h3 | h3
  · exact absurd h3 h
  · exact absurd h3 (Int32.not_lt.mpr h2)
set_option maxRecDepth 100000 in
theorem cx_orderI {ex : List tm_Sh} {mI : tm_I} {mL : tm_L} {k w : Int32} (hn : ¬ w < 0 ∧ w ≤ 8) (hk : k < 0 ∨ mI 20 4 ≤ k) : tm_Mx ty_La_order 6 90 [.ref 0, .int k, .int w] (sh0 ++ ex, mI, mL, rr) 11 := by
  refine tm_bodyX (by decide) (Nat.le_of_ble_eq_true rfl) fun p l e s m args below meth c D f cA b ls C hadm hfl hnoh hP hlen hsz hXX hl => ?_
  obtain ⟨hx, hb, hml, hown, hts, hK, hf, hbs, hlk, hSt⟩ := C
  have hend : W p l e { frames := 6, cells := 1, slots := 6, locals := 90 } s m args below meth c s.heap [] 0 0 (fun t => ∃ o, t.status = .running ∧ Ended t below o ∧ tm_Qx D f cA b (sh0 ++ ex, mI, mL, rr) 11 args s o t) (F0 m 34 ls []) := tm_thr hx hb hml hown hts hlk hadm hfl hnoh hK hP hf hlen hsz hSt hXX (ci := 11) (ic := 128) (pc := 34) rfl rfl (fun a ha => th_atI a ha) (by decide) (tm_in 896 (by decide +kernel) rfl) (tm_in 897 (by decide +kernel) rfl) (tm_in 78 (by decide +kernel) rfl) (i := 6) rfl (tm_get_d to_La_order rfl) (tm_get_d to_La_order rfl) (tm_get_d to_La_order rfl) (tm_get_d to_La_order rfl) (tm_get_d to_La_order rfl) hl.1 ⟨by decide, by decide, by decide, by decide⟩
  have h0 : ls[0]? = some (Slot.val (.ref (f 0))) := hl.2.2.2 0 _ rfl
  refine lv_iload_n hx hb (tm_get_d to_La_order rfl) rfl (hl.2.2.2 2 _ rfl) ?_
  refine lv_if_lt (tgt := 10) hx hb (tm_get_d to_La_order rfl) (by decide) (fun h => absurd h hn.1) (fun h => ?_)
  refine lv_iload_n hx hb (tm_get_d to_La_order rfl) rfl (hl.2.2.2 2 _ rfl) ?_
  refine lv_bipush (v := 8) hx hb (tm_get_d to_La_order rfl) (by decide) ?_
  refine lv_icmp_le (tgt := 20) hx hb (tm_get_d to_La_order rfl) (by decide) (fun h2 => ?_) (fun h2 => absurd hn.2 h2)
  refine lv_aload_n hx hb (tm_get_d to_La_order rfl) rfl (h0) ?_
  refine va_get (D := D) (ci := 0) (v := .ref (f 19)) (C := tn_RLa) (T := tn_FLa) (N := 8) hx hb hts tn_wLa hown hK hP 0 (tm_W_at (o := 0) (x := .inl 0) rfl) rfl 4 (by decide) (hts (Cond.fieldLink "LabelScript" 38 "LabelScript" "press" "LLabelScript$Press;") (tm_in 313 (by decide +kernel) rfl)) (fun _ h => h) rfl (tm_get_d to_La_order rfl) ?_
  refine va_get (D := D) (ci := 5) (v := .ref (f 20)) (C := tn_RPr) (T := tn_FPr) (N := 11) hx hb hts tn_wPr hown hK hP 19 (tm_W_at (o := 19) (x := .inl 5) rfl) rfl 0 (by decide) (hts (Cond.fieldLink "LabelScript" 101 "LabelScript$Press" "sheets" "LLabelScript$Sheets;") (tm_in 272 (by decide +kernel) rfl)) (fun _ h => h) rfl (tm_get_d to_La_order rfl) ?_
  refine lv_iload_n hx hb (tm_get_d to_La_order rfl) rfl (hl.2.2.2 1 _ rfl) ?_
  have L := tl_La_120
  obtain ⟨⟨l1, l2, l3, l4, l5⟩, l6, l7, l8⟩ := L
  have hrv := va_recv hK hP (ci := 8) (q := (tn_RSh, tn_FSh, 9)) rfl (tm_W_at (o := 20) (x := .inl 8) rfl)
  refine th_after (va_runV (As := [.int k]) (rest := []) (n := 1) (C := "LabelScript$Sheets") (b := f 20) ⟨hx, hb, hml, hown, hts⟩ (th_hasOrder (ex := ex) (mI := mI) (mL := mL) hk l D f cA b) (cwV 1 hts (tm_good fun w hw => ?_) rfl rfl rfl ⟨rfl, l3, l4, l5⟩ ⟨by decide, by decide⟩) ⟨tm_blind, hrv, fun U hU hW => ?_⟩ rfl rfl hl.1 rfl (lv_room (Nat.le_of_ble_eq_true rfl)) (tm_get_d to_La_order rfl) ⟨by decide, by decide⟩) ?_
  · rcases List.mem_append.mp hw with h | h
    · rcases List.mem_cons.mp h with rfl | h
      · exact l6
      · rcases List.mem_cons.mp h with rfl | h
        · exact l7
        · rcases List.mem_cons.mp h with rfl | h
          · exact l8
          · rcases List.mem_cons.mp h with rfl | h
            · exact l2
            · cases h
    · rcases List.mem_cons.mp h with rfl | h
      · exact l1
      · exact h
  · have h9 := tm_pre (av := [.ref 20, .int k]) (by omega) hsz hP va_S.rf hK hf hSt hU hW
    exact h9
  refine lv_if_ne (tgt := 44) hx hb (tm_get_d to_La_order rfl) (by decide) (fun h => absurd rfl h) (fun _ => hend)
set_option maxRecDepth 100000 in
theorem cx_data {ex : List tm_Sh} {mI : tm_I} {mL : tm_L} {k i : Int32} (hk : k < 0 ∨ mI 20 4 ≤ k) : tm_Mx ty_La_data 6 90 [.ref 0, .int k, .int i] (sh0 ++ ex, mI, mL, rr) 11 := by
  refine tm_bodyX (by decide) (Nat.le_of_ble_eq_true rfl) fun p l e s m args below meth c D f cA b ls C hadm hfl hnoh hP hlen hsz hXX hl => ?_
  obtain ⟨hx, hb, hml, hown, hts, hK, hf, hbs, hlk, hSt⟩ := C
  have hend : W p l e { frames := 6, cells := 1, slots := 6, locals := 90 } s m args below meth c s.heap [] 0 0 (fun t => ∃ o, t.status = .running ∧ Ended t below o ∧ tm_Qx D f cA b (sh0 ++ ex, mI, mL, rr) 11 args s o t) (F0 m 14 ls []) := tm_thr hx hb hml hown hts hlk hadm hfl hnoh hK hP hf hlen hsz hSt hXX (ci := 11) (ic := 128) (pc := 14) rfl rfl (fun a ha => th_atI a ha) (by decide) (tm_in 896 (by decide +kernel) rfl) (tm_in 897 (by decide +kernel) rfl) (tm_in 78 (by decide +kernel) rfl) (i := 6) rfl (tm_get_d to_La_data rfl) (tm_get_d to_La_data rfl) (tm_get_d to_La_data rfl) (tm_get_d to_La_data rfl) (tm_get_d to_La_data rfl) hl.1 ⟨by decide, by decide, by decide, by decide⟩
  have h0 : ls[0]? = some (Slot.val (.ref (f 0))) := hl.2.2.2 0 _ rfl
  refine lv_aload_n hx hb (tm_get_d to_La_data rfl) rfl (h0) ?_
  refine va_get (D := D) (ci := 0) (v := .ref (f 19)) (C := tn_RLa) (T := tn_FLa) (N := 8) hx hb hts tn_wLa hown hK hP 0 (tm_W_at (o := 0) (x := .inl 0) rfl) rfl 4 (by decide) (hts (Cond.fieldLink "LabelScript" 38 "LabelScript" "press" "LLabelScript$Press;") (tm_in 313 (by decide +kernel) rfl)) (fun _ h => h) rfl (tm_get_d to_La_data rfl) ?_
  refine va_get (D := D) (ci := 5) (v := .ref (f 20)) (C := tn_RPr) (T := tn_FPr) (N := 11) hx hb hts tn_wPr hown hK hP 19 (tm_W_at (o := 19) (x := .inl 5) rfl) rfl 0 (by decide) (hts (Cond.fieldLink "LabelScript" 101 "LabelScript$Press" "sheets" "LLabelScript$Sheets;") (tm_in 272 (by decide +kernel) rfl)) (fun _ h => h) rfl (tm_get_d to_La_data rfl) ?_
  refine lv_iload_n hx hb (tm_get_d to_La_data rfl) rfl (hl.2.2.2 1 _ rfl) ?_
  have L := tl_La_120
  obtain ⟨⟨l1, l2, l3, l4, l5⟩, l6, l7, l8⟩ := L
  have hrv := va_recv hK hP (ci := 8) (q := (tn_RSh, tn_FSh, 9)) rfl (tm_W_at (o := 20) (x := .inl 8) rfl)
  refine th_after (va_runV (As := [.int k]) (rest := []) (n := 1) (C := "LabelScript$Sheets") (b := f 20) ⟨hx, hb, hml, hown, hts⟩ (th_hasOrder (ex := ex) (mI := mI) (mL := mL) hk l D f cA b) (cwV 1 hts (tm_good fun w hw => ?_) rfl rfl rfl ⟨rfl, l3, l4, l5⟩ ⟨by decide, by decide⟩) ⟨tm_blind, hrv, fun U hU hW => ?_⟩ rfl rfl hl.1 rfl (lv_room (Nat.le_of_ble_eq_true rfl)) (tm_get_d to_La_data rfl) ⟨by decide, by decide⟩) ?_
  · rcases List.mem_append.mp hw with h | h
    · rcases List.mem_cons.mp h with rfl | h
      · exact l6
      · rcases List.mem_cons.mp h with rfl | h
        · exact l7
        · rcases List.mem_cons.mp h with rfl | h
          · exact l8
          · rcases List.mem_cons.mp h with rfl | h
            · exact l2
            · cases h
    · rcases List.mem_cons.mp h with rfl | h
      · exact l1
      · exact h
  · have h9 := tm_pre (av := [.ref 20, .int k]) (by omega) hsz hP va_S.rf hK hf hSt hU hW
    exact h9
  refine lv_if_ne (tgt := 24) hx hb (tm_get_d to_La_data rfl) (by decide) (fun h => absurd rfl h) (fun _ => hend)
