section TST
variable {s : pu_Sp} {T : List Int32} {m : tm_I} {mL : tm_L}
def pu_TO2 (r : Option (Int32 × tm_I × tm_L)) (l : Int32) (s : pu_Sp) (T : List Int32) (m : tm_I) (mL : tm_L) (res : Int32 ⊕ pu_Sp) : Prop := ∃ c m1, r = some (c, m1, mL) ∧ pu_KM s.F s.V T m1 ∧ (∀ a, a < 39 → m1 a = m a) ∧ m1 39 12 = m 39 12 ∧
  match res with
  | .inl c' => c = c' ∧ c ≠ 0
  | .inr s' => c = 0 ∧ pu_MOut (f_Mo_obey l (tm_up m1 39 13 0) mL) T (tm_up m1 39 13 0) mL s'
def pu_lim (s : pu_Sp) (res : Int32 ⊕ pu_Sp) : Int32 ⊕ pu_Sp := match res with
  | .inl c => .inl c
  | .inr s' => if 2000 ≤ s.cmds then .inl 10 else .inr s'
theorem pu_TOut.two {r : Option (Int32 × tm_I × tm_L)} {l : Int32} {res : Int32 ⊕ pu_Sp} (h : pu_TOut r l s T m mL res) : pu_TO2 r l s T m mL (pu_lim s res) := by
  obtain ⟨c, m1, h1, h2, h3, h4, h5⟩ := h
  refine ⟨c, m1, h1, h2, h3, h4, ?_⟩
  cases res with
  | inl c' => exact h5
  | inr s' =>
    by_cases q : 2000 ≤ s.cmds
    · simp only [q, ↓reduceIte] at h5
      show (match (if 2000 ≤ s.cmds then (.inl 10 : Int32 ⊕ pu_Sp) else .inr s') with | .inl c' => c = c' ∧ c ≠ 0 | .inr s' => c = 0 ∧ pu_MOut (f_Mo_obey l (tm_up m1 39 13 0) mL) T (tm_up m1 39 13 0) mL s')
      rw [if_pos q]
      exact ⟨h5, by rw [h5]; decide⟩
    · simp only [q, ↓reduceIte] at h5
      show (match (if 2000 ≤ s.cmds then (.inl 10 : Int32 ⊕ pu_Sp) else .inr s') with | .inl c' => c = c' ∧ c ≠ 0 | .inr s' => c = 0 ∧ pu_MOut (f_Mo_obey l (tm_up m1 39 13 0) mL) T (tm_up m1 39 13 0) mL s')
      rw [if_neg q]
      exact h5
theorem pu_TO2.base {m' : tm_I} {r : Option (Int32 × tm_I × tm_L)} {l : Int32} {res : Int32 ⊕ pu_Sp} (h : pu_TO2 r l s T m' mL res) (e1 : ∀ a, a < 39 → m' a = m a) (e2 : m' 39 12 = m 39 12) : pu_TO2 r l s T m mL res := by
  obtain ⟨c, m1, h1, h2, h3, h4, h5⟩ := h
  exact ⟨c, m1, h1, h2, fun a ha => (h3 a ha).trans (e1 a ha), h4.trans e2, h5⟩
theorem pu_onL_on (s : pu_Sp) (a b : List Int32) : pu_pend (pu_onL s a).lv (pu_onL s a).d = a ++ pu_rest s.lv s.d := by
  show pu_pend (pu_fl s.lv s.d a) s.d = _
  rw [pu_pend_on]
theorem pu_mo_b38 {l at_ x2 : Int32} {cs : List Int32} {vs : Nat → Int32} (h : pu_RM (pu_onL s cs) T m) (w : pu_WS s) (b : pu_WB s) (hcs : pu_byteL cs) (hc : s.cmds ≤ 2000) (hm : pu_may s l = true) (hv : pu_agn (pu_manyL l) (m 46) vs) (n : pu_NumOK l vs) (hat : m 39 12 = at_) (hat2 : 0 < s.d → s.outer = at_) (hlen : s.d < 4 → (cs ++ pu_rest s.lv s.d).length ≤ 5300) (hsz : ∀ o ∈ s.os, o.sz ≤ 200) : pu_TO2 (f_Mo_test_b38 l x2 0 m mL) l s T m mL (match pu_dataN l cs with | none => .inl 6 | some (dd, cs2) => pu_lim s (pu_act s l vs dd cs2 at_)) := by
  have eP : pu_pend (pu_onL s cs).lv (pu_onL s cs).d = cs ++ pu_rest s.lv s.d := pu_onL_on s cs cs
  by_cases hl : l = 75 ∨ l = 88
  · have F0 : f_Mo_test_b38 l x2 0 m mL = (f_Mo_takeData m mL).bind fun v4 => f_Mo_test_b60 l v4.1 v4.2.1 v4.2.2 := by
      unfold f_Mo_test_b38 f_Mo_test_b55
      rw [if_neg (by simp)]
      rcases hl with rfl | rfl
      · rw [if_neg (by decide), if_neg (by simp)]
      · rw [if_pos rfl]
    have dn : pu_dataN l cs = pu_spData 201 [] cs := by unfold pu_dataN; rw [if_pos hl]
    have st := h.st
    have l8 := h.l8
    rw [eP] at st l8
    have hbm : pu_bm (cs ++ pu_rest s.lv s.d) := by
      intro x pu_hx
      rcases List.mem_append.mp pu_hx with q | q
      · exact Or.inr (hcs x q)
      · revert q
        cases pu_hd : s.d with
        | zero => intro q; cases q
        | succ d =>
          intro q
          rcases List.mem_cons.mp q with q | q
          · exact Or.inl q
          · exact pu_pend_bm d (fun j hj => b.lv j (by omega)) x q
    have D := pu_mo_data (mL := mL) st hbm 201 tm_F 0 [] (m 47) (by decide) (by decide) (by decide) (fun i hi => absurd hi (Nat.not_lt_zero i))
    rw [Nat.sub_zero, List.drop_zero, pu_data_app (pu_rest_hd s.lv s.d) 201 [] cs hcs] at D
    have ti : f_Mo_takeData m mL = f_Mo_takeData_l5 tm_F (pu_Md m (cs ++ pu_rest s.lv s.d).length (Int32.ofNat ([] : List Int32).length) (m 47)) mL := by
      unfold f_Mo_takeData f_Mo_takeData_b0
      rw [pu_Md_id l8]; rfl
    rw [F0, ti, dn]
    rcases D with ⟨d1, q', z, g', d2⟩ | ⟨acc', q', g', d1, d2, d3, d4⟩
    · cases pu_hd : pu_spData 201 [] cs with
      | some y => rw [pu_hd] at d1; cases d1
      | none =>
        rw [d2, pu_b_some]
        refine ⟨6, pu_Md m ((cs ++ pu_rest s.lv s.d).length - q') z g', (pu_tst_c (l := l) (x2 := 6) (by decide)).1, ?_, fun a ha => pu_Md_o (by omega) (by omega), pu_Md_39 (b := 12) (by decide) (by decide), rfl, by decide⟩
        exact h.k.fr (pu_Md_39 (by decide) (by decide)) (pu_Md_o (by decide) (by decide)) (pu_Md_o (by decide) (by decide)) (pu_Md_o (by decide) (by decide)) (pu_Md_o (by decide) (by decide)) (pu_Md_o (by decide) (by decide))
    · cases pu_hd : pu_spData 201 [] cs with
      | none => rw [pu_hd] at d1; cases d1
      | some y =>
        obtain ⟨dd, cs2⟩ := y
        rw [pu_hd] at d1
        simp only [Option.some.injEq, Prod.mk.injEq] at d1
        obtain ⟨e1, e2⟩ := d1
        subst e1
        rw [d3, pu_b_some]
        simp only []
        have R := h.md (q := q') (cs := cs2) (Int32.ofNat dd.length) g' (by rw [eP, ← e2, show pu_rest (pu_onL s cs).lv (pu_onL s cs).d = pu_rest s.lv s.d from pu_rest_fl (Nat.le_refl _)])
        rw [eP, pu_onL_onL] at R
        have hl2 : s.d < 4 → (cs2 ++ pu_rest s.lv s.d).length ≤ 5300 := fun q => by have := hlen q; rw [e2, List.length_drop]; omega
        refine pu_TO2.base (m' := pu_Md m ((cs ++ pu_rest s.lv s.d).length - q') (Int32.ofNat dd.length) g') (pu_TOut.two (pu_mo_b60 R w hc hm (by rw [pu_Md_o (by decide) (by decide)]; exact hv) n (fun _ => ⟨pu_Md_17 _ _ _ _, fun i hi => ?_, d2⟩) ((pu_Md_39 (by decide) (by decide)).trans hat) hat2 ?_ hsz)) (fun a ha => pu_Md_o (by omega) (by omega)) (pu_Md_39 (by decide) (by decide))
        · rw [pu_Md_47, d4 i hi, List.getElem?_eq_getElem hi]; rfl
        · have := pu_onL_on s cs2 cs2; rw [show (pu_onL s cs2).d = s.d from rfl] at this; rw [this]; exact hl2
  · have dn : pu_dataN l cs = some ([], cs) := by unfold pu_dataN; rw [if_neg hl]
    have F0 : f_Mo_test_b38 l x2 0 m mL = f_Mo_test_b60 l 0 m mL := by
      unfold f_Mo_test_b38
      rw [if_neg (by simp), if_neg (fun e => hl (Or.inr e)), if_pos (fun e => hl (Or.inl e))]
    rw [F0, dn]
    refine pu_TOut.two (pu_mo_b60 h w hc hm hv n (fun q => absurd q hl) hat hat2 ?_ hsz)
    have := pu_onL_on s cs cs; rw [show (pu_onL s cs).d = s.d from rfl] at this; rw [this]; exact hlen
theorem pu_noL {l : Int32} (h : pu_isLet l = true) (h14 : pu_rgi l = 14) : l = 69 ∨ l = 82 ∨ l = 88 ∨ l = 59 := by
  unfold pu_isLet at h
  rw [Bool.or_eq_true] at h
  rcases h with h | h
  · rcases pu_outside_cases h with rfl | rfl | rfl <;> exact absurd h14 (by decide)
  · rcases pu_inside_cases h with rfl | rfl | rfl | rfl | rfl | rfl | rfl | rfl | rfl | rfl | rfl | k | rfl
    · exact absurd h14 (by decide)
    · decide
    · exact absurd h14 (by decide)
    · exact absurd h14 (by decide)
    · exact absurd h14 (by decide)
    · exact absurd h14 (by decide)
    · exact absurd h14 (by decide)
    · decide
    · decide
    · exact absurd h14 (by decide)
    · exact absurd h14 (by decide)
    · rcases k with rfl | rfl | rfl | rfl | rfl | rfl | rfl | rfl | rfl <;> exact absurd h14 (by decide)
    · decide
theorem pu_cmd_eq (s : pu_Sp) (l : Int32) (cs : List Int32) (at_ : Int32) (h1 : pu_isLet l = true) (h2 : pu_may s l = true) : pu_cmd s l cs at_ = match pu_takeN s l cs with
  | .inl c => .inl c
  | .inr (vs, cs1) => match pu_dataN l cs1 with
    | none => .inl 6
    | some (dd, cs2) => pu_lim s (pu_act s l vs dd cs2 at_) := by
  unfold pu_cmd
  rw [h1, h2, if_neg (by decide), if_neg (by decide)]
  rfl
theorem pu_mo_test {l at_ : Int32} {cs : List Int32} (h : pu_RM (pu_onL s cs) T m) (w : pu_WS s) (b : pu_WB s) (hcs : pu_byteL cs) (hc : s.cmds ≤ 2000) (hat : m 39 12 = at_) (hat2 : 0 < s.d → s.outer = at_) (hlen : s.d < 4 → (cs ++ pu_rest s.lv s.d).length ≤ 5300) (hsz : ∀ o ∈ s.os, o.sz ≤ 200) : pu_TO2 (f_Mo_test l m mL) l s T m mL (pu_cmd s l cs at_) := by
  have eP : pu_pend (pu_onL s cs).lv (pu_onL s cs).d = cs ++ pu_rest s.lv s.d := pu_onL_on s cs cs
  cases hl : pu_isLet l with
  | false =>
    unfold pu_cmd
    rw [hl, if_pos rfl]
    refine ⟨2, m, ?_, h.k, fun _ _ => rfl, rfl, rfl, by decide⟩
    unfold f_Mo_test f_Mo_test_b0
    rw [pu_mo_numbersX hl, pu_b_some, if_neg (show ¬ (0 : Int32) ≤ -1 by decide)]
  | true =>
    have hn : ∃ k : Nat, k ≤ 4 ∧ f_Mo_numbers l m mL = some (Int32.ofNat k, m, mL) := by
      by_cases q : pu_rgi l = 14
      · exact ⟨0, by omega, pu_mo_numbers0 (pu_noL hl q)⟩
      · exact ⟨pu_manyL l, (pu_manyL_le (pu_numL_of hl q)).2.1, pu_mo_numbers (pu_numL_of hl q)⟩
    obtain ⟨k, k1, k2⟩ := hn
    have hmay := pu_mo_may (mL := mL) h hl w.d4 (fun q1 q2 => (w.k q1 q2).k)
    rw [show pu_may (pu_onL s cs) l = pu_may s l from rfl] at hmay
    have F0 : f_Mo_test l m mL = if ¬ pu_bi (pu_may s l) = 0 then (f_Mo_takeNumbers l m mL).bind fun v7 => if ¬ v7.1 = 0 then f_Mo_test_b38 l v7.1 v7.1 v7.2.1 v7.2.2 else (f_Mo_testRanges l v7.2.1 v7.2.2).bind fun v8 => f_Mo_test_b38 l v7.1 v8.1 v8.2.1 v8.2.2 else some ((3 : Int32), m, mL) := by
      unfold f_Mo_test f_Mo_test_b0
      rw [k2, pu_b_some, if_pos (by simp (disch := omega) only [pu_n_lit, pu_n_add, pu_n_mul, pu_n_sub, pu_n_div, pu_n_nat, pu_q_ltT, pu_q_ltF, pu_q_leT, pu_q_leF, pu_q_eqT, pu_q_eqF, pu_n_lt, pu_n_le, pu_n_eq, pu_p_ltT, pu_p_ltF, pu_p_leT, pu_p_leF, not_true_eq_false, not_false_eq_true, or_false, false_or, or_true, true_or, and_true, true_and, and_false, false_and, ↓reduceIte, pu_b_some]), hmay, pu_b_some]
    cases hm : pu_may s l with
    | false =>
      unfold pu_cmd
      rw [hl, hm, if_neg (by decide), if_pos rfl, F0, hm, if_neg (by decide)]
      exact ⟨3, m, rfl, h.k, fun _ _ => rfl, rfl, rfl, by decide⟩
    | true =>
      rw [pu_cmd_eq s l cs at_ hl hm, F0, hm, if_pos (by decide)]
      by_cases q14 : pu_rgi l = 14
      · have tk : pu_takeN s l cs = .inr (pu_vz, cs) := by unfold pu_takeN; rw [if_pos q14]
        have n := pu_num_ok tk
        have G1 : f_Mo_takeNumbers l m mL = some (0, m, mL) := by
          rcases pu_noL hl q14 with rfl | rfl | rfl | rfl <;> rfl
        have G2 : f_Mo_testRanges l m mL = some (0, m, mL) := by
          rcases pu_noL hl q14 with rfl | rfl | rfl | rfl <;> rfl
        have m0 : pu_manyL l = 0 := by unfold pu_manyL; rw [q14]; rfl
        rw [G1, pu_b_some, if_neg (by simp), G2, pu_b_some, tk]
        exact pu_mo_b38 h w b hcs hc hm (fun k hk => absurd hk (by rw [m0]; omega)) n hat hat2 hlen hsz
      · have nl := pu_numL_of hl q14
        have st := h.st
        have l8 := h.l8
        rw [eP] at st l8
        have M := pu_mo_tk (mL := mL) nl st (pu_presS s l) s.tx (fun q => ?_) (fun k hk => ?_) 0 (m 46)
        · rw [Nat.sub_zero, pu_Mm_id l8, List.drop_zero, pu_nums_app (pu_rest_hd s.lv s.d), pu_post_app (pu_rest_hd s.lv s.d)] at M
          have tk : pu_takeN s l cs = pu_spTake (pu_rgi l) l (pu_presS s l) cs := by unfold pu_takeN; rw [if_neg q14]
          have tp := pu_take_post (pu_rgi l) l (pu_presS s l) cs
          rw [show (tm_sv (pu_rgi l)).length / 3 = pu_manyL l from rfl] at tp
          rcases M with ⟨a1, q', vs', a2⟩ | ⟨u, vs', q', a1, a2, a3⟩
          · cases hp : pu_spPost l (pu_spNums (pu_manyL l) 0 (pu_presS s l) cs) with
            | some y => rw [hp] at a1; cases a1
            | none =>
              rw [hp] at tp
              rw [tk, tp, a2, pu_b_some, if_pos (show ¬ (4 : Int32) = 0 by decide)]
              refine ⟨4, pu_Mm m ((cs ++ pu_rest s.lv s.d).length - q') vs', ?_, ?_, fun a ha => pu_Mm_o (by omega) (by omega), pu_Mm_39 (b := 12) (by decide), rfl, by decide⟩
              · unfold f_Mo_test_b38
                rw [if_pos (show ¬ (4 : Int32) = 0 by decide)]
                exact (pu_tst_c (l := l) (x2 := 4) (by decide)).1
              · exact h.k.fr (pu_Mm_39 (by decide)) (pu_Mm_o (by decide) (by decide)) (pu_Mm_o (by decide) (by decide)) (pu_Mm_o (by decide) (by decide)) (pu_Mm_o (by decide) (by decide)) (pu_Mm_o (by decide) (by decide))
          · cases hp : pu_spPost l (pu_spNums (pu_manyL l) 0 (pu_presS s l) cs) with
            | none => rw [hp] at a1; cases a1
            | some y =>
              obtain ⟨u', cs1⟩ := y
              rw [hp] at a1 tp
              simp only [Option.some.injEq, Prod.mk.injEq] at a1
              obtain ⟨e1, e2⟩ := a1
              subst e1
              simp only [] at tp
              rw [a3, pu_b_some, if_neg (by simp), pu_mo_ranges nl, pu_b_some]
              simp only []
              rw [pu_rng_agn (pu_rgi l) (pu_manyL l) 0 vs' u' (Nat.le_refl _) a2]
              by_cases hr : pu_inRng (pu_rgi l) u' 0 (pu_manyL l) = true
              · rw [if_pos hr] at tp
                rw [if_pos hr, tk, tp]
                have n := pu_num_ok (tk.trans tp)
                have R := h.mm (q := q') (cs := cs1) vs' (by rw [eP, ← e2, show pu_rest (pu_onL s cs).lv (pu_onL s cs).d = pu_rest s.lv s.d from pu_rest_fl (Nat.le_refl _)])
                rw [eP, pu_onL_onL] at R
                have hl2 : s.d < 4 → (cs1 ++ pu_rest s.lv s.d).length ≤ 5300 := fun q => by have := hlen q; rw [e2, List.length_drop]; omega
                refine pu_TO2.base (m' := pu_Mm m ((cs ++ pu_rest s.lv s.d).length - q') vs') (pu_mo_b38 R w b (pu_take_suf hcs (tk.trans tp)) hc hm (by rw [pu_Mm_46]; exact a2) n ((pu_Mm_39 (by decide)).trans hat) hat2 hl2 hsz) (fun a ha => pu_Mm_o (by omega) (by omega)) (pu_Mm_39 (by decide))
              · rw [if_neg hr] at tp
                rw [if_neg hr, tk, tp]
                refine ⟨5, pu_Mm m ((cs ++ pu_rest s.lv s.d).length - q') vs', ?_, ?_, fun a ha => pu_Mm_o (by omega) (by omega), pu_Mm_39 (b := 12) (by decide), rfl, by decide⟩
                · unfold f_Mo_test_b38
                  rw [if_pos (by decide)]
                  exact (pu_tst_c (l := l) (x2 := 5) (by decide)).1
                · exact h.k.fr (pu_Mm_39 (by decide)) (pu_Mm_o (by decide) (by decide)) (pu_Mm_o (by decide) (by decide)) (pu_Mm_o (by decide) (by decide)) (pu_Mm_o (by decide) (by decide)) (pu_Mm_o (by decide) (by decide))
        · have ho : s.opn = true := by
            cases ho : s.opn
            · unfold pu_may at hm; rw [if_pos ho, q] at hm; exact absurd hm (by decide)
            · rfl
          exact (h.lab ho).1.tx
        · have k4 : k < 4 := Nat.lt_of_lt_of_le hk (pu_manyL_le nl).2.1
          have : k = 0 ∨ k = 1 ∨ k = 2 ∨ k = 3 := by omega
          unfold pu_presS
          by_cases q : l = 84
          · rw [if_pos q, if_pos q]
            rcases this with rfl | rfl | rfl | rfl <;> rfl
          · rw [if_neg q, if_neg q]
            rcases this with rfl | rfl | rfl | rfl <;> rfl
end TST
def pu_OKo (o : pu_Od) : Prop := pu_byteL o.D ∧ (o.kd = 7 → 2 * o.sz ≤ o.D.length ∧ ∀ b ∈ o.D, pu_hx b ≠ -1) ∧ (o.kd ≠ 7 → o.st + o.sz ≤ o.D.length)
theorem pu_ords_ok {R : pu_Fd} (w : pu_FdOK R) : ∀ o ∈ pu_ords R, pu_OKo o := by
  intro o ho
  have hb := w.byt
  have hl := w.len
  by_cases q : R.lt = 87
  · obtain ⟨n, n1, n2, n3⟩ := w.w.w q
    unfold pu_ords pu_linesOf at ho
    rw [if_pos q, n3, pu_n_nat (by omega)] at ho
    obtain ⟨j, p, hp, rfl⟩ := pu_linesO_mem _ _ ho
    have := pu_spLines_ok n1 202 0 (Nat.zero_le _) p hp
    refine ⟨hb, fun e => ?_, fun _ => ?_⟩
    · exact absurd (show (0 : Int32) = 7 from e) (by decide)
    · show p.1 + p.2 ≤ R.D.length
      omega
  · rw [pu_ords_not87 q w.w, List.mem_cons] at ho
    rcases ho with rfl | ho
    · unfold pu_ord1
      rcases w.w.k with k | k | k | k | k | k | k | k | k
      · simp only [k]
        exact ⟨hb, fun e => absurd (show (0 : Int32) = 7 from e) (by decide), fun _ => show 0 + R.D.length ≤ R.D.length by omega⟩
      · exact absurd k q
      · simp only [k]
        exact ⟨hb, fun e => absurd (show (1 : Int32) = 7 from e) (by decide), fun _ => show 0 + R.D.length ≤ R.D.length by omega⟩
      · simp only [k]
        exact ⟨hb, fun e => absurd (show (2 : Int32) = 7 from e) (by decide), fun _ => show 0 + R.D.length ≤ R.D.length by omega⟩
      · simp only [k]
        exact ⟨hb, fun e => absurd (show (3 : Int32) = 7 from e) (by decide), fun _ => show 0 + R.D.length ≤ R.D.length by omega⟩
      · simp only [k]
        exact ⟨hb, fun e => absurd (show (4 : Int32) = 7 from e) (by decide), fun _ => show 0 + 0 ≤ R.D.length by omega⟩
      · simp only [k]
        exact ⟨hb, fun e => absurd (show (5 : Int32) = 7 from e) (by decide), fun _ => show 0 + 0 ≤ R.D.length by omega⟩
      · simp only [k]
        exact ⟨hb, fun e => absurd (show (6 : Int32) = 7 from e) (by decide), fun _ => show 0 + 0 ≤ R.D.length by omega⟩
      · have f := w.fit
        unfold pu_fitF at f
        rw [if_neg (c := R.lt = 78) (by rw [k]; decide), if_pos (c := R.lt = 80) k, Bool.and_eq_true, Bool.and_eq_true, Bool.and_eq_true, List.all_eq_true] at f
        have f3 : ∀ b ∈ R.D, pu_hx b ≠ -1 := fun b hb => of_decide_eq_true (f.2.1 b hb)
        simp only [k]
        exact ⟨hb, fun _ => ⟨show 2 * (R.D.length / 2) ≤ R.D.length by omega, f3⟩, fun e => absurd rfl e⟩
    · split at ho
      · rw [List.mem_singleton] at ho; subst ho
        refine ⟨hb, fun e => ?_, fun _ => ?_⟩
        · exact absurd (show (0 : Int32) = 7 from e) (by decide)
        · show 0 + R.D.length ≤ R.D.length
          omega
      · simp at ho
def pu_LB (s : pu_Sp) (T : List Int32) : Prop := ((s.lv 0).length ≤ T.length) ∧ (∀ j, 0 < j → j ≤ s.d → (s.lv j).length ≤ 400) ∧ (∀ o ∈ s.os, o.sz ≤ 200) ∧ (∀ o ∈ s.os, pu_OKo o)
theorem pu_LB.l0 {s : pu_Sp} {T : List Int32} (h_ : pu_LB s T) : (s.lv 0).length ≤ T.length := h_.1
theorem pu_LB.lj {s : pu_Sp} {T : List Int32} (h_ : pu_LB s T) : ∀ j, 0 < j → j ≤ s.d → (s.lv j).length ≤ 400 := h_.2.1
theorem pu_LB.sz {s : pu_Sp} {T : List Int32} (h_ : pu_LB s T) : ∀ o ∈ s.os, o.sz ≤ 200 := h_.2.2.1
theorem pu_LB.ok {s : pu_Sp} {T : List Int32} (h_ : pu_LB s T) : ∀ o ∈ s.os, pu_OKo o := h_.2.2.2
theorem pu_pend_len {lv : Nat → List Int32} {n : Nat} (h0 : (lv 0).length ≤ n) : ∀ (d : Nat), (∀ j, 0 < j → j ≤ d → (lv j).length ≤ 400) → (pu_pend lv d).length ≤ n + 401 * d
  | 0, _ => by show (lv 0).length ≤ _; omega
  | d + 1, h => by
    have h1 := pu_pend_len h0 d (fun j a b => h j a (by omega))
    have h2 := h (d + 1) (by omega) (by omega)
    show (lv (d + 1) ++ (-1) :: pu_pend lv d).length ≤ _
    rw [List.length_append, List.length_cons]; omega
theorem pu_take_len {s : pu_Sp} {l : Int32} {cs r : List Int32} {vs : Nat → Int32} (h : pu_takeN s l cs = .inr (vs, r)) : r.length ≤ cs.length := by
  have key : ∀ (t i : Nat) (u : Nat → Int32) (cs : List Int32) (u' : Nat → Int32) (r : List Int32), pu_spNums t i u cs = some (u', r) → r.length ≤ cs.length := by
    have tl : ∀ cs : List Int32, cs.tail.length ≤ cs.length := fun cs => by rw [List.length_tail]; omega
    have dig : ∀ (cs : List Int32), (pu_spDig 6 0 0 cs).2.2.length ≤ cs.length := by
      intro cs
      obtain ⟨_, _, _, e⟩ := pu_spDig_spec 6 0 0 cs
      rw [e, List.length_drop]; omega
    intro t
    induction t with
    | zero => intro i u cs u' r h; rw [pu_spNums] at h; cases h; exact Nat.le_refl _
    | succ t ih =>
      intro i u cs u' r h
      rw [pu_spNums] at h
      by_cases q : 0 < i ∧ pu_hd cs ≠ 44
      · rw [if_pos q] at h; cases h; exact Nat.le_refl _
      · rw [if_neg q] at h
        have hb2 : (if 0 < i then cs.tail else cs).length ≤ cs.length := by split; exact tl _; exact Nat.le_refl _
        generalize (if 0 < i then cs.tail else cs) = cs2 at h hb2
        cases ho : pu_spOne (u i) cs2 with
        | none => rw [ho] at h; cases h
        | some z =>
          rw [ho] at h
          refine Nat.le_trans (ih (i + 1) (pu_fu u i z.1) z.2 u' r h) (Nat.le_trans ?_ hb2)
          unfold pu_spOne at ho
          by_cases q1 : pu_hd cs2 = 45
          · rw [if_pos q1] at ho
            by_cases q2 : 5 < (pu_spDig 6 0 0 cs2.tail).2.1 ∨ (pu_spDig 6 0 0 cs2.tail).2.1 = 0
            · rw [if_pos q2] at ho; cases ho
            · rw [if_neg q2] at ho; cases ho; exact Nat.le_trans (dig _) (tl _)
          · rw [if_neg q1] at ho
            by_cases q2 : 5 < (pu_spDig 6 0 0 cs2).2.1
            · rw [if_pos q2] at ho; cases ho
            · rw [if_neg q2] at ho; cases ho; exact dig _
  unfold pu_takeN at h
  by_cases q : pu_rgi l = 14
  · rw [if_pos q] at h; cases h; exact Nat.le_refl _
  · rw [if_neg q] at h
    unfold pu_spTake at h
    cases hn : pu_spNums ((tm_sv (pu_rgi l)).length / 3) 0 (pu_presS s l) cs with
    | none => rw [hn] at h; cases h
    | some z =>
      rw [hn] at h
      have hz := key _ _ _ _ z.1 z.2 hn
      simp only [] at h
      by_cases q1 : ¬ (pu_hd z.2 = 44 ↔ l = 75)
      · rw [if_pos q1] at h; cases h
      · rw [if_neg q1] at h
        by_cases q2 : pu_inRng (pu_rgi l) z.1 0 ((tm_sv (pu_rgi l)).length / 3) = true
        · rw [if_pos q2] at h; cases h
          split
          · rw [List.length_tail]; omega
          · exact hz
        · rw [if_neg q2] at h; cases h
theorem pu_data_len : ∀ (t : Nat) (acc cs acc' r : List Int32), pu_spData t acc cs = some (acc', r) → r.length ≤ cs.length
  | 0, acc, cs, acc', r, h => by rw [pu_spData] at h; cases h
  | t + 1, acc, cs, acc', r, h => by
    rw [pu_spData] at h
    by_cases q1 : pu_hd cs = -1 ∨ pu_hd cs = 94
    · rw [if_pos q1] at h; cases h; exact Nat.le_refl _
    · rw [if_neg q1] at h
      by_cases q2 : (if pu_hd cs = 95 then pu_esc cs else pu_hd cs) = -1 ∨ 200 ≤ acc.length
      · rw [if_pos q2] at h; cases h
      · rw [if_neg q2] at h
        refine Nat.le_trans (pu_data_len t _ _ acc' r h) ?_
        rw [List.length_drop]; omega
theorem pu_LB.on {s : pu_Sp} {T cs : List Int32} (h : pu_LB s T) (hc : cs.length ≤ (s.lv s.d).length) : pu_LB (pu_onL s cs) T := by
  refine ⟨?_, fun j a b => ?_, h.sz, h.ok⟩
  · show (pu_fl s.lv s.d cs 0).length ≤ T.length
    unfold pu_fl
    by_cases q : 0 = s.d
    · rw [if_pos q]; rw [← q] at hc; exact Nat.le_trans hc h.l0
    · rw [if_neg q]; exact h.l0
  · have b : j ≤ s.d := b
    show (pu_fl s.lv s.d cs j).length ≤ 400
    unfold pu_fl
    by_cases q : j = s.d
    · rw [if_pos q]; rw [← q] at hc; exact Nat.le_trans hc (h.lj j a b)
    · rw [if_neg q]; exact h.lj j a b
theorem pu_LB.fr {s s' : pu_Sp} {T : List Int32} (h : pu_LB s T) (e1 : s'.lv = s.lv) (e2 : s'.d = s.d) (e3 : s'.os = s.os) : pu_LB s' T := ⟨by rw [e1]; exact h.l0, by rw [e1, e2]; exact h.lj, by rw [e3]; exact h.sz, by rw [e3]; exact h.ok⟩
theorem pu_cpsO_sz {fs : List pu_Od} (h : ∀ o ∈ fs, o.sz ≤ 200) : ∀ (t c : Nat), ∀ o ∈ pu_cpsO fs c t, o.sz ≤ 200
  | 0, c, o, ho => by simp [pu_cpsO] at ho
  | t + 1, c, o, ho => by
    rw [pu_cpsO] at ho
    rcases List.mem_append.mp ho with q | q
    · obtain ⟨o', h1, rfl⟩ := List.mem_map.mp q
      exact h o' h1
    · exact pu_cpsO_sz h t (c + 1) o q
theorem pu_cpsO_ok {fs : List pu_Od} (h : ∀ o ∈ fs, pu_OKo o) : ∀ (t c : Nat), ∀ o ∈ pu_cpsO fs c t, pu_OKo o
  | 0, c, o, ho => by simp [pu_cpsO] at ho
  | t + 1, c, o, ho => by
    rw [pu_cpsO] at ho
    rcases List.mem_append.mp ho with q | q
    · obtain ⟨o', h1, rfl⟩ := List.mem_map.mp q
      exact h o' h1
    · exact pu_cpsO_ok h t (c + 1) o q
theorem pu_act_lb {s s' : pu_Sp} {T : List Int32} {l : Int32} {vs : Nat → Int32} {dd cs : List Int32} {at_ : Int32} (h : pu_act s l vs dd cs at_ = .inr s') (w : pu_WS s) (b : pu_WB s) (hb : pu_LB s T) (hc : cs.length ≤ (s.lv s.d).length) : pu_LB s' T := by
  have L := hb.on hc
  refine pu_act_elim (P := fun s' => pu_LB s' T) h ?_ ?_ ?_ ?_ ?_ ?_ ?_ ?_ ?_ ?_ ?_ ?_ ?_ ?_ ?_
  · intro k _ _ _
    have := hb.on (cs := cs.drop (k + 2)) (by rw [List.length_drop]; omega)
    exact this.fr rfl rfl rfl
  · intro _; exact L.fr rfl rfl rfl
  · intro _; exact L.fr rfl rfl rfl
  · intro _ _
    refine ⟨L.l0, L.lj, fun o ho => ?_, fun o ho => ?_⟩
    · have ho : o ∈ s.os ++ pu_cpsO (pu_opens s) 0 s.cp := ho
      rcases List.mem_append.mp ho with q | q
      · exact hb.sz o q
      · refine pu_cpsO_sz (fun o ho => ?_) _ _ o q
        obtain ⟨R, r1, r2⟩ := List.mem_flatMap.mp ho
        exact pu_ords_sz (w.fs R r1).w (w.fs R r1).len o r2
    · have ho : o ∈ s.os ++ pu_cpsO (pu_opens s) 0 s.cp := ho
      rcases List.mem_append.mp ho with q | q
      · exact hb.ok o q
      · refine pu_cpsO_ok (fun o ho => ?_) _ _ o q
        obtain ⟨R, r1, r2⟩ := List.mem_flatMap.mp ho
        exact pu_ords_ok (w.fs R r1) o r2
  · intro _ _ _
    refine ⟨?_, fun j a c => ?_, hb.sz, hb.ok⟩
    · show (pu_fl (pu_fl s.lv s.d cs) (s.d + 1) (s.F (vs 0).toNatClampNeg) 0).length ≤ T.length
      rw [pu_fl, if_neg (by omega)]; exact L.l0
    · have c : j ≤ s.d + 1 := c
      show (pu_fl (pu_fl s.lv s.d cs) (s.d + 1) (s.F (vs 0).toNatClampNeg) j).length ≤ 400
      rw [pu_fl]
      by_cases q : j = s.d + 1
      · rw [if_pos q]; exact (b.F _).2
      · rw [if_neg q]; exact L.lj j a (by show j ≤ s.d; omega)
  · intro _; exact L.fr rfl rfl rfl
  · intro _; exact L.fr rfl rfl rfl
  · intro _ _ _ _; exact L.fr rfl rfl rfl
  · intro _; exact L.fr rfl rfl rfl
  · intro _; exact L.fr rfl rfl rfl
  · intro _; exact L.fr rfl rfl rfl
  · intro _; exact L.fr rfl rfl rfl
  · intro _; exact L.fr rfl rfl rfl
  · intro _; exact L.fr rfl rfl rfl
  · intros; exact L.fr rfl rfl rfl
theorem pu_cmd_lb {s s' : pu_Sp} {T : List Int32} {l : Int32} {cs : List Int32} {at_ : Int32} (h : pu_cmd s l cs at_ = .inr s') (w : pu_WS s) (b : pu_WB s) (hb : pu_LB s T) (hc : cs.length ≤ (s.lv s.d).length) : pu_LB s' T := by
  unfold pu_cmd at h
  cases h1 : pu_isLet l
  · rw [h1, if_pos rfl] at h; cases h
  rw [h1, if_neg (by decide)] at h
  cases h2 : pu_may s l
  · rw [h2, if_pos rfl] at h; cases h
  rw [h2, if_neg (by decide)] at h
  cases h3 : pu_takeN s l cs with
  | inl c => rw [h3] at h; cases h
  | inr z =>
    rw [h3] at h
    simp only [] at h
    have hz := pu_take_len h3
    cases h4 : pu_dataN l z.2 with
    | none => rw [h4] at h; cases h
    | some y =>
      rw [h4] at h
      simp only [] at h
      cases h5 : pu_act s l z.1 y.1 y.2 at_ with
      | inl c => rw [h5] at h; cases h
      | inr s2 =>
        rw [h5] at h
        simp only [] at h
        by_cases q : 2000 ≤ s.cmds
        · rw [if_pos q] at h; cases h
        · rw [if_neg q] at h; cases h
          have hy : y.2.length ≤ z.2.length := by
            unfold pu_dataN at h4
            by_cases q2 : l = 75 ∨ l = 88
            · rw [if_pos q2] at h4
              exact pu_data_len 201 [] z.2 y.1 y.2 h4
            · rw [if_neg q2] at h4
              cases h4
              exact Nat.le_refl _
          exact pu_act_lb h5 w b hb (by omega)
theorem pu_act_pos {s : pu_Sp} {l c : Int32} {vs : Nat → Int32} {dd cs : List Int32} {at_ : Int32} (h : pu_act s l vs dd cs at_ = .inl c) : 0 < c := by
  unfold pu_act at h
  by_cases h83 : l = 83
  · rw [if_pos h83] at h
    cases hf : pu_spFind cs 0 with
    | none => rw [hf] at h; cases h; decide
    | some k =>
      rw [hf] at h
      simp only [] at h
      by_cases hk : 400 < k
      · rw [if_pos hk] at h; cases h; decide
      · rw [if_neg hk] at h; cases h
  rw [if_neg h83] at h
  by_cases h75 : l = 75
  · rw [if_pos h75] at h; cases h
  rw [if_neg h75] at h
  by_cases h76 : l = 76
  · rw [if_pos h76] at h; cases h
  rw [if_neg h76] at h
  by_cases h69 : l = 69
  · rw [if_pos h69] at h
    by_cases q : ¬ (s.ls.length + s.cp ≤ 12 ∧ s.os.length + (pu_opens s).length * s.cp ≤ 120)
    · rw [if_pos q] at h; cases h; decide
    · rw [if_neg q] at h; cases h
  rw [if_neg h69] at h
  by_cases h85 : l = 85
  · rw [if_pos h85] at h
    by_cases q : s.F (vs 0).toNatClampNeg = [] ∨ 4 ≤ s.d
    · rw [if_pos q] at h; cases h; decide
    · rw [if_neg q] at h; cases h
  rw [if_neg h85] at h
  by_cases h88 : l = 88
  · rw [if_pos h88] at h; cases h
  rw [if_neg h88] at h
  by_cases h86 : l = 86
  · rw [if_pos h86] at h; cases h
  rw [if_neg h86] at h
  by_cases h59 : l = 59
  · rw [if_pos h59] at h
    by_cases q : pu_fitF (pu_recOf s) = false ∨ pu_okF (pu_recOf s) = false
    · rw [if_pos q] at h; cases h; decide
    · rw [if_neg q] at h
      by_cases q2 : 120 < (pu_opens s).length + (pu_ords (pu_recOf s)).length
      · rw [if_pos q2] at h; cases h; decide
      · rw [if_neg q2] at h; cases h
  rw [if_neg h59] at h
  by_cases h35 : l = 35
  · rw [if_pos h35] at h; cases h
  rw [if_neg h35] at h
  by_cases h67 : l = 67
  · rw [if_pos h67] at h; cases h
  rw [if_neg h67] at h
  by_cases h68 : l = 68
  · rw [if_pos h68] at h; cases h
  rw [if_neg h68] at h
  by_cases h72 : l = 72
  · rw [if_pos h72] at h; cases h
  rw [if_neg h72] at h
  by_cases h79 : l = 79
  · rw [if_pos h79] at h; cases h
  rw [if_neg h79] at h
  by_cases h82 : l = 82
  · rw [if_pos h82] at h; cases h
  rw [if_neg h82] at h
  cases h
theorem pu_cmd_pos {s : pu_Sp} {l c : Int32} {cs : List Int32} {at_ : Int32} (h : pu_cmd s l cs at_ = .inl c) : 0 < c := by
  unfold pu_cmd at h
  cases h1 : pu_isLet l
  · rw [h1, if_pos rfl] at h; cases h; decide
  rw [h1, if_neg (by decide)] at h
  cases h2 : pu_may s l
  · rw [h2, if_pos rfl] at h; cases h; decide
  rw [h2, if_neg (by decide)] at h
  cases h3 : pu_takeN s l cs with
  | inl c' =>
    rw [h3] at h; cases h
    unfold pu_takeN at h3
    by_cases q : pu_rgi l = 14
    · rw [if_pos q] at h3; cases h3
    · rw [if_neg q] at h3
      unfold pu_spTake at h3
      cases hn : pu_spNums ((tm_sv (pu_rgi l)).length / 3) 0 (pu_presS s l) cs with
      | none => rw [hn] at h3; cases h3; decide
      | some z =>
        rw [hn] at h3
        simp only [] at h3
        by_cases q1 : ¬ (pu_hd z.2 = 44 ↔ l = 75)
        · rw [if_pos q1] at h3; cases h3; decide
        · rw [if_neg q1] at h3
          by_cases q2 : pu_inRng (pu_rgi l) z.1 0 ((tm_sv (pu_rgi l)).length / 3) = true
          · rw [if_pos q2] at h3; cases h3
          · rw [if_neg q2] at h3; cases h3; decide
  | inr z =>
    rw [h3] at h
    simp only [] at h
    cases h4 : pu_dataN l z.2 with
    | none => rw [h4] at h; cases h; decide
    | some y =>
      rw [h4] at h
      simp only [] at h
      cases h5 : pu_act s l z.1 y.1 y.2 at_ with
      | inl c' => rw [h5] at h; cases h; exact pu_act_pos h5
      | inr s2 =>
        rw [h5] at h
        simp only [] at h
        by_cases q : 2000 ≤ s.cmds
        · rw [if_pos q] at h; cases h; decide
        · rw [if_neg q] at h; cases h
