section TST
variable {s : pu_Sp} {T : List Int32} {m : tm_I} {mL : tm_L}
theorem pu_mo_may {l : Int32} (h : pu_RM s T m) (hl : pu_isLet l = true) (hd4 : s.d ≤ 4) (hk : s.opn = true → s.lt ≠ -1 → pu_kindL s.lt) : f_Mo_mayStand l m mL = some (pu_bi (pu_may s l), m, mL) := by
  unfold f_Mo_mayStand f_Mo_mayStand_b0 pu_may
  rw [h.op]
  cases hop : s.opn
  · rw [if_neg (by simp [pu_bi]), if_pos rfl]
    unfold f_Mo_mayStand_b25 f_Mo_mayStand_b30
    by_cases h83 : l = 83
    · subst h83; rw [if_pos rfl]; rfl
    · rw [if_neg h83]
      by_cases h75 : l = 75
      · subst h75; rw [if_pos rfl]; rfl
      · rw [if_neg h75]
        by_cases h76 : l = 76
        · subst h76; rw [if_neg (by simp)]; rfl
        · have : pu_idx (tm_tx 0) l = false := by
            cases hq : pu_idx (tm_tx 0) l
            · rfl
            · rcases pu_outside_cases hq with z | z | z
              · exact absurd z h83
              · exact absurd z h75
              · exact absurd z h76
          rw [if_pos h76, this]; rfl
  · rw [if_pos pu_bi_t, if_neg (c := (true = false)) (by decide)]
    unfold f_Mo_mayStand_b56 f_Mo_mayStand_b58 f_Mo_mayStand_b74 f_Mo_mayStand_b79
    by_cases h83 : l = 83
    · subst h83; rw [if_pos rfl]; rfl
    · rw [if_neg h83]
      by_cases h76 : l = 76
      · subst h76; rw [if_pos rfl]; rfl
      · rw [if_neg h76]
        by_cases h69 : l = 69
        · subst h69
          rw [if_neg (by simp), if_pos rfl, h.dep]
          by_cases pu_hd0 : s.d = 0
          · rw [if_pos (by simp (disch := omega) only [pu_n_lit, pu_n_add, pu_n_mul, pu_n_sub, pu_n_div, pu_n_nat, pu_q_ltT, pu_q_ltF, pu_q_leT, pu_q_leF, pu_q_eqT, pu_q_eqF, pu_n_lt, pu_n_le, pu_n_eq, pu_p_ltT, pu_p_ltF, pu_p_leT, pu_p_leF, not_true_eq_false, not_false_eq_true, or_false, false_or, or_true, true_or, and_true, true_and, and_false, false_and, ↓reduceIte, pu_b_some]), if_pos (by decide), decide_eq_true pu_hd0]; rfl
          · rw [if_neg (by simp (disch := omega) only [pu_n_lit, pu_n_add, pu_n_mul, pu_n_sub, pu_n_div, pu_n_nat, pu_q_ltT, pu_q_ltF, pu_q_leT, pu_q_leF, pu_q_eqT, pu_q_eqF, pu_n_lt, pu_n_le, pu_n_eq, pu_p_ltT, pu_p_ltF, pu_p_leT, pu_p_leF, not_true_eq_false, not_false_eq_true, or_false, false_or, or_true, true_or, and_true, true_and, and_false, false_and, ↓reduceIte, pu_b_some]), decide_eq_false pu_hd0]; rfl
        · rw [if_pos h69, if_neg h69]
          by_cases h59 : l = 59
          · subst h59
            obtain ⟨L, F0⟩ := h.lab hop
            rw [if_neg (by simp), if_pos (by decide), pu_tn0, F0.k, if_pos rfl]
            by_cases hm1 : s.lt = -1
            · rw [hm1, if_pos (by decide)]; rfl
            · have kk := hk hop hm1
              have : pu_kd s.lt ≠ -1 := by
                rcases kk with e | e | e | e | e | e | e | e | e <;> rw [e] <;> decide
              rw [if_neg this, decide_eq_true hm1]; rfl
          · rw [if_pos h59, if_neg h59, if_pos (by decide)]
            have : pu_idx (tm_tx 1) l = true := by
              unfold pu_isLet at hl
              rw [Bool.or_eq_true] at hl
              rcases hl with q | q
              · rcases pu_outside_cases q with z | z | z
                · exact absurd z h83
                · rw [z]; decide
                · exact absurd z h76
              · exact q
            rw [this]; rfl
end TST
section TSU
variable {s : pu_Sp} {T : List Int32} {m : tm_I} {mL : tm_L}
theorem pu_RM.cells {m' : tm_I} (h : pu_RM s T m) (q : ∀ a, a ≠ 39 → a ≠ 46 → a ≠ 47 → m' a = m a) (q2 : ∀ b, b ≠ 12 → b ≠ 13 → b ≠ 14 → b ≠ 17 → b ≠ 32 → b ≠ 33 → b ≠ 34 → m' 39 b = m 39 b) (q3 : m' 39 32 = m 39 32) : pu_RM s T m' := by
  have A : ∀ {a}, a ≠ 39 → a ≠ 46 → a ≠ 47 → m' a = m a := fun {a} a1 a2 a3 => q a a1 a2 a3
  have B : ∀ {b}, b ≠ 12 → b ≠ 13 → b ≠ 14 → b ≠ 17 → b ≠ 32 → b ≠ 33 → b ≠ 34 → m' 39 b = m 39 b := fun {b} b1 b2 b3 b4 b5 b6 b7 => q2 b b1 b2 b3 b4 b5 b6 b7
  refine ⟨h.k.fr (B (by decide) (by decide) (by decide) (by decide) (by decide) (by decide) (by decide)) (A (by decide) (by decide) (by decide)) (A (by decide) (by decide) (by decide)) (A (by decide) (by decide) (by decide)) (A (by decide) (by decide) (by decide)) (A (by decide) (by decide) (by decide)), h.st.fr (A (by decide) (by decide) (by decide)), (B (by decide) (by decide) (by decide) (by decide) (by decide) (by decide) (by decide)).trans h.l8, (B (by decide) (by decide) (by decide) (by decide) (by decide) (by decide) (by decide)).trans h.dep, fun z => (B (by decide) (by decide) (by decide) (by decide) (by decide) (by decide) (by decide)).trans (h.out z), (B (by decide) (by decide) (by decide) (by decide) (by decide) (by decide) (by decide)).trans h.cm, (B (by decide) (by decide) (by decide) (by decide) (by decide) (by decide) (by decide)).trans h.op, (B (by decide) (by decide) (by decide) (by decide) (by decide) (by decide) (by decide)).trans h.n35, (B (by decide) (by decide) (by decide) (by decide) (by decide) (by decide) (by decide)).trans h.n37, by rw [A (a := 54) (by decide) (by decide) (by decide)]; exact h.lb, fun K hK => ⟨by rw [A (a := 55) (by decide) (by decide) (by decide)]; exact (h.od K hK).row, by rw [A (a := 56) (by decide) (by decide) (by decide)]; exact (h.od K hK).dat⟩, by rw [q3]; exact h.w32, fun ho => ?_⟩
  obtain ⟨L, F0⟩ := h.lab ho
  exact ⟨⟨(B (by decide) (by decide) (by decide) (by decide) (by decide) (by decide) (by decide)).trans L.w, (B (by decide) (by decide) (by decide) (by decide) (by decide) (by decide) (by decide)).trans L.h, (B (by decide) (by decide) (by decide) (by decide) (by decide) (by decide) (by decide)).trans L.cp, (B (by decide) (by decide) (by decide) (by decide) (by decide) (by decide) (by decide)).trans L.hx, (B (by decide) (by decide) (by decide) (by decide) (by decide) (by decide) (by decide)).trans L.hy, by rw [A (a := 48) (by decide) (by decide) (by decide)]; exact L.tx, (B (by decide) (by decide) (by decide) (by decide) (by decide) (by decide) (by decide)).trans L.nf, (B (by decide) (by decide) (by decide) (by decide) (by decide) (by decide) (by decide)).trans L.md, fun f hf => (L.fs f hf).fr (A (by decide) (by decide) (by decide)) (A (by decide) (by decide) (by decide))⟩, F0.fr (A (by decide) (by decide) (by decide)) (A (by decide) (by decide) (by decide)) rfl rfl rfl rfl rfl rfl rfl rfl⟩
theorem pu_RM.down (h : pu_RM s T m) {q : Nat} {cs : List Int32} (hq : (pu_pend s.lv s.d).drop q = cs ++ pu_rest s.lv s.d) : pu_RM (pu_onL s cs) T (tm_up m 39 8 (Int32.ofNat ((pu_pend s.lv s.d).length - q))) := by
  have A : ∀ {a}, a ≠ 39 → tm_up m 39 8 (Int32.ofNat ((pu_pend s.lv s.d).length - q)) a = m a := fun {a} ha => pu_tm_up_c ha
  have B : ∀ {b}, b ≠ 8 → tm_up m 39 8 (Int32.ofNat ((pu_pend s.lv s.d).length - q)) 39 b = m 39 b := fun {b} hb => tm_up_k hb
  have ep : pu_pend (pu_onL s cs).lv (pu_onL s cs).d = (pu_pend s.lv s.d).drop q := by
    show pu_pend (pu_fl s.lv s.d cs) s.d = _
    rw [pu_pend_on, hq]
  refine ⟨h.k.fr (B (by decide)) (A (by decide)) (A (by decide)) (A (by decide)) (A (by decide)) (A (by decide)), ?_, ?_, (B (by decide)).trans h.dep, fun z => (B (by decide)).trans (h.out z), (B (by decide)).trans h.cm, (B (by decide)).trans h.op, (B (by decide)).trans h.n35, (B (by decide)).trans h.n37, by rw [A (a := 54) (by decide)]; exact h.lb, fun K hK => ⟨by rw [A (a := 55) (by decide)]; exact (h.od K hK).row, by rw [A (a := 56) (by decide)]; exact (h.od K hK).dat⟩, by rw [B (b := 32) (by decide)]; exact h.w32, fun ho => ?_⟩
  · rw [ep]; exact (h.st.drop q).fr (A (by decide))
  · rw [ep, tm_up_eq, List.length_drop]
  · obtain ⟨L, F0⟩ := h.lab ho
    exact ⟨⟨(B (by decide)).trans L.w, (B (by decide)).trans L.h, (B (by decide)).trans L.cp, (B (by decide)).trans L.hx, (B (by decide)).trans L.hy, by rw [A (a := 48) (by decide)]; exact L.tx, (B (by decide)).trans L.nf, (B (by decide)).trans L.md, fun f hf => (L.fs f hf).fr (A (by decide)) (A (by decide))⟩, pu_FldM.fr (s := s) F0 (A (by decide)) (A (by decide)) rfl rfl rfl rfl rfl rfl rfl rfl⟩
theorem pu_RM.mm (h : pu_RM s T m) {q : Nat} {cs : List Int32} (vs : Nat → Int32) (hq : (pu_pend s.lv s.d).drop q = cs ++ pu_rest s.lv s.d) : pu_RM (pu_onL s cs) T (pu_Mm m ((pu_pend s.lv s.d).length - q) vs) := by
  refine (h.down hq).cells (fun a a1 a2 _ => by rw [pu_Mm_o a1 a2, pu_tm_up_c a1]) (fun b _ _ _ _ _ _ _ => ?_) (by rw [pu_Mm_39 (by decide), tm_up_k (by decide)])
  by_cases e : b = 8
  · rw [e, pu_Mm_at, tm_up_eq]
  · rw [pu_Mm_39 e, tm_up_k e]
theorem pu_RM.md (h : pu_RM s T m) {q : Nat} {cs : List Int32} (z : Int32) (g : Nat → Int32) (hq : (pu_pend s.lv s.d).drop q = cs ++ pu_rest s.lv s.d) : pu_RM (pu_onL s cs) T (pu_Md m ((pu_pend s.lv s.d).length - q) z g) := by
  refine (h.down hq).cells (fun a a1 _ a3 => by rw [pu_Md_o a1 a3, pu_tm_up_c a1]) (fun b _ _ _ b3 _ _ _ => ?_) (by rw [pu_Md_39 (by decide) (by decide), tm_up_k (by decide)])
  by_cases e : b = 8
  · rw [e, pu_Md_at, tm_up_eq]
  · rw [pu_Md_39 e b3, tm_up_k e]
theorem pu_tst_c {l x2 : Int32} (h : x2 ≠ 0) : f_Mo_test_b60 l x2 m mL = some (x2, m, mL) ∧ f_Mo_test_b90 l x2 m mL = some (x2, m, mL) ∧ f_Mo_test_b105 l x2 m mL = some (x2, m, mL) ∧ f_Mo_test_b140 l x2 m mL = some (x2, m, mL) ∧ f_Mo_test_b186 l x2 m mL = some (x2, m, mL) := by
  have e5 : f_Mo_test_b186 l x2 m mL = some (x2, m, mL) := by
    unfold f_Mo_test_b186 f_Mo_test_b205 f_Mo_test_b206; rw [if_pos h]
  have e4 : f_Mo_test_b140 l x2 m mL = some (x2, m, mL) := by unfold f_Mo_test_b140; rw [if_pos h]; exact e5
  have e3 : f_Mo_test_b105 l x2 m mL = some (x2, m, mL) := by unfold f_Mo_test_b105; rw [if_pos h]; exact e4
  have e2 : f_Mo_test_b90 l x2 m mL = some (x2, m, mL) := by unfold f_Mo_test_b90; rw [if_pos h]; exact e3
  have e1 : f_Mo_test_b60 l x2 m mL = some (x2, m, mL) := by unfold f_Mo_test_b60; rw [if_pos h]; exact e2
  exact ⟨e1, e2, e3, e4, e5⟩
def pu_lastC (n : Nat) : Int32 := if 2000 ≤ n then 10 else 0
theorem pu_tst_last {l : Int32} {n : Nat} (h : m 39 11 = Int32.ofNat n) (hn : n ≤ 2000) : f_Mo_test_b186 l 0 m mL = some (pu_lastC n, m, mL) := by
  unfold f_Mo_test_b186 f_Mo_test_b205 f_Mo_test_b206 pu_lastC
  rw [if_neg (by simp), h]
  by_cases q : 2000 ≤ n
  · rw [if_pos q, if_neg (by rw [show n = 2000 by omega]; simp)]
  · rw [if_neg q, if_pos (by rw [pu_n_lit 2000, pu_n_eq (by omega) (by omega)]; omega)]
def pu_TOut (r : Option (Int32 × tm_I × tm_L)) (l : Int32) (s : pu_Sp) (T : List Int32) (m : tm_I) (mL : tm_L) (res : Int32 ⊕ pu_Sp) : Prop := ∃ c m1, r = some (c, m1, mL) ∧ pu_KM s.F s.V T m1 ∧ (∀ a, a < 39 → m1 a = m a) ∧ m1 39 12 = m 39 12 ∧
  match res with
  | .inl c' => c = c' ∧ c ≠ 0
  | .inr s' => if 2000 ≤ s.cmds then c = 10 else c = 0 ∧ pu_MOut (f_Mo_obey l (tm_up m1 39 13 0) mL) T (tm_up m1 39 13 0) mL s'
theorem pu_f13 (h : pu_RM s T m) (v : Int32) : pu_RM s T (tm_up m 39 13 v) := h.cells (fun a a1 _ _ => pu_tm_up_c a1) (fun b _ b2 _ _ _ _ _ => tm_up_k b2) (tm_up_k (by decide))
theorem pu_TOut.ok {l : Int32} {r : Option (Int32 × tm_I × tm_L)} {s' : pu_Sp} {m1 : tm_I} (hk : pu_KM s.F s.V T m1) (hr : r = some (pu_lastC s.cmds, m1, mL)) (h1 : ∀ a, a < 39 → m1 a = m a) (h2 : m1 39 12 = m 39 12) (h3 : ¬ 2000 ≤ s.cmds → pu_MOut (f_Mo_obey l (tm_up m1 39 13 0) mL) T (tm_up m1 39 13 0) mL s') : pu_TOut r l s T m mL (.inr s') := by
  refine ⟨_, m1, hr, hk, h1, h2, ?_⟩
  show (if 2000 ≤ s.cmds then pu_lastC s.cmds = 10 else pu_lastC s.cmds = 0 ∧ _)
  unfold pu_lastC
  by_cases q : 2000 ≤ s.cmds
  · rw [if_pos q, if_pos q]
  · rw [if_neg q, if_neg q]; exact ⟨rfl, h3 q⟩
theorem pu_mob_semi2 {m1 : tm_I} {cs : List Int32} (hh : pu_RM (pu_onL s cs) T m) (q : ∀ a, a ≠ 39 → a ≠ 49 → a ≠ 50 → a ≠ 52 → a ≠ 53 → m1 a = m a) (q2 : ∀ b, b ≠ 13 → b ≠ 32 → b ≠ 33 → b ≠ 34 → m1 39 b = m 39 b) (ho : s.opn = true) (h34 : m1 39 34 = Int32.ofNat (pu_ords (pu_recOf s)).length) (hR : pu_RecM m1 s.fs.length (pu_recOf s)) (hRs : ∀ (f : Nat) (hf : f < s.fs.length), pu_RecM m1 f s.fs[f]) (h32 : ∃ w, m1 39 32 = pu_bi w) : pu_MOut (f_Mo_obey 59 m1 mL) T m1 mL (pu_newF (pu_Sp.mk_ (pu_onL s cs).d (pu_onL s cs).lv (pu_onL s cs).outer (pu_onL s cs).cmds (pu_onL s cs).F (pu_onL s cs).V (pu_onL s cs).opn (pu_onL s cs).w (pu_onL s cs).h (pu_onL s cs).hx (pu_onL s cs).hy (pu_onL s cs).cp (pu_onL s cs).tx (pu_onL s cs).lt (pu_onL s cs).fx (pu_onL s cs).fy (pu_onL s cs).t (pu_onL s cs).cnt (pu_onL s cs).sp (pu_onL s cs).D (pu_onL s cs).sh (s.fs ++ [pu_recOf s]) (pu_onL s cs).os (pu_onL s cs).ls)) := by
  obtain ⟨L, F0⟩ := hh.lab ho
  have nf : m1 39 25 = Int32.ofNat s.fs.length := (q2 25 (by decide) (by decide) (by decide) (by decide)).trans L.nf
  have md : m1 39 26 = Int32.ofNat (pu_opens s).length := (q2 26 (by decide) (by decide) (by decide) (by decide)).trans L.md
  generalize hm2 : tm_up (tm_up m1 39 25 (Int32.ofNat (s.fs.length + 1))) 39 26 (Int32.ofNat ((pu_opens s).length + (pu_ords (pu_recOf s)).length)) = m2
  obtain ⟨m', a1, a2, a3, a4⟩ := pu_mo_new (m := m2) (mL := mL)
  have e : f_Mo_obey 59 m1 mL = some (0, m', mL) := by
    unfold f_Mo_obey f_Mo_obey_b0 f_Mo_obey_b207
    rw [if_pos rfl, nf, show Int32.ofNat s.fs.length + 1 = Int32.ofNat (s.fs.length + 1) by rw [pu_n_lit 1, pu_n_add], tm_up_k (show 26 ≠ 25 by decide), tm_up_k (show 34 ≠ 25 by decide), md, h34, pu_n_add, hm2, a1, pu_b_some]
  have c1 : ∀ a, a ≠ 39 → m2 a = m1 a := fun a q1 => by rw [← hm2, pu_tm_up_c q1, pu_tm_up_c q1]
  have c39 : ∀ b, b ≠ 25 → b ≠ 26 → m' 39 b = m1 39 b := fun b q1 q2 => by rw [a2 39 (by decide), ← hm2, tm_up_k q2, tm_up_k q1]
  have A : ∀ {a}, a ≠ 39 → a ≠ 49 → a ≠ 50 → a ≠ 52 → a ≠ 53 → m' a = m a := fun {a} z1 z2 z3 z4 z5 => ((a2 a z2).trans (c1 a z1)).trans (q a z1 z2 z3 z4 z5)
  have B : ∀ {b}, b ≠ 25 → b ≠ 26 → b ≠ 13 → b ≠ 32 → b ≠ 33 → b ≠ 34 → m' 39 b = m 39 b := fun {b} z1 z2 z3 z4 z5 z6 => (c39 b z1 z2).trans (q2 b z3 z4 z5 z6)
  have ops : pu_opens (pu_newF (pu_Sp.mk_ (pu_onL s cs).d (pu_onL s cs).lv (pu_onL s cs).outer (pu_onL s cs).cmds (pu_onL s cs).F (pu_onL s cs).V (pu_onL s cs).opn (pu_onL s cs).w (pu_onL s cs).h (pu_onL s cs).hx (pu_onL s cs).hy (pu_onL s cs).cp (pu_onL s cs).tx (pu_onL s cs).lt (pu_onL s cs).fx (pu_onL s cs).fy (pu_onL s cs).t (pu_onL s cs).cnt (pu_onL s cs).sp (pu_onL s cs).D (pu_onL s cs).sh (s.fs ++ [pu_recOf s]) (pu_onL s cs).os (pu_onL s cs).ls)) = pu_opens s ++ pu_ords (pu_recOf s) := by
    unfold pu_opens; show (s.fs ++ [pu_recOf s]).flatMap pu_ords = _; simp
  refine ⟨m', e, ⟨hh.k.fr (B (by decide) (by decide) (by decide) (by decide) (by decide) (by decide)) (A (by decide) (by decide) (by decide) (by decide) (by decide)) (A (by decide) (by decide) (by decide) (by decide) (by decide)) (A (by decide) (by decide) (by decide) (by decide) (by decide)) (A (by decide) (by decide) (by decide) (by decide) (by decide)) (A (by decide) (by decide) (by decide) (by decide) (by decide)), hh.st.fr (A (by decide) (by decide) (by decide) (by decide) (by decide)), (B (by decide) (by decide) (by decide) (by decide) (by decide) (by decide)).trans hh.l8, (B (by decide) (by decide) (by decide) (by decide) (by decide) (by decide)).trans hh.dep, fun z => (B (by decide) (by decide) (by decide) (by decide) (by decide) (by decide)).trans (hh.out z), (B (by decide) (by decide) (by decide) (by decide) (by decide) (by decide)).trans hh.cm, (B (by decide) (by decide) (by decide) (by decide) (by decide) (by decide)).trans hh.op, (B (by decide) (by decide) (by decide) (by decide) (by decide) (by decide)).trans hh.n35, (B (by decide) (by decide) (by decide) (by decide) (by decide) (by decide)).trans hh.n37, by rw [A (a := 54) (by decide) (by decide) (by decide) (by decide) (by decide)]; exact hh.lb, fun K hK => ⟨by rw [A (a := 55) (by decide) (by decide) (by decide) (by decide) (by decide)]; exact (hh.od K hK).row, by rw [A (a := 56) (by decide) (by decide) (by decide) (by decide) (by decide)]; exact (hh.od K hK).dat⟩, fun _ => by rw [c39 32 (by decide) (by decide)]; exact h32, fun _ => ⟨⟨(B (by decide) (by decide) (by decide) (by decide) (by decide) (by decide)).trans L.w, (B (by decide) (by decide) (by decide) (by decide) (by decide) (by decide)).trans L.h, (B (by decide) (by decide) (by decide) (by decide) (by decide) (by decide)).trans L.cp, (B (by decide) (by decide) (by decide) (by decide) (by decide) (by decide)).trans L.hx, (B (by decide) (by decide) (by decide) (by decide) (by decide) (by decide)).trans L.hy, by rw [A (a := 48) (by decide) (by decide) (by decide) (by decide) (by decide)]; exact L.tx, ?_, ?_, fun f hf => ?_⟩, ⟨a3, fun q => absurd rfl q, ?_, ?_, ?_, ?_, ?_, ?_, fun i hi => absurd hi (Nat.not_lt_zero i)⟩⟩⟩, fun a ha => ((a2 a (by omega)).trans (c1 a (by omega))), c39 13 (by decide) (by decide), c39 12 (by decide) (by decide)⟩
  · show m' 39 25 = Int32.ofNat (s.fs ++ [pu_recOf s]).length
    rw [a2 39 (by decide), ← hm2, tm_up_k (by decide), tm_up_eq, List.length_append]; rfl
  · rw [ops, a2 39 (by decide), ← hm2, tm_up_eq, List.length_append]
  · have hf : f < (s.fs ++ [pu_recOf s]).length := hf
    show pu_RecM m' f (s.fs ++ [pu_recOf s])[f]
    have e50 : m' 50 = m1 50 := (a2 50 (by decide)).trans (c1 50 (by decide))
    have e52 : m' 52 = m1 52 := (a2 52 (by decide)).trans (c1 52 (by decide))
    rw [List.length_append, List.length_singleton] at hf
    by_cases q : f < s.fs.length
    · rw [List.getElem_append_left q]; exact (hRs f q).fr e50 e52
    · have : f = s.fs.length := by omega
      subst this
      rw [List.getElem_append_right (by omega)]
      simp only [Nat.sub_self, List.getElem_cons_zero]
      exact hR.fr e50 e52
  · rw [a4 5 (by decide) (by decide)]; rfl
  · rw [a4 6 (by decide) (by decide)]; rfl
  · rw [a4 7 (by decide) (by decide)]; rfl
  · rw [a4 8 (by decide) (by decide)]; rfl
  · rw [a4 9 (by decide) (by decide)]; rfl
  · rw [a4 10 (by decide) (by decide)]; rfl
theorem pu_mo_b60 {l at_ : Int32} {cs dd : List Int32} {vs : Nat → Int32} (h : pu_RM (pu_onL s cs) T m) (w : pu_WS s) (hc : s.cmds ≤ 2000) (hm : pu_may s l = true) (hv : pu_agn (pu_manyL l) (m 46) vs) (n : pu_NumOK l vs) (hdd : l = 75 ∨ l = 88 → m 39 17 = Int32.ofNat dd.length ∧ (∀ i, i < dd.length → m 47 i = dd[i]?.getD (-1)) ∧ dd.length ≤ 200) (hat : m 39 12 = at_) (hat2 : 0 < s.d → s.outer = at_) (hlen : s.d < 4 → (pu_pend (pu_onL s cs).lv s.d).length ≤ 5300) (hsz : ∀ o ∈ s.os, o.sz ≤ 200) : pu_TOut (f_Mo_test_b60 l 0 m mL) l s T m mL (pu_act s l vs dd cs at_) := by
  have cm : m 39 11 = Int32.ofNat s.cmds := h.cm
  have K : pu_KM s.F s.V T m := h.k
  have h13 := pu_f13 h 0
  have e46 : tm_up m 39 13 0 46 = m 46 := pu_tm_up_c (by decide)
  have e47 : tm_up m 39 13 0 47 = m 47 := pu_tm_up_c (by decide)
  have e17 : tm_up m 39 13 0 39 17 = m 39 17 := tm_up_k (by decide)
  have e12 : tm_up m 39 13 0 39 12 = m 39 12 := tm_up_k (by decide)
  have plain : l ≠ 83 → l ≠ 59 → l ≠ 85 → l ≠ 69 → f_Mo_test_b60 l 0 m mL = some (pu_lastC s.cmds, m, mL) := by
    intro q1 q2 q3 q4
    unfold f_Mo_test_b60 f_Mo_test_b90 f_Mo_test_b105 f_Mo_test_b140
    rw [if_neg (by simp), if_pos q1, if_neg (by simp), if_pos q2, if_neg (by simp), if_pos q3, if_neg (by simp), if_pos q4]
    exact pu_tst_last cm hc
  have ok : ∀ {s' : pu_Sp}, l ≠ 83 → l ≠ 59 → l ≠ 85 → l ≠ 69 → pu_MOut (f_Mo_obey l (tm_up m 39 13 0) mL) T (tm_up m 39 13 0) mL s' → pu_TOut (f_Mo_test_b60 l 0 m mL) l s T m mL (.inr s') := fun q1 q2 q3 q4 hM => pu_TOut.ok K (plain q1 q2 q3 q4) (fun _ _ => rfl) rfl (fun _ => hM)
  unfold pu_act
  unfold pu_may at hm
  by_cases ho : s.opn = false
  · rw [if_pos ho] at hm
    have pu_hd0 : s.d = 0 := by
      rcases Nat.eq_zero_or_pos s.d with q | q
      · exact q
      · rw [w.do_ q] at ho; cases ho
    rcases pu_outside_cases hm with rfl | rfl | rfl
    · rw [if_pos rfl]
      have hp : pu_pend (pu_onL s cs).lv s.d = cs := by
        show pu_pend (pu_fl s.lv s.d cs) s.d = cs
        rw [pu_pend_on, pu_hd0]; simp [pu_rest]
      have st : pu_Stk m cs := by have : pu_Stk m (pu_pend (pu_onL s cs).lv s.d) := h.st; rw [hp] at this; exact this
      have l8 : m 39 8 = Int32.ofNat cs.length := by have : m 39 8 = Int32.ofNat (pu_pend (pu_onL s cs).lv s.d).length := h.l8; rw [hp] at this; exact this
      have fs := pu_mo_form (mL := mL) st (q := 0) (by rw [Nat.sub_zero]; exact l8) (by omega)
      rw [List.drop_zero] at fs
      have hcl := st.1
      cases hz : pu_spFind cs 0 with
      | none =>
        rw [hz] at fs
        have fs : f_Mo_formSize m mL = some (-1, m, mL) := fs
        refine ⟨7, m, ?_, K, fun _ _ => rfl, rfl, rfl, by decide⟩
        unfold f_Mo_test_b60 f_Mo_test_b87
        rw [if_neg (by simp), if_neg (by simp), fs, pu_b_some, if_pos (show (-1 : Int32) < 0 by decide)]
        exact (pu_tst_c (l := 83) (x2 := 7) (by decide)).2.1
      | some z =>
        rw [hz] at fs
        have fs : f_Mo_formSize m mL = some (Int32.ofNat z, m, mL) := fs
        have zl := pu_spFind_lt cs 0 z hz
        simp only []
        by_cases z4 : 400 < z
        · rw [if_pos z4]
          refine ⟨7, m, ?_, K, fun _ _ => rfl, rfl, rfl, by decide⟩
          unfold f_Mo_test_b60 f_Mo_test_b87
          rw [if_neg (by simp), if_neg (by simp), fs, pu_b_some, if_neg (pu_n_nn (by omega))]
          simp only []
          rw [fs, pu_b_some, if_neg (by simp (disch := omega) only [pu_n_lit, pu_n_add, pu_n_mul, pu_n_sub, pu_n_div, pu_n_nat, pu_q_ltT, pu_q_ltF, pu_q_leT, pu_q_leF, pu_q_eqT, pu_q_eqF, pu_n_lt, pu_n_le, pu_n_eq, pu_p_ltT, pu_p_ltF, pu_p_leT, pu_p_leF, not_true_eq_false, not_false_eq_true, or_false, false_or, or_true, true_or, and_true, true_and, and_false, false_and, ↓reduceIte, pu_b_some])]
          exact (pu_tst_c (l := 83) (x2 := 7) (by decide)).2.1
        · rw [if_neg z4]
          refine pu_TOut.ok K ?_ (fun _ _ => rfl) rfl (fun _ => pu_mob_S h13 pu_hd0 ho (by rw [e46]; exact hv) n hz (by omega))
          unfold f_Mo_test_b60
          rw [if_neg (by simp), if_neg (by simp), fs, pu_b_some, if_neg (pu_n_nn (by omega))]
          simp only []
          rw [fs, pu_b_some, if_pos (by simp (disch := omega) only [pu_n_lit, pu_n_add, pu_n_mul, pu_n_sub, pu_n_div, pu_n_nat, pu_q_ltT, pu_q_ltF, pu_q_leT, pu_q_leF, pu_q_eqT, pu_q_eqF, pu_n_lt, pu_n_le, pu_n_eq, pu_p_ltT, pu_p_ltF, pu_p_leT, pu_p_leF, not_true_eq_false, not_false_eq_true, or_false, false_or, or_true, true_or, and_true, true_and, and_false, false_and, ↓reduceIte, pu_b_some])]
          unfold f_Mo_test_b90 f_Mo_test_b105 f_Mo_test_b140
          rw [if_neg (by simp), if_pos (by decide), if_neg (by simp), if_pos (by decide), if_neg (by simp), if_pos (by decide)]
          exact pu_tst_last cm hc
    · obtain ⟨d1, d2, d3⟩ := hdd (Or.inl rfl)
      rw [if_neg (by decide), if_pos rfl]
      exact ok (by decide) (by decide) (by decide) (by decide) (pu_mob_K h13 (by rw [e46]; exact hv) n (by rw [e17]; exact d1) (by rw [e47]; exact d2) d3)
    · rw [if_neg (by decide), if_neg (by decide), if_pos rfl]
      exact ok (by decide) (by decide) (by decide) (by decide) (pu_mob_L h13 w ho (by rw [e46]; exact hv))
  · rw [if_neg ho] at hm
    have ho : s.opn = true := by simpa using ho
    by_cases h69 : l = 69
    · subst h69
      obtain ⟨L, F0⟩ := h.lab ho
      have a35 : m 39 35 = Int32.ofNat s.ls.length := h.n35
      have a37 : m 39 37 = Int32.ofNat s.os.length := h.n37
      have a21 : m 39 21 = Int32.ofNat s.cp := L.cp
      have a26 : m 39 26 = Int32.ofNat (pu_opens s).length := L.md
      obtain ⟨c1, c2⟩ := w.cp ho
      have wl := w.ls
      have wo := w.os
      have wn := w.n
      have hmul : s.cp * (pu_opens s).length = (pu_opens s).length * s.cp := Nat.mul_comm _ _
      have hml : (pu_opens s).length * s.cp ≤ 120 * 12 := Nat.mul_le_mul wn c2
      rw [if_neg (by decide), if_neg (by decide), if_neg (by decide), if_pos rfl]
      have G : f_Mo_test_b60 69 0 m mL = if ¬ (s.ls.length + s.cp ≤ 12 ∧ s.os.length + (pu_opens s).length * s.cp ≤ 120) then some (10, m, mL) else some (pu_lastC s.cmds, m, mL) := by
        unfold f_Mo_test_b60 f_Mo_test_b90 f_Mo_test_b105 f_Mo_test_b140 f_Mo_test_b183
        rw [if_neg (by simp), if_pos (by decide), if_neg (by simp), if_pos (by decide), if_neg (by simp), if_pos (by decide), if_neg (by simp), if_neg (by simp), a35, a37, a21, a26, pu_n_add, pu_n_mul, pu_n_add, hmul, pu_tst_last cm hc, (pu_tst_c (l := 69) (x2 := 10) (by decide)).2.2.2.2]
        by_cases q1 : s.ls.length + s.cp ≤ 12
        · rw [if_neg (by simp (disch := omega) only [pu_n_lit, pu_n_add, pu_n_mul, pu_n_sub, pu_n_div, pu_n_nat, pu_q_ltT, pu_q_ltF, pu_q_leT, pu_q_leF, pu_q_eqT, pu_q_eqF, pu_n_lt, pu_n_le, pu_n_eq, pu_p_ltT, pu_p_ltF, pu_p_leT, pu_p_leF, not_true_eq_false, not_false_eq_true, or_false, false_or, or_true, true_or, and_true, true_and, and_false, false_and, ↓reduceIte, pu_b_some])]
          by_cases q2 : s.os.length + (pu_opens s).length * s.cp ≤ 120
          · rw [if_pos (by simp (disch := omega) only [pu_n_lit, pu_n_add, pu_n_mul, pu_n_sub, pu_n_div, pu_n_nat, pu_q_ltT, pu_q_ltF, pu_q_leT, pu_q_leF, pu_q_eqT, pu_q_eqF, pu_n_lt, pu_n_le, pu_n_eq, pu_p_ltT, pu_p_ltF, pu_p_leT, pu_p_leF, not_true_eq_false, not_false_eq_true, or_false, false_or, or_true, true_or, and_true, true_and, and_false, false_and, ↓reduceIte, pu_b_some]), if_neg (fun z => z ⟨q1, q2⟩)]
          · rw [if_neg (by simp (disch := omega) only [pu_n_lit, pu_n_add, pu_n_mul, pu_n_sub, pu_n_div, pu_n_nat, pu_q_ltT, pu_q_ltF, pu_q_leT, pu_q_leF, pu_q_eqT, pu_q_eqF, pu_n_lt, pu_n_le, pu_n_eq, pu_p_ltT, pu_p_ltF, pu_p_leT, pu_p_leF, not_true_eq_false, not_false_eq_true, or_false, false_or, or_true, true_or, and_true, true_and, and_false, false_and, ↓reduceIte, pu_b_some]), if_pos (fun z => q2 z.2)]
        · rw [if_pos (by simp (disch := omega) only [pu_n_lit, pu_n_add, pu_n_mul, pu_n_sub, pu_n_div, pu_n_nat, pu_q_ltT, pu_q_ltF, pu_q_leT, pu_q_leF, pu_q_eqT, pu_q_eqF, pu_n_lt, pu_n_le, pu_n_eq, pu_p_ltT, pu_p_ltF, pu_p_leT, pu_p_leF, not_true_eq_false, not_false_eq_true, or_false, false_or, or_true, true_or, and_true, true_and, and_false, false_and, ↓reduceIte, pu_b_some]), if_pos (fun z => q1 z.1)]
      rw [G]
      by_cases q : ¬ (s.ls.length + s.cp ≤ 12 ∧ s.os.length + (pu_opens s).length * s.cp ≤ 120)
      · rw [if_pos q, if_pos q]
        exact ⟨10, m, rfl, K, fun _ _ => rfl, rfl, rfl, by decide⟩
      · rw [if_neg q, if_neg q]
        exact pu_TOut.ok K rfl (fun _ _ => rfl) rfl (fun _ => pu_mob_E h13 w ho hsz (Decidable.not_not.mp q))
    · rw [if_neg h69] at hm
      by_cases h59 : l = 59
      · subst h59
        rw [if_pos rfl] at hm
        have hk := of_decide_eq_true hm
        obtain ⟨L, F0⟩ := h.lab ho
        have L' : pu_LabM s m := pu_LabM.fr (s := pu_onL s cs) L rfl rfl rfl rfl rfl rfl rfl rfl rfl rfl rfl
        have F0' : pu_FldM s m := pu_FldM.fr (s := pu_onL s cs) F0 rfl rfl rfl rfl rfl rfl rfl rfl rfl rfl
        obtain ⟨m1, t1, t2, t3, t4⟩ := pu_mo_try (mL := mL) L' F0' w ho hk
        rw [if_neg (by decide), if_neg (by decide), if_neg (by decide), if_neg (by decide), if_neg (by decide), if_neg (by decide), if_neg (by decide), if_pos rfl]
        have K1 : pu_KM s.F s.V T m1 := K.fr (t3 2 (by decide) (by decide) (by decide)) (t2 40 (by decide) (by decide) (by decide) (by decide) (by decide)) (t2 41 (by decide) (by decide) (by decide) (by decide) (by decide)) (t2 42 (by decide) (by decide) (by decide) (by decide) (by decide)) (t2 43 (by decide) (by decide) (by decide) (by decide) (by decide)) (t2 44 (by decide) (by decide) (by decide) (by decide) (by decide))
        have lo : ∀ a, a < 39 → m1 a = m a := fun a ha => t2 a (by omega) (by omega) (by omega) (by omega) (by omega)
        have x12 : m1 39 12 = m 39 12 := t3 12 (by decide) (by decide) (by decide)
        have G : f_Mo_test_b60 59 0 m mL = f_Mo_test_b105 59 (if pu_fitF (pu_recOf s) = false ∨ pu_okF (pu_recOf s) = false then 8 else if 120 < (pu_opens s).length + (pu_ords (pu_recOf s)).length then 10 else 0) m1 mL := by
          unfold f_Mo_test_b60 f_Mo_test_b90
          rw [if_neg (by simp), if_pos (by decide), if_neg (by simp), if_neg (by simp), t1, pu_b_some]
        rw [G]
        by_cases q1 : pu_fitF (pu_recOf s) = false ∨ pu_okF (pu_recOf s) = false
        · rw [if_pos q1, if_pos q1]
          exact ⟨8, m1, (pu_tst_c (l := 59) (x2 := 8) (by decide)).2.2.1, K1, lo, x12, rfl, by decide⟩
        · rw [if_neg q1, if_neg q1]
          by_cases q2 : 120 < (pu_opens s).length + (pu_ords (pu_recOf s)).length
          · rw [if_pos q2, if_pos q2]
            exact ⟨10, m1, (pu_tst_c (l := 59) (x2 := 10) (by decide)).2.2.1, K1, lo, x12, rfl, by decide⟩
          · rw [if_neg q2, if_neg q2]
            have hfit : pu_fitF (pu_recOf s) = true := by
              cases hq : pu_fitF (pu_recOf s)
              · exact absurd (Or.inl hq) q1
              · rfl
            obtain ⟨y1, y2, y3, y4⟩ := t4 hfit
            refine pu_TOut.ok K1 ?_ lo x12 (fun _ => ?_)
            · unfold f_Mo_test_b105 f_Mo_test_b140
              rw [if_neg (by simp), if_pos (by decide), if_neg (by simp), if_pos (by decide)]
              exact pu_tst_last (by rw [t3 11 (by decide) (by decide) (by decide)]; exact cm) hc
            · -- the reference's state after a field was tried
              have u : ∀ a, a ≠ 39 → tm_up m1 39 13 0 a = m1 a := fun a ha => pu_tm_up_c ha
              exact pu_mob_semi2 h (fun a z1 z2 z3 z4 z5 => (u a z1).trans (t2 a z1 z2 z3 z4 z5)) (fun b z1 z2 z3 z4 => (tm_up_k z1).trans (t3 b z2 z3 z4)) ho (by rw [tm_up_k (by decide)]; exact y1) (y2.fr (u 50 (by decide)) (u 52 (by decide))) (fun f hf => (y3 f hf).fr (u 50 (by decide)) (u 52 (by decide))) (by rw [tm_up_k (by decide)]; exact y4)
      · rw [if_neg h59] at hm
        rcases pu_inside_cases hm with rfl | rfl | rfl | rfl | rfl | rfl | rfl | rfl | rfl | rfl | rfl | k | rfl
        · obtain ⟨d1, d2, d3⟩ := hdd (Or.inl rfl)
          rw [if_neg (by decide), if_pos rfl]
          exact ok (by decide) (by decide) (by decide) (by decide) (pu_mob_K h13 (by rw [e46]; exact hv) n (by rw [e17]; exact d1) (by rw [e47]; exact d2) d3)
        · exact absurd rfl h69
        · exact ok (by decide) (by decide) (by decide) (by decide) (pu_mob_H h13 (by rw [e46]; exact hv) ho)
        · exact ok (by decide) (by decide) (by decide) (by decide) (pu_mob_C h13 (by rw [e46]; exact hv) n ho)
        · exact ok (by decide) (by decide) (by decide) (by decide) (pu_mob_D h13 (by rw [e46]; exact hv) ho)
        · -- U
          obtain ⟨k, k1, k2⟩ := n.f (Or.inr rfl)
          have ek : (vs 0).toNatClampNeg = k := by rw [k2, pu_n_nat (by omega)]
          obtain ⟨v1, v2⟩ := h.k.fn k k1
          have v1 : m 42 k = Int32.ofNat (s.F k).length := v1
          have v2 : (s.F k).length ≤ 400 := v2
          have dep : m 39 9 = Int32.ofNat s.d := h.dep
          have d4 := w.d4
          have G : f_Mo_test_b60 85 0 m mL = if s.F k = [] ∨ 4 ≤ s.d then some (9, m, mL) else some (pu_lastC s.cmds, m, mL) := by
            unfold f_Mo_test_b60 f_Mo_test_b90 f_Mo_test_b105 f_Mo_test_b137
            rw [if_neg (by simp), if_pos (by decide), if_neg (by simp), if_pos (by decide), if_neg (by simp), if_neg (by simp), if_pos (by decide), pu_tn0, hv 0 (by decide), k2, if_pos (pu_n_in (by omega) (by omega)), pu_n_nat (by omega), v1, dep, (pu_tst_c (l := 85) (x2 := 9) (by decide)).2.2.2.1]
            have p140 : f_Mo_test_b140 85 0 m mL = some (pu_lastC s.cmds, m, mL) := by
              unfold f_Mo_test_b140
              rw [if_neg (by simp), if_pos (by decide)]
              exact pu_tst_last cm hc
            rw [p140]
            by_cases q1 : s.F k = []
            · rw [if_pos (by rw [q1]; rfl), if_pos (Or.inl q1)]
            · have q3 : (s.F k).length ≠ 0 := by simpa using q1
              rw [if_neg (by rw [pu_n_zero, pu_n_eq (by omega) (by omega)]; exact q3)]
              by_cases q2 : 4 ≤ s.d
              · rw [if_neg (by rw [show s.d = 4 by omega]; simp), if_pos (Or.inr q2)]
              · rw [if_pos (by rw [pu_n_lit 4, pu_n_eq (by omega) (by omega)]; omega), if_neg (fun z => z.elim q1 q2)]
          have ea : (if (85 : Int32) = 83 then (match pu_spFind cs 0 with | none => (.inl 7 : Int32 ⊕ pu_Sp) | some k => if 400 < k then .inl 7 else .inr (pu_Sp.mk_ s.d (pu_fl s.lv s.d (cs.drop (k + 2))) s.outer s.cmds (pu_fl s.F (vs 0).toNatClampNeg (cs.take k)) s.V s.opn s.w s.h s.hx s.hy s.cp s.tx s.lt s.fx s.fy s.t s.cnt s.sp s.D s.sh s.fs s.os s.ls)) else .inl 0) = .inl 0 := if_neg (by decide)
          rw [if_neg (by decide), if_neg (by decide), if_neg (by decide), if_neg (by decide), if_pos rfl, G, ek]
          by_cases q : s.F k = [] ∨ 4 ≤ s.d
          · rw [if_pos q, if_pos q]
            exact ⟨9, m, rfl, K, fun _ _ => rfl, rfl, rfl, by decide⟩
          · rw [if_neg q, if_neg q]
            have MU := pu_mob_U (mL := mL) (at_ := at_) h13 (by rw [e46]; exact hv) n ho (by omega) (hlen (by omega)) (by
              by_cases z : 0 < s.d
              · rw [if_pos z]
              · rw [if_neg z, e12]; exact hat) hat2
            rw [ek] at MU
            exact pu_TOut.ok K rfl (fun _ _ => rfl) rfl (fun _ => MU)
        · exact ok (by decide) (by decide) (by decide) (by decide) (pu_mob_O h13 (by rw [e46]; exact hv) ho)
        · exact ok (by decide) (by decide) (by decide) (by decide) (pu_mob_R h13 ho)
        · obtain ⟨d1, d2, d3⟩ := hdd (Or.inr rfl)
          exact ok (by decide) (by decide) (by decide) (by decide) (pu_mob_X h13 ho (by rw [e17]; exact d1) (by rw [e47]; exact d2) d3)
        · exact ok (by decide) (by decide) (by decide) (by decide) (pu_mob_V h13 (by rw [e46]; exact hv) n ho)
        · exact ok (by decide) (by decide) (by decide) (by decide) (pu_mob_N h13 (by rw [e46]; exact hv) ho)
        · have ne : l ≠ 83 ∧ l ≠ 75 ∧ l ≠ 76 ∧ l ≠ 69 ∧ l ≠ 85 ∧ l ≠ 88 ∧ l ≠ 86 ∧ l ≠ 59 ∧ l ≠ 35 ∧ l ≠ 67 ∧ l ≠ 68 ∧ l ≠ 72 ∧ l ≠ 79 ∧ l ≠ 82 := by
            rcases k with rfl | rfl | rfl | rfl | rfl | rfl | rfl | rfl | rfl <;> decide
          obtain ⟨n1, n2, n3, n4, n5, n6, n7, n8, n9, n10, n11, n12, n13, n14⟩ := ne
          rw [if_neg n1, if_neg n2, if_neg n3, if_neg n4, if_neg n5, if_neg n6, if_neg n7, if_neg n8, if_neg n9, if_neg n10, if_neg n11, if_neg n12, if_neg n13, if_neg n14]
          exact ok n1 n8 n5 n4 (pu_mob_kind k h13 (by rw [e46]; exact hv) ho)
        · exact absurd rfl h59
end TSU
