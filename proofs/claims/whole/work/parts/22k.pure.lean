theorem pu_WFd.cp {R R' : pu_Fd} (h : pu_WFd R) (e1 : R'.lt = R.lt) (e2 : R'.sh = R.sh) : pu_WFd R' :=
  ⟨by rw [e1]; exact h.k, by rw [e1, e2]; exact h.w, by rw [e1, e2]; exact h.p, by rw [e1, e2]; exact h.z3, by rw [e1, e2]; exact h.z1⟩
theorem pu_act_ws {s s' : pu_Sp} {l : Int32} {vs : Nat → Int32} {dd cs : List Int32} {at_ : Int32} (h : pu_act s l vs dd cs at_ = .inr s') (w : pu_WS s) (b : pu_WB s) (hm : pu_may s l = true) (n : pu_NumOK l vs) (hd1 : pu_byteL dd) (hd2 : dd.length ≤ 200) (hcs : pu_byteL cs) : pu_WS s' ∧ pu_WB s' := by
  have fb : ∀ (g : Nat → List Int32) (i : Nat) (v : List Int32) (d : Nat), (∀ j, j ≤ d → pu_byteL (g j)) → pu_byteL v → ∀ j, j ≤ d → pu_byteL (pu_fl g i v j) := by
    intro g i v d h1 h2 j hj; unfold pu_fl; split
    · exact h2
    · exact h1 j hj
  have L1 : ∀ j, j ≤ s.d → pu_byteL ((pu_onL s cs).lv j) := fun j hj => fb s.lv s.d cs s.d b.lv hcs j hj
  have B1 : pu_WB (pu_onL s cs) := ⟨L1, b.F, b.V⟩
  have opn_of : l ≠ 83 → l ≠ 75 → l ≠ 76 → s.opn = true := by
    intro a1 a2 a3
    cases hq : s.opn
    · exfalso
      unfold pu_may at hm; rw [hq, if_pos rfl] at hm
      rcases pu_outside_cases hm with q | q | q
      · exact a1 q
      · exact a2 q
      · exact a3 q
    · rfl
  refine pu_act_elim (P := fun s' => pu_WS s' ∧ pu_WB s') h ?_ ?_ ?_ ?_ ?_ ?_ ?_ ?_ ?_ ?_ ?_ ?_ ?_ ?_ ?_
  · intro k e hf hk
    refine ⟨⟨w.cp, w.k, w.s1, w.s2, w.dl, w.db, w.fs, w.no, w.n, w.d4, w.do_, w.os, w.ls, w.wo⟩, ⟨fb s.lv s.d _ s.d b.lv (fun x pu_hx => hcs x (List.mem_of_mem_drop pu_hx)), fun i => ?_, b.V⟩⟩
    show pu_byteL (pu_fl s.F _ (cs.take k) i) ∧ (pu_fl s.F _ (cs.take k) i).length ≤ 400
    unfold pu_fl
    split
    · exact ⟨fun x pu_hx => hcs x (List.mem_of_mem_take pu_hx), by rw [List.length_take]; omega⟩
    · exact b.F i
  · intro e
    refine ⟨⟨w.cp, w.k, w.s1, w.s2, w.dl, w.db, w.fs, w.no, w.n, w.d4, w.do_, w.os, w.ls, w.wo⟩, ⟨L1, b.F, fun i => ?_⟩⟩
    show pu_byteL (pu_fl s.V _ dd i) ∧ (pu_fl s.V _ dd i).length ≤ 200
    unfold pu_fl
    split
    · exact ⟨hd1, hd2⟩
    · exact b.V i
  · intro e
    have ho : s.opn = false := by
      cases hq : s.opn
      · rfl
      · exfalso; unfold pu_may at hm; rw [hq, e] at hm; revert hm
        simp only [show ((76 : Int32) = 69) = False by decide, show ((76 : Int32) = 59) = False by decide, if_false]
        decide
    have pu_hd0 : s.d = 0 := by
      rcases Nat.eq_zero_or_pos s.d with q | q
      · exact q
      · rw [w.do_ q] at ho; cases ho
    refine ⟨⟨fun _ => ⟨by show 1 ≤ 1; omega, by show 1 ≤ 12; omega⟩, fun _ q => absurd rfl q, fun _ => by show -99 ≤ (0 : Int32).toInt; decide, fun _ => by show (0 : Int32).toInt ≤ 99; decide, fun _ => by show ([] : List Int32).length ≤ 200; simp, fun _ x pu_hx => (by cases pu_hx), fun R hR => (by cases hR), fun q => (by cases q), by show ([] : List pu_Od).length ≤ 120; simp, w.d4, fun _ => rfl, w.os, w.ls, w.wo⟩, B1.lv, b.F, b.V⟩
  · intro e hq
    have ho := opn_of (by rw [e]; decide) (by rw [e]; decide) (by rw [e]; decide)
    have pu_hd0 : s.d = 0 := by
      unfold pu_may at hm
      rw [if_neg (by rw [ho]; decide), if_pos e] at hm
      exact of_decide_eq_true hm
    refine ⟨⟨fun q => (by cases q), fun q => (by cases q), fun q => (by cases q), fun q => (by cases q), fun q => (by cases q), fun q => (by cases q), fun R hR => (by cases hR), fun _ => rfl, by show ([] : List pu_Od).length ≤ 120; simp, w.d4, fun q => by have q : 0 < s.d := q; omega, ?_, ?_, ?_⟩, B1.lv, b.F, b.V⟩
    · show (s.os ++ pu_cpsO (pu_opens s) 0 s.cp).length ≤ 120
      rw [List.length_append, pu_cpsO_len]; exact hq.2
    · show (s.ls ++ pu_cpsL s.w s.h s.os.length (pu_opens s).length 0 s.cp).length ≤ 12
      rw [List.length_append, pu_cpsL_len]; exact hq.1
    · intro o ho2
      have ho2 : o ∈ s.os ++ pu_cpsO (pu_opens s) 0 s.cp := ho2
      rcases List.mem_append.mp ho2 with q | q
      · exact w.wo o q
      · exact pu_cpsO_WO (pu_opens_WO w) _ _ o q
  · intro e hF pu_hd
    have ho := opn_of (by rw [e]; decide) (by rw [e]; decide) (by rw [e]; decide)
    refine ⟨⟨w.cp, w.k, w.s1, w.s2, w.dl, w.db, w.fs, w.no, w.n, by show s.d + 1 ≤ 4; omega, fun _ => ho, w.os, w.ls, w.wo⟩, ⟨?_, b.F, b.V⟩⟩
    intro j hj
    have hj : j ≤ s.d + 1 := hj
    show pu_byteL (pu_fl (pu_fl s.lv s.d cs) (s.d + 1) _ j)
    unfold pu_fl
    by_cases q : j = s.d + 1
    · rw [if_pos q]; exact (b.F _).1
    · rw [if_neg q]; split
      · exact hcs
      · exact b.lv j (by omega)
  · intro e
    exact ⟨⟨w.cp, fun q1 q2 => (w.k q1 q2).cp rfl rfl, w.s1, w.s2, fun _ => hd2, fun _ => hd1, w.fs, w.no, w.n, w.d4, w.do_, w.os, w.ls, w.wo⟩, B1.lv, b.F, b.V⟩
  · intro e
    exact ⟨⟨w.cp, fun q1 q2 => (w.k q1 q2).cp rfl rfl, w.s1, w.s2, fun _ => (b.V _).2, fun _ => (b.V _).1, w.fs, w.no, w.n, w.d4, w.do_, w.os, w.ls, w.wo⟩, B1.lv, b.F, b.V⟩
  · intro e h1 h2 h3
    have ho := opn_of (by rw [e]; decide) (by rw [e]; decide) (by rw [e]; decide)
    have hk : s.lt ≠ -1 := by
      unfold pu_may at hm
      rw [if_neg (by rw [ho]; decide), if_neg (by rw [e]; decide), if_pos e] at hm
      exact of_decide_eq_true hm
    refine ⟨⟨w.cp, fun _ q => absurd rfl q, fun _ => by show -99 ≤ (0 : Int32).toInt; decide, fun _ => by show (0 : Int32).toInt ≤ 99; decide, fun _ => by show ([] : List Int32).length ≤ 200; simp, fun _ x pu_hx => (by cases pu_hx), ?_, fun q => ?_, ?_, w.d4, w.do_, w.os, w.ls, w.wo⟩, B1.lv, b.F, b.V⟩
    · intro R hR
      have hR : R ∈ s.fs ++ [pu_recOf s] := hR
      rcases List.mem_append.mp hR with q | q
      · exact w.fs R q
      · rw [List.mem_singleton] at q
        subst q
        exact ⟨w.k ho hk, h1, h2, w.dl ho, w.db ho, w.s1 ho, w.s2 ho⟩
    · have q : s.opn = false := q
      rw [ho] at q; cases q
    · show ((s.fs ++ [pu_recOf s]).flatMap pu_ords).length ≤ 120
      rw [List.flatMap_append, List.length_append]
      have : (pu_opens s).length = (s.fs.flatMap pu_ords).length := rfl
      simp only [List.flatMap_cons, List.flatMap_nil, List.append_nil]
      omega
  · intro e
    exact ⟨⟨w.cp, fun q1 q2 => (w.k q1 q2).cp rfl rfl, fun _ => (n.n e).1, fun _ => (n.n e).2, w.dl, w.db, w.fs, w.no, w.n, w.d4, w.do_, w.os, w.ls, w.wo⟩, B1.lv, b.F, b.V⟩
  · intro e
    obtain ⟨k, k1, k2, k3⟩ := n.c e
    refine ⟨⟨fun _ => ?_, fun q1 q2 => (w.k q1 q2).cp rfl rfl, w.s1, w.s2, w.dl, w.db, w.fs, w.no, w.n, w.d4, w.do_, w.os, w.ls, w.wo⟩, B1.lv, b.F, b.V⟩
    show 1 ≤ (vs 0).toNatClampNeg ∧ (vs 0).toNatClampNeg ≤ 12
    rw [k3, pu_n_nat (by omega)]; exact ⟨k1, k2⟩
  · intro e
    exact ⟨⟨w.cp, fun q1 q2 => (w.k q1 q2).cp rfl rfl, w.s1, w.s2, w.dl, w.db, w.fs, w.no, w.n, w.d4, w.do_, w.os, w.ls, w.wo⟩, B1.lv, b.F, b.V⟩
  · intro e
    exact ⟨⟨w.cp, fun q1 q2 => (w.k q1 q2).cp rfl rfl, w.s1, w.s2, w.dl, w.db, w.fs, w.no, w.n, w.d4, w.do_, w.os, w.ls, w.wo⟩, B1.lv, b.F, b.V⟩
  · intro e
    exact ⟨⟨w.cp, fun q1 q2 => (w.k q1 q2).cp rfl rfl, w.s1, w.s2, w.dl, w.db, w.fs, w.no, w.n, w.d4, w.do_, w.os, w.ls, w.wo⟩, B1.lv, b.F, b.V⟩
  · intro e
    exact ⟨⟨w.cp, fun q1 q2 => (w.k q1 q2).cp rfl rfl, w.s1, w.s2, w.dl, w.db, w.fs, w.no, w.n, w.d4, w.do_, w.os, w.ls, w.wo⟩, B1.lv, b.F, b.V⟩
  · intro e1 e2 e3 e4 e5 e6 e7 e8 e9 e10 e11 e12 e13 e14
    have ho := opn_of e1 e2 e3
    have hk : pu_kindL l := by
      unfold pu_may at hm
      rw [if_neg (by rw [ho]; decide), if_neg e4, if_neg e8] at hm
      rcases pu_inside_cases hm with q | q | q | q | q | q | q | q | q | q | q | q | q
      · exact absurd q e2
      · exact absurd q e4
      · exact absurd q e12
      · exact absurd q e10
      · exact absurd q e11
      · exact absurd q e5
      · exact absurd q e13
      · exact absurd q e14
      · exact absurd q e6
      · exact absurd q e7
      · exact absurd q e9
      · exact q
      · exact absurd q e8
    exact ⟨⟨w.cp, fun _ _ => ⟨hk, n.w, n.p, n.z3, n.z1⟩, w.s1, w.s2, w.dl, w.db, w.fs, w.no, w.n, w.d4, w.do_, w.os, w.ls, w.wo⟩, B1.lv, b.F, b.V⟩
theorem pu_cmd_ws {s s' : pu_Sp} {l : Int32} {cs : List Int32} {at_ : Int32} (h : pu_cmd s l cs at_ = .inr s') (w : pu_WS s) (b : pu_WB s) (hcs : pu_byteL cs) : pu_WS s' ∧ pu_WB s' ∧ s'.cmds = s.cmds ∧ s.cmds < 2000 := by
  unfold pu_cmd at h
  cases h1 : pu_isLet l
  · rw [h1, if_pos rfl] at h; cases h
  rw [h1, if_neg (by decide)] at h
  cases h2 : pu_may s l
  · rw [h2, if_pos rfl] at h; cases h
  rw [h2, if_neg (by decide)] at h
  cases h3 : pu_takeN s l cs with
  | inl c => rw [h3] at h; cases h
  | inr z =>
    rw [h3] at h
    simp only [] at h
    have hz := pu_take_suf hcs h3
    cases h4 : pu_dataN l z.2 with
    | none => rw [h4] at h; cases h
    | some y =>
      rw [h4] at h
      simp only [] at h
      cases h5 : pu_act s l z.1 y.1 y.2 at_ with
      | inl c => rw [h5] at h; cases h
      | inr s2 =>
        rw [h5] at h
        simp only [] at h
        by_cases q : 2000 ≤ s.cmds
        · rw [if_pos q] at h; cases h
        · rw [if_neg q] at h; cases h
          have hy : pu_byteL y.1 ∧ y.1.length ≤ 200 ∧ pu_byteL y.2 := by
            unfold pu_dataN at h4
            by_cases q2 : l = 75 ∨ l = 88
            · rw [if_pos q2] at h4
              have := pu_data_ok 201 [] z.2 y.1 y.2 (fun x pu_hx => by cases pu_hx) hz (by simp) h4
              exact ⟨this.1, this.2, pu_data_suf 201 [] z.2 y.1 y.2 hz h4⟩
            · rw [if_neg q2] at h4
              cases h4
              exact ⟨fun x pu_hx => (by cases pu_hx), by simp, hz⟩
          have := pu_act_ws h5 w b h2 (pu_num_ok h3) hy.1 hy.2.1 hy.2.2
          exact ⟨this.1, this.2, pu_act_cmds h5, by omega⟩
def pu_blS (s : pu_Sp) : pu_Sp := pu_onL s (pu_blk (s.lv s.d))
def pu_run (T : List Int32) : Nat → pu_Sp → Option ((Int32 × Int32) × pu_Sp)
  | 0, _ => none
  | f + 1, s =>
    if pu_hd (pu_blk (s.lv s.d)) = 94 then
      match pu_cmd (pu_Sp.mk_ (pu_blS s).d (pu_blS s).lv (pu_blS s).outer (s.cmds + 1) (pu_blS s).F (pu_blS s).V (pu_blS s).opn (pu_blS s).w (pu_blS s).h (pu_blS s).hx (pu_blS s).hy (pu_blS s).cp (pu_blS s).tx (pu_blS s).lt (pu_blS s).fx (pu_blS s).fy (pu_blS s).t (pu_blS s).cnt (pu_blS s).sp (pu_blS s).D (pu_blS s).sh (pu_blS s).fs (pu_blS s).os (pu_blS s).ls) (pu_hd (pu_blk (s.lv s.d)).tail) (pu_blk (s.lv s.d)).tail.tail (pu_spotS (pu_blS s) T) with
      | .inl c => some ((c, pu_spotS (pu_blS s) T), pu_blS s)
      | .inr s' => pu_run T f s'
    else if pu_hd (pu_blk (s.lv s.d)) ≠ -1 then some ((1, pu_spotS (pu_blS s) T), pu_blS s)
    else if 0 < s.d then pu_run T f (pu_Sp.mk_ (s.d - 1) (pu_blS s).lv (pu_blS s).outer (pu_blS s).cmds (pu_blS s).F (pu_blS s).V (pu_blS s).opn (pu_blS s).w (pu_blS s).h (pu_blS s).hx (pu_blS s).hy (pu_blS s).cp (pu_blS s).tx (pu_blS s).lt (pu_blS s).fx (pu_blS s).fy (pu_blS s).t (pu_blS s).cnt (pu_blS s).sp (pu_blS s).D (pu_blS s).sh (pu_blS s).fs (pu_blS s).os (pu_blS s).ls)
    else if s.opn = true then some ((11, pu_spotS (pu_blS s) T), pu_blS s)
    else some ((0, -1), pu_blS s)
def pu_mu (s : pu_Sp) : Nat := 2 * (2000 - s.cmds) + s.d + 1
theorem pu_act_d {s s' : pu_Sp} {l : Int32} {vs : Nat → Int32} {dd cs : List Int32} {at_ : Int32} (h : pu_act s l vs dd cs at_ = .inr s') : s'.d ≤ s.d + 1 := by
  refine pu_act_elim (P := fun s' => s'.d ≤ s.d + 1) h ?_ ?_ ?_ ?_ ?_ ?_ ?_ ?_ ?_ ?_ ?_ ?_ ?_ ?_ ?_ <;> intros <;> first | exact Nat.le_succ _ | exact Nat.le_refl _
theorem pu_cmd_d {s s' : pu_Sp} {l : Int32} {cs : List Int32} {at_ : Int32} (h : pu_cmd s l cs at_ = .inr s') : s'.d ≤ s.d + 1 := by
  unfold pu_cmd at h
  cases h1 : pu_isLet l
  · rw [h1, if_pos rfl] at h; cases h
  rw [h1, if_neg (by decide)] at h
  cases h2 : pu_may s l
  · rw [h2, if_pos rfl] at h; cases h
  rw [h2, if_neg (by decide)] at h
  cases h3 : pu_takeN s l cs with
  | inl c => rw [h3] at h; cases h
  | inr z =>
    rw [h3] at h
    simp only [] at h
    cases h4 : pu_dataN l z.2 with
    | none => rw [h4] at h; cases h
    | some y =>
      rw [h4] at h
      simp only [] at h
      cases h5 : pu_act s l z.1 y.1 y.2 at_ with
      | inl c => rw [h5] at h; cases h
      | inr s2 =>
        rw [h5] at h
        simp only [] at h
        by_cases q : 2000 ≤ s.cmds
        · rw [if_pos q] at h; cases h
        · rw [if_neg q] at h; cases h
          exact pu_act_d h5
theorem pu_blk_b {cs : List Int32} (h : pu_byteL cs) : pu_byteL (pu_blk cs) := fun x pu_hx => h x (List.dropWhile_subset _ pu_hx)
theorem pu_WS.bl {s : pu_Sp} (w : pu_WS s) : pu_WS (pu_blS s) := ⟨w.cp, fun q1 q2 => (w.k q1 q2).cp rfl rfl, w.s1, w.s2, w.dl, w.db, w.fs, w.no, w.n, w.d4, w.do_, w.os, w.ls, w.wo⟩
theorem pu_WB.bl {s : pu_Sp} (b : pu_WB s) : pu_WB (pu_blS s) := ⟨fun j hj => by
  show pu_byteL (pu_fl s.lv s.d (pu_blk (s.lv s.d)) j)
  unfold pu_fl; split
  · exact pu_blk_b (b.lv s.d (Nat.le_refl _))
  · exact b.lv j hj, b.F, b.V⟩
section READ
variable {T : List Int32} {mL : tm_L}
def pu_RdC (r : Option (Int32 × tm_I × tm_L)) (T : List Int32) (m : tm_I) (res : (Int32 × Int32) × pu_Sp) : Prop :=
  ∃ m' mL', r = some (if res.1.1 = 0 then Int32.ofNat res.2.ls.length else -1, m', mL') ∧ (∀ a, 39 ≤ a → m' a = m a) ∧ pu_Keep res.2.F res.2.V T m' mL' ∧ m' 0 6 = res.1.1 ∧ m' 0 7 = res.1.2 ∧
    (if res.1.1 = 0 then m' 20 3 = Int32.ofNat res.2.ls.length ∧ m' 20 4 = Int32.ofNat res.2.os.length ∧ (∃ Fc, pu_CN Fc m' mL' 0 res.2.os) ∧ pu_CLb m' res.2.ls else m' 20 3 = 0 ∧ m' 20 4 = 0)
theorem pu_sc_leave {s : pu_Sp} {m : tm_I} {po fo : Nat → Nat} (h : pu_RC s T m mL po fo) : if 0 < s.d then ∃ m', f_Sc_leave m mL = some (1, m', mL) ∧ (∀ a, a ≠ 1 → m' a = m a) ∧ pu_RC (pu_Sp.mk_ (s.d - 1) s.lv s.outer s.cmds s.F s.V s.opn s.w s.h s.hx s.hy s.cp s.tx s.lt s.fx s.fy s.t s.cnt s.sp s.D s.sh s.fs s.os s.ls) T m' mL po fo else f_Sc_leave m mL = some (0, m, mL) := by
  have d4 := h.scr.d4
  have dep := h.scr.dep
  by_cases pu_hd : 0 < s.d
  · rw [if_pos pu_hd]
    have e : f_Sc_leave m mL = some (1, tm_up (tm_up (tm_up m 1 4 (Int32.ofNat (s.d - 1))) 1 5 (m 8 (s.d - 1))) 1 6 (m 9 (s.d - 1)), mL) := by
      unfold f_Sc_leave f_Sc_leave_b0
      simp (disch := omega) only [pu_n_lit, pu_n_add, pu_n_mul, pu_n_sub, pu_n_div, pu_n_nat, pu_q_ltT, pu_q_ltF, pu_q_leT, pu_q_leF, pu_q_eqT, pu_q_eqF, pu_n_lt, pu_n_le, pu_n_eq, pu_p_ltT, pu_p_ltF, pu_p_leT, pu_p_leF, not_true_eq_false, not_false_eq_true, or_false, false_or, or_true, true_or, and_true, true_and, and_false, false_and, ↓reduceIte, pu_b_some, dep, tm_up_o, tm_up_k, tm_up_eq]
    refine ⟨_, e, fun a ha => by rw [pu_tm_up_c ha, pu_tm_up_c ha, pu_tm_up_c ha], ?_⟩
    generalize hm' : tm_up (tm_up (tm_up m 1 4 (Int32.ofNat (s.d - 1))) 1 5 (m 8 (s.d - 1))) 1 6 (m 9 (s.d - 1)) = m'
    have co : ∀ a, a ≠ 1 → m' a = m a := fun a ha => by rw [← hm', pu_tm_up_c ha, pu_tm_up_c ha, pu_tm_up_c ha]
    refine ⟨h.k.fr (fun a ha => co a (by unfold pu_kpc at ha; omega)) (fun _ _ => rfl), ⟨by show s.d - 1 ≤ 4; omega, ?_, ?_, fun q => ?_, fun q => ?_, fun j hj => ?_, fun j h0 hj => ?_, fun j hj => h.scr.lv j (by have hj : j ≤ s.d - 1 := hj; omega), fun j h0 hj => h.scr.f8 j h0 (by have hj : j ≤ s.d - 1 := hj; omega)⟩, ?_, ?_, h.res.fr (co 20 (by decide)) (co 21 (by decide)) (co 22 (by decide)) (co 24 (by decide)) rfl, fun ho => pu_RLab.fr (s := s) (h.lab ho) (co 19 (by decide)) (co 26 (by decide)) (co 28 (by decide)) (co 31 (by decide)) (co 33 (by decide)) rfl⟩
    · rw [← hm']; simp [tm_up]
    · rw [← hm', tm_up_eq]; exact h.scr.s9 (s.d - 1) (by omega)
    · have q : 0 < s.d - 1 := q
      rw [← hm', tm_up_k (by decide), tm_up_eq]; exact h.scr.s8 (s.d - 1) q (by omega)
    · have q : 0 < s.d - 1 := q
      rw [← hm', tm_up_k (by decide), tm_up_k (by decide), tm_up_k (by decide)]; exact h.scr.out pu_hd
    · have hj : j < s.d - 1 := hj
      rw [co 9 (by decide)]; exact h.scr.s9 j (by omega)
    · have hj : j < s.d - 1 := hj
      rw [co 8 (by decide)]; exact h.scr.s8 j h0 (by omega)
    · rw [co 0 (by decide)]; exact h.cm
    · rw [co 19 (by decide)]; exact h.op
  · rw [if_neg pu_hd]
    unfold f_Sc_leave f_Sc_leave_b0 f_Sc_leave_b16
    simp (disch := omega) only [pu_n_lit, pu_n_add, pu_n_mul, pu_n_sub, pu_n_div, pu_n_nat, pu_q_ltT, pu_q_ltF, pu_q_leT, pu_q_leF, pu_q_eqT, pu_q_eqF, pu_n_lt, pu_n_le, pu_n_eq, pu_p_ltT, pu_p_ltF, pu_p_leT, pu_p_leF, not_true_eq_false, not_false_eq_true, or_false, false_or, or_true, true_or, and_true, true_and, and_false, false_and, ↓reduceIte, pu_b_some, dep]
theorem pu_la_fin {m : tm_I} {x1 x2 : Int32} : f_La_read_b125 x1 x2 m mL = if m 0 6 = 0 then some (m 20 3, m, mL) else some (-1, tm_up (tm_up (tm_up (tm_up m 20 3 0) 20 4 0) 20 5 0) 20 6 0, mL) := by
  unfold f_La_read_b125 f_Sh_clear f_Sh_clear_b0
  by_cases h : m 0 6 = 0
  · rw [if_pos h, if_pos h]
  · rw [if_neg h, if_neg h]; rfl
theorem pu_la_tell (c p : Int32) {m : tm_I} : f_La_tell c p m mL = some (0, if c = 0 then m else tm_up (tm_up m 0 6 c) 0 7 p, mL) := by
  unfold f_La_tell f_La_tell_b0 f_La_tell_b14
  by_cases h : c = 0
  · rw [if_pos h, if_pos h]
  · rw [if_neg h, if_neg h]
theorem pu_la_run : ∀ (f : Nat) (s : pu_Sp) (m : tm_I) (mL : tm_L) (po fo : Nat → Nat) (turn N : Nat), pu_RC s T m mL po fo → pu_WS s → pu_WB s → s.cmds < 2000 → pu_mu s ≤ f → turn + f ≤ 9999 → f + 1 < N → m 0 6 = 0 → m 0 7 = -1 →
    ∃ res, pu_run T f s = some res ∧ pu_RdC (f_La_read_l8 N 1 (Int32.ofNat turn) m mL) T m res := by
  intro f
  induction f with
  | zero => intro s m mL po fo turn N h w b hc hmu; unfold pu_mu at hmu; omega
  | succ f ih =>
    intro s m mL po fo turn N h w b hc hmu ht hN h6 h7
    obtain ⟨N, rfl⟩ : ∃ n', N = n' + 1 := ⟨N - 1, by omega⟩
    have hlv := h.scr.lv s.d (Nat.le_refl _)
    have hsrc := h.src
    have hS := hsrc.le
    obtain ⟨p', b1, b2, b3, b4⟩ := pu_sc_blanks hsrc h.scr.at_ hlv.2
    rw [← hlv.1] at b1
    have R1 : pu_RC (pu_blS s) T (tm_up m 1 6 (Int32.ofNat p')) mL (pu_fup po s.d p') fo := by
      have := h.mv b3
      rw [b1] at this; exact this
    generalize hm1 : tm_up m 1 6 (Int32.ofNat p') = m1 at *
    have o1 : ∀ a, a ≠ 1 → m1 a = m a := fun a ha => by rw [← hm1, pu_tm_up_c ha]
    have at1 : m1 1 6 = Int32.ofNat p' := by rw [← hm1, tm_up_eq]
    have sp := pu_sc_spot R1
    have src1 : pu_Src m1 mL (pu_srcL s.F T fo s.d) := R1.src
    have hh : f_Sc_ahead 0 m1 mL = some (pu_hd (pu_blk (s.lv s.d)), m1, mL) := by
      have := pu_sc_hd src1 at1 (by omega)
      rw [b1] at this; exact this
    have K1 : pu_Keep s.F s.V T m1 mL := R1.k
    have F0 : f_La_read_l8 (N + 1) 1 (Int32.ofNat turn) m mL = if ¬ pu_hd (pu_blk (s.lv s.d)) = (94 : Int32) then if pu_hd (pu_blk (s.lv s.d)) = (-1 : Int32) then (f_Sc_leave m1 mL).bind fun v6 => if ¬ v6.1 = 0 then f_La_read_l8 N 1 (Int32.ofNat (turn + 1)) v6.2.1 v6.2.2 else if (v6.2.1 19 5) = 0 then f_La_read_b113 (f_La_read_l8 N) 1 (Int32.ofNat turn) (pu_spotS (pu_blS s) T) (pu_hd (pu_blk (s.lv s.d))) (0 : Int32) v6.2.1 v6.2.2 else f_La_read_b113 (f_La_read_l8 N) 1 (Int32.ofNat turn) (pu_spotS (pu_blS s) T) (pu_hd (pu_blk (s.lv s.d))) (11 : Int32) v6.2.1 v6.2.2 else (f_La_tell (1 : Int32) (pu_spotS (pu_blS s) T) m1 mL).bind fun v7 => f_La_read_l8 N 1 (Int32.ofNat (turn + 1)) v7.2.1 v7.2.2 else (f_La_takeCommand (pu_spotS (pu_blS s) T) m1 mL).bind fun v8 => (f_La_tell v8.1 (pu_spotS (pu_blS s) T) v8.2.1 v8.2.2).bind fun v9 => f_La_read_l8 N 1 (Int32.ofNat (turn + 1)) v9.2.1 v9.2.2 := by
      rw [f_La_read_l8, if_neg (by decide), if_neg (by rw [h6]; simp), if_neg (by simp (disch := omega) only [pu_n_lit, pu_n_add, pu_n_mul, pu_n_sub, pu_n_div, pu_n_nat, pu_q_ltT, pu_q_ltF, pu_q_leT, pu_q_leF, pu_q_eqT, pu_q_eqF, pu_n_lt, pu_n_le, pu_n_eq, pu_p_ltT, pu_p_ltF, pu_p_leT, pu_p_leF, not_true_eq_false, not_false_eq_true, or_false, false_or, or_true, true_or, and_true, true_and, and_false, false_and, ↓reduceIte, pu_b_some]), b4, pu_b_some]
      simp only []
      rw [sp, pu_b_some]
      simp only []
      rw [hh, pu_b_some]
      unfold f_La_read_b119
      rw [pu_n_lit 1, pu_n_add]
    have flt : ∀ (c : Int32) (s2 : pu_Sp) (m2 : tm_I) (mL2 : tm_L) (x1 : Int32), c ≠ 0 → pu_Keep s2.F s2.V T m2 mL2 → (∀ a, 39 ≤ a → m2 a = m a) → pu_RdC (f_La_read_l8 N x1 (Int32.ofNat (turn + 1)) (tm_up (tm_up m2 0 6 c) 0 7 (pu_spotS (pu_blS s) T)) mL2) T m ((c, pu_spotS (pu_blS s) T), s2) := by
      intro c s2 m2 mL2 x1 hc0 hk ho
      obtain ⟨N', rfl⟩ : ∃ n', N = n' + 1 := ⟨N - 1, by omega⟩
      have e6 : tm_up (tm_up m2 0 6 c) 0 7 (pu_spotS (pu_blS s) T) 0 6 = c := by rw [tm_up_k (by decide), tm_up_eq]
      have F1 : f_La_read_l8 (N' + 1) x1 (Int32.ofNat (turn + 1)) (tm_up (tm_up m2 0 6 c) 0 7 (pu_spotS (pu_blS s) T)) mL2 = f_La_read_b125 x1 (Int32.ofNat (turn + 1)) (tm_up (tm_up m2 0 6 c) 0 7 (pu_spotS (pu_blS s) T)) mL2 := by
        rw [f_La_read_l8]
        by_cases q : x1 = 0
        · rw [if_pos q]
        · rw [if_neg q, if_pos (by rw [e6]; exact hc0)]
      rw [F1, pu_la_fin, e6, if_neg hc0]
      refine ⟨tm_up (tm_up (tm_up (tm_up (tm_up (tm_up m2 0 6 c) 0 7 (pu_spotS (pu_blS s) T)) 20 3 0) 20 4 0) 20 5 0) 20 6 0, mL2, ?_, fun a ha => ?_, ?_, ?_, ?_, ?_⟩
      · rw [if_neg hc0]
      · rw [pu_tm_up_c (by omega), pu_tm_up_c (by omega), pu_tm_up_c (by omega), pu_tm_up_c (by omega), pu_tm_up_c (by omega), pu_tm_up_c (by omega), ho a ha]
      · exact hk.fr (fun a ha => by unfold pu_kpc at ha; rw [pu_tm_up_c (by omega), pu_tm_up_c (by omega), pu_tm_up_c (by omega), pu_tm_up_c (by omega), pu_tm_up_c (by omega), pu_tm_up_c (by omega)]) (fun _ _ => rfl)
      · rw [tm_up_o (by decide), tm_up_o (by decide), tm_up_o (by decide), tm_up_o (by decide), e6]
      · rw [tm_up_o (by decide), tm_up_o (by decide), tm_up_o (by decide), tm_up_o (by decide), tm_up_eq]
      · rw [if_neg hc0]
        exact ⟨by simp [tm_up], by simp [tm_up]⟩
    rw [F0, pu_run]
    by_cases q94 : pu_hd (pu_blk (s.lv s.d)) = 94
    · rw [if_neg (c := ¬ pu_hd (pu_blk (s.lv s.d)) = 94) (fun z => z q94), if_pos (c := pu_hd (pu_blk (s.lv s.d)) = 94) q94]
      obtain ⟨r, hr⟩ := pu_hd_cons q94 (by decide)
      have hcs : (pu_blS s).lv (pu_blS s).d = 94 :: r := by
        show pu_fl s.lv s.d (pu_blk (s.lv s.d)) s.d = 94 :: r
        unfold pu_fl; rw [if_pos rfl, hr]
      have CM := pu_la_cmd (at_ := pu_spotS (pu_blS s) T) R1 w.bl hc hcs
      have ec : ((pu_Sp.mk_ (pu_blS s).d (pu_blS s).lv (pu_blS s).outer ((pu_blS s).cmds + 1) (pu_blS s).F (pu_blS s).V (pu_blS s).opn (pu_blS s).w (pu_blS s).h (pu_blS s).hx (pu_blS s).hy (pu_blS s).cp (pu_blS s).tx (pu_blS s).lt (pu_blS s).fx (pu_blS s).fy (pu_blS s).t (pu_blS s).cnt (pu_blS s).sp (pu_blS s).D (pu_blS s).sh (pu_blS s).fs (pu_blS s).os (pu_blS s).ls) : pu_Sp) = (pu_Sp.mk_ (pu_blS s).d (pu_blS s).lv (pu_blS s).outer (s.cmds + 1) (pu_blS s).F (pu_blS s).V (pu_blS s).opn (pu_blS s).w (pu_blS s).h (pu_blS s).hx (pu_blS s).hy (pu_blS s).cp (pu_blS s).tx (pu_blS s).lt (pu_blS s).fx (pu_blS s).fy (pu_blS s).t (pu_blS s).cnt (pu_blS s).sp (pu_blS s).D (pu_blS s).sh (pu_blS s).fs (pu_blS s).os (pu_blS s).ls) := rfl
      rw [ec] at CM
      rw [hr]
      show ∃ res, (match pu_cmd (pu_Sp.mk_ (pu_blS s).d (pu_blS s).lv (pu_blS s).outer (s.cmds + 1) (pu_blS s).F (pu_blS s).V (pu_blS s).opn (pu_blS s).w (pu_blS s).h (pu_blS s).hx (pu_blS s).hy (pu_blS s).cp (pu_blS s).tx (pu_blS s).lt (pu_blS s).fx (pu_blS s).fy (pu_blS s).t (pu_blS s).cnt (pu_blS s).sp (pu_blS s).D (pu_blS s).sh (pu_blS s).fs (pu_blS s).os (pu_blS s).ls) (pu_hd r) r.tail (pu_spotS (pu_blS s) T) with | .inl c => some ((c, pu_spotS (pu_blS s) T), pu_blS s) | .inr s' => pu_run T f s') = some res ∧ _
      obtain ⟨c, m', mL', c1, c2, c3, c4⟩ := CM
      rw [c1, pu_b_some]
      simp only []
      rw [pu_la_tell, pu_b_some]
      simp only []
      cases hcm : pu_cmd (pu_Sp.mk_ (pu_blS s).d (pu_blS s).lv (pu_blS s).outer (s.cmds + 1) (pu_blS s).F (pu_blS s).V (pu_blS s).opn (pu_blS s).w (pu_blS s).h (pu_blS s).hx (pu_blS s).hy (pu_blS s).cp (pu_blS s).tx (pu_blS s).lt (pu_blS s).fx (pu_blS s).fy (pu_blS s).t (pu_blS s).cnt (pu_blS s).sp (pu_blS s).D (pu_blS s).sh (pu_blS s).fs (pu_blS s).os (pu_blS s).ls) (pu_hd r) r.tail (pu_spotS (pu_blS s) T) with
      | inl c' =>
        rw [hcm] at c4
        obtain ⟨d1, d2, d3⟩ := c4
        subst d1
        refine ⟨_, rfl, ?_⟩
        rw [if_neg d2]
        exact flt c (pu_blS s) m' mL' 1 d2 d3 (fun a ha => (c2 a ha).trans (o1 a (by omega)))
      | inr s' =>
        rw [hcm] at c4
        obtain ⟨d1, po', fo', d2⟩ := c4
        subst d1
        rw [if_pos rfl]
        have wb : pu_WS (pu_Sp.mk_ (pu_blS s).d (pu_blS s).lv (pu_blS s).outer (s.cmds + 1) (pu_blS s).F (pu_blS s).V (pu_blS s).opn (pu_blS s).w (pu_blS s).h (pu_blS s).hx (pu_blS s).hy (pu_blS s).cp (pu_blS s).tx (pu_blS s).lt (pu_blS s).fx (pu_blS s).fy (pu_blS s).t (pu_blS s).cnt (pu_blS s).sp (pu_blS s).D (pu_blS s).sh (pu_blS s).fs (pu_blS s).os (pu_blS s).ls) := ⟨w.cp, fun q1 q2 => (w.k q1 q2).cp rfl rfl, w.s1, w.s2, w.dl, w.db, w.fs, w.no, w.n, w.d4, w.do_, w.os, w.ls, w.wo⟩
        have bb : pu_WB (pu_Sp.mk_ (pu_blS s).d (pu_blS s).lv (pu_blS s).outer (s.cmds + 1) (pu_blS s).F (pu_blS s).V (pu_blS s).opn (pu_blS s).w (pu_blS s).h (pu_blS s).hx (pu_blS s).hy (pu_blS s).cp (pu_blS s).tx (pu_blS s).lt (pu_blS s).fx (pu_blS s).fy (pu_blS s).t (pu_blS s).cnt (pu_blS s).sp (pu_blS s).D (pu_blS s).sh (pu_blS s).fs (pu_blS s).os (pu_blS s).ls) := ⟨b.bl.lv, b.F, b.V⟩
        have hrb : pu_byteL r.tail := by
          have : pu_byteL (pu_blk (s.lv s.d)) := pu_blk_b (b.lv s.d (Nat.le_refl _))
          rw [hr] at this
          exact fun x pu_hx => this x (List.mem_cons_of_mem _ (List.mem_of_mem_tail pu_hx))
        obtain ⟨w1, w2, w3, w4⟩ := pu_cmd_ws hcm wb bb hrb
        have wd := pu_cmd_d hcm
        have w3 : s'.cmds = s.cmds + 1 := w3
        have w4 : s.cmds + 1 < 2000 := w4
        have wd : s'.d ≤ s.d + 1 := wd
        obtain ⟨res, r1, r2⟩ := ih s' m' mL' po' fo' (turn + 1) N d2 w1 w2 (by omega) (by unfold pu_mu at *; omega) (by omega) (by omega) (by rw [c3 6 (by decide), o1 0 (by decide)]; exact h6) (by rw [c3 7 (by decide), o1 0 (by decide)]; exact h7)
        refine ⟨res, r1, ?_⟩
        obtain ⟨m3, mL3, t1, t2, t3⟩ := r2
        exact ⟨m3, mL3, t1, fun a ha => (t2 a ha).trans ((c2 a ha).trans (o1 a (by omega))), t3⟩
    · rw [if_pos (c := ¬ pu_hd (pu_blk (s.lv s.d)) = 94) q94, if_neg (c := pu_hd (pu_blk (s.lv s.d)) = 94) q94]
      by_cases q1 : pu_hd (pu_blk (s.lv s.d)) = -1
      · rw [if_pos (c := pu_hd (pu_blk (s.lv s.d)) = -1) q1, if_neg (c := pu_hd (pu_blk (s.lv s.d)) ≠ -1) (fun z => z q1)]
        have LV := pu_sc_leave R1
        by_cases pu_hd0 : 0 < s.d
        · have hd0' : 0 < (pu_blS s).d := pu_hd0
          rw [if_pos hd0'] at LV
          obtain ⟨m2, l1, l2, l3⟩ := LV
          rw [if_pos pu_hd0, l1, pu_b_some, if_pos (show ¬ (1 : Int32) = 0 by decide)]
          simp only []
          have wb : pu_WS (pu_Sp.mk_ (s.d - 1) (pu_blS s).lv (pu_blS s).outer (pu_blS s).cmds (pu_blS s).F (pu_blS s).V (pu_blS s).opn (pu_blS s).w (pu_blS s).h (pu_blS s).hx (pu_blS s).hy (pu_blS s).cp (pu_blS s).tx (pu_blS s).lt (pu_blS s).fx (pu_blS s).fy (pu_blS s).t (pu_blS s).cnt (pu_blS s).sp (pu_blS s).D (pu_blS s).sh (pu_blS s).fs (pu_blS s).os (pu_blS s).ls) := ⟨w.cp, fun q1 q2 => (w.k q1 q2).cp rfl rfl, w.s1, w.s2, w.dl, w.db, w.fs, w.no, w.n, by have := w.d4; show s.d - 1 ≤ 4; omega, fun _ => w.do_ pu_hd0, w.os, w.ls, w.wo⟩
          have bb : pu_WB (pu_Sp.mk_ (s.d - 1) (pu_blS s).lv (pu_blS s).outer (pu_blS s).cmds (pu_blS s).F (pu_blS s).V (pu_blS s).opn (pu_blS s).w (pu_blS s).h (pu_blS s).hx (pu_blS s).hy (pu_blS s).cp (pu_blS s).tx (pu_blS s).lt (pu_blS s).fx (pu_blS s).fy (pu_blS s).t (pu_blS s).cnt (pu_blS s).sp (pu_blS s).D (pu_blS s).sh (pu_blS s).fs (pu_blS s).os (pu_blS s).ls) := ⟨fun j hj => b.bl.lv j (by have hj : j ≤ s.d - 1 := hj; show j ≤ s.d; omega), b.F, b.V⟩
          obtain ⟨res, r1, r2⟩ := ih (pu_Sp.mk_ (s.d - 1) (pu_blS s).lv (pu_blS s).outer (pu_blS s).cmds (pu_blS s).F (pu_blS s).V (pu_blS s).opn (pu_blS s).w (pu_blS s).h (pu_blS s).hx (pu_blS s).hy (pu_blS s).cp (pu_blS s).tx (pu_blS s).lt (pu_blS s).fx (pu_blS s).fy (pu_blS s).t (pu_blS s).cnt (pu_blS s).sp (pu_blS s).D (pu_blS s).sh (pu_blS s).fs (pu_blS s).os (pu_blS s).ls) m2 mL (pu_fup po s.d p') fo (turn + 1) N l3 wb bb hc (by unfold pu_mu at *; show 2 * (2000 - s.cmds) + (s.d - 1) + 1 ≤ f; omega) (by omega) (by omega) (by rw [l2 0 (by decide), o1 0 (by decide)]; exact h6) (by rw [l2 0 (by decide), o1 0 (by decide)]; exact h7)
          refine ⟨res, r1, ?_⟩
          obtain ⟨m3, mL3, t1, t2, t3⟩ := r2
          exact ⟨m3, mL3, t1, fun a ha => (t2 a ha).trans ((l2 a (by omega)).trans (o1 a (by omega))), t3⟩
        · have hd0' : ¬ 0 < (pu_blS s).d := pu_hd0
          rw [if_neg hd0'] at LV
          rw [if_neg pu_hd0, LV, pu_b_some, if_neg (show ¬ ¬ (0 : Int32) = 0 by simp)]
          simp only []
          have op1 : m1 19 5 = pu_bi s.opn := R1.op
          rw [op1]
          unfold f_La_read_b113 f_La_read_b119
          cases hop : s.opn
          · rw [if_pos pu_bi_f, pu_la_tell, pu_b_some, if_pos (c := (0 : Int32) = 0) rfl, if_neg (c := (false = true)) (by decide)]
            simp only []
            refine ⟨_, rfl, ?_⟩
            obtain ⟨N', rfl⟩ : ∃ n', N = n' + 1 := ⟨N - 1, by omega⟩
            rw [f_La_read_l8, if_pos rfl, pu_la_fin, if_pos (by rw [o1 0 (by decide)]; exact h6)]
            have RR := R1.res
            obtain ⟨Fc, _, _, f3, _⟩ := RR.n6
            refine ⟨m1, mL, ?_, fun a ha => o1 a (by omega), K1, by rw [o1 0 (by decide)]; exact h6, by rw [o1 0 (by decide)]; exact h7, ?_⟩
            · rw [if_pos rfl, RR.n3]
            · rw [if_pos rfl]
              exact ⟨RR.n3, RR.n4, ⟨Fc, f3⟩, RR.lb⟩
          · rw [if_neg pu_bi_t, pu_la_tell, pu_b_some, if_neg (c := (11 : Int32) = 0) (by decide), if_pos (c := (true = true)) rfl]
            simp only []
            refine ⟨_, rfl, ?_⟩
            rw [pu_n_lit 1, pu_n_add]
            exact flt 11 (pu_blS s) m1 mL 0 (by decide) K1 (fun a ha => o1 a (by omega))
      · rw [if_neg (c := pu_hd (pu_blk (s.lv s.d)) = -1) q1, if_pos (c := pu_hd (pu_blk (s.lv s.d)) ≠ -1) q1, pu_la_tell, pu_b_some, if_neg (c := (1 : Int32) = 0) (by decide)]
        refine ⟨_, rfl, ?_⟩
        exact flt 1 (pu_blS s) m1 mL 1 (by decide) K1 (fun a ha => o1 a (by omega))
end READ
