section STP
variable {s : pu_Sp} {T : List Int32} {m : tm_I} {mL : tm_L}
theorem pu_onL_self (s : pu_Sp) : pu_onL s (s.lv s.d) = s := by
  unfold pu_onL
  have : pu_fl s.lv s.d (s.lv s.d) = s.lv := by
    funext j; unfold pu_fl; split
    · next q => rw [q]
    · rfl
  rw [this]
theorem pu_mo_blank : ∀ (cs : List Int32) (m : tm_I) (M : Nat), pu_RM (pu_onL s cs) T m → pu_byteL cs → cs.length ≤ M → ∃ M' m', M ≤ M' + cs.length - (pu_blk cs).length ∧ f_Mo_step_l0 M m mL = f_Mo_step_l0 M' m' mL ∧ pu_RM (pu_onL s (pu_blk cs)) T m' ∧ (∀ a, a ≠ 39 → m' a = m a) ∧ (∀ b, b ≠ 8 → m' 39 b = m 39 b)
  | [], m, M, h, _, _ => ⟨M, m, by simp [pu_blk], rfl, h, fun _ _ => rfl, fun _ _ => rfl⟩
  | x :: r, m, M, h, hb, hM => by
    obtain ⟨n, n1, n2⟩ := hb x List.mem_cons_self
    by_cases q : x ≤ 32
    · obtain ⟨M, rfl⟩ : ∃ n', M = n' + 1 := ⟨M - 1, by rw [List.length_cons] at hM; omega⟩
      have eb : pu_blk (x :: r) = pu_blk r := by unfold pu_blk; rw [List.dropWhile_cons_of_pos (by simpa using q)]
      have eP : pu_pend (pu_onL s (x :: r)).lv (pu_onL s (x :: r)).d = (x :: r) ++ pu_rest s.lv s.d := pu_onL_on s _ (x :: r)
      have st := h.st
      have l8 := h.l8
      rw [eP] at st l8
      have hlen := st.1
      have pk := pu_mo_peek (mL := mL) st (q := 0) (by rw [Nat.sub_zero]; exact l8)
      have nx := pu_mo_next (mL := mL) st (q := 0) (by rw [Nat.sub_zero]; exact l8)
      have pu_hx : pu_hd (((x :: r) ++ pu_rest s.lv s.d).drop 0) = x := rfl
      rw [pu_hx] at pk nx
      have R := h.down (q := 1) (cs := r) (by rw [eP, show pu_rest (pu_onL s (x :: r)).lv (pu_onL s (x :: r)).d = pu_rest s.lv s.d from pu_rest_fl (Nat.le_refl _)]; rfl)
      rw [eP, pu_onL_onL] at R
      rw [Nat.zero_add] at nx
      generalize hm1 : tm_up m 39 8 (Int32.ofNat (((x :: r) ++ pu_rest s.lv s.d).length - 1)) = m1 at R nx
      obtain ⟨M', m', a1, a2, a3, a4, a5⟩ := pu_mo_blank r m1 M R (fun y hy => hb y (List.mem_cons_of_mem _ hy)) (by rw [List.length_cons] at hM; omega)
      refine ⟨M', m', ?_, ?_, by rw [eb]; exact a3, fun a ha => (a4 a ha).trans (by rw [← hm1, pu_tm_up_c ha]), fun b hb => (a5 b hb).trans (by rw [← hm1, tm_up_k hb])⟩
      · rw [eb, List.length_cons]
        have : (pu_blk r).length ≤ r.length := by unfold pu_blk; exact (List.dropWhile_sublist _).length_le
        omega
      · rw [← a2, f_Mo_step_l0, l8, if_neg (by simp only [List.length_append, List.length_cons] at hlen ⊢; simp (disch := omega) only [pu_n_lit, pu_n_add, pu_n_mul, pu_n_sub, pu_n_div, pu_n_nat, pu_q_ltT, pu_q_ltF, pu_q_leT, pu_q_leF, pu_q_eqT, pu_q_eqF, pu_n_lt, pu_n_le, pu_n_eq, pu_p_ltT, pu_p_ltF, pu_p_leT, pu_p_leF, not_true_eq_false, not_false_eq_true, or_false, false_or, or_true, true_or, and_true, true_and, and_false, false_and, ↓reduceIte, pu_b_some]), pk, pu_b_some, if_neg (by rw [Int32.not_lt]; exact q)]
        simp only []
        rw [pk, pu_b_some, if_pos (by rw [n2]; exact pu_b_ne n1)]
        unfold f_Mo_step_b38
        simp only []
        rw [pu_tm_up_same rfl, nx, pu_b_some]
    · have eb : pu_blk (x :: r) = x :: r := by unfold pu_blk; rw [List.dropWhile_cons_of_neg (by simpa using q)]
      exact ⟨M, m, by rw [eb]; omega, rfl, by rw [eb]; exact h, fun _ _ => rfl, fun _ _ => rfl⟩
theorem pu_mo_leave {M : Nat} (h : pu_RM (pu_onL s []) T m) (hdp : 0 < s.d) (hd4 : s.d ≤ 4) : ∃ m', f_Mo_step_l0 (M + 1) m mL = f_Mo_step_l0 M m' mL ∧ pu_RM (pu_Sp.mk_ (s.d - 1) (pu_onL s []).lv (pu_onL s []).outer (pu_onL s []).cmds (pu_onL s []).F (pu_onL s []).V (pu_onL s []).opn (pu_onL s []).w (pu_onL s []).h (pu_onL s []).hx (pu_onL s []).hy (pu_onL s []).cp (pu_onL s []).tx (pu_onL s []).lt (pu_onL s []).fx (pu_onL s []).fy (pu_onL s []).t (pu_onL s []).cnt (pu_onL s []).sp (pu_onL s []).D (pu_onL s []).sh (pu_onL s []).fs (pu_onL s []).os (pu_onL s []).ls) T m' ∧ (∀ a, a ≠ 39 → m' a = m a) ∧ (∀ b, b ≠ 8 → b ≠ 9 → m' 39 b = m 39 b) := by
  have eP : pu_pend (pu_onL s []).lv (pu_onL s []).d = [] ++ pu_rest s.lv s.d := pu_onL_on s _ []
  rw [List.nil_append] at eP
  obtain ⟨d, hd'⟩ : ∃ d, s.d = d + 1 := ⟨s.d - 1, by omega⟩
  have er : pu_rest s.lv s.d = (-1) :: pu_pend s.lv d := by rw [hd']; rfl
  have st := h.st
  have l8 := h.l8
  rw [eP, er] at st l8
  have hlen := st.1
  have dep : m 39 9 = Int32.ofNat s.d := h.dep
  have pk := pu_mo_peek (mL := mL) st (q := 0) (by rw [Nat.sub_zero]; exact l8)
  have pu_hx : pu_hd (((-1) :: pu_pend s.lv d).drop 0) = -1 := rfl
  rw [pu_hx] at pk
  generalize hm0 : tm_up m 39 9 (Int32.ofNat (s.d - 1)) = m0
  have nx := pu_mo_next (m := m0) (mL := mL) (st.fr (by rw [← hm0, pu_tm_up_c (by decide)])) (q := 0) (by rw [Nat.sub_zero, ← hm0, tm_up_k (by decide)]; exact l8)
  rw [pu_hx, Nat.zero_add] at nx
  generalize hm1 : tm_up m0 39 8 (Int32.ofNat (((-1) :: pu_pend s.lv d).length - 1)) = m1 at nx
  have A : ∀ {a}, a ≠ 39 → m1 a = m a := fun {a} ha => by rw [← hm1, pu_tm_up_c ha, ← hm0, pu_tm_up_c ha]
  have B : ∀ {b}, b ≠ 8 → b ≠ 9 → m1 39 b = m 39 b := fun {b} h1 h2 => by rw [← hm1, tm_up_k h1, ← hm0, tm_up_k h2]
  have ep : pu_pend (pu_fl s.lv s.d []) (s.d - 1) = pu_pend s.lv d := by rw [pu_pend_fl (by omega), hd']; rfl
  refine ⟨m1, ?_, ⟨h.k.fr (B (by decide) (by decide)) (A (by decide)) (A (by decide)) (A (by decide)) (A (by decide)) (A (by decide)), ?_, ?_, ?_, fun q => (B (by decide) (by decide)).trans (h.out hdp), (B (by decide) (by decide)).trans h.cm, (B (by decide) (by decide)).trans h.op, (B (by decide) (by decide)).trans h.n35, (B (by decide) (by decide)).trans h.n37, by rw [A (a := 54) (by decide)]; exact h.lb, fun K hK => ⟨by rw [A (a := 55) (by decide)]; exact (h.od K hK).row, by rw [A (a := 56) (by decide)]; exact (h.od K hK).dat⟩, by rw [B (b := 32) (by decide) (by decide)]; exact h.w32, fun ho => ?_⟩, fun a ha => A ha, fun b h1 h2 => B h1 h2⟩
  · rw [f_Mo_step_l0, l8, if_neg (by simp only [List.length_cons] at hlen ⊢; simp (disch := omega) only [pu_n_lit, pu_n_add, pu_n_mul, pu_n_sub, pu_n_div, pu_n_nat, pu_q_ltT, pu_q_ltF, pu_q_leT, pu_q_leF, pu_q_eqT, pu_q_eqF, pu_n_lt, pu_n_le, pu_n_eq, pu_p_ltT, pu_p_ltF, pu_p_leT, pu_p_leF, not_true_eq_false, not_false_eq_true, or_false, false_or, or_true, true_or, and_true, true_and, and_false, false_and, ↓reduceIte, pu_b_some]), pk, pu_b_some, if_neg (show ¬ (32 : Int32) < -1 by decide)]
    simp only []
    rw [pk, pu_b_some, if_neg (show ¬ ¬ (-1 : Int32) = -1 by decide)]
    unfold f_Mo_step_b38
    simp only []
    rw [dep, show Int32.ofNat s.d - 1 = Int32.ofNat (s.d - 1) by rw [pu_n_lit 1, pu_n_sub (by omega)], hm0, nx, pu_b_some]
  · show pu_Stk m1 (pu_pend (pu_fl s.lv s.d []) (s.d - 1))
    rw [ep]
    exact (st.drop 1).fr (A (by decide))
  · show m1 39 8 = Int32.ofNat (pu_pend (pu_fl s.lv s.d []) (s.d - 1)).length
    rw [ep, ← hm1, tm_up_eq]; rfl
  · rw [← hm1, tm_up_k (by decide), ← hm0, tm_up_eq]
  · obtain ⟨L, F0⟩ := h.lab ho
    exact ⟨⟨(B (by decide) (by decide)).trans L.w, (B (by decide) (by decide)).trans L.h, (B (by decide) (by decide)).trans L.cp, (B (by decide) (by decide)).trans L.hx, (B (by decide) (by decide)).trans L.hy, by rw [A (a := 48) (by decide)]; exact L.tx, (B (by decide) (by decide)).trans L.nf, (B (by decide) (by decide)).trans L.md, fun f hf => (L.fs f hf).fr (A (by decide)) (A (by decide))⟩, pu_FldM.fr (s := pu_onL s []) F0 (A (by decide)) (A (by decide)) rfl rfl rfl rfl rfl rfl rfl rfl⟩
theorem pu_RM.f12 (h : pu_RM s T m) (v : Int32) : pu_RM s T (tm_up m 39 12 v) := h.cells (fun a a1 _ _ => pu_tm_up_c a1) (fun b b2 _ _ _ _ _ _ => tm_up_k b2) (tm_up_k (by decide))
theorem pu_RM.f14 (h : pu_RM s T m) (v : Int32) : pu_RM s T (tm_up m 39 14 v) := h.cells (fun a a1 _ _ => pu_tm_up_c a1) (fun b _ _ b2 _ _ _ _ => tm_up_k b2) (tm_up_k (by decide))
theorem pu_RM.f11 (h : pu_RM s T m) (n : Nat) : pu_RM (pu_Sp.mk_ s.d s.lv s.outer (n) s.F s.V s.opn s.w s.h s.hx s.hy s.cp s.tx s.lt s.fx s.fy s.t s.cnt s.sp s.D s.sh s.fs s.os s.ls) T (tm_up m 39 11 (Int32.ofNat n)) := by
  have A : ∀ {a}, a ≠ 39 → tm_up m 39 11 (Int32.ofNat n) a = m a := fun {a} ha => pu_tm_up_c ha
  have B : ∀ {b}, b ≠ 11 → tm_up m 39 11 (Int32.ofNat n) 39 b = m 39 b := fun {b} hb => tm_up_k hb
  refine ⟨h.k.fr (B (by decide)) (A (by decide)) (A (by decide)) (A (by decide)) (A (by decide)) (A (by decide)), h.st.fr (A (by decide)), (B (by decide)).trans h.l8, (B (by decide)).trans h.dep, fun z => (B (by decide)).trans (h.out z), tm_up_eq _ _ _ _, (B (by decide)).trans h.op, (B (by decide)).trans h.n35, (B (by decide)).trans h.n37, by rw [A (a := 54) (by decide)]; exact h.lb, fun K hK => ⟨by rw [A (a := 55) (by decide)]; exact (h.od K hK).row, by rw [A (a := 56) (by decide)]; exact (h.od K hK).dat⟩, by rw [B (b := 32) (by decide)]; exact h.w32, fun ho => ?_⟩
  obtain ⟨L, F0⟩ := h.lab ho
  exact ⟨⟨(B (by decide)).trans L.w, (B (by decide)).trans L.h, (B (by decide)).trans L.cp, (B (by decide)).trans L.hx, (B (by decide)).trans L.hy, by rw [A (a := 48) (by decide)]; exact L.tx, (B (by decide)).trans L.nf, (B (by decide)).trans L.md, fun f hf => (L.fs f hf).fr (A (by decide)) (A (by decide))⟩, pu_FldM.fr (s := s) F0 (A (by decide)) (A (by decide)) rfl rfl rfl rfl rfl rfl rfl rfl⟩
theorem pu_mo_spot {x : Int32} {r : List Int32} {M : Nat} (h : pu_RM s T m) (hlv : s.lv s.d = x :: r) (pu_hx : ¬ x ≤ 32) (hd4 : s.d ≤ 4) (hl0 : (s.lv 0).length ≤ T.length) : f_Mo_step_l0 (M + 1) m mL = f_Mo_step_b118 (pu_spotS s T) m mL := by
  have eP : pu_pend s.lv s.d = (x :: r) ++ pu_rest s.lv s.d := by rw [pu_pend_rest, hlv]
  have st := h.st
  have l8 := h.l8
  rw [eP] at st l8
  have hlen := st.1
  have hT := h.k.tl
  have pk := pu_mo_peek (mL := mL) st (q := 0) (by rw [Nat.sub_zero]; exact l8)
  rw [show pu_hd (((x :: r) ++ pu_rest s.lv s.d).drop 0) = x from rfl] at pk
  have dep := h.dep
  have l8n : ¬ m 39 8 = 0 := by rw [l8]; simp only [List.length_append, List.length_cons] at hlen ⊢; rw [pu_n_zero, pu_n_eq (by omega) (by omega)]; omega
  rw [f_Mo_step_l0, if_neg (by rw [l8]; simp only [List.length_append, List.length_cons] at hlen ⊢; simp (disch := omega) only [pu_n_lit, pu_n_add, pu_n_mul, pu_n_sub, pu_n_div, pu_n_nat, pu_q_ltT, pu_q_ltF, pu_q_leT, pu_q_leF, pu_q_eqT, pu_q_eqF, pu_n_lt, pu_n_le, pu_n_eq, pu_p_ltT, pu_p_ltF, pu_p_leT, pu_p_leF, not_true_eq_false, not_false_eq_true, or_false, false_or, or_true, true_or, and_true, true_and, and_false, false_and, ↓reduceIte, pu_b_some]), pk, pu_b_some, if_pos (by rw [Int32.not_le] at pu_hx; exact pu_hx)]
  unfold f_Mo_step_b49
  simp only []
  rw [if_pos l8n, dep]
  unfold pu_spotS
  by_cases q : 0 < s.d
  · rw [if_pos (by rw [pu_n_zero, pu_n_eq (by omega) (by omega)]; omega), if_pos q, h.out q]
  · have q0 : s.d = 0 := by omega
    rw [if_neg (by rw [q0]; simp), if_neg q, h.k.tn, h.l8, q0]
    rw [show pu_pend s.lv 0 = s.lv 0 from rfl, pu_n_sub hl0]
def pu_SOut (r : Option (Int32 × tm_I × tm_L)) (s : pu_Sp) (T : List Int32) (m : tm_I) (mL : tm_L) (at_ : Int32) (res : Int32 ⊕ pu_Sp) : Prop := match res with
  | .inl c => ∃ m', r = some (0, m', mL) ∧ (∀ a, a < 39 → m' a = m a) ∧ pu_KM s.F s.V T m' ∧ m' 39 13 = c ∧ m' 39 14 = at_
  | .inr s' => ∃ m', r = some (1, m', mL) ∧ (∀ a, a < 39 → m' a = m a) ∧ pu_RM s' T m'
theorem pu_mo_bad {c at_ : Int32} (hk : pu_KM s.F s.V T m) (hc : 0 < c) (hat : m 39 12 = at_) : ∃ m', f_Mo_step_b174 (tm_up m 39 13 c) mL = some (0, m', mL) ∧ (∀ a, a < 39 → m' a = m a) ∧ pu_KM s.F s.V T m' ∧ m' 39 13 = c ∧ m' 39 14 = at_ := by
  have c0 : ¬ c ≤ 0 := by rw [Int32.not_le]; exact hc
  have cn : ¬ c = 0 := fun e => c0 (by rw [e]; decide)
  have A : ∀ {a}, a ≠ 39 → tm_up (tm_up m 39 13 c) 39 14 at_ a = m a := fun {a} ha => by rw [pu_tm_up_c ha, pu_tm_up_c ha]
  refine ⟨tm_up (tm_up m 39 13 c) 39 14 at_, ?_, fun a ha => A (by omega), hk.fr (by rw [tm_up_k (by decide), tm_up_k (by decide)]) (A (by decide)) (A (by decide)) (A (by decide)) (A (by decide)) (A (by decide)), ?_, tm_up_eq _ _ _ _⟩
  · unfold f_Mo_step_b174 f_Mo_step_b190 f_Mo_step_b205
    rw [tm_up_eq, if_neg c0, tm_up_k (show 12 ≠ 13 by decide), hat, tm_up_k (show 13 ≠ 14 by decide), tm_up_eq, if_pos cn, if_pos (Or.inl rfl)]
  · rw [tm_up_k (by decide), tm_up_eq]
theorem pu_mo_step1 {x at_ : Int32} {r : List Int32} (h : pu_RM s T m) (hlv : s.lv s.d = x :: r) (w : pu_WS s) (b : pu_WB s) (hc : s.cmds < 2000) (hL : pu_LB s T) (pu_hx : ¬ x ≤ 32) (hat : pu_spotS s T = at_) : pu_SOut (f_Mo_step_b118 at_ m mL) s T m mL at_ (if x = 94 then pu_cmd (pu_Sp.mk_ s.d s.lv s.outer (s.cmds + 1) s.F s.V s.opn s.w s.h s.hx s.hy s.cp s.tx s.lt s.fx s.fy s.t s.cnt s.sp s.D s.sh s.fs s.os s.ls) (pu_hd r) r.tail at_ else .inl 1) := by
  have eP : pu_pend s.lv s.d = (x :: r) ++ pu_rest s.lv s.d := by rw [pu_pend_rest, hlv]
  have hx0 : pu_RM s T (tm_up m 39 12 at_) := h.f12 at_
  generalize hm1 : tm_up m 39 12 at_ = m1 at hx0
  have k12 : m1 39 12 = at_ := by rw [← hm1, tm_up_eq]
  have o1 : ∀ a, a ≠ 39 → m1 a = m a := fun a ha => by rw [← hm1, pu_tm_up_c ha]
  have st := hx0.st
  have l8 := hx0.l8
  rw [eP] at st l8
  have hlen := st.1
  have nx := pu_mo_next (mL := mL) st (q := 0) (by rw [Nat.sub_zero]; exact l8)
  rw [show pu_hd (((x :: r) ++ pu_rest s.lv s.d).drop 0) = x from rfl, Nat.zero_add] at nx
  have R1 := hx0.down (q := 1) (cs := r) (by rw [eP]; rfl)
  rw [eP] at R1
  generalize hm2 : tm_up m1 39 8 (Int32.ofNat (((x :: r) ++ pu_rest s.lv s.d).length - 1)) = m2 at R1 nx
  have k2 : m2 39 12 = at_ := by rw [← hm2, tm_up_k (by decide)]; exact k12
  have o2 : ∀ a, a ≠ 39 → m2 a = m a := fun a ha => by rw [← hm2, pu_tm_up_c ha, o1 a ha]
  unfold f_Mo_step_b118
  rw [hm1, nx, pu_b_some]
  by_cases q94 : x = 94
  · rw [if_pos q94, if_pos q94]
    simp only []
    have cm : m2 39 11 = Int32.ofNat s.cmds := R1.cm
    rw [show m2 39 11 + 1 = Int32.ofNat (s.cmds + 1) by rw [cm, pu_n_lit 1, pu_n_add]]
    have R2 := R1.f11 (s.cmds + 1)
    generalize hm3 : tm_up m2 39 11 (Int32.ofNat (s.cmds + 1)) = m3 at R2
    have k3 : m3 39 12 = at_ := by rw [← hm3, tm_up_k (by decide)]; exact k2
    have o3 : ∀ a, a ≠ 39 → m3 a = m a := fun a ha => by rw [← hm3, pu_tm_up_c ha, o2 a ha]
    have ePr : pu_pend ((pu_Sp.mk_ (pu_onL s r).d (pu_onL s r).lv (pu_onL s r).outer (s.cmds + 1) (pu_onL s r).F (pu_onL s r).V (pu_onL s r).opn (pu_onL s r).w (pu_onL s r).h (pu_onL s r).hx (pu_onL s r).hy (pu_onL s r).cp (pu_onL s r).tx (pu_onL s r).lt (pu_onL s r).fx (pu_onL s r).fy (pu_onL s r).t (pu_onL s r).cnt (pu_onL s r).sp (pu_onL s r).D (pu_onL s r).sh (pu_onL s r).fs (pu_onL s r).os (pu_onL s r).ls) : pu_Sp).lv ((pu_Sp.mk_ (pu_onL s r).d (pu_onL s r).lv (pu_onL s r).outer (s.cmds + 1) (pu_onL s r).F (pu_onL s r).V (pu_onL s r).opn (pu_onL s r).w (pu_onL s r).h (pu_onL s r).hx (pu_onL s r).hy (pu_onL s r).cp (pu_onL s r).tx (pu_onL s r).lt (pu_onL s r).fx (pu_onL s r).fy (pu_onL s r).t (pu_onL s r).cnt (pu_onL s r).sp (pu_onL s r).D (pu_onL s r).sh (pu_onL s r).fs (pu_onL s r).os (pu_onL s r).ls) : pu_Sp).d = r ++ pu_rest s.lv s.d := pu_onL_on s r r
    have st3 := R2.st
    have l83 := R2.l8
    rw [ePr] at st3 l83
    have nx2 := pu_mo_next (mL := mL) st3 (q := 0) (by rw [Nat.sub_zero]; exact l83)
    rw [List.drop_zero, pu_hd_app (pu_rest_hd s.lv s.d), Nat.zero_add] at nx2
    rw [nx2, pu_b_some]
    simp only []
    generalize hm4 : tm_up m3 39 8 (Int32.ofNat ((r ++ pu_rest s.lv s.d).length - 1)) = m4
    have k4 : m4 39 12 = at_ := by rw [← hm4, tm_up_k (by decide)]; exact k3
    have o4 : ∀ a, a ≠ 39 → m4 a = m a := fun a ha => by rw [← hm4, pu_tm_up_c ha, o3 a ha]
    have K4 : pu_KM s.F s.V T m4 := pu_KM.fr (m := m3) R2.k (by rw [← hm4, tm_up_k (by decide)]) (by rw [← hm4, pu_tm_up_c (by decide)]) (by rw [← hm4, pu_tm_up_c (by decide)]) (by rw [← hm4, pu_tm_up_c (by decide)]) (by rw [← hm4, pu_tm_up_c (by decide)]) (by rw [← hm4, pu_tm_up_c (by decide)])
    have TT : pu_TO2 (f_Mo_test (pu_hd r) m4 mL) (pu_hd r) s T m4 mL (pu_cmd (pu_Sp.mk_ s.d s.lv s.outer (s.cmds + 1) s.F s.V s.opn s.w s.h s.hx s.hy s.cp s.tx s.lt s.fx s.fy s.t s.cnt s.sp s.D s.sh s.fs s.os s.ls) (pu_hd r) r.tail at_) := by
      cases r with
      | nil =>
        have e2 : pu_cmd (pu_Sp.mk_ s.d s.lv s.outer (s.cmds + 1) s.F s.V s.opn s.w s.h s.hx s.hy s.cp s.tx s.lt s.fx s.fy s.t s.cnt s.sp s.D s.sh s.fs s.os s.ls) (pu_hd []) ([] : List Int32).tail at_ = .inl 2 := by
          unfold pu_cmd; rw [if_pos (by decide)]
        rw [e2]
        refine ⟨2, m4, ?_, K4, fun _ _ => rfl, rfl, rfl, by decide⟩
        unfold f_Mo_test f_Mo_test_b0
        rw [pu_mo_numbersX (by decide), pu_b_some, if_neg (show ¬ (0 : Int32) ≤ -1 by decide)]
      | cons l r' =>
        have R3 := R2.down (q := 1) (cs := r') (by rw [ePr]; show _ = r' ++ pu_rest (pu_fl s.lv s.d (l :: r')) s.d; rw [pu_rest_fl (Nat.le_refl _)]; rfl)
        rw [ePr, hm4] at R3
        have bl : pu_byteL (s.lv s.d) := b.lv s.d (Nat.le_refl _)
        rw [hlv] at bl
        have L4 := pu_pend_len hL.l0 s.d hL.lj
        rw [eP] at L4
        have hT := h.k.tl
        have R4 : pu_RM (pu_onL (pu_Sp.mk_ s.d s.lv s.outer (s.cmds + 1) s.F s.V s.opn s.w s.h s.hx s.hy s.cp s.tx s.lt s.fx s.fy s.t s.cnt s.sp s.D s.sh s.fs s.os s.ls) r') T m4 := by
          have : pu_onL (pu_Sp.mk_ (pu_onL s (l :: r')).d (pu_onL s (l :: r')).lv (pu_onL s (l :: r')).outer (s.cmds + 1) (pu_onL s (l :: r')).F (pu_onL s (l :: r')).V (pu_onL s (l :: r')).opn (pu_onL s (l :: r')).w (pu_onL s (l :: r')).h (pu_onL s (l :: r')).hx (pu_onL s (l :: r')).hy (pu_onL s (l :: r')).cp (pu_onL s (l :: r')).tx (pu_onL s (l :: r')).lt (pu_onL s (l :: r')).fx (pu_onL s (l :: r')).fy (pu_onL s (l :: r')).t (pu_onL s (l :: r')).cnt (pu_onL s (l :: r')).sp (pu_onL s (l :: r')).D (pu_onL s (l :: r')).sh (pu_onL s (l :: r')).fs (pu_onL s (l :: r')).os (pu_onL s (l :: r')).ls) r' = pu_onL (pu_Sp.mk_ s.d s.lv s.outer (s.cmds + 1) s.F s.V s.opn s.w s.h s.hx s.hy s.cp s.tx s.lt s.fx s.fy s.t s.cnt s.sp s.D s.sh s.fs s.os s.ls) r' := by
            show ((pu_Sp.mk_ (pu_onL (pu_onL s (l :: r')) r').d (pu_onL (pu_onL s (l :: r')) r').lv (pu_onL (pu_onL s (l :: r')) r').outer (s.cmds + 1) (pu_onL (pu_onL s (l :: r')) r').F (pu_onL (pu_onL s (l :: r')) r').V (pu_onL (pu_onL s (l :: r')) r').opn (pu_onL (pu_onL s (l :: r')) r').w (pu_onL (pu_onL s (l :: r')) r').h (pu_onL (pu_onL s (l :: r')) r').hx (pu_onL (pu_onL s (l :: r')) r').hy (pu_onL (pu_onL s (l :: r')) r').cp (pu_onL (pu_onL s (l :: r')) r').tx (pu_onL (pu_onL s (l :: r')) r').lt (pu_onL (pu_onL s (l :: r')) r').fx (pu_onL (pu_onL s (l :: r')) r').fy (pu_onL (pu_onL s (l :: r')) r').t (pu_onL (pu_onL s (l :: r')) r').cnt (pu_onL (pu_onL s (l :: r')) r').sp (pu_onL (pu_onL s (l :: r')) r').D (pu_onL (pu_onL s (l :: r')) r').sh (pu_onL (pu_onL s (l :: r')) r').fs (pu_onL (pu_onL s (l :: r')) r').os (pu_onL (pu_onL s (l :: r')) r').ls) : pu_Sp) = (pu_Sp.mk_ (pu_onL s r').d (pu_onL s r').lv (pu_onL s r').outer (s.cmds + 1) (pu_onL s r').F (pu_onL s r').V (pu_onL s r').opn (pu_onL s r').w (pu_onL s r').h (pu_onL s r').hx (pu_onL s r').hy (pu_onL s r').cp (pu_onL s r').tx (pu_onL s r').lt (pu_onL s r').fx (pu_onL s r').fy (pu_onL s r').t (pu_onL s r').cnt (pu_onL s r').sp (pu_onL s r').D (pu_onL s r').sh (pu_onL s r').fs (pu_onL s r').os (pu_onL s r').ls)
            rw [pu_onL_onL]
          rw [this] at R3; exact R3
        exact pu_mo_test (s := (pu_Sp.mk_ s.d s.lv s.outer (s.cmds + 1) s.F s.V s.opn s.w s.h s.hx s.hy s.cp s.tx s.lt s.fx s.fy s.t s.cnt s.sp s.D s.sh s.fs s.os s.ls)) R4 ⟨w.cp, fun q1 q2 => (w.k q1 q2).cp rfl rfl, w.s1, w.s2, w.dl, w.db, w.fs, w.no, w.n, w.d4, w.do_, w.os, w.ls, w.wo⟩ ⟨b.lv, b.F, b.V⟩ (fun y hy => bl y (List.mem_cons_of_mem _ (List.mem_cons_of_mem _ hy))) (by show s.cmds + 1 ≤ 2000; omega) k4 (fun q => by
          have q : 0 < s.d := q
          rw [← hat]; unfold pu_spotS; rw [if_pos q]) (fun q => by
          have q : s.d < 4 := q
          show (r' ++ pu_rest s.lv s.d).length ≤ 5300
          simp only [List.length_append, List.length_cons] at L4 ⊢
          omega) hL.sz
    obtain ⟨c, m5, t1, t2, t3, t4, t5⟩ := TT
    rw [t1, pu_b_some]
    simp only []
    have k5 : m5 39 12 = at_ := t4.trans k4
    have o5 : ∀ a, a < 39 → m5 a = m a := fun a ha => (t3 a ha).trans (o4 a (by omega))
    cases hcm : pu_cmd (pu_Sp.mk_ s.d s.lv s.outer (s.cmds + 1) s.F s.V s.opn s.w s.h s.hx s.hy s.cp s.tx s.lt s.fx s.fy s.t s.cnt s.sp s.D s.sh s.fs s.os s.ls) (pu_hd r) r.tail at_ with
    | inl c' =>
      rw [hcm] at t5
      obtain ⟨u1, u2⟩ := t5
      subst u1
      rw [tm_up_eq, if_pos u2]
      obtain ⟨m', v1, v2, v3, v4, v5⟩ := pu_mo_bad (s := s) (mL := mL) t2 (pu_cmd_pos hcm) k5
      exact ⟨m', v1, fun a ha => (v2 a ha).trans (o5 a ha), v3, v4, v5⟩
    | inr s' =>
      rw [hcm] at t5
      obtain ⟨u1, m6, u2, u3, u4, u5, u6⟩ := t5
      subst u1
      rw [tm_up_eq, if_neg (by simp), u2, pu_b_some]
      have z13 : m6 39 13 = 0 := u5.trans (tm_up_eq _ _ _ _)
      refine ⟨tm_up m6 39 14 (-1), ?_, fun a ha => ?_, u3.f14 (-1)⟩
      · unfold f_Mo_step_b174 f_Mo_step_b190 f_Mo_step_b205
        simp only []
        rw [z13, if_pos (by decide), tm_up_k (show 13 ≠ 14 by decide), z13, if_neg (by simp), if_pos (Or.inr trivial)]
      · rw [pu_tm_up_c (by omega), u4 a ha, pu_tm_up_c (by omega), o5 a ha]
  · rw [if_neg q94, if_neg q94]
    obtain ⟨m', v1, v2, v3, v4, v5⟩ := pu_mo_bad (s := s) (m := m2) (mL := mL) (c := 1) R1.k (by decide) k2
    exact ⟨m', v1, fun a ha => (v2 a ha).trans (o2 a (by omega)), v3, v4, v5⟩
end STP
section RDM
variable {T : List Int32} {mL : tm_L}
def pu_RdM (r : Option (Int32 × tm_I × tm_L)) (T : List Int32) (m : tm_I) (mL : tm_L) (res : (Int32 × Int32) × pu_Sp) : Prop :=
  ∃ m', r = some (if res.1.1 = 0 then Int32.ofNat res.2.ls.length else -1, m', mL) ∧ (∀ a, a < 39 → m' a = m a) ∧ pu_KM res.2.F res.2.V T m' ∧ m' 39 13 = res.1.1 ∧ m' 39 14 = res.1.2 ∧
    (if res.1.1 = 0 then m' 39 35 = Int32.ofNat res.2.ls.length ∧ m' 39 37 = Int32.ofNat res.2.os.length ∧ (∀ (k : Nat) (h : k < res.2.ls.length), ∀ j, j < 4 → m' 54 (4 * k + j) = pu_lb4 res.2.ls[k] j) ∧ (∀ (K : Nat) (h : K < res.2.os.length), pu_ModO m' K res.2.os[K]) else m' 39 35 = 0 ∧ m' 39 37 = 0)
theorem pu_RdM.base {r : Option (Int32 × tm_I × tm_L)} {m m0 : tm_I} {res : (Int32 × Int32) × pu_Sp} (h : pu_RdM r T m mL res) (e : ∀ a, a < 39 → m a = m0 a) : pu_RdM r T m0 mL res := by
  obtain ⟨m', h1, h2, h3⟩ := h
  exact ⟨m', h1, fun a ha => (h2 a ha).trans (e a ha), h3⟩
theorem pu_mo_end {m m0 : tm_I} {s : pu_Sp} {c p : Int32} {N : Nat} (hc : 0 < c) (hk : pu_KM s.F s.V T m) (h13 : m 39 13 = c) (h14 : m 39 14 = p) (e : ∀ a, a < 39 → m a = m0 a) : pu_RdM (f_Mo_read_l79 (N + 1) 0 m mL) T m0 mL ((c, p), s) := by
  have c0 : ¬ c ≤ 0 := by rw [Int32.not_le]; exact hc
  have cn : ¬ c = 0 := fun e => c0 (by rw [e]; decide)
  have A : ∀ {a}, a ≠ 39 → tm_up (tm_up m 39 35 0) 39 37 0 a = m a := fun {a} ha => by rw [pu_tm_up_c ha, pu_tm_up_c ha]
  refine ⟨tm_up (tm_up m 39 35 0) 39 37 0, ?_, fun a ha => (A (by omega)).trans (e a ha), hk.fr (by rw [tm_up_k (by decide), tm_up_k (by decide)]) (A (by decide)) (A (by decide)) (A (by decide)) (A (by decide)) (A (by decide)), ?_, ?_, ?_⟩
  · rw [f_Mo_read_l79, if_pos rfl, h13, if_neg c0, if_neg cn]
  · rw [tm_up_k (by decide), tm_up_k (by decide)]; exact h13
  · rw [tm_up_k (by decide), tm_up_k (by decide)]; exact h14
  · rw [if_neg cn]
    exact ⟨by rw [tm_up_k (by decide), tm_up_eq], tm_up_eq _ _ _ _⟩
theorem pu_LB.bl {s : pu_Sp} (h : pu_LB s T) : pu_LB (pu_blS s) T := h.on (by unfold pu_blk; exact (List.dropWhile_sublist _).length_le)
theorem pu_hd_le {cs : List Int32} {x : Int32} {r : List Int32} (h : pu_blk cs = x :: r) : ¬ x ≤ 32 := by
  intro q
  have : (fun c : Int32 => decide (c ≤ 32)) ((cs.dropWhile (fun c => decide (c ≤ 32))).head (by unfold pu_blk at h; rw [h]; simp)) = false := List.head_dropWhile_not _ (by unfold pu_blk at h; rw [h]; simp)
  unfold pu_blk at h
  simp only [h, List.head_cons] at this
  rw [decide_eq_true q] at this; cases this
theorem pu_mo_run : ∀ (f : Nat) (s : pu_Sp) (m : tm_I) (M N : Nat) (res : (Int32 × Int32) × pu_Sp), pu_run T f s = some res → pu_RM s T m → pu_WS s → pu_WB s → pu_LB s T → s.cmds < 2000 → f + 1 < N → (pu_pend s.lv s.d).length < M →
    pu_RdM ((f_Mo_step_l0 M m mL).bind fun v1 => f_Mo_read_l79 N v1.1 v1.2.1 v1.2.2) T m mL res ∧ pu_WS res.2 ∧ pu_LB res.2 T ∧ pu_WB res.2 := by
  intro f
  induction f with
  | zero => intro s m M N res h; rw [pu_run] at h; cases h
  | succ f ih =>
    intro s m M N res hr h w b hL hc hN hM
    obtain ⟨N, rfl⟩ : ∃ n', N = n' + 1 := ⟨N - 1, by omega⟩
    have bl := b.lv s.d (Nat.le_refl _)
    rw [pu_pend_rest, List.length_append] at hM
    have h0 : pu_RM (pu_onL s (s.lv s.d)) T m := by rw [pu_onL_self]; exact h
    obtain ⟨M', m1, a1, a2, a3, a4, a5⟩ := pu_mo_blank (mL := mL) (s.lv s.d) m M h0 bl (by omega)
    have R1 : pu_RM (pu_blS s) T m1 := a3
    have bll : (pu_blk (s.lv s.d)).length ≤ (s.lv s.d).length := by unfold pu_blk; exact (List.dropWhile_sublist _).length_le
    have d4 := w.d4
    have o1 : ∀ a, a < 39 → m1 a = m a := fun a ha => a4 a (by omega)
    have lvb : (pu_blS s).lv (pu_blS s).d = pu_blk (s.lv s.d) := by
      show pu_fl s.lv s.d (pu_blk (s.lv s.d)) s.d = _
      unfold pu_fl; rw [if_pos rfl]
    rw [a2]
    obtain ⟨M', rfl⟩ : ∃ n', M' = n' + 1 := ⟨M' - 1, by omega⟩
    rw [pu_run] at hr
    cases hb : pu_blk (s.lv s.d) with
    | cons x r =>
      rw [hb] at hr lvb
      have pu_hx := pu_hd_le hb
      have xb : pu_byteL (pu_blk (s.lv s.d)) := pu_blk_b bl
      rw [hb] at xb
      obtain ⟨n, n1, n2⟩ := xb x List.mem_cons_self
      have xn : x ≠ -1 := by rw [n2]; exact pu_b_ne n1
      have sp := pu_mo_spot (mL := mL) (M := M') R1 lvb pu_hx d4 hL.bl.l0
      have S1 := pu_mo_step1 (mL := mL) R1 lvb w.bl b.bl hc hL.bl pu_hx rfl
      rw [sp]
      rw [show pu_hd (x :: r) = x from rfl, show (x :: r).tail = r from rfl] at hr
      by_cases q94 : x = 94
      · rw [if_pos q94] at hr S1
        rw [show ((pu_Sp.mk_ (pu_blS s).d (pu_blS s).lv (pu_blS s).outer ((pu_blS s).cmds + 1) (pu_blS s).F (pu_blS s).V (pu_blS s).opn (pu_blS s).w (pu_blS s).h (pu_blS s).hx (pu_blS s).hy (pu_blS s).cp (pu_blS s).tx (pu_blS s).lt (pu_blS s).fx (pu_blS s).fy (pu_blS s).t (pu_blS s).cnt (pu_blS s).sp (pu_blS s).D (pu_blS s).sh (pu_blS s).fs (pu_blS s).os (pu_blS s).ls) : pu_Sp) = (pu_Sp.mk_ (pu_blS s).d (pu_blS s).lv (pu_blS s).outer (s.cmds + 1) (pu_blS s).F (pu_blS s).V (pu_blS s).opn (pu_blS s).w (pu_blS s).h (pu_blS s).hx (pu_blS s).hy (pu_blS s).cp (pu_blS s).tx (pu_blS s).lt (pu_blS s).fx (pu_blS s).fy (pu_blS s).t (pu_blS s).cnt (pu_blS s).sp (pu_blS s).D (pu_blS s).sh (pu_blS s).fs (pu_blS s).os (pu_blS s).ls) from rfl] at S1
        cases hcm : pu_cmd (pu_Sp.mk_ (pu_blS s).d (pu_blS s).lv (pu_blS s).outer (s.cmds + 1) (pu_blS s).F (pu_blS s).V (pu_blS s).opn (pu_blS s).w (pu_blS s).h (pu_blS s).hx (pu_blS s).hy (pu_blS s).cp (pu_blS s).tx (pu_blS s).lt (pu_blS s).fx (pu_blS s).fy (pu_blS s).t (pu_blS s).cnt (pu_blS s).sp (pu_blS s).D (pu_blS s).sh (pu_blS s).fs (pu_blS s).os (pu_blS s).ls) (pu_hd r) r.tail (pu_spotS (pu_blS s) T) with
        | inl c =>
          rw [hcm] at S1 hr
          cases hr
          obtain ⟨m', v1, v2, v3, v4, v5⟩ := S1
          rw [v1, pu_b_some]
          exact ⟨pu_mo_end (s := pu_blS s) (pu_cmd_pos hcm) v3 v4 v5 (fun a ha => (v2 a ha).trans (o1 a ha)), w.bl, hL.bl, b.bl⟩
        | inr s' =>
          rw [hcm] at S1 hr
          simp only [] at hr
          obtain ⟨m', v1, v2, v3⟩ := S1
          have wb : pu_WS (pu_Sp.mk_ (pu_blS s).d (pu_blS s).lv (pu_blS s).outer (s.cmds + 1) (pu_blS s).F (pu_blS s).V (pu_blS s).opn (pu_blS s).w (pu_blS s).h (pu_blS s).hx (pu_blS s).hy (pu_blS s).cp (pu_blS s).tx (pu_blS s).lt (pu_blS s).fx (pu_blS s).fy (pu_blS s).t (pu_blS s).cnt (pu_blS s).sp (pu_blS s).D (pu_blS s).sh (pu_blS s).fs (pu_blS s).os (pu_blS s).ls) := ⟨w.cp, fun q1 q2 => (w.k q1 q2).cp rfl rfl, w.s1, w.s2, w.dl, w.db, w.fs, w.no, w.n, w.d4, w.do_, w.os, w.ls, w.wo⟩
          have bb : pu_WB (pu_Sp.mk_ (pu_blS s).d (pu_blS s).lv (pu_blS s).outer (s.cmds + 1) (pu_blS s).F (pu_blS s).V (pu_blS s).opn (pu_blS s).w (pu_blS s).h (pu_blS s).hx (pu_blS s).hy (pu_blS s).cp (pu_blS s).tx (pu_blS s).lt (pu_blS s).fx (pu_blS s).fy (pu_blS s).t (pu_blS s).cnt (pu_blS s).sp (pu_blS s).D (pu_blS s).sh (pu_blS s).fs (pu_blS s).os (pu_blS s).ls) := ⟨b.bl.lv, b.F, b.V⟩
          have lb : pu_LB (pu_Sp.mk_ (pu_blS s).d (pu_blS s).lv (pu_blS s).outer (s.cmds + 1) (pu_blS s).F (pu_blS s).V (pu_blS s).opn (pu_blS s).w (pu_blS s).h (pu_blS s).hx (pu_blS s).hy (pu_blS s).cp (pu_blS s).tx (pu_blS s).lt (pu_blS s).fx (pu_blS s).fy (pu_blS s).t (pu_blS s).cnt (pu_blS s).sp (pu_blS s).D (pu_blS s).sh (pu_blS s).fs (pu_blS s).os (pu_blS s).ls) T := hL.bl.fr rfl rfl rfl
          have hrb : pu_byteL r.tail := fun x pu_hx => xb x (List.mem_cons_of_mem _ (List.mem_of_mem_tail pu_hx))
          obtain ⟨w1, w2, w3, w4⟩ := pu_cmd_ws hcm wb bb hrb
          have w5 := pu_cmd_lb hcm wb bb lb (by
            show r.tail.length ≤ ((pu_blS s).lv (pu_blS s).d).length
            rw [lvb, List.length_tail, List.length_cons]; omega)
          have w3 : s'.cmds = s.cmds + 1 := w3
          have w4 : s.cmds + 1 < 2000 := w4
          have L4 := v3.st.1
          obtain ⟨i1, i2⟩ := ih s' m' tm_F N res hr v3 w1 w2 w5 (by omega) (by omega) (by unfold tm_F; omega)
          refine ⟨?_, i2⟩
          rw [v1, pu_b_some]
          rw [f_Mo_read_l79, if_neg (show ¬ (1 : Int32) = 0 by decide)]
          exact i1.base (fun a ha => (v2 a ha).trans (o1 a ha))
      · rw [if_neg q94, if_pos xn] at hr
        rw [if_neg q94] at S1
        cases hr
        obtain ⟨m', v1, v2, v3, v4, v5⟩ := S1
        rw [v1, pu_b_some]
        exact ⟨pu_mo_end (s := pu_blS s) (by decide) v3 v4 v5 (fun a ha => (v2 a ha).trans (o1 a ha)), w.bl, hL.bl, b.bl⟩
    | nil =>
      rw [hb, show pu_hd ([] : List Int32) = -1 from rfl, if_neg (by decide), if_neg (by simp)] at hr
      have Rn : pu_RM (pu_onL s []) T m1 := by rw [← hb]; exact R1
      have eb : pu_blS s = pu_onL s [] := by unfold pu_blS; rw [hb]
      by_cases pu_hd0 : 0 < s.d
      · rw [if_pos pu_hd0] at hr
        obtain ⟨m2, l1, l2, l3, l4⟩ := pu_mo_leave (mL := mL) (M := M') Rn pu_hd0 d4
        have wb : pu_WS (pu_Sp.mk_ (s.d - 1) (pu_blS s).lv (pu_blS s).outer (pu_blS s).cmds (pu_blS s).F (pu_blS s).V (pu_blS s).opn (pu_blS s).w (pu_blS s).h (pu_blS s).hx (pu_blS s).hy (pu_blS s).cp (pu_blS s).tx (pu_blS s).lt (pu_blS s).fx (pu_blS s).fy (pu_blS s).t (pu_blS s).cnt (pu_blS s).sp (pu_blS s).D (pu_blS s).sh (pu_blS s).fs (pu_blS s).os (pu_blS s).ls) := ⟨w.cp, fun q1 q2 => (w.k q1 q2).cp rfl rfl, w.s1, w.s2, w.dl, w.db, w.fs, w.no, w.n, by have := w.d4; show s.d - 1 ≤ 4; omega, fun _ => w.do_ pu_hd0, w.os, w.ls, w.wo⟩
        have bb : pu_WB (pu_Sp.mk_ (s.d - 1) (pu_blS s).lv (pu_blS s).outer (pu_blS s).cmds (pu_blS s).F (pu_blS s).V (pu_blS s).opn (pu_blS s).w (pu_blS s).h (pu_blS s).hx (pu_blS s).hy (pu_blS s).cp (pu_blS s).tx (pu_blS s).lt (pu_blS s).fx (pu_blS s).fy (pu_blS s).t (pu_blS s).cnt (pu_blS s).sp (pu_blS s).D (pu_blS s).sh (pu_blS s).fs (pu_blS s).os (pu_blS s).ls) := ⟨fun j hj => b.bl.lv j (by have hj : j ≤ s.d - 1 := hj; show j ≤ s.d; omega), b.F, b.V⟩
        have lb : pu_LB (pu_Sp.mk_ (s.d - 1) (pu_blS s).lv (pu_blS s).outer (pu_blS s).cmds (pu_blS s).F (pu_blS s).V (pu_blS s).opn (pu_blS s).w (pu_blS s).h (pu_blS s).hx (pu_blS s).hy (pu_blS s).cp (pu_blS s).tx (pu_blS s).lt (pu_blS s).fx (pu_blS s).fy (pu_blS s).t (pu_blS s).cnt (pu_blS s).sp (pu_blS s).D (pu_blS s).sh (pu_blS s).fs (pu_blS s).os (pu_blS s).ls) T := ⟨hL.bl.l0, fun j j1 j2 => hL.bl.lj j j1 (by have j2 : j ≤ s.d - 1 := j2; show j ≤ s.d; omega), hL.bl.sz, hL.bl.ok⟩
        have R2 : pu_RM (pu_Sp.mk_ (s.d - 1) (pu_blS s).lv (pu_blS s).outer (pu_blS s).cmds (pu_blS s).F (pu_blS s).V (pu_blS s).opn (pu_blS s).w (pu_blS s).h (pu_blS s).hx (pu_blS s).hy (pu_blS s).cp (pu_blS s).tx (pu_blS s).lt (pu_blS s).fx (pu_blS s).fy (pu_blS s).t (pu_blS s).cnt (pu_blS s).sp (pu_blS s).D (pu_blS s).sh (pu_blS s).fs (pu_blS s).os (pu_blS s).ls) T m2 := by rw [eb]; exact l2
        obtain ⟨i1, i2⟩ := ih (pu_Sp.mk_ (s.d - 1) (pu_blS s).lv (pu_blS s).outer (pu_blS s).cmds (pu_blS s).F (pu_blS s).V (pu_blS s).opn (pu_blS s).w (pu_blS s).h (pu_blS s).hx (pu_blS s).hy (pu_blS s).cp (pu_blS s).tx (pu_blS s).lt (pu_blS s).fx (pu_blS s).fy (pu_blS s).t (pu_blS s).cnt (pu_blS s).sp (pu_blS s).D (pu_blS s).sh (pu_blS s).fs (pu_blS s).os (pu_blS s).ls) m2 M' (N + 1) res hr R2 wb bb lb hc (by omega) (by
          show (pu_pend (pu_fl s.lv s.d (pu_blk (s.lv s.d))) (s.d - 1)).length < M'
          rw [pu_pend_fl (by omega)]
          have : pu_rest s.lv s.d = (-1) :: pu_pend s.lv (s.d - 1) := by
            obtain ⟨d, hd'⟩ : ∃ d, s.d = d + 1 := ⟨s.d - 1, by omega⟩
            rw [hd']; rfl
          rw [this, List.length_cons] at hM
          rw [hb] at a1
          simp only [List.length_nil] at a1
          omega)
        refine ⟨?_, i2⟩
        rw [l1]
        exact i1.base (fun a ha => (l3 a (by omega)).trans (o1 a ha))
      · have d0 : s.d = 0 := by omega
        rw [if_neg pu_hd0] at hr
        have l8 := Rn.l8
        rw [pu_onL_on s [] [], d0] at l8
        have l8 : m1 39 8 = 0 := l8
        have op : m1 39 18 = pu_bi s.opn := R1.op
        have tn := R1.k.tn
        have F0 : ∀ v : Int32, tm_up m1 39 13 v 39 18 = pu_bi s.opn := fun v => by rw [tm_up_k (by decide)]; exact op
        cases hop : s.opn with
        | false =>
          rw [hop, if_neg (by decide)] at hr
          rw [hop] at op F0
          cases hr
          have B0 : f_Mo_step_l0 (M' + 1) m1 mL = some (0, tm_up (tm_up m1 39 13 0) 39 14 (-1), mL) := by
            rw [f_Mo_step_l0, l8, if_pos (by decide)]
            unfold f_Mo_step_b49
            rw [l8, if_neg (by simp), op, if_pos pu_bi_f]
            unfold f_Mo_step_b70 f_Mo_step_b89
            rw [F0, if_pos pu_bi_f]
          have A : ∀ {a}, a ≠ 39 → tm_up (tm_up m1 39 13 0) 39 14 (-1) a = m1 a := fun {a} ha => by rw [pu_tm_up_c ha, pu_tm_up_c ha]
          have B : ∀ {b}, b ≠ 13 → b ≠ 14 → tm_up (tm_up m1 39 13 0) 39 14 (-1) 39 b = m1 39 b := fun {b} h1 h2 => by rw [tm_up_k h2, tm_up_k h1]
          have e13 : tm_up (tm_up m1 39 13 0) 39 14 (-1) 39 13 = 0 := by rw [tm_up_k (by decide), tm_up_eq]
          refine ⟨⟨tm_up (tm_up m1 39 13 0) 39 14 (-1), ?_, fun a ha => (A (by omega)).trans (o1 a ha), R1.k.fr (B (by decide) (by decide)) (A (by decide)) (A (by decide)) (A (by decide)) (A (by decide)) (A (by decide)), e13, tm_up_eq _ _ _ _, ?_⟩, w.bl, hL.bl, b.bl⟩
          · rw [B0, pu_b_some, f_Mo_read_l79, if_pos rfl]
            simp only []
            rw [e13, if_pos (by decide), B (by decide) (by decide), R1.n35]
            rfl
          · rw [if_pos rfl]
            refine ⟨(B (by decide) (by decide)).trans R1.n35, (B (by decide) (by decide)).trans R1.n37, by rw [A (a := 54) (by decide)]; exact R1.lb, fun K hK => ⟨by rw [A (a := 55) (by decide)]; exact (R1.od K hK).row, by rw [A (a := 56) (by decide)]; exact (R1.od K hK).dat⟩⟩
        | true =>
          rw [hop, if_pos rfl] at hr
          rw [hop] at op F0
          cases hr
          have B0 : f_Mo_step_l0 (M' + 1) m1 mL = some (0, tm_up (tm_up m1 39 13 11) 39 14 (Int32.ofNat T.length), mL) := by
            rw [f_Mo_step_l0, l8, if_pos (by decide)]
            unfold f_Mo_step_b49
            rw [l8, if_neg (by simp), op, if_neg pu_bi_t]
            unfold f_Mo_step_b70 f_Mo_step_b89
            rw [F0, if_neg pu_bi_t, tm_up_k (show 2 ≠ 13 by decide), tn]
          have A : ∀ {a}, a ≠ 39 → tm_up (tm_up m1 39 13 11) 39 14 (Int32.ofNat T.length) a = m1 a := fun {a} ha => by rw [pu_tm_up_c ha, pu_tm_up_c ha]
          have B : ∀ {b}, b ≠ 13 → b ≠ 14 → tm_up (tm_up m1 39 13 11) 39 14 (Int32.ofNat T.length) 39 b = m1 39 b := fun {b} h1 h2 => by rw [tm_up_k h2, tm_up_k h1]
          have sp : pu_spotS (pu_blS s) T = Int32.ofNat T.length := by
            unfold pu_spotS
            rw [if_neg (show ¬ 0 < (pu_blS s).d from pu_hd0)]
            have : (pu_blS s).lv 0 = [] := by
              show pu_fl s.lv s.d (pu_blk (s.lv s.d)) 0 = []
              unfold pu_fl; rw [if_pos d0.symm, hb]
            rw [this]; rfl
          refine ⟨?_, w.bl, hL.bl, b.bl⟩
          rw [B0, pu_b_some]
          exact pu_mo_end (s := pu_blS s) (m := tm_up (tm_up m1 39 13 11) 39 14 (Int32.ofNat T.length)) (by decide) (R1.k.fr (B (by decide) (by decide)) (A (by decide)) (A (by decide)) (A (by decide)) (A (by decide)) (A (by decide))) (by rw [tm_up_k (by decide), tm_up_eq]) (by rw [tm_up_eq, sp]) (fun a ha => (A (by omega)).trans (o1 a ha))
end RDM
