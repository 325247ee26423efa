section MOB3
variable {s : pu_Sp} {cs dd T : List Int32} {m : tm_I} {mL : tm_L} {vs : Nat → Int32}
theorem pu_Stk.push {P : List Int32} {m' : tm_I} {b : Int32} (h : pu_Stk m P) (h2 : P.length < 5800) (e1 : ∀ k, k < P.length → m' 45 k = m 45 k) (e2 : m' 45 P.length = b) : pu_Stk m' (b :: P) := by
  refine ⟨by simp; omega, fun k hk => ?_⟩
  rw [List.length_cons] at hk ⊢
  cases k with
  | zero => simp only [List.getElem_cons_zero]; rw [show P.length + 1 - 1 - 0 = P.length by omega]; exact e2
  | succ k =>
    simp only [List.getElem_cons_succ]
    rw [show P.length + 1 - 1 - (k + 1) = P.length - 1 - k by omega, e1 _ (by omega)]
    exact h.2 k (by omega)
theorem pu_lay1 {k : Nat} {G : List Int32} (hk : k < 8) (hG : G.length ≤ 400) : ∀ (j N : Nat) (m : tm_I) (P : List Int32), j ≤ G.length → j < N → pu_Stk m P → m 39 8 = Int32.ofNat P.length → P.length + j ≤ 5800 → (∀ i, i < G.length → m 41 (400 * k + i) = G[i]?.getD (-1)) →
    ∃ m', f_Mo_layForm_l68 N (Int32.ofNat k) (Int32.ofNat j - 1) m mL = some (0, m', mL) ∧ pu_Stk m' (G.take j ++ P) ∧ m' 39 8 = Int32.ofNat (G.take j ++ P).length ∧ (∀ a, a ≠ 39 → a ≠ 45 → m' a = m a) ∧ (∀ b, b ≠ 8 → m' 39 b = m 39 b) := by
  intro j
  induction j with
  | zero =>
    intro N m P hj hN hs h8 hP h41
    obtain ⟨N, rfl⟩ : ∃ n', N = n' + 1 := ⟨N - 1, by omega⟩
    refine ⟨m, ?_, by simpa using hs, by simpa using h8, fun _ _ _ => rfl, fun _ _ => rfl⟩
    rw [f_Mo_layForm_l68, if_pos (by decide)]
  | succ j ih =>
    intro N m P hj hN hs h8 hP h41
    obtain ⟨N, rfl⟩ : ∃ n', N = n' + 1 := ⟨N - 1, by omega⟩
    have e0 : Int32.ofNat (j + 1) - 1 = Int32.ofNat j := by rw [pu_n_lit 1, pu_n_sub (by omega)]; rfl
    have e1 : (400 : Int32) * Int32.ofNat k + Int32.ofNat j = Int32.ofNat (400 * k + j) := by rw [pu_n_lit 400, pu_n_mul, pu_n_add]
    have e2 : Int32.ofNat j + -1 = Int32.ofNat j - 1 := by rw [Int32.sub_eq_add_neg]
    have hlt : j < G.length := by omega
    generalize hm1 : tm_up (tm_up m 45 P.length (G[j]?.getD (-1))) 39 8 (Int32.ofNat (P.length + 1)) = m1
    have F0 : f_Mo_layForm_l68 (N + 1) (Int32.ofNat k) (Int32.ofNat (j + 1) - 1) m mL = f_Mo_layForm_l68 N (Int32.ofNat k) (Int32.ofNat j - 1) m1 mL := by
      rw [f_Mo_layForm_l68, e0, if_neg (pu_n_nn (by omega)), e1, if_pos (pu_n_in (by omega) (by omega)), h8, if_pos (pu_n_in (by omega) (by omega)), pu_n_nat (by omega), pu_n_nat (by omega), h41 j hlt, tm_up_o (show 39 ≠ 45 by decide), h8, e2, show Int32.ofNat P.length + 1 = Int32.ofNat (P.length + 1) by rw [pu_n_lit 1, pu_n_add], hm1]
    have s1 : pu_Stk m1 (G[j]?.getD (-1) :: P) := hs.push (by omega) (fun q hq => by rw [← hm1, tm_up_o (by decide), tm_up_k (by omega)]) (by rw [← hm1, tm_up_o (by decide), tm_up_eq])
    obtain ⟨m', a1, a2, a3, a4, a5⟩ := ih N m1 (G[j]?.getD (-1) :: P) (by omega) (by omega) s1 (by rw [← hm1, tm_up_eq]; rfl) (by simp; omega) (fun i hi => by rw [← hm1, tm_up_o (by decide), tm_up_o (by decide)]; exact h41 i hi)
    have et : G.take j ++ G[j]?.getD (-1) :: P = G.take (j + 1) ++ P := by
      rw [List.take_succ_eq_append_getElem hlt, List.append_assoc, List.getElem?_eq_getElem hlt]; rfl
    rw [et] at a2 a3
    refine ⟨m', F0.trans a1, a2, a3, fun a q1 q2 => ?_, fun b q => ?_⟩
    · rw [a4 a q1 q2, ← hm1, pu_tm_up_c q1, pu_tm_up_c q2]
    · rw [a5 b q, ← hm1, tm_up_k q, tm_up_o (by decide)]
theorem pu_mob_U {at_ : Int32} (h : pu_RM (pu_onL s cs) T m) (hv : pu_agn 1 (m 46) vs) (n : pu_NumOK 85 vs) (ho : s.opn = true) (hd4 : s.d < 4) (hlen : (pu_pend (pu_onL s cs).lv s.d).length ≤ 5300) (hat : m 39 12 = if 0 < s.d then m 39 12 else at_) (hat2 : 0 < s.d → s.outer = at_) : pu_MOut (f_Mo_obey 85 m mL) T m mL (pu_Sp.mk_ (s.d + 1) (pu_fl (pu_fl s.lv s.d cs) (s.d + 1) (s.F (vs 0).toNatClampNeg)) (at_) s.cmds s.F s.V s.opn s.w s.h s.hx s.hy s.cp s.tx s.lt s.fx s.fy s.t s.cnt s.sp s.D s.sh s.fs s.os s.ls) := by
  obtain ⟨k, k1, k2⟩ := n.f (Or.inr rfl)
  have ek : (vs 0).toNatClampNeg = k := by rw [k2, pu_n_nat (by omega)]
  rw [ek]
  obtain ⟨v1, v2⟩ := h.k.fn k k1
  have v1 : m 42 k = Int32.ofNat (s.F k).length := v1
  have v2 : (s.F k).length ≤ 400 := v2
  have v3 : ∀ i, i < (s.F k).length → m 41 (400 * k + i) = (s.F k)[i]?.getD (-1) := h.k.fx k k1
  have st : pu_Stk m (pu_pend (pu_onL s cs).lv s.d) := h.st
  have l8 : m 39 8 = Int32.ofNat (pu_pend (pu_onL s cs).lv s.d).length := h.l8
  have dep : m 39 9 = Int32.ofNat s.d := h.dep
  generalize hP : pu_pend (pu_onL s cs).lv s.d = P at *
  generalize hm1 : tm_up (tm_up (tm_up (tm_up m 39 10 at_) 39 9 (Int32.ofNat (s.d + 1))) 45 P.length (-1)) 39 8 (Int32.ofNat (P.length + 1)) = m1
  have o1 : ∀ a, a ≠ 39 → a ≠ 45 → m1 a = m a := fun a q1 q2 => by rw [← hm1, pu_tm_up_c q1, pu_tm_up_c q2, pu_tm_up_c q1, pu_tm_up_c q1]
  have o39 : ∀ b, b ≠ 8 → b ≠ 9 → b ≠ 10 → m1 39 b = m 39 b := fun b q1 q2 q3 => by rw [← hm1, tm_up_k q1, tm_up_o (by decide), tm_up_k q2, tm_up_k q3]
  have s1 : pu_Stk m1 (-1 :: P) := st.push (by omega) (fun q hq => by rw [← hm1, tm_up_o (by decide), tm_up_k (by omega), tm_up_o (by decide), tm_up_o (by decide)]) (by rw [← hm1, tm_up_o (by decide), tm_up_eq])
  have F0 : f_Mo_obey 85 m mL = (f_Mo_layForm_l68 tm_F (Int32.ofNat k) (Int32.ofNat (s.F k).length - 1) m1 mL).bind fun v7 => some (0, v7.2.1, v7.2.2) := by
    unfold f_Mo_obey f_Mo_obey_b0 f_Mo_obey_b207 f_Mo_layForm f_Mo_layForm_b0
    rw [if_neg (by decide), if_neg (by decide), if_neg (by decide), if_neg (by decide), if_neg (by decide), if_pos rfl, if_pos (by decide), pu_tn0, hv 0 (by decide), k2, dep]
    have B : ∀ s1 : Int32, s1 = at_ → f_Mo_layForm_b26 (Int32.ofNat k) s1 m mL = f_Mo_layForm_l68 tm_F (Int32.ofNat k) (Int32.ofNat (s.F k).length - 1) m1 mL := by
      intro s1 hs1
      subst hs1
      unfold f_Mo_layForm_b26
      have d9 : tm_up m 39 10 s1 39 9 = Int32.ofNat s.d := by rw [tm_up_k (by decide)]; exact dep
      have e9 : tm_up m 39 10 s1 39 9 + 1 = Int32.ofNat (s.d + 1) := by rw [d9, pu_n_lit 1, pu_n_add]
      have d8 : tm_up (tm_up m 39 10 s1) 39 9 (Int32.ofNat (s.d + 1)) 39 8 = Int32.ofNat P.length := by rw [tm_up_k (by decide), tm_up_k (by decide)]; exact l8
      rw [e9, d8, if_pos (pu_n_in (by omega) (by omega)), if_pos (pu_n_in (by omega) (by omega)), pu_n_nat (by omega), pu_n_nat (by omega), tm_up_o (show 39 ≠ 45 by decide), d8]
      rw [show Int32.ofNat P.length + 1 = Int32.ofNat (P.length + 1) by rw [pu_n_lit 1, pu_n_add], hm1, o1 42 (by decide) (by decide), v1]
    by_cases q : s.d = 0
    · rw [if_neg (by rw [q]; simp), B _ (by rw [hat, if_neg (by omega)])]
    · rw [if_pos (by rw [pu_n_zero, pu_n_eq (by omega) (by omega)]; exact q), B _ (by
        have : m 39 10 = s.outer := h.out (by show 0 < s.d; omega)
        rw [this, hat2 (by omega)])]
  obtain ⟨m', a1, a2, a3, a4, a5⟩ := pu_lay1 (mL := mL) k1 v2 (s.F k).length tm_F m1 (-1 :: P) (Nat.le_refl _) (by unfold tm_F; omega) s1 (by rw [← hm1, tm_up_eq]; rfl) (by simp; omega) (fun i hi => by rw [o1 41 (by decide) (by decide)]; exact v3 i hi)
  rw [List.take_length] at a2 a3
  have ep : pu_pend (pu_fl (pu_fl s.lv s.d cs) (s.d + 1) (s.F k)) (s.d + 1) = s.F k ++ -1 :: P := by
    rw [pu_pend_on, ← hP]; rfl
  have c : ∀ a, a ≠ 39 → a ≠ 45 → m' a = m a := fun a q1 q2 => (a4 a q1 q2).trans (o1 a q1 q2)
  have c39 : ∀ b, b ≠ 8 → b ≠ 9 → b ≠ 10 → m' 39 b = m 39 b := fun b q1 q2 q3 => (a5 b q1).trans (o39 b q1 q2 q3)
  refine ⟨m', by rw [F0, a1, pu_b_some], ⟨h.k.fr (c39 2 (by decide) (by decide) (by decide)) (c 40 (by decide) (by decide)) (c 41 (by decide) (by decide)) (c 42 (by decide) (by decide)) (c 43 (by decide) (by decide)) (c 44 (by decide) (by decide)), ?_, ?_, ?_, fun _ => ?_, ?_, ?_, ?_, ?_, by rw [c 54 (by decide) (by decide)]; exact h.lb, fun K hK => ⟨by rw [c 55 (by decide) (by decide)]; exact (h.od K hK).row, by rw [c 56 (by decide) (by decide)]; exact (h.od K hK).dat⟩, by rw [c39 32 (by decide) (by decide) (by decide)]; exact h.w32, fun ho2 => ?_⟩, fun a ha => c a (by omega) (by omega), c39 13 (by decide) (by decide) (by decide), c39 12 (by decide) (by decide) (by decide)⟩
  · show pu_Stk m' (pu_pend (pu_fl (pu_fl s.lv s.d cs) (s.d + 1) (s.F k)) (s.d + 1))
    rw [ep]; exact a2
  · show m' 39 8 = Int32.ofNat (pu_pend (pu_fl (pu_fl s.lv s.d cs) (s.d + 1) (s.F k)) (s.d + 1)).length
    rw [ep]; exact a3
  · rw [a5 9 (by decide), ← hm1, tm_up_k (by decide), tm_up_o (by decide), tm_up_eq]
  · rw [a5 10 (by decide), ← hm1, tm_up_k (by decide), tm_up_o (by decide), tm_up_k (by decide), tm_up_eq]
  · rw [c39 11 (by decide) (by decide) (by decide)]; exact h.cm
  · rw [c39 18 (by decide) (by decide) (by decide)]; exact h.op
  · rw [c39 35 (by decide) (by decide) (by decide)]; exact h.n35
  · rw [c39 37 (by decide) (by decide) (by decide)]; exact h.n37
  · obtain ⟨L, F1⟩ := h.lab ho
    exact ⟨⟨(c39 19 (by decide) (by decide) (by decide)).trans L.w, (c39 20 (by decide) (by decide) (by decide)).trans L.h, (c39 21 (by decide) (by decide) (by decide)).trans L.cp, (c39 22 (by decide) (by decide) (by decide)).trans L.hx, (c39 23 (by decide) (by decide) (by decide)).trans L.hy, by rw [c 48 (by decide) (by decide)]; exact L.tx, (c39 25 (by decide) (by decide) (by decide)).trans L.nf, (c39 26 (by decide) (by decide) (by decide)).trans L.md, fun f hf => (L.fs f hf).fr (c 50 (by decide) (by decide)) (c 52 (by decide) (by decide))⟩, pu_FldM.fr (s := pu_onL s cs) F1 (c 49 (by decide) (by decide)) (c 51 (by decide) (by decide)) rfl rfl rfl rfl rfl rfl rfl rfl⟩
theorem pu_st1 {k z : Nat} (hk : k < 8) (hz : z ≤ 400) : ∀ (t i N : Nat) (m : tm_I) (P : List Int32), t + i = z → t < N → pu_Stk m P → m 39 8 = Int32.ofNat P.length → t + 2 ≤ P.length → m 42 k = Int32.ofNat z →
    ∃ m', f_Mo_storeForm_l19 N (Int32.ofNat k) (Int32.ofNat i) m mL = some (0, m', mL) ∧ m' 39 8 = Int32.ofNat (P.length - (t + 2)) ∧ (∀ a, a ≠ 39 → a ≠ 41 → m' a = m a) ∧ (∀ b, b ≠ 8 → m' 39 b = m 39 b) ∧ (∀ j, j < t → m' 41 (400 * k + i + j) = P[j]?.getD (-1)) ∧ (∀ b, (b < 400 * k + i ∨ 400 * k + z ≤ b) → m' 41 b = m 41 b) := by
  intro t
  induction t with
  | zero =>
    intro i N m P hi hN hs h8 hP h42
    obtain ⟨N, rfl⟩ : ∃ n', N = n' + 1 := ⟨N - 1, by omega⟩
    have hl := hs.1
    refine ⟨tm_up m 39 8 (Int32.ofNat (P.length - 2)), ?_, tm_up_eq _ _ _ _, fun a q _ => pu_tm_up_c q, fun b q => tm_up_k q, fun j hj => absurd hj (Nat.not_lt_zero j), fun b _ => tm_up_o (by decide)⟩
    rw [f_Mo_storeForm_l19, if_pos (pu_n_in (by omega) (by omega)), pu_n_nat (by omega), h42, if_pos (by simp (disch := omega) only [pu_n_lit, pu_n_add, pu_n_mul, pu_n_sub, pu_n_div, pu_n_nat, pu_q_ltT, pu_q_ltF, pu_q_leT, pu_q_leF, pu_q_eqT, pu_q_eqF, pu_n_lt, pu_n_le, pu_n_eq, pu_p_ltT, pu_p_ltF, pu_p_leT, pu_p_leF, not_true_eq_false, not_false_eq_true, or_false, false_or, or_true, true_or, and_true, true_and, and_false, false_and, ↓reduceIte, pu_b_some]), h8, pu_n_lit 2, pu_n_sub (by omega)]
  | succ t ih =>
    intro i N m P hi hN hs h8 hP h42
    obtain ⟨N, rfl⟩ : ∃ n', N = n' + 1 := ⟨N - 1, by omega⟩
    have hl := hs.1
    have nx := pu_mo_next (mL := mL) hs (q := 0) (by rw [Nat.sub_zero]; exact h8)
    rw [List.drop_zero] at nx
    have e1 : (400 : Int32) * Int32.ofNat k + Int32.ofNat i = Int32.ofNat (400 * k + i) := by rw [pu_n_lit 400, pu_n_mul, pu_n_add]
    generalize hm1 : tm_up (tm_up m 39 8 (Int32.ofNat (P.length - (0 + 1)))) 41 (400 * k + i) (pu_hd P) = m1
    have o1 : ∀ a, a ≠ 39 → a ≠ 41 → m1 a = m a := fun a q1 q2 => by rw [← hm1, pu_tm_up_c q2, pu_tm_up_c q1]
    have F0 : f_Mo_storeForm_l19 (N + 1) (Int32.ofNat k) (Int32.ofNat i) m mL = f_Mo_storeForm_l19 N (Int32.ofNat k) (Int32.ofNat (i + 1)) m1 mL := by
      rw [f_Mo_storeForm_l19, if_pos (pu_n_in (by omega) (by omega)), pu_n_nat (by omega), h42, if_neg (by simp (disch := omega) only [pu_n_lit, pu_n_add, pu_n_mul, pu_n_sub, pu_n_div, pu_n_nat, pu_q_ltT, pu_q_ltF, pu_q_leT, pu_q_leF, pu_q_eqT, pu_q_eqF, pu_n_lt, pu_n_le, pu_n_eq, pu_p_ltT, pu_p_ltF, pu_p_leT, pu_p_leF, not_true_eq_false, not_false_eq_true, or_false, false_or, or_true, true_or, and_true, true_and, and_false, false_and, ↓reduceIte, pu_b_some]), nx, pu_b_some]
      simp only []
      rw [e1, if_pos (pu_n_in (by omega) (by omega)), pu_n_nat (by omega), hm1, pu_n_lit 1, pu_n_add]
    have s1 : pu_Stk m1 (P.drop 1) := (hs.drop 1).fr (o1 45 (by decide) (by decide))
    obtain ⟨m', a1, a2, a3, a4, a5, a6⟩ := ih (i + 1) N m1 (P.drop 1) (by omega) (by omega) s1 (by rw [← hm1, tm_up_o (by decide), tm_up_eq, List.length_drop]) (by rw [List.length_drop]; omega) (by rw [o1 42 (by decide) (by decide)]; exact h42)
    refine ⟨m', F0.trans a1, by rw [a2, List.length_drop]; congr 1; omega, fun a q1 q2 => (a3 a q1 q2).trans (o1 a q1 q2), fun b q => by rw [a4 b q, ← hm1, tm_up_o (by decide), tm_up_k q], fun j hj => ?_, fun b hb => ?_⟩
    · cases j with
      | zero =>
        rw [a6 _ (Or.inl (by omega)), ← hm1, show 400 * k + i + 0 = 400 * k + i from rfl, tm_up_eq, pu_hd0]
      | succ j =>
        have := a5 j (by omega)
        rw [List.getElem?_drop] at this
        rw [show 400 * k + i + (j + 1) = 400 * k + (i + 1) + j by omega, this, Nat.add_comm 1 j]
    · rw [a6 b (by omega), ← hm1, tm_up_k (by omega), tm_up_o (by decide)]
theorem pu_mob_S {z : Nat} (h : pu_RM (pu_onL s cs) T m) (pu_hd0 : s.d = 0) (hop : s.opn = false) (hv : pu_agn 1 (m 46) vs) (n : pu_NumOK 83 vs) (hf : pu_spFind cs 0 = some z) (hz : z ≤ 400) : pu_MOut (f_Mo_obey 83 m mL) T m mL (pu_Sp.mk_ s.d (pu_fl s.lv s.d (cs.drop (z + 2))) s.outer s.cmds (pu_fl s.F (vs 0).toNatClampNeg (cs.take z)) s.V s.opn s.w s.h s.hx s.hy s.cp s.tx s.lt s.fx s.fy s.t s.cnt s.sp s.D s.sh s.fs s.os s.ls) := by
  obtain ⟨k, k1, k2⟩ := n.f (Or.inl rfl)
  have ek : (vs 0).toNatClampNeg = k := by rw [k2, pu_n_nat (by omega)]
  rw [ek]
  have hp : pu_pend (pu_onL s cs).lv s.d = cs := by
    show pu_pend (pu_fl s.lv s.d cs) s.d = cs
    rw [pu_pend_on, pu_hd0]; simp [pu_rest]
  have st : pu_Stk m cs := by have : pu_Stk m (pu_pend (pu_onL s cs).lv s.d) := h.st; rw [hp] at this; exact this
  have l8 : m 39 8 = Int32.ofNat cs.length := by have : m 39 8 = Int32.ofNat (pu_pend (pu_onL s cs).lv s.d).length := h.l8; rw [hp] at this; exact this
  have zl := pu_spFind_lt cs 0 z hf
  have fs := pu_mo_form (mL := mL) st (q := 0) (by rw [Nat.sub_zero]; exact l8) (by omega)
  rw [List.drop_zero, hf] at fs
  have fs : f_Mo_formSize m mL = some (Int32.ofNat z, m, mL) := fs
  generalize hm1 : tm_up m 42 k (Int32.ofNat z) = m1
  have o1 : ∀ a, a ≠ 42 → m1 a = m a := fun a q => by rw [← hm1, pu_tm_up_c q]
  obtain ⟨m', a1, a2, a3, a4, a5, a6⟩ := pu_st1 (mL := mL) k1 hz z 0 tm_F m1 cs (by omega) (by unfold tm_F; omega) (st.fr (o1 45 (by decide))) (by rw [o1 39 (by decide)]; exact l8) (by omega) (by rw [← hm1, tm_up_eq])
  have e : f_Mo_obey 83 m mL = some (0, m', mL) := by
    unfold f_Mo_obey f_Mo_obey_b0 f_Mo_obey_b207 f_Mo_storeForm f_Mo_storeForm_b0
    rw [show Int32.ofNat 0 = (0 : Int32) from rfl] at a1
    rw [if_neg (by decide), if_neg (by decide), if_neg (by decide), if_neg (by decide), if_pos rfl, if_pos (by decide), pu_tn0, fs, pu_b_some, hv 0 (by decide), k2, if_pos (pu_n_in (by omega) (by omega)), pu_n_nat (by omega)]
    simp only []
    rw [hm1, a1, pu_b_some]
  have c : ∀ a, a ≠ 39 → a ≠ 41 → a ≠ 42 → m' a = m a := fun a q1 q2 q3 => (a3 a q1 q2).trans (o1 a q3)
  have c39 : ∀ b, b ≠ 8 → m' 39 b = m 39 b := fun b q => (a4 b q).trans (by rw [o1 39 (by decide)])
  have hcl : cs.length ≤ 5800 := st.1
  have ep : pu_pend (pu_fl s.lv s.d (cs.drop (z + 2))) s.d = cs.drop (z + 2) := by rw [pu_pend_on, pu_hd0]; simp [pu_rest]
  refine ⟨m', e, ⟨⟨(c39 2 (by decide)).trans h.k.tn, h.k.tl, by rw [c 40 (by decide) (by decide) (by decide)]; exact h.k.tx, fun i hi => ?_, fun i hi j hj => ?_, by rw [c 44 (by decide) (by decide) (by decide)]; exact h.k.vn, by rw [c 43 (by decide) (by decide) (by decide)]; exact h.k.vx⟩, ?_, ?_, (c39 9 (by decide)).trans h.dep, fun q => ?_, (c39 11 (by decide)).trans h.cm, (c39 18 (by decide)).trans h.op, (c39 35 (by decide)).trans h.n35, (c39 37 (by decide)).trans h.n37, by rw [c 54 (by decide) (by decide) (by decide)]; exact h.lb, fun K hK => ⟨by rw [c 55 (by decide) (by decide) (by decide)]; exact (h.od K hK).row, by rw [c 56 (by decide) (by decide) (by decide)]; exact (h.od K hK).dat⟩, by rw [c39 32 (by decide)]; exact h.w32, fun q => ?_⟩, fun a ha => c a (by omega) (by omega) (by omega), c39 13 (by decide), c39 12 (by decide)⟩
  · show m' 42 i = Int32.ofNat (pu_fl s.F k (cs.take z) i).length ∧ (pu_fl s.F k (cs.take z) i).length ≤ 400
    rw [a3 42 (by decide) (by decide), ← hm1]
    unfold pu_fl
    by_cases q : i = k
    · subst q; rw [if_pos rfl, tm_up_eq, List.length_take]; exact ⟨by congr 1; omega, by omega⟩
    · rw [if_neg q, tm_up_k q]; exact h.k.fn i hi
  · have hj : j < (pu_fl s.F k (cs.take z) i).length := hj
    show m' 41 (400 * i + j) = (pu_fl s.F k (cs.take z) i)[j]?.getD (-1)
    unfold pu_fl at hj ⊢
    by_cases q : i = k
    · subst q
      rw [if_pos rfl] at hj ⊢
      rw [List.length_take] at hj
      have := a5 j (by omega)
      rw [Nat.add_zero] at this
      rw [this, List.getElem?_take_of_lt (by omega)]
    · rw [if_neg q] at hj ⊢
      have := (h.k.fn i hi).2
      have this : (s.F i).length ≤ 400 := this
      rw [a6 _ (by omega), o1 41 (by decide)]; exact h.k.fx i hi j hj
  · show pu_Stk m' (pu_pend (pu_fl s.lv s.d (cs.drop (z + 2))) s.d)
    rw [ep]; exact (st.drop (z + 2)).fr (c 45 (by decide) (by decide) (by decide))
  · show m' 39 8 = Int32.ofNat (pu_pend (pu_fl s.lv s.d (cs.drop (z + 2))) s.d).length
    rw [ep, a2, List.length_drop]
  · have q : 0 < s.d := q
    omega
  · have q : s.opn = true := q
    rw [hop] at q; cases q
end MOB3
section MOB4
variable {s : pu_Sp} {cs dd T : List Int32} {m : tm_I} {mL : tm_L} {vs : Nat → Int32}
theorem pu_mob_L (h : pu_RM (pu_onL s cs) T m) (w : pu_WS s) (hop : s.opn = false) (hv : pu_agn 2 (m 46) vs) : pu_MOut (f_Mo_obey 76 m mL) T m mL (pu_newF (pu_Sp.mk_ (pu_onL s cs).d (pu_onL s cs).lv (pu_onL s cs).outer (pu_onL s cs).cmds (pu_onL s cs).F (pu_onL s cs).V (true) (vs 0) (vs 1) (0) (0) (1) (pu_fu4 pu_vz 0 1 1 0) (pu_onL s cs).lt (pu_onL s cs).fx (pu_onL s cs).fy (pu_onL s cs).t (pu_onL s cs).cnt (pu_onL s cs).sp (pu_onL s cs).D (pu_onL s cs).sh ([]) (pu_onL s cs).os (pu_onL s cs).ls)) := by
  generalize hm1 : tm_up (tm_up (tm_up (tm_up (tm_up (tm_up (tm_up (tm_up (tm_up (tm_up (tm_up (tm_up m 39 18 1) 39 19 (vs 0)) 39 20 (vs 1)) 39 21 1) 39 22 0) 39 23 0) 48 0 0) 48 1 1) 48 2 1) 48 3 0) 39 25 0) 39 26 0 = m1
  obtain ⟨m', a1, a2, a3, a4⟩ := pu_mo_new (m := m1) (mL := mL)
  have e : f_Mo_obey 76 m mL = some (0, m', mL) := by
    unfold f_Mo_obey f_Mo_obey_b0 f_Mo_obey_b207 f_Mo_beginLabel f_Mo_beginLabel_b0
    rw [if_neg (by decide), if_neg (by decide), if_neg (by decide), if_pos rfl, if_pos (by decide), if_pos (by decide), if_pos (by decide), if_pos (by decide), if_pos (by decide), if_pos (by decide)]
    rw [pu_tn0, pu_tn1, show Int32.toNatClampNeg (2 : Int32) = 2 from rfl, show Int32.toNatClampNeg (3 : Int32) = 3 from rfl, tm_up_o (show 46 ≠ 39 by decide), hv 0 (by decide), tm_up_o (show 46 ≠ 39 by decide), tm_up_o (show 46 ≠ 39 by decide), hv 1 (by decide), hm1, a1, pu_b_some, pu_b_some]
  have c1 : ∀ a, a ≠ 39 → a ≠ 48 → m1 a = m a := fun a q1 q2 => by rw [← hm1, pu_tm_up_c q1, pu_tm_up_c q1, pu_tm_up_c q2, pu_tm_up_c q2, pu_tm_up_c q2, pu_tm_up_c q2, pu_tm_up_c q1, pu_tm_up_c q1, pu_tm_up_c q1, pu_tm_up_c q1, pu_tm_up_c q1, pu_tm_up_c q1]
  have c39 : ∀ b, ¬ pu_labB b → b ≠ 18 → m' 39 b = m 39 b := fun b hb q => by
    unfold pu_labB at hb
    rw [a2 39 (by decide), ← hm1, tm_up_k (by omega), tm_up_k (by omega), tm_up_o (by decide), tm_up_o (by decide), tm_up_o (by decide), tm_up_o (by decide), tm_up_k (by omega), tm_up_k (by omega), tm_up_k (by omega), tm_up_k (by omega), tm_up_k (by omega), tm_up_k q]
  have c : ∀ a, a ≠ 39 → a ≠ 48 → a ≠ 49 → m' a = m a := fun a q1 q2 q3 => (a2 a q3).trans (c1 a q1 q2)
  have B : ∀ {b}, ¬ pu_labB b → b ≠ 18 → m' 39 b = m 39 b := fun hb q => c39 _ hb q
  have o39 : m' 39 = m1 39 := a2 39 (by decide)
  refine ⟨m', e, ⟨h.k.fr (B (by unfold pu_labB; omega) (by decide)) (c 40 (by decide) (by decide) (by decide)) (c 41 (by decide) (by decide) (by decide)) (c 42 (by decide) (by decide) (by decide)) (c 43 (by decide) (by decide) (by decide)) (c 44 (by decide) (by decide) (by decide)), h.st.fr (c 45 (by decide) (by decide) (by decide)), (B (by unfold pu_labB; omega) (by decide)).trans h.l8, (B (by unfold pu_labB; omega) (by decide)).trans h.dep, fun q => (B (by unfold pu_labB; omega) (by decide)).trans (h.out q), (B (by unfold pu_labB; omega) (by decide)).trans h.cm, ?_, (B (by unfold pu_labB; omega) (by decide)).trans h.n35, (B (by unfold pu_labB; omega) (by decide)).trans h.n37, by rw [c 54 (by decide) (by decide) (by decide)]; exact h.lb, fun K hK => ⟨by rw [c 55 (by decide) (by decide) (by decide)]; exact (h.od K hK).row, by rw [c 56 (by decide) (by decide) (by decide)]; exact (h.od K hK).dat⟩, fun q => absurd rfl q, fun _ => ⟨⟨?_, ?_, ?_, ?_, ?_, fun i hi => ?_, ?_, ?_, fun f hf => absurd hf (Nat.not_lt_zero f)⟩, ⟨a3, fun q => absurd rfl q, ?_, ?_, ?_, ?_, ?_, ?_, fun i hi => absurd hi (Nat.not_lt_zero i)⟩⟩⟩, fun a ha => c a (by omega) (by omega) (by omega), c39 13 (by unfold pu_labB; omega) (by decide), c39 12 (by unfold pu_labB; omega) (by decide)⟩
  · show m' 39 18 = pu_bi true
    rw [o39, ← hm1]; simp [tm_up, pu_bi]
  · show m' 39 19 = vs 0
    rw [o39, ← hm1]; simp [tm_up]
  · show m' 39 20 = vs 1
    rw [o39, ← hm1]; simp [tm_up]
  · show m' 39 21 = Int32.ofNat 1
    rw [o39, ← hm1]; simp [tm_up]
  · show m' 39 22 = 0
    rw [o39, ← hm1]; simp [tm_up]
  · show m' 39 23 = 0
    rw [o39, ← hm1]; simp [tm_up]
  · show m' 48 i = pu_fu4 pu_vz 0 1 1 0 i
    rw [a2 48 (by decide), ← hm1]
    have : i = 0 ∨ i = 1 ∨ i = 2 ∨ i = 3 := by omega
    rcases this with rfl | rfl | rfl | rfl <;> simp [tm_up, pu_fu4, pu_fu]
  · show m' 39 25 = Int32.ofNat 0
    rw [o39, ← hm1]; simp [tm_up]
  · show m' 39 26 = Int32.ofNat 0
    rw [o39, ← hm1]; simp [tm_up]
  · rw [a4 5 (by decide) (by decide)]; rfl
  · rw [a4 6 (by decide) (by decide)]; rfl
  · rw [a4 7 (by decide) (by decide)]; rfl
  · rw [a4 8 (by decide) (by decide)]; rfl
  · rw [a4 9 (by decide) (by decide)]; rfl
  · rw [a4 10 (by decide) (by decide)]; rfl
theorem pu_ords_sz {R : pu_Fd} (w : pu_WFd R) (hl : R.D.length ≤ 200) : ∀ o ∈ pu_ords R, o.sz ≤ 200 := by
  intro o ho
  by_cases q : R.lt = 87
  · obtain ⟨n, n1, n2, n3⟩ := w.w q
    unfold pu_ords pu_linesOf at ho
    rw [if_pos q, n3, pu_n_nat (by omega)] at ho
    obtain ⟨j, p, hp, rfl⟩ := pu_linesO_mem _ _ ho
    have := pu_spLines_ok n1 202 0 (Nat.zero_le _) p hp
    show p.2 ≤ 200
    omega
  · rw [pu_ords_not87 q w, List.mem_cons] at ho
    rcases ho with rfl | ho
    · unfold pu_ord1
      rcases w.k with k | k | k | k | k | k | k | k | k
      · simp [k]; exact hl
      · exact absurd k q
      · simp [k]; exact hl
      · simp [k]; exact hl
      · simp [k]; exact hl
      · simp [k]; exact Nat.zero_le 200
      · simp [k]; exact Nat.zero_le 200
      · simp [k]; exact Nat.zero_le 200
      · simp [k]
        show R.D.length / 2 ≤ 200
        omega
    · split at ho
      · rw [List.mem_singleton] at ho; subst ho; exact hl
      · simp at ho
def pu_EO (m m' : tm_I) (O : Nat) (os : List pu_Od) : Prop := (∀ a, a ≠ 39 → a ≠ 53 → a ≠ 55 → a ≠ 56 → m' a = m a) ∧ (∀ b, b ≠ 26 → b ≠ 32 → b ≠ 37 → m' 39 b = m 39 b) ∧ (m' 39 37 = Int32.ofNat (O + os.length)) ∧ (∀ b, b < 9 * O → m' 55 b = m 55 b) ∧ (∀ b, b < 200 * O → m' 56 b = m 56 b) ∧ (∀ (i : Nat) (h : i < os.length), pu_ModO m' (O + i) os[i])
theorem pu_EO.o {m : tm_I} {m' : tm_I} {O : Nat} {os : List pu_Od} (h_ : pu_EO m m' O os) : ∀ a, a ≠ 39 → a ≠ 53 → a ≠ 55 → a ≠ 56 → m' a = m a := h_.1
theorem pu_EO.c39 {m : tm_I} {m' : tm_I} {O : Nat} {os : List pu_Od} (h_ : pu_EO m m' O os) : ∀ b, b ≠ 26 → b ≠ 32 → b ≠ 37 → m' 39 b = m 39 b := h_.2.1
theorem pu_EO.n {m : tm_I} {m' : tm_I} {O : Nat} {os : List pu_Od} (h_ : pu_EO m m' O os) : m' 39 37 = Int32.ofNat (O + os.length) := h_.2.2.1
theorem pu_EO.o1 {m : tm_I} {m' : tm_I} {O : Nat} {os : List pu_Od} (h_ : pu_EO m m' O os) : ∀ b, b < 9 * O → m' 55 b = m 55 b := h_.2.2.2.1
theorem pu_EO.o2 {m : tm_I} {m' : tm_I} {O : Nat} {os : List pu_Od} (h_ : pu_EO m m' O os) : ∀ b, b < 200 * O → m' 56 b = m 56 b := h_.2.2.2.2.1
theorem pu_EO.new {m : tm_I} {m' : tm_I} {O : Nat} {os : List pu_Od} (h_ : pu_EO m m' O os) : ∀ (i : Nat) (h : i < os.length), pu_ModO m' (O + i) os[i] := h_.2.2.2.2.2
theorem pu_end_f {O c : Nat} (fs : List pu_Fd) (hfs : ∀ R ∈ fs, pu_FdOK R) (hn : fs.length ≤ 120) (hc : c ≤ 12) (r17 : Int32 → Int32 → tm_I → tm_L → Option (Int32 × tm_I × tm_L)) (x1 : Int32) : ∀ (t f N : Nat) (m : tm_I) (O : Nat), t + f = fs.length → t < N → m 39 25 = Int32.ofNat fs.length → m 39 33 = pu_bi true → (fs ≠ [] → ∃ w, m 39 32 = pu_bi w) → m 39 37 = Int32.ofNat O → O + ((fs.drop f).flatMap pu_ords).length ≤ 120 → (∀ (g : Nat) (hg : g < fs.length), pu_RecM m g fs[g]) →
    ∃ m', f_Mo_endLabel_l90 r17 N x1 (Int32.ofNat c) (Int32.ofNat f) m mL = r17 x1 (Int32.ofNat (c + 1)) (tm_up m' 39 35 (m 39 35 + 1)) mL ∧ pu_EO m m' O (((fs.drop f).flatMap pu_ords).map (pu_cpO c)) ∧ (fs ≠ [] → ∃ w, m' 39 32 = pu_bi w) := by
  intro t
  induction t with
  | zero =>
    intro f N m O hf hN h25 h33 hw h37 hO hr
    obtain ⟨N, rfl⟩ : ∃ n', N = n' + 1 := ⟨N - 1, by omega⟩
    refine ⟨m, ?_, ?_, hw⟩
    · rw [f_Mo_endLabel_l90, h25, if_pos (by simp (disch := omega) only [pu_n_lit, pu_n_add, pu_n_mul, pu_n_sub, pu_n_div, pu_n_nat, pu_q_ltT, pu_q_ltF, pu_q_leT, pu_q_leF, pu_q_eqT, pu_q_eqF, pu_n_lt, pu_n_le, pu_n_eq, pu_p_ltT, pu_p_ltF, pu_p_leT, pu_p_leF, not_true_eq_false, not_false_eq_true, or_false, false_or, or_true, true_or, and_true, true_and, and_false, false_and, ↓reduceIte, pu_b_some]), pu_n_lit 1, pu_n_add]
    · rw [List.drop_eq_nil_of_le (by omega)]
      exact ⟨fun _ _ _ _ _ => rfl, fun _ _ _ _ => rfl, h37, fun _ _ => rfl, fun _ _ => rfl, fun i hi => absurd hi (Nat.not_lt_zero i)⟩
  | succ t ih =>
    intro f N m O hf hN h25 h33 hw h37 hO hr
    obtain ⟨N, rfl⟩ : ∃ n', N = n' + 1 := ⟨N - 1, by omega⟩
    have hlt : f < fs.length := by omega
    have hR := hfs _ (List.getElem_mem hlt)
    rw [List.drop_eq_getElem_cons hlt, List.flatMap_cons, List.length_append] at hO
    obtain ⟨w, hw⟩ := hw (fun e => by rw [e] at hlt; exact absurd hlt (Nat.not_lt_zero _))
    obtain ⟨m1, a1, a2⟩ := pu_mo_makeField (m := m) (mL := mL) (c := c) (O := O) (kp := true) (w := w) (hr f hlt) hR.w (by omega) hR.len hR.s1 hR.s2 hc h33 hw (fun _ => ⟨h37, by omega⟩)
    obtain ⟨b1, b2, b3, b4⟩ := a2.ord rfl h37
    rw [List.length_map] at b1
    have F0 : f_Mo_endLabel_l90 r17 (N + 1) x1 (Int32.ofNat c) (Int32.ofNat f) m mL = f_Mo_endLabel_l90 r17 N x1 (Int32.ofNat c) (Int32.ofNat (f + 1)) m1 mL := by
      rw [f_Mo_endLabel_l90, h25, if_neg (by simp (disch := omega) only [pu_n_lit, pu_n_add, pu_n_mul, pu_n_sub, pu_n_div, pu_n_nat, pu_q_ltT, pu_q_ltF, pu_q_leT, pu_q_leF, pu_q_eqT, pu_q_eqF, pu_n_lt, pu_n_le, pu_n_eq, pu_p_ltT, pu_p_ltF, pu_p_leT, pu_p_leF, not_true_eq_false, not_false_eq_true, or_false, false_or, or_true, true_or, and_true, true_and, and_false, false_and, ↓reduceIte, pu_b_some]), a1, pu_b_some, pu_n_lit 1, pu_n_add]
    obtain ⟨m', c1, c2, c3⟩ := ih (f + 1) N m1 (O + (pu_ords fs[f]).length) (by omega) (by omega) (by rw [a2.c39 25 (by decide) (by decide) (by decide)]; exact h25) (by rw [a2.c39 33 (by decide) (by decide) (by decide)]; exact h33) (fun _ => ⟨_, a2.wr w hw⟩) b1 (by omega) (fun g hg => (hr g hg).fr (a2.o 50 (by decide) (by decide) (by decide) (by decide)) (a2.o 52 (by decide) (by decide) (by decide) (by decide)))
    refine ⟨m', ?_, ?_, c3⟩
    · rw [F0, c1, a2.c39 35 (by decide) (by decide) (by decide)]
    · rw [List.drop_eq_getElem_cons hlt, List.flatMap_cons, List.map_append]
      have hl1 : ((pu_ords fs[f]).map (pu_cpO c)).length = (pu_ords fs[f]).length := List.length_map _
      have szs : ∀ o ∈ (pu_ords fs[f]).map (pu_cpO c), o.sz ≤ 200 := by
        intro o ho
        obtain ⟨o', h1, rfl⟩ := List.mem_map.mp ho
        show o'.sz ≤ 200
        exact pu_ords_sz hR.w hR.len o' h1
      refine ⟨fun a q1 q2 q3 q4 => (c2.o a q1 q2 q3 q4).trans (a2.o a q1 q2 q3 q4), fun b q1 q2 q3 => (c2.c39 b q1 q2 q3).trans (a2.c39 b q1 q2 q3), by rw [c2.n, List.length_append, hl1]; congr 1; omega, fun b hb => (c2.o1 b (by omega)).trans (b2 b hb), fun b hb => (c2.o2 b (by omega)).trans (b3 b hb), fun i hi => ?_⟩
      rw [List.length_append, hl1] at hi
      by_cases q : i < (pu_ords fs[f]).length
      · rw [List.getElem_append_left (by rw [hl1]; exact q)]
        have z := b4 i (by rw [hl1]; exact q)
        have zs := szs _ (List.getElem_mem (by rw [hl1]; exact q))
        exact ⟨fun j hj => by rw [c2.o1 _ (by omega)]; exact z.row j hj, fun j hj => by rw [c2.o2 _ (by omega)]; exact z.dat j hj⟩
      · rw [List.getElem_append_right (by rw [hl1]; omega)]
        have := c2.new (i - (pu_ords fs[f]).length) (by omega)
        rw [show O + (pu_ords fs[f]).length + (i - (pu_ords fs[f]).length) = O + i by omega] at this
        simp only [hl1]
        exact this
end MOB4
section MOB5
variable {s : pu_Sp} {cs dd T : List Int32} {mL : tm_L} {vs : Nat → Int32}
theorem pu_flat_map_cpO (fs : List pu_Fd) (c : Nat) : ((fs.drop 0).flatMap pu_ords).map (pu_cpO c) = (fs.flatMap pu_ords).map (pu_cpO c) := by rw [List.drop_zero]
set_option maxHeartbeats 1000000 in
theorem pu_end_c {fs : List pu_Fd} (hfs : ∀ R ∈ fs, pu_FdOK R) (hn : fs.length ≤ 120) {w h : Int32} {x1 B cp : Nat} (hB : (fs.flatMap pu_ords).length = B) (hcp : cp ≤ 12) (hsz : B ≤ 120) : ∀ (t c N : Nat) (m : tm_I) (os : List pu_Od) (ls : List pu_Lb), t + c = cp → t < N → ls.length + t ≤ 12 → os.length = x1 + c * B → os.length + B * t ≤ 120 → m 39 21 = Int32.ofNat cp → m 39 19 = w → m 39 20 = h → m 39 35 = Int32.ofNat ls.length → m 39 37 = Int32.ofNat os.length → m 39 25 = Int32.ofNat fs.length → m 39 33 = pu_bi true → (fs ≠ [] → ∃ w, m 39 32 = pu_bi w) → (∀ (g : Nat) (hg : g < fs.length), pu_RecM m g fs[g]) → (∀ (k : Nat) (h : k < ls.length), ∀ j, j < 4 → m 54 (4 * k + j) = pu_lb4 ls[k] j) → (∀ (K : Nat) (h : K < os.length), pu_ModO m K os[K]) → (∀ o ∈ os, o.sz ≤ 200) →
    ∃ m', f_Mo_endLabel_l17 N (Int32.ofNat B) (Int32.ofNat c) m mL = some (0, m', mL) ∧ (∀ a, a ≠ 39 → a ≠ 53 → a ≠ 54 → a ≠ 55 → a ≠ 56 → m' a = m a) ∧ (∀ b, b ≠ 26 → b ≠ 32 → b ≠ 35 → b ≠ 37 → m' 39 b = m 39 b) ∧ m' 39 35 = Int32.ofNat (ls ++ pu_cpsL w h x1 B c t).length ∧ m' 39 37 = Int32.ofNat (os ++ pu_cpsO (fs.flatMap pu_ords) c t).length ∧ (∀ (k : Nat) (h2 : k < (ls ++ pu_cpsL w h x1 B c t).length), ∀ j, j < 4 → m' 54 (4 * k + j) = pu_lb4 (ls ++ pu_cpsL w h x1 B c t)[k] j) ∧ (∀ (K : Nat) (h2 : K < (os ++ pu_cpsO (fs.flatMap pu_ords) c t).length), pu_ModO m' K (os ++ pu_cpsO (fs.flatMap pu_ords) c t)[K]) := by
  intro t
  induction t with
  | zero =>
    intro c N m os ls hc hN hl ho hO h21 h19 h20 h35 h37 h25 h33 hw hr hlb hod hsz2
    obtain ⟨N, rfl⟩ : ∃ n', N = n' + 1 := ⟨N - 1, by omega⟩
    refine ⟨m, ?_, fun _ _ _ _ _ _ => rfl, fun _ _ _ _ _ => rfl, ?_, ?_, ?_, ?_⟩
    · rw [f_Mo_endLabel_l17, h21, if_pos (by simp (disch := omega) only [pu_n_lit, pu_n_add, pu_n_mul, pu_n_sub, pu_n_div, pu_n_nat, pu_q_ltT, pu_q_ltF, pu_q_leT, pu_q_leF, pu_q_eqT, pu_q_eqF, pu_n_lt, pu_n_le, pu_n_eq, pu_p_ltT, pu_p_ltF, pu_p_leT, pu_p_leF, not_true_eq_false, not_false_eq_true, or_false, false_or, or_true, true_or, and_true, true_and, and_false, false_and, ↓reduceIte, pu_b_some])]
    · simp only [pu_cpsL, List.append_nil]; exact h35
    · simp only [pu_cpsO, List.append_nil]; exact h37
    · simp only [pu_cpsL, List.append_nil]; exact hlb
    · simp only [pu_cpsO, List.append_nil]; exact hod
  | succ t ih =>
    intro c N m os ls hc hN hl ho hO h21 h19 h20 h35 h37 h25 h33 hw hr hlb hod hsz2
    obtain ⟨N, rfl⟩ : ∃ n', N = n' + 1 := ⟨N - 1, by omega⟩
    have hBt : B * (t + 1) = B * t + B := by rw [Nat.mul_add]; omega
    have hos : os.length ≤ 120 := by omega
    generalize hm1 : tm_up (tm_up (tm_up (tm_up m 54 (4 * ls.length) w) 54 (4 * ls.length + 1) h) 54 (4 * ls.length + 2) (Int32.ofNat os.length)) 54 (4 * ls.length + 3) (Int32.ofNat B) = m1
    have F0 : f_Mo_endLabel_l17 (N + 1) (Int32.ofNat B) (Int32.ofNat c) m mL = f_Mo_endLabel_l90 (f_Mo_endLabel_l17 N) tm_F (Int32.ofNat B) (Int32.ofNat c) (Int32.ofNat 0) m1 mL := by
      rw [f_Mo_endLabel_l17, h21, if_neg (by simp (disch := omega) only [pu_n_lit, pu_n_add, pu_n_mul, pu_n_sub, pu_n_div, pu_n_nat, pu_q_ltT, pu_q_ltF, pu_q_leT, pu_q_leF, pu_q_eqT, pu_q_eqF, pu_n_lt, pu_n_le, pu_n_eq, pu_p_ltT, pu_p_ltF, pu_p_leT, pu_p_leF, not_true_eq_false, not_false_eq_true, or_false, false_or, or_true, true_or, and_true, true_and, and_false, false_and, ↓reduceIte, pu_b_some])]
      simp (disch := omega) only [pu_n_lit, pu_n_add, pu_n_mul, pu_n_sub, pu_n_div, pu_n_nat, pu_q_ltT, pu_q_ltF, pu_q_leT, pu_q_leF, pu_q_eqT, pu_q_eqF, pu_n_lt, pu_n_le, pu_n_eq, pu_p_ltT, pu_p_ltF, pu_p_leT, pu_p_leF, not_true_eq_false, not_false_eq_true, or_false, false_or, or_true, true_or, and_true, true_and, and_false, false_and, ↓reduceIte, pu_b_some, h35, h37, h19, h20, tm_up_o]
      rw [hm1]
    have o1 : ∀ a, a ≠ 54 → m1 a = m a := fun a q => by rw [← hm1, pu_tm_up_c q, pu_tm_up_c q, pu_tm_up_c q, pu_tm_up_c q]
    have e39 : m1 39 = m 39 := o1 39 (by decide)
    obtain ⟨m2, a1, a2, a3⟩ := pu_end_f (mL := mL) (O := 0) (c := c) fs hfs hn (by omega) (f_Mo_endLabel_l17 N) (Int32.ofNat B) fs.length 0 tm_F m1 os.length (by omega) (by unfold tm_F; omega) (by rw [e39]; exact h25) (by rw [e39]; exact h33) (by rw [e39]; exact hw) (by rw [e39]; exact h37) (by rw [List.drop_zero, hB]; omega) (fun g hg => (hr g hg).fr (o1 50 (by decide)) (o1 52 (by decide)))
    rw [List.drop_zero] at a2
    have hml : ((fs.flatMap pu_ords).map (pu_cpO c)).length = B := by rw [List.length_map, hB]
    rw [e39, h35, show Int32.ofNat ls.length + 1 = Int32.ofNat (ls.length + 1) by rw [pu_n_lit 1, pu_n_add]] at a1
    generalize hm3 : tm_up m2 39 35 (Int32.ofNat (ls.length + 1)) = m3 at a1
    have o3 : ∀ a, a ≠ 39 → m3 a = m2 a := fun a q => by rw [← hm3, pu_tm_up_c q]
    have c3 : ∀ b, b ≠ 26 → b ≠ 32 → b ≠ 35 → b ≠ 37 → m3 39 b = m 39 b := fun b q1 q2 q3 q4 => by rw [← hm3, tm_up_k q3, a2.c39 b q1 q2 q4, e39]
    have cB : (c + 1) * B = c * B + B := by rw [Nat.add_mul]; omega
    obtain ⟨m', b1, b2, b3, b4, b5, b6, b7⟩ := ih (c + 1) N m3 (os ++ (fs.flatMap pu_ords).map (pu_cpO c)) (ls ++ [(w, h, x1 + c * B, B)]) (by omega) (by omega) (by simp; omega) (by rw [List.length_append, hml]; omega) (by rw [List.length_append, hml]; omega) (by rw [c3 21 (by decide) (by decide) (by decide) (by decide)]; exact h21) (by rw [c3 19 (by decide) (by decide) (by decide) (by decide)]; exact h19) (by rw [c3 20 (by decide) (by decide) (by decide) (by decide)]; exact h20) (by rw [← hm3, tm_up_eq]; simp) (by rw [← hm3, tm_up_k (by decide), a2.n, List.length_append]) (by rw [c3 25 (by decide) (by decide) (by decide) (by decide)]; exact h25) (by rw [c3 33 (by decide) (by decide) (by decide) (by decide)]; exact h33) (fun q => by obtain ⟨w', hw'⟩ := a3 q; exact ⟨w', by rw [← hm3, tm_up_k (by decide)]; exact hw'⟩) (fun g hg => (hr g hg).fr (by rw [o3 50 (by decide), a2.o 50 (by decide) (by decide) (by decide) (by decide), o1 50 (by decide)]) (by rw [o3 52 (by decide), a2.o 52 (by decide) (by decide) (by decide) (by decide), o1 52 (by decide)])) (fun k hk j hj => by
        rw [o3 54 (by decide), a2.o 54 (by decide) (by decide) (by decide) (by decide), ← hm1]
        rw [List.length_append, List.length_singleton] at hk
        by_cases q : k < ls.length
        · rw [List.getElem_append_left q, tm_up_k (by omega), tm_up_k (by omega), tm_up_k (by omega), tm_up_k (by omega)]; exact hlb k q j hj
        · have : k = ls.length := by omega
          subst this
          rw [List.getElem_append_right (by omega)]
          simp only [Nat.sub_self, List.getElem_cons_zero]
          have : j = 0 ∨ j = 1 ∨ j = 2 ∨ j = 3 := by omega
          rcases this with rfl | rfl | rfl | rfl
          · simp [tm_up, pu_lb4]
          · simp [tm_up, pu_lb4]
          · simp [tm_up, pu_lb4, ho]
          · simp [tm_up, pu_lb4]) (fun K hK => by
        rw [List.length_append, hml] at hK
        by_cases q : K < os.length
        · rw [List.getElem_append_left q]
          have z := hod K q
          have zs := hsz2 _ (List.getElem_mem q)
          exact ⟨fun j hj => by rw [o3 55 (by decide), a2.o1 _ (by omega), o1 55 (by decide)]; exact z.row j hj, fun j hj => by rw [o3 56 (by decide), a2.o2 _ (by omega), o1 56 (by decide)]; exact z.dat j hj⟩
        · rw [List.getElem_append_right (by omega)]
          have z := a2.new (K - os.length) (by rw [hml]; omega)
          rw [show os.length + (K - os.length) = K by omega] at z
          exact ⟨fun j hj => by rw [o3 55 (by decide)]; exact z.row j hj, fun j hj => by rw [o3 56 (by decide)]; exact z.dat j hj⟩) (fun o ho2 => by
        rcases List.mem_append.mp ho2 with q | q
        · exact hsz2 o q
        · obtain ⟨o', h1, rfl⟩ := List.mem_map.mp q
          obtain ⟨R, r1, r2⟩ := List.mem_flatMap.mp h1
          exact pu_ords_sz (hfs R r1).w (hfs R r1).len o' r2)
    have eO : os ++ (fs.flatMap pu_ords).map (pu_cpO c) ++ pu_cpsO (fs.flatMap pu_ords) (c + 1) t = os ++ pu_cpsO (fs.flatMap pu_ords) c (t + 1) := by rw [pu_cpsO, List.append_assoc]
    have eL : ls ++ [(w, h, x1 + c * B, B)] ++ pu_cpsL w h x1 B (c + 1) t = ls ++ pu_cpsL w h x1 B c (t + 1) := by rw [pu_cpsL, List.append_assoc]; rfl
    rw [eL] at b4
    rw [eO] at b5
    simp only [eL] at b6
    simp only [eO] at b7
    refine ⟨m', ?_, fun a q1 q2 q3 q4 q5 => ?_, fun b q1 q2 q3 q4 => ?_, b4, b5, b6, b7⟩
    · rw [F0, a1]; exact b1
    · rw [b2 a q1 q2 q3 q4 q5, o3 a q1, a2.o a q1 q2 q4 q5, o1 a q3]
    · rw [b3 b q1 q2 q3 q4, c3 b q1 q2 q3 q4]
theorem pu_mob_E {m : tm_I} (hh : pu_RM (pu_onL s cs) T m) (w : pu_WS s) (ho : s.opn = true) (hsz2 : ∀ o ∈ s.os, o.sz ≤ 200) (hq : s.ls.length + s.cp ≤ 12 ∧ s.os.length + (pu_opens s).length * s.cp ≤ 120) : pu_MOut (f_Mo_obey 69 m mL) T m mL (pu_Sp.mk_ (pu_onL s cs).d (pu_onL s cs).lv (pu_onL s cs).outer (pu_onL s cs).cmds (pu_onL s cs).F (pu_onL s cs).V (false) (pu_onL s cs).w (pu_onL s cs).h (pu_onL s cs).hx (pu_onL s cs).hy (pu_onL s cs).cp (pu_onL s cs).tx (pu_onL s cs).lt (pu_onL s cs).fx (pu_onL s cs).fy (pu_onL s cs).t (pu_onL s cs).cnt (pu_onL s cs).sp (pu_onL s cs).D (pu_onL s cs).sh ([]) (s.os ++ pu_cpsO (pu_opens s) 0 s.cp) (s.ls ++ pu_cpsL s.w s.h s.os.length (pu_opens s).length 0 s.cp)) := by
  obtain ⟨L, F0⟩ := hh.lab ho
  obtain ⟨c1, c2⟩ := w.cp ho
  generalize hm1 : tm_up (tm_up m 39 18 0) 39 33 1 = m1
  have k26 : m1 39 26 = Int32.ofNat (pu_opens s).length := by rw [← hm1, tm_up_k (by decide), tm_up_k (by decide)]; exact L.md
  have o1 : ∀ a, a ≠ 39 → m1 a = m a := fun a q => by rw [← hm1, pu_tm_up_c q, pu_tm_up_c q]
  have c39 : ∀ b, b ≠ 18 → b ≠ 33 → m1 39 b = m 39 b := fun b q1 q2 => by rw [← hm1, tm_up_k q2, tm_up_k q1]
  have hF : s.fs.length ≤ 120 := by
    have h1 := w.n
    have : s.fs.length ≤ (pu_opens s).length := by
      unfold pu_opens
      have wfs := w.fs
      generalize s.fs = l at wfs
      induction l with
      | nil => simp
      | cons R r ih =>
        have h2 : 1 ≤ (pu_ords R).length := by
          have wR := (wfs R List.mem_cons_self).w
          by_cases q : R.lt = 87
          · unfold pu_ords; rw [if_pos q, pu_linesO_len]; unfold pu_linesOf; rw [pu_spLines]; simp
          · rw [pu_ords_not87 q wR]; simp
        have := ih (fun R hR => wfs R (List.mem_cons_of_mem _ hR))
        rw [List.flatMap_cons, List.length_append, List.length_cons]; omega
    omega
  obtain ⟨m', b1, b2, b3, b4, b5, b6, b7⟩ := pu_end_c (mL := mL) (fs := s.fs) w.fs hF (w := s.w) (h := s.h) (x1 := s.os.length) (B := (pu_opens s).length) (cp := s.cp) rfl c2 w.n s.cp 0 tm_F m1 s.os s.ls (by omega) (by unfold tm_F; omega) hq.1 (by simp) hq.2 (by rw [c39 21 (by decide) (by decide)]; exact L.cp) (by rw [c39 19 (by decide) (by decide)]; exact L.w) (by rw [c39 20 (by decide) (by decide)]; exact L.h) (by rw [c39 35 (by decide) (by decide)]; exact hh.n35) (by rw [c39 37 (by decide) (by decide)]; exact hh.n37) (by rw [c39 25 (by decide) (by decide)]; exact L.nf) (by rw [← hm1, tm_up_eq]; rfl) (fun q => by obtain ⟨w', hw'⟩ := hh.w32 q; exact ⟨w', by rw [c39 32 (by decide) (by decide)]; exact hw'⟩) (fun g hg => (L.fs g hg).fr (o1 50 (by decide)) (o1 52 (by decide))) (by rw [o1 54 (by decide)]; exact hh.lb) (fun K hK => ⟨by rw [o1 55 (by decide)]; exact (hh.od K hK).row, by rw [o1 56 (by decide)]; exact (hh.od K hK).dat⟩) hsz2
  have e : f_Mo_obey 69 m mL = some (0, m', mL) := by
    unfold f_Mo_obey f_Mo_obey_b0 f_Mo_obey_b207 f_Mo_endLabel f_Mo_endLabel_b0
    rw [show Int32.ofNat 0 = (0 : Int32) from rfl] at b1
    rw [if_neg (by decide), if_pos rfl, hm1, k26, b1, pu_b_some]
  have c : ∀ a, a ≠ 39 → a ≠ 53 → a ≠ 54 → a ≠ 55 → a ≠ 56 → m' a = m a := fun a q1 q2 q3 q4 q5 => (b2 a q1 q2 q3 q4 q5).trans (o1 a q1)
  have d : ∀ b, b ≠ 26 → b ≠ 32 → b ≠ 35 → b ≠ 37 → b ≠ 18 → b ≠ 33 → m' 39 b = m 39 b := fun b q1 q2 q3 q4 q5 q6 => (b3 b q1 q2 q3 q4).trans (c39 b q5 q6)
  refine ⟨m', e, ⟨hh.k.fr (d 2 (by decide) (by decide) (by decide) (by decide) (by decide) (by decide)) (c 40 (by decide) (by decide) (by decide) (by decide) (by decide)) (c 41 (by decide) (by decide) (by decide) (by decide) (by decide)) (c 42 (by decide) (by decide) (by decide) (by decide) (by decide)) (c 43 (by decide) (by decide) (by decide) (by decide) (by decide)) (c 44 (by decide) (by decide) (by decide) (by decide) (by decide)), hh.st.fr (c 45 (by decide) (by decide) (by decide) (by decide) (by decide)), (d 8 (by decide) (by decide) (by decide) (by decide) (by decide) (by decide)).trans hh.l8, (d 9 (by decide) (by decide) (by decide) (by decide) (by decide) (by decide)).trans hh.dep, fun q => (d 10 (by decide) (by decide) (by decide) (by decide) (by decide) (by decide)).trans (hh.out q), (d 11 (by decide) (by decide) (by decide) (by decide) (by decide) (by decide)).trans hh.cm, ?_, b4, b5, b6, b7, fun q => absurd rfl q, fun q => by cases q⟩, fun a ha => c a (by omega) (by omega) (by omega) (by omega) (by omega), d 13 (by decide) (by decide) (by decide) (by decide) (by decide) (by decide), d 12 (by decide) (by decide) (by decide) (by decide) (by decide) (by decide)⟩
  · show m' 39 18 = pu_bi false
    rw [b3 18 (by decide) (by decide) (by decide) (by decide), ← hm1, tm_up_k (by decide), tm_up_eq]; rfl
end MOB5
