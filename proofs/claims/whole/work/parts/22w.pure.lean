theorem pu_i_nn {x : Int32} (h : ¬ x < 0) : ∃ n, n < 2147483648 ∧ x = Int32.ofNat n := by
  rw [Int32.not_lt, Int32.le_iff_toInt_le] at h
  have h0 : (0 : Int32).toInt = 0 := rfl
  have := Int32.toInt_lt x
  refine ⟨x.toInt.toNat, by omega, ?_⟩
  rw [← Int32.toInt_inj, pu_n_toInt (by omega)]; omega
def pu_bys (x : Int64) : Nat → Nat → List Int32
  | _, 0 => []
  | j, t + 1 => pu_gb x j :: pu_bys x (j + 1) t
theorem pu_bys_len (x : Int64) : ∀ (t j : Nat), (pu_bys x j t).length = t
  | 0, j => rfl
  | t + 1, j => by rw [pu_bys, List.length_cons, pu_bys_len x t]
theorem pu_bys_b (x : Int64) : ∀ (t j : Nat), pu_byteL (pu_bys x j t)
  | 0, j => fun b hb => absurd hb List.not_mem_nil
  | t + 1, j => by
    intro b hb
    rw [pu_bys] at hb
    rcases List.mem_cons.mp hb with q | q
    · subst q; exact pu_gb_lt x j
    · exact pu_bys_b x t (j + 1) b q
theorem pu_sh8 {j : Nat} (hj : j < 8) : Int32.toInt64 ((8 : Int32) * Int32.ofNat j) = Int64.ofNat (8 * j) := by
  have : ∀ j : Fin 8, Int32.toInt64 ((8 : Int32) * Int32.ofNat j.1) = Int64.ofNat (8 * j.1) := by decide
  exact this ⟨j, hj⟩
section WRT
variable {x : Int64}
theorem pu_la_wl {k : Nat} (hk : k ≤ 8) : ∀ (t j N : Nat) (m : tm_I) (mL : tm_L) (T : List Int32), t + j = k → t < N → pu_Row (m 3) (mL 4) 512 0 T → m 2 0 = 4096 → m 2 1 = 512 → T.length + t ≤ 4096 →
    ∃ m' mL', f_La_write_l45 N (Int32.ofNat k) x (Int32.ofNat j) m mL = some (Int32.ofNat (T.length + t), m', mL') ∧ pu_Row (m' 3) (mL' 4) 512 0 (T ++ pu_bys x j t) ∧ (∀ a, a ≠ 3 → m' a = m a) ∧ (∀ e, e ≠ 4 → mL' e = mL e) := by
  intro t
  induction t with
  | zero =>
    intro j N m mL T hj hN hr h20 h21 hl
    obtain ⟨N, rfl⟩ : ∃ n', N = n' + 1 := ⟨N - 1, by omega⟩
    have s1 := pu_ro_size (o := 2) (c := 3) (R := 1) (r := 0) (mI := m) (mL := mL) rfl rfl (by decide) (by decide)
    rw [show Int32.ofNat 0 = (0 : Int32) from rfl] at s1
    refine ⟨m, mL, ?_, by rw [pu_bys, List.append_nil]; exact hr, fun _ _ => rfl, fun _ _ => rfl⟩
    rw [f_La_write_l45, if_pos (by simp (disch := omega) only [pu_n_lit, pu_n_add, pu_n_mul, pu_n_sub, pu_n_div, pu_n_nat, pu_q_ltT, pu_q_ltF, pu_q_leT, pu_q_leF, pu_q_eqT, pu_q_eqF, pu_n_lt, pu_n_le, pu_n_eq, pu_p_ltT, pu_p_ltF, pu_p_leT, pu_p_leF, not_true_eq_false, not_false_eq_true, or_false, false_or, or_true, true_or, and_true, true_and, and_false, false_and, ↓reduceIte, pu_b_some]), s1, pu_b_some, hr.len]; rfl
  | succ t ih =>
    intro j N m mL T hj hN hr h20 h21 hl
    obtain ⟨N, rfl⟩ : ∃ n', N = n' + 1 := ⟨N - 1, by omega⟩
    obtain ⟨n, n1, n2⟩ := pu_gb_lt x j
    obtain ⟨y, a1, a2⟩ := pu_ro_add (o := 2) (c := 3) (d := 4) (R := 1) (w := 512) (r := 0) (mI := m) (mL := mL) (T := T) rfl rfl rfl rfl h21 (by decide) (by decide) (by decide) hr (M := 4096) h20 (by decide) (by omega) n1
    rw [show Int32.ofNat 0 = (0 : Int32) from rfl] at a1
    have hr2 := a2 ((tm_up m 3 0 (Int32.ofNat (T.length + 1))) 3) (tm_up_eq _ _ _ _)
    obtain ⟨m', mL', b1, b2, b3, b4⟩ := ih (j + 1) N (tm_up m 3 0 (Int32.ofNat (T.length + 1))) (tm_up mL 4 (0 * 512 + T.length / 8) y) (T ++ [Int32.ofNat n]) (by omega) (by omega) hr2 (by rw [tm_up_o (by decide)]; exact h20) (by rw [tm_up_o (by decide)]; exact h21) (by rw [List.length_append, List.length_singleton]; omega)
    refine ⟨m', mL', ?_, ?_, fun a ha => (b3 a ha).trans (pu_tm_up_c ha), fun e he => (b4 e he).trans (pu_tm_up_c he)⟩
    · rw [f_La_write_l45, if_neg (by simp (disch := omega) only [pu_n_lit, pu_n_add, pu_n_mul, pu_n_sub, pu_n_div, pu_n_nat, pu_q_ltT, pu_q_ltF, pu_q_leT, pu_q_leF, pu_q_eqT, pu_q_eqF, pu_n_lt, pu_n_le, pu_n_eq, pu_p_ltT, pu_p_ltF, pu_p_leT, pu_p_leF, not_true_eq_false, not_false_eq_true, or_false, false_or, or_true, true_or, and_true, true_and, and_false, false_and, ↓reduceIte, pu_b_some]), pu_gA (j := j) (by omega) (pu_sh8 (by omega)), n2, a1, pu_b_some]
      simp only []
      rw [pu_n_lit 1, pu_n_add, b1, List.length_append, List.length_singleton]
      congr 3; omega
    · rw [pu_bys, n2]
      rw [List.append_assoc] at b2
      exact b2
theorem pu_mo_wl {k : Nat} (hk : k ≤ 8) {mL : tm_L} : ∀ (t j N : Nat) (m : tm_I) (T : List Int32), t + j = k → t < N → m 39 2 = Int32.ofNat T.length → (∀ i, i < T.length → m 40 i = T[i]?.getD (-1)) → T.length + t ≤ 4096 →
    ∃ m', f_Mo_write_l46 N (Int32.ofNat k) x (Int32.ofNat j) m mL = some (Int32.ofNat (T.length + t), m', mL) ∧ m' 39 2 = Int32.ofNat (T ++ pu_bys x j t).length ∧ (∀ i, i < (T ++ pu_bys x j t).length → m' 40 i = (T ++ pu_bys x j t)[i]?.getD (-1)) ∧ (∀ a, a ≠ 39 → a ≠ 40 → m' a = m a) ∧ (∀ b, b ≠ 2 → m' 39 b = m 39 b) := by
  intro t
  induction t with
  | zero =>
    intro j N m T hj hN h1 h2 hl
    obtain ⟨N, rfl⟩ : ∃ n', N = n' + 1 := ⟨N - 1, by omega⟩
    refine ⟨m, ?_, by rw [pu_bys, List.append_nil]; exact h1, by rw [pu_bys, List.append_nil]; exact h2, fun _ _ _ => rfl, fun _ _ => rfl⟩
    rw [f_Mo_write_l46, if_pos (by simp (disch := omega) only [pu_n_lit, pu_n_add, pu_n_mul, pu_n_sub, pu_n_div, pu_n_nat, pu_q_ltT, pu_q_ltF, pu_q_leT, pu_q_leF, pu_q_eqT, pu_q_eqF, pu_n_lt, pu_n_le, pu_n_eq, pu_p_ltT, pu_p_ltF, pu_p_leT, pu_p_leF, not_true_eq_false, not_false_eq_true, or_false, false_or, or_true, true_or, and_true, true_and, and_false, false_and, ↓reduceIte, pu_b_some]), h1]; rfl
  | succ t ih =>
    intro j N m T hj hN h1 h2 hl
    obtain ⟨N, rfl⟩ : ∃ n', N = n' + 1 := ⟨N - 1, by omega⟩
    generalize hm1 : tm_up (tm_up m 40 T.length (pu_gb x j)) 39 2 (Int32.ofNat (T.length + 1)) = m1
    obtain ⟨m', b1, b2, b3, b4, b5⟩ := ih (j + 1) N m1 (T ++ [pu_gb x j]) (by omega) (by omega) (by rw [← hm1, tm_up_eq, List.length_append]; rfl) (fun i hi => by
      rw [List.length_append, List.length_singleton] at hi
      rw [← hm1, tm_up_o (by decide)]
      by_cases q : i = T.length
      · subst q; rw [tm_up_eq, List.getElem?_append_right (Nat.le_refl _), Nat.sub_self]; rfl
      · rw [tm_up_k q, List.getElem?_append_left (by omega)]; exact h2 i (by omega)) (by rw [List.length_append, List.length_singleton]; omega)
    rw [List.append_assoc] at b2 b3
    refine ⟨m', ?_, b2, b3, fun a h1 h2 => (b4 a h1 h2).trans (by rw [← hm1, pu_tm_up_c h1, pu_tm_up_c h2]), fun b hb => (b5 b hb).trans (by rw [← hm1, tm_up_k hb, tm_up_o (by decide)])⟩
    rw [f_Mo_write_l46, if_neg (by simp (disch := omega) only [pu_n_lit, pu_n_add, pu_n_mul, pu_n_sub, pu_n_div, pu_n_nat, pu_q_ltT, pu_q_ltF, pu_q_leT, pu_q_leF, pu_q_eqT, pu_q_eqF, pu_n_lt, pu_n_le, pu_n_eq, pu_p_ltT, pu_p_ltF, pu_p_leT, pu_p_leF, not_true_eq_false, not_false_eq_true, or_false, false_or, or_true, true_or, and_true, true_and, and_false, false_and, ↓reduceIte, pu_b_some]), h1, if_pos (pu_n_in (by omega) (by omega)), pu_gS (j := j) (by omega) (pu_sh8 (by omega)), pu_n_nat (by omega), tm_up_o (show 39 ≠ 40 by decide), h1, show Int32.ofNat T.length + 1 = Int32.ofNat (T.length + 1) by rw [pu_n_lit 1, pu_n_add], hm1, pu_n_lit 1, pu_n_add, b1, List.length_append, List.length_singleton]
    congr 3; omega
end WRT
section ARM
variable {m : tm_I} {mL : tm_L}
theorem pu_iv_write (h : pu_IvA m mL) (n : Int32) (x : Int64) : ((n < 1 ∨ 8 < n) ∧ ∃ r2 r3, f_Mo_write n x m mL = some r2 ∧ f_Mo_thrown r2.2.1 r2.2.2 = some r3 ∧ r3.1 = 1 ∧ pu_IvA r3.2.1 r3.2.2) ∨ (∃ r1 r2 r3, f_La_write n x m mL = some r1 ∧ f_Mo_write n x r1.2.1 (tm_up r1.2.2 57 0 r1.1.toInt64) = some r2 ∧ f_Mo_thrown r2.2.1 r2.2.2 = some r3 ∧ r3.1 = 0 ∧ r3.2.2 57 0 = r2.1.toInt64 ∧ pu_IvA r3.2.1 r3.2.2) := by
  obtain ⟨F, V, T, ls, os, h⟩ := h
  by_cases hn : n < 1 ∨ 8 < n
  · left
    refine ⟨hn, (0, tm_up m 39 0 1, mL), (1, tm_up m 39 0 1, mL), ?_, ?_, rfl, F, V, T, ls, os, h.f0 1⟩
    · have B : f_Mo_write_b12 n x m mL = some (0, tm_up m 39 0 1, mL) := by
        unfold f_Mo_write_b12 f_Mo_write_b17
        rw [tm_up_eq, if_neg (by decide)]
      unfold f_Mo_write f_Mo_write_b0
      by_cases q : n < 1
      · rw [if_pos q, B]
      · rw [if_neg q, if_neg (by rw [Int32.not_le]; exact hn.resolve_left q), B]
    · unfold f_Mo_thrown f_Mo_thrown_b0
      simp only []
      rw [tm_up_eq]
  · right
    obtain ⟨k, k1, k2, rfl⟩ := pu_i_rng (x := n) (a := 1) (b := 8) (na := 1) (nb := 8) ⟨by rw [← Int32.not_lt]; exact fun q => hn (Or.inl q), by rw [← Int32.not_lt]; exact fun q => hn (Or.inr q)⟩ rfl rfl
    have hr := h.kp.tx
    have hl := h.kp.tl
    have s1 := pu_ro_size (o := 2) (c := 3) (R := 1) (r := 0) (mI := m) (mL := mL) rfl rfl (by decide) (by decide)
    rw [show Int32.ofNat 0 = (0 : Int32) from rfl, hr.len] at s1
    have L0 : f_La_write (Int32.ofNat k) x m mL = if T.length + k ≤ 4096 then f_La_write_l45 tm_F (Int32.ofNat k) x (Int32.ofNat 0) m mL else some (-1, m, mL) := by
      unfold f_La_write f_La_write_b0
      rw [if_neg (by rw [pu_n_lit 1, pu_n_lt (by omega) (by omega)]; omega), if_pos (by simp (disch := omega) only [pu_n_lit, pu_n_add, pu_n_mul, pu_n_sub, pu_n_div, pu_n_nat, pu_q_ltT, pu_q_ltF, pu_q_leT, pu_q_leF, pu_q_eqT, pu_q_eqF, pu_n_lt, pu_n_le, pu_n_eq, pu_p_ltT, pu_p_ltF, pu_p_leT, pu_p_leF, not_true_eq_false, not_false_eq_true, or_false, false_or, or_true, true_or, and_true, true_and, and_false, false_and, ↓reduceIte, pu_b_some]), s1, pu_b_some]
      simp only []
      rw [pu_n_add]
      by_cases q : T.length + k ≤ 4096
      · rw [if_pos q, if_pos (by simp (disch := omega) only [pu_n_lit, pu_n_add, pu_n_mul, pu_n_sub, pu_n_div, pu_n_nat, pu_q_ltT, pu_q_ltF, pu_q_leT, pu_q_leF, pu_q_eqT, pu_q_eqF, pu_n_lt, pu_n_le, pu_n_eq, pu_p_ltT, pu_p_ltF, pu_p_leT, pu_p_leF, not_true_eq_false, not_false_eq_true, or_false, false_or, or_true, true_or, and_true, true_and, and_false, false_and, ↓reduceIte, pu_b_some])]; rfl
      · rw [if_neg q, if_neg (by simp (disch := omega) only [pu_n_lit, pu_n_add, pu_n_mul, pu_n_sub, pu_n_div, pu_n_nat, pu_q_ltT, pu_q_ltF, pu_q_leT, pu_q_leF, pu_q_eqT, pu_q_eqF, pu_n_lt, pu_n_le, pu_n_eq, pu_p_ltT, pu_p_ltF, pu_p_leT, pu_p_leF, not_true_eq_false, not_false_eq_true, or_false, false_or, or_true, true_or, and_true, true_and, and_false, false_and, ↓reduceIte, pu_b_some])]
    have M0 : ∀ (m1 : tm_I) (mL1 : tm_L), m1 39 2 = Int32.ofNat T.length → f_Mo_write (Int32.ofNat k) x m1 mL1 = if T.length + k ≤ 4096 then f_Mo_write_l46 tm_F (Int32.ofNat k) x (Int32.ofNat 0) (tm_up m1 39 0 0) mL1 else some (-1, tm_up m1 39 0 0, mL1) := by
      intro m1 mL1 e2
      unfold f_Mo_write f_Mo_write_b0 f_Mo_write_b17
      rw [if_neg (by rw [pu_n_lit 1, pu_n_lt (by omega) (by omega)]; omega), if_pos (by simp (disch := omega) only [pu_n_lit, pu_n_add, pu_n_mul, pu_n_sub, pu_n_div, pu_n_nat, pu_q_ltT, pu_q_ltF, pu_q_leT, pu_q_leF, pu_q_eqT, pu_q_eqF, pu_n_lt, pu_n_le, pu_n_eq, pu_p_ltT, pu_p_ltF, pu_p_leT, pu_p_leF, not_true_eq_false, not_false_eq_true, or_false, false_or, or_true, true_or, and_true, true_and, and_false, false_and, ↓reduceIte, pu_b_some]), tm_up_eq, if_pos (by decide), tm_up_k (by decide), e2, pu_n_add]
      by_cases q : T.length + k ≤ 4096
      · rw [if_pos q, if_pos (by simp (disch := omega) only [pu_n_lit, pu_n_add, pu_n_mul, pu_n_sub, pu_n_div, pu_n_nat, pu_q_ltT, pu_q_ltF, pu_q_leT, pu_q_leF, pu_q_eqT, pu_q_eqF, pu_n_lt, pu_n_le, pu_n_eq, pu_p_ltT, pu_p_ltF, pu_p_leT, pu_p_leF, not_true_eq_false, not_false_eq_true, or_false, false_or, or_true, true_or, and_true, true_and, and_false, false_and, ↓reduceIte, pu_b_some])]; rfl
      · rw [if_neg q, if_neg (by simp (disch := omega) only [pu_n_lit, pu_n_add, pu_n_mul, pu_n_sub, pu_n_div, pu_n_nat, pu_q_ltT, pu_q_ltF, pu_q_leT, pu_q_leF, pu_q_eqT, pu_q_eqF, pu_n_lt, pu_n_le, pu_n_eq, pu_p_ltT, pu_p_ltF, pu_p_leT, pu_p_leF, not_true_eq_false, not_false_eq_true, or_false, false_or, or_true, true_or, and_true, true_and, and_false, false_and, ↓reduceIte, pu_b_some])]
    by_cases q : T.length + k ≤ 4096
    · rw [if_pos q] at L0
      obtain ⟨m1, mL1, a1, a2, a3, a4⟩ := pu_la_wl (x := x) k2 k 0 tm_F m mL T (by omega) (by unfold tm_F; omega) hr h.kp.a0 h.kp.a1 q
      have e2 : m1 39 2 = Int32.ofNat T.length := by rw [a3 39 (by decide)]; exact h.km.tn
      obtain ⟨m2, b1, b2, b3, b4, b5⟩ := pu_mo_wl (x := x) k2 (mL := tm_up mL1 57 0 (Int32.ofNat (T.length + k)).toInt64) k 0 tm_F (tm_up m1 39 0 0) T (by omega) (by unfold tm_F; omega) (by rw [tm_up_k (by decide)]; exact e2) (fun i hi => by rw [tm_up_o (by decide), a3 40 (by decide)]; exact h.km.tx i hi) q
      have M1 := M0 m1 (tm_up mL1 57 0 (Int32.ofNat (T.length + k)).toInt64) e2
      rw [if_pos q, b1] at M1
      rw [a1] at L0
      refine ⟨_, _, (m2 39 0, m2, tm_up mL1 57 0 (Int32.ofNat (T.length + k)).toInt64), L0, M1, rfl, ?_, ?_, F, V, T ++ pu_bys x 0 k, ls, os, ?_⟩
      · show m2 39 0 = 0
        rw [b5 0 (by decide), tm_up_eq]
      · show tm_up mL1 57 0 (Int32.ofNat (T.length + k)).toInt64 57 0 = (Int32.ofNat (T.length + k)).toInt64
        exact tm_up_eq _ _ _ _
      · refine h.text ?_ (pu_byteL_app h.bT (pu_bys_b x k 0)) ?_ b2 b3 (fun a h1 h2 h3 => ?_) (fun b h1 h2 => ?_) (fun e h1 h2 => ?_)
        · rw [List.length_append, pu_bys_len]; exact q
        · show pu_Row (m2 3) (tm_up mL1 57 0 (Int32.ofNat (T.length + k)).toInt64 4) 512 0 (T ++ pu_bys x 0 k)
          rw [b4 3 (by decide) (by decide), pu_tm_up_c (by decide), pu_tm_up_c (by decide)]; exact a2
        · show m2 a = m a
          rw [b4 a h2 h3, pu_tm_up_c h2, a3 a h1]
        · show m2 39 b = m 39 b
          rw [b5 b h2, tm_up_k h1, a3 39 (by decide)]
        · show tm_up mL1 57 0 (Int32.ofNat (T.length + k)).toInt64 e = mL e
          rw [pu_tm_up_c h2, a4 e h1]
    · rw [if_neg q] at L0
      have M1 := M0 m (tm_up mL 57 0 (-1 : Int32).toInt64) h.km.tn
      rw [if_neg q] at M1
      refine ⟨_, _, (tm_up m 39 0 0 39 0, tm_up m 39 0 0, tm_up mL 57 0 (-1 : Int32).toInt64), L0, M1, rfl, ?_, ?_, F, V, T, ls, os, (h.f0 0).f57 _⟩
      · show tm_up m 39 0 0 39 0 = 0
        exact tm_up_eq _ _ _ _
      · show tm_up mL 57 0 (-1 : Int32).toInt64 57 0 = (-1 : Int32).toInt64
        exact tm_up_eq _ _ _ _
theorem pu_thr {m : tm_I} {mL : tm_L} (v : Int32) : f_Mo_thrown (tm_up m 39 0 v) mL = some (v, tm_up m 39 0 v, mL) := by
  unfold f_Mo_thrown f_Mo_thrown_b0
  rw [tm_up_eq]
theorem pu_iv_label (h : pu_IvA m mL) (n w : Int32) : ((w < 0 ∨ 4 ≤ w) ∧ ∃ r2 r3, f_Mo_label n w m mL = some r2 ∧ f_Mo_thrown r2.2.1 r2.2.2 = some r3 ∧ r3.1 = 1 ∧ pu_IvA r3.2.1 r3.2.2) ∨ (∃ r1 r2 r3, f_La_label n w m mL = some r1 ∧ f_Mo_label n w r1.2.1 (tm_up r1.2.2 57 0 r1.1.toInt64) = some r2 ∧ f_Mo_thrown r2.2.1 r2.2.2 = some r3 ∧ r3.1 = 0 ∧ r3.2.2 57 0 = r2.1.toInt64 ∧ pu_IvA r3.2.1 r3.2.2) := by
  obtain ⟨F, V, T, ls, os, h⟩ := h
  by_cases hw : w < 0 ∨ 4 ≤ w
  · left
    refine ⟨hw, (0, tm_up m 39 0 1, mL), (1, tm_up m 39 0 1, mL), ?_, pu_thr 1, rfl, F, V, T, ls, os, h.f0 1⟩
    have B : f_Mo_label_b10 n w m mL = some (0, tm_up m 39 0 1, mL) := by
      unfold f_Mo_label_b10 f_Mo_label_b15
      rw [tm_up_eq, if_neg (by decide)]
    unfold f_Mo_label f_Mo_label_b0
    by_cases q : w < 0
    · rw [if_pos q, B]
    · have q2 := hw.resolve_left q
      rw [if_neg q, if_neg (fun q3 => by
        rw [Int32.le_iff_toInt_le] at q2 q3
        have h4 : (4 : Int32).toInt = 4 := rfl
        have h3 : (3 : Int32).toInt = 3 := rfl
        omega), B]
  · right
    have hw0 : ¬ w < 0 := fun q => hw (Or.inl q)
    have hw4 : ¬ 4 ≤ w := fun q => hw (Or.inr q)
    obtain ⟨j, j1, rfl⟩ := pu_i_nn hw0
    have j4 : j < 4 := by
      rw [pu_n_lit 4, pu_n_le (by omega) (by omega)] at hw4; omega
    have G : ∀ (m1 : tm_I) (mL1 : tm_L), f_Mo_label n (Int32.ofNat j) m1 mL1 = if n < 0 then some (-1, tm_up m1 39 0 0, mL1) else if n < m1 39 35 then if ¬ (((4 : Int32) * n + Int32.ofNat j) < 0 ∨ 48 ≤ Int32.toNatClampNeg ((4 : Int32) * n + Int32.ofNat j)) then some (m1 54 (Int32.toNatClampNeg ((4 : Int32) * n + Int32.ofNat j)), tm_up m1 39 0 0, mL1) else none else some (-1, tm_up m1 39 0 0, mL1) := by
      intro m1 mL1
      unfold f_Mo_label f_Mo_label_b0 f_Mo_label_b15 f_Mo_label_b39 f_Mo_label_b53
      rw [if_neg hw0, if_pos (by simp (disch := omega) only [pu_n_lit, pu_n_add, pu_n_mul, pu_n_sub, pu_n_div, pu_n_nat, pu_q_ltT, pu_q_ltF, pu_q_leT, pu_q_leF, pu_q_eqT, pu_q_eqF, pu_n_lt, pu_n_le, pu_n_eq, pu_p_ltT, pu_p_ltF, pu_p_leT, pu_p_leF, not_true_eq_false, not_false_eq_true, or_false, false_or, or_true, true_or, and_true, true_and, and_false, false_and, ↓reduceIte, pu_b_some]), tm_up_eq, if_pos (by decide), tm_up_k (by decide), tm_up_o (by decide)]
    have G1 : f_La_label n (Int32.ofNat j) m mL = (f_Sh_labelCell n (Int32.ofNat j) m mL).bind fun v1 => some (v1.1, v1.2.1, v1.2.2) := by
      unfold f_La_label f_La_label_b0
      rw [if_neg hw0, if_pos (by simp (disch := omega) only [pu_n_lit, pu_n_add, pu_n_mul, pu_n_sub, pu_n_div, pu_n_nat, pu_q_ltT, pu_q_ltF, pu_q_leT, pu_q_leF, pu_q_eqT, pu_q_eqF, pu_n_lt, pu_n_le, pu_n_eq, pu_p_ltT, pu_p_ltF, pu_p_leT, pu_p_leF, not_true_eq_false, not_false_eq_true, or_false, false_or, or_true, true_or, and_true, true_and, and_false, false_and, ↓reduceIte, pu_b_some])]
    have fin : ∀ v : Int32, f_Sh_labelCell n (Int32.ofNat j) m mL = some (v, m, mL) → (∀ mL1 : tm_L, f_Mo_label n (Int32.ofNat j) m mL1 = some (v, tm_up m 39 0 0, mL1)) → ∃ r1 r2 r3, f_La_label n (Int32.ofNat j) m mL = some r1 ∧ f_Mo_label n (Int32.ofNat j) r1.2.1 (tm_up r1.2.2 57 0 r1.1.toInt64) = some r2 ∧ f_Mo_thrown r2.2.1 r2.2.2 = some r3 ∧ r3.1 = 0 ∧ r3.2.2 57 0 = r2.1.toInt64 ∧ pu_IvA r3.2.1 r3.2.2 := by
      intro v e1 e2
      refine ⟨(v, m, mL), (v, tm_up m 39 0 0, tm_up mL 57 0 v.toInt64), _, ?_, e2 _, pu_thr 0, rfl, ?_, F, V, T, ls, os, (h.f0 0).f57 _⟩
      · rw [G1, e1, pu_b_some]
      · show tm_up mL 57 0 v.toInt64 57 0 = v.toInt64
        exact tm_up_eq _ _ _ _
    by_cases hn : n < 0
    · refine fin (-1) ?_ (fun mL1 => ?_)
      · unfold f_Sh_labelCell f_Sh_labelCell_b0 f_Sh_labelCell_b27
        rw [if_pos hn]
      · rw [G, if_pos hn]
    · obtain ⟨k, k1, rfl⟩ := pu_i_nn hn
      have hl := h.ll
      by_cases hk : k < ls.length
      · refine fin (pu_lb4 ls[k] j) ?_ (fun mL1 => ?_)
        · unfold f_Sh_labelCell f_Sh_labelCell_b0
          have e := h.lc k hk j j4
          rw [if_neg hn, h.l3, if_neg (by simp (disch := omega) only [pu_n_lit, pu_n_add, pu_n_mul, pu_n_sub, pu_n_div, pu_n_nat, pu_q_ltT, pu_q_ltF, pu_q_leT, pu_q_leF, pu_q_eqT, pu_q_eqF, pu_n_lt, pu_n_le, pu_n_eq, pu_p_ltT, pu_p_ltF, pu_p_leT, pu_p_leF, not_true_eq_false, not_false_eq_true, or_false, false_or, or_true, true_or, and_true, true_and, and_false, false_and, ↓reduceIte, pu_b_some]), if_neg (by simp (disch := omega) only [pu_n_lit, pu_n_add, pu_n_mul, pu_n_sub, pu_n_div, pu_n_nat, pu_q_ltT, pu_q_ltF, pu_q_leT, pu_q_leF, pu_q_eqT, pu_q_eqF, pu_n_lt, pu_n_le, pu_n_eq, pu_p_ltT, pu_p_ltF, pu_p_leT, pu_p_leF, not_true_eq_false, not_false_eq_true, or_false, false_or, or_true, true_or, and_true, true_and, and_false, false_and, ↓reduceIte, pu_b_some]), if_neg hw0, if_pos (by simp (disch := omega) only [pu_n_lit, pu_n_add, pu_n_mul, pu_n_sub, pu_n_div, pu_n_nat, pu_q_ltT, pu_q_ltF, pu_q_leT, pu_q_leF, pu_q_eqT, pu_q_eqF, pu_n_lt, pu_n_le, pu_n_eq, pu_p_ltT, pu_p_ltF, pu_p_leT, pu_p_leF, not_true_eq_false, not_false_eq_true, or_false, false_or, or_true, true_or, and_true, true_and, and_false, false_and, ↓reduceIte, pu_b_some]), pu_n_lit 4, pu_n_mul, pu_n_add, if_pos (pu_n_in (by omega) (by omega)), pu_n_nat (by omega), e]
        · have e := h.lm k hk j j4
          rw [G, if_neg hn, h.l35, if_pos (by simp (disch := omega) only [pu_n_lit, pu_n_add, pu_n_mul, pu_n_sub, pu_n_div, pu_n_nat, pu_q_ltT, pu_q_ltF, pu_q_leT, pu_q_leF, pu_q_eqT, pu_q_eqF, pu_n_lt, pu_n_le, pu_n_eq, pu_p_ltT, pu_p_ltF, pu_p_leT, pu_p_leF, not_true_eq_false, not_false_eq_true, or_false, false_or, or_true, true_or, and_true, true_and, and_false, false_and, ↓reduceIte, pu_b_some]), pu_n_lit 4, pu_n_mul, pu_n_add, if_pos (pu_n_in (by omega) (by omega)), pu_n_nat (by omega), e]
      · refine fin (-1) ?_ (fun mL1 => ?_)
        · unfold f_Sh_labelCell f_Sh_labelCell_b0 f_Sh_labelCell_b27
          rw [if_neg hn, h.l3, if_pos (by simp (disch := omega) only [pu_n_lit, pu_n_add, pu_n_mul, pu_n_sub, pu_n_div, pu_n_nat, pu_q_ltT, pu_q_ltF, pu_q_leT, pu_q_leF, pu_q_eqT, pu_q_eqF, pu_n_lt, pu_n_le, pu_n_eq, pu_p_ltT, pu_p_ltF, pu_p_leT, pu_p_leF, not_true_eq_false, not_false_eq_true, or_false, false_or, or_true, true_or, and_true, true_and, and_false, false_and, ↓reduceIte, pu_b_some])]
        · rw [G, if_neg hn, h.l35, if_neg (by simp (disch := omega) only [pu_n_lit, pu_n_add, pu_n_mul, pu_n_sub, pu_n_div, pu_n_nat, pu_q_ltT, pu_q_ltF, pu_q_leT, pu_q_leF, pu_q_eqT, pu_q_eqF, pu_n_lt, pu_n_le, pu_n_eq, pu_p_ltT, pu_p_ltF, pu_p_leT, pu_p_leF, not_true_eq_false, not_false_eq_true, or_false, false_or, or_true, true_or, and_true, true_and, and_false, false_and, ↓reduceIte, pu_b_some])]
theorem pu_sh_has {n : Int32} (h4 : ¬ (n < 0 ∨ m 20 4 ≤ n)) : f_Sh_hasOrder n m mL = some (1, m, mL) := by
  unfold f_Sh_hasOrder f_Sh_hasOrder_b0 f_Sh_hasOrder_b17
  rw [if_neg (fun q => h4 (Or.inl q)), if_neg (fun q => h4 (Or.inr q)), if_pos (Or.inr rfl)]
theorem pu_ord_m (o : pu_Od) (f : Nat) {j : Nat} (h : j < 9) : pu_ordRow o f j = pu_mrow o j := by
  have : j = 0 ∨ j = 1 ∨ j = 2 ∨ j = 3 ∨ j = 4 ∨ j = 5 ∨ j = 6 ∨ j = 7 ∨ j = 8 := by omega
  rcases this with rfl | rfl | rfl | rfl | rfl | rfl | rfl | rfl | rfl <;> rfl
theorem pu_iv_order (h : pu_IvA m mL) (n w : Int32) : ((w < 0 ∨ 8 < w) ∧ ∃ r2 r3, f_Mo_order n w m mL = some r2 ∧ f_Mo_thrown r2.2.1 r2.2.2 = some r3 ∧ r3.1 = 1 ∧ pu_IvA r3.2.1 r3.2.2) ∨ ((¬ w < 0 ∧ w ≤ 8) ∧ (n < 0 ∨ m 20 4 ≤ n) ∧ ∃ r2 r3, f_Mo_order n w m mL = some r2 ∧ f_Mo_thrown r2.2.1 r2.2.2 = some r3 ∧ r3.1 = 2 ∧ pu_IvA r3.2.1 r3.2.2) ∨ (∃ r1 r2 r3, f_La_order n w m mL = some r1 ∧ f_Mo_order n w r1.2.1 (tm_up r1.2.2 57 0 r1.1.toInt64) = some r2 ∧ f_Mo_thrown r2.2.1 r2.2.2 = some r3 ∧ r3.1 = 0 ∧ r3.2.2 57 0 = r2.1.toInt64 ∧ pu_IvA r3.2.1 r3.2.2) := by
  obtain ⟨F, V, T, ls, os, h⟩ := h
  by_cases hw : w < 0 ∨ 8 < w
  · left
    refine ⟨hw, (0, tm_up m 39 0 1, mL), (1, tm_up m 39 0 1, mL), ?_, pu_thr 1, rfl, F, V, T, ls, os, h.f0 1⟩
    have B : f_Mo_order_b11 n w m mL = some (0, tm_up m 39 0 1, mL) := by
      unfold f_Mo_order_b11 f_Mo_order_b32 f_Mo_order_b57
      rw [tm_up_eq, if_neg (by decide)]
    unfold f_Mo_order f_Mo_order_b0
    by_cases q : w < 0
    · rw [if_pos q, B]
    · rw [if_neg q, if_neg (by rw [Int32.not_le]; exact hw.resolve_left q), B]
  · right
    have hw0 : ¬ w < 0 := fun q => hw (Or.inl q)
    have hw8 : w ≤ 8 := by rw [← Int32.not_lt]; exact fun q => hw (Or.inr q)
    by_cases hn : n < 0 ∨ m 20 4 ≤ n
    · left
      refine ⟨⟨hw0, hw8⟩, hn, (0, tm_up m 39 0 2, mL), (2, tm_up m 39 0 2, mL), ?_, pu_thr 2, rfl, F, V, T, ls, os, h.f0 2⟩
      have B : f_Mo_order_b27 n w m mL = some (0, tm_up m 39 0 2, mL) := by
        unfold f_Mo_order_b27 f_Mo_order_b32 f_Mo_order_b57
        rw [tm_up_eq, if_neg (by decide)]
      unfold f_Mo_order f_Mo_order_b0
      rw [if_neg hw0, if_pos hw8]
      by_cases q : n < 0
      · rw [if_pos q, B]
      · have q2 := hn.resolve_left q
        rw [h.o4] at q2
        rw [if_neg q, h.o37, if_neg (by rw [Int32.not_lt]; exact q2), B]
    · right
      have has := pu_sh_has (mL := mL) hn
      obtain ⟨k, k1, rfl⟩ := pu_i_nn (fun q => hn (Or.inl q))
      have hol := h.ol
      have hk : k < os.length := by
        have : ¬ m 20 4 ≤ Int32.ofNat k := fun q => hn (Or.inr q)
        rw [h.o4, pu_n_le (by omega) (by omega)] at this; omega
      obtain ⟨j, j1, rfl⟩ := pu_i_nn hw0
      have j8 : j ≤ 8 := by rw [pu_n_lit 8, pu_n_le (by omega) (by omega)] at hw8; exact hw8
      obtain ⟨Fc, hc⟩ := h.oc
      obtain ⟨f, f1, f2, f3⟩ := hc k hk (by omega)
      have c1 := pu_sh_cell (m := m) (mL := mL) (k := k) (w := j) (by omega) (by omega)
      have e1 := f2 j (by omega)
      rw [Nat.zero_add] at e1
      have e2 := (h.om k hk).row j (by omega)
      refine ⟨(pu_ordRow os[k] f j, m, mL), (pu_mrow os[k] j, tm_up m 39 0 0, tm_up mL 57 0 (pu_ordRow os[k] f j).toInt64), _, ?_, ?_, pu_thr 0, rfl, ?_, F, V, T, ls, os, (h.f0 0).f57 _⟩
      · unfold f_La_order f_La_order_b0
        rw [if_neg hw0, if_pos hw8, has, pu_b_some, if_pos (show ¬ (1 : Int32) = 0 by decide)]
        simp only []
        rw [c1, pu_b_some, e1]
      · show f_Mo_order (Int32.ofNat k) (Int32.ofNat j) m (tm_up mL 57 0 (pu_ordRow os[k] f j).toInt64) = _
        unfold f_Mo_order f_Mo_order_b0 f_Mo_order_b32 f_Mo_order_b57
        rw [if_neg hw0, if_pos hw8, if_neg (fun q => hn (Or.inl q)), h.o37, if_pos (by simp (disch := omega) only [pu_n_lit, pu_n_add, pu_n_mul, pu_n_sub, pu_n_div, pu_n_nat, pu_q_ltT, pu_q_ltF, pu_q_leT, pu_q_leF, pu_q_eqT, pu_q_eqF, pu_n_lt, pu_n_le, pu_n_eq, pu_p_ltT, pu_p_ltF, pu_p_leT, pu_p_leF, not_true_eq_false, not_false_eq_true, or_false, false_or, or_true, true_or, and_true, true_and, and_false, false_and, ↓reduceIte, pu_b_some]), tm_up_eq, if_pos (by decide), pu_n_lit 9, pu_n_mul, pu_n_add, if_pos (pu_n_in (by omega) (by omega)), pu_n_nat (by omega), tm_up_o (by decide), e2]
      · show tm_up mL 57 0 (pu_ordRow os[k] f j).toInt64 57 0 = (pu_mrow os[k] j).toInt64
        rw [tm_up_eq, pu_ord_m _ _ (by omega)]
end ARM
theorem pu_lg_lt {x y : Int64} : lg_cmp x y < 0 ↔ x < y := by
  unfold lg_cmp
  by_cases h1 : x > y
  · rw [if_pos h1]
    exact ⟨fun q => absurd q (by decide), fun q => absurd (Int64.lt_trans h1 q) (Int64.lt_irrefl)⟩
  · rw [if_neg h1]
    by_cases h2 : x = y
    · rw [if_pos h2, h2]
      exact ⟨fun q => absurd q (by decide), fun q => absurd q (Int64.lt_irrefl)⟩
    · rw [if_neg h2]
      refine ⟨fun _ => ?_, fun _ => by decide⟩
      rw [gt_iff_lt, Int64.lt_iff_toInt_lt] at h1
      rw [← Int64.toInt_inj] at h2
      rw [Int64.lt_iff_toInt_lt]; omega
theorem pu_lg_ge {x y : Int64} : 0 ≤ lg_cmp x y ↔ ¬ x < y := by
  rw [← pu_lg_lt, Int32.not_lt]
theorem pu_w_add (w : Int32) {j : Nat} (hj : j < 8) : (Int32.toInt64 w + Int32.toInt64 (Int32.ofNat j)).toInt = w.toInt + j := by
  have h1 := Int32.toInt_lt w
  have h2 := Int32.le_toInt w
  rw [Int64.toInt_add, Int32.toInt_toInt64, Int32.toInt_toInt64, pu_n_toInt (by omega)]
  exact Int.bmod_eq_of_le (by omega) (by omega)
theorem pu_l_ofNat {i : Nat} (h : i < 9223372036854775808) : (Int64.ofNat i).toInt = i := by
  rw [Int64.toInt_ofNat']
  exact Int.bmod_eq_of_le (by simp only [Int64.size]; omega) (by simp only [Int64.size]; omega)
theorem pu_l_i32 {i : Nat} (h : i < 2147483648) : (Int64.ofNat i).toInt32 = Int32.ofNat i := by
  rw [← Int32.toInt_inj, Int64.toInt_toInt32, pu_l_ofNat (by omega), pu_n_toInt h]
  exact Int.bmod_eq_of_le (by omega) (by omega)
theorem pu_i_l64 {i : Nat} (h : i < 2147483648) : (Int32.ofNat i).toInt64 = Int64.ofNat i := by
  rw [← Int64.toInt_inj, Int32.toInt_toInt64, pu_l_ofNat (by omega), pu_n_toInt h]
section DAT
variable {m : tm_I} {mL : tm_L} {o : pu_Od} {k f Fc : Nat}
theorem pu_dB_b (hb : pu_byteL o.D) {p : Nat} (hp : p < o.D.length) : ∃ n, n < 256 ∧ pu_dB o.D o.tl o.nm p = Int32.ofNat n := by
  unfold pu_dB
  by_cases q : o.D.length - 1 - p < o.tl
  · rw [if_pos q]
    exact ⟨_, by omega, rfl⟩
  · rw [if_neg q, List.getElem?_eq_getElem hp]
    exact hb _ (List.getElem_mem hp)
theorem pu_sh_told (hk : k < 120) (hr : ∀ j, j < 14 → m 22 (k * 14 + j) = pu_ordRow o f j) (hf : f < 120) (row : pu_Row (m 24) (mL 25) 25 f o.D) (h23 : m 23 1 = 25) (w : pu_WO o) {p : Nat} (hp : p < o.D.length) : f_Sh_toldByte (Int32.ofNat k) (Int32.ofNat p) m mL = some (pu_dB o.D o.tl o.nm p, m, mL) := by
  have c9 := pu_sh_cell (m := m) (mL := mL) hk (w := 9) (by decide)
  have c11 := pu_sh_cell (m := m) (mL := mL) hk (w := 11) (by decide)
  have c12 := pu_sh_cell (m := m) (mL := mL) hk (w := 12) (by decide)
  rw [hr 9 (by decide), show pu_ordRow o f 9 = Int32.ofNat f from rfl, show Int32.ofNat 9 = (9 : Int32) from rfl] at c9
  rw [hr 11 (by decide), show pu_ordRow o f 11 = Int32.ofNat o.tl from rfl, show Int32.ofNat 11 = (11 : Int32) from rfl] at c11
  rw [hr 12 (by decide), show pu_ordRow o f 12 = Int32.ofNat o.nm from rfl, show Int32.ofNat 12 = (12 : Int32) from rfl] at c12
  have s1 := pu_ro_size (o := 23) (c := 24) (R := 120) (r := f) (mI := m) (mL := mL) rfl rfl hf (by decide)
  rw [row.len] at s1
  have hl := w.len
  have htl := w.tl
  have at1 := pu_ro_at (o := 23) (c := 24) (d := 25) (R := 120) (w := 25) (r := f) (mI := m) (mL := mL) rfl rfl rfl rfl h23 hf (by decide) (by decide) row (by omega) (i := p) (by omega)
  have hnm : o.nm < 1000000000 := by
    have h1 := w.nm
    have h2 : 10 ^ o.tl ≤ 10 ^ 9 := Nat.pow_le_pow_right (by decide) htl
    omega
  have B39 : ∀ x4 : Int32, f_Sh_toldByte_b39 (Int32.ofNat k) (Int32.ofNat p) (Int32.ofNat f) x4 m mL = some (o.D[p]?.getD (-1), m, mL) := by
    intro x4
    unfold f_Sh_toldByte_b39
    rw [at1, pu_b_some]
  unfold f_Sh_toldByte f_Sh_toldByte_b0
  rw [c9, pu_b_some]
  simp only []
  rw [s1, pu_b_some]
  simp only []
  rw [show Int32.ofNat o.D.length - 1 - Int32.ofNat p = Int32.ofNat (o.D.length - 1 - p) by rw [pu_n_lit 1, pu_n_sub (by omega), pu_n_sub (by omega)], if_neg (pu_n_nn (by omega)), c11, pu_b_some]
  simp only []
  unfold pu_dB
  by_cases q : o.D.length - 1 - p < o.tl
  · have h10 : 10 ^ (o.D.length - 1 - p) ≤ 10 ^ 9 := Nat.pow_le_pow_right (by decide) (by omega)
    have hpos : 0 < 10 ^ (o.D.length - 1 - p) := Nat.pow_pos (by decide)
    rw [if_pos q, if_pos (by simp (disch := omega) only [pu_n_lit, pu_n_add, pu_n_mul, pu_n_sub, pu_n_div, pu_n_nat, pu_q_ltT, pu_q_ltF, pu_q_leT, pu_q_leF, pu_q_eqT, pu_q_eqF, pu_n_lt, pu_n_le, pu_n_eq, pu_p_ltT, pu_p_ltF, pu_p_leT, pu_p_leF, not_true_eq_false, not_false_eq_true, or_false, false_or, or_true, true_or, and_true, true_and, and_false, false_and, ↓reduceIte, pu_b_some]), c12, pu_b_some]
    simp only []
    rw [pu_la_ten (by omega), pu_b_some]
    simp only []
    generalize 10 ^ (o.D.length - 1 - p) = P at h10 hpos
    rw [if_pos (by rw [pu_n_zero, pu_n_eq (by omega) (by omega)]; omega), pu_n_lit 10, pu_n_lit 48]
    have pu_hd : o.nm / P < 2147483648 := Nat.lt_of_le_of_lt (Nat.div_le_self _ _) (by omega)
    rw [pu_n_div (by omega) (by omega), pu_n_div pu_hd (by omega), pu_n_mul, pu_n_sub (by omega), pu_n_add]
    congr 3; omega
  · rw [if_neg q, if_neg (by simp (disch := omega) only [pu_n_lit, pu_n_add, pu_n_mul, pu_n_sub, pu_n_div, pu_n_nat, pu_q_ltT, pu_q_ltF, pu_q_leT, pu_q_leF, pu_q_eqT, pu_q_eqF, pu_n_lt, pu_n_le, pu_n_eq, pu_p_ltT, pu_p_ltF, pu_p_leT, pu_p_leF, not_true_eq_false, not_false_eq_true, or_false, false_or, or_true, true_or, and_true, true_and, and_false, false_and, ↓reduceIte, pu_b_some]), B39]
theorem pu_hx_dig {d : Nat} (h : d < 10) : pu_hx (Int32.ofNat (48 + d)) = Int32.ofNat d := by
  have : ∀ d : Fin 10, pu_hx (Int32.ofNat (48 + d.1)) = Int32.ofNat d.1 := by decide
  exact this ⟨d, h⟩
theorem pu_hx_dB (ok : pu_OKo o) (h7 : o.kd = 7) {p : Nat} (hp : p < o.D.length) : ∃ n, n < 16 ∧ pu_hx (pu_dB o.D o.tl o.nm p) = Int32.ofNat n := by
  obtain ⟨hb, hh, _⟩ := ok
  unfold pu_dB
  by_cases q : o.D.length - 1 - p < o.tl
  · rw [if_pos q]
    exact ⟨_, by omega, pu_hx_dig (Nat.mod_lt _ (by decide))⟩
  · rw [if_neg q, List.getElem?_eq_getElem hp]
    have mem := List.getElem_mem hp
    obtain ⟨n, n1, n2⟩ := hb _ mem
    have := (hh h7).2 _ mem
    show ∃ n, n < 16 ∧ pu_hx o.D[p] = Int32.ofNat n
    rw [n2] at this ⊢
    rcases pu_hx_b n1 with z | ⟨k, k1, k2⟩
    · exact absurd z this
    · exact ⟨k, k1, k2⟩
theorem pu_and255 {n : Nat} (h : n < 256) : Int32.ofNat n &&& 255 = Int32.ofNat n := by
  have : ∀ n : Fin 256, Int32.ofNat n.1 &&& 255 = Int32.ofNat n.1 := by decide +kernel
  exact this ⟨n, h⟩
theorem pu_sh_byte (hk : k < 120) (hr : ∀ j, j < 14 → m 22 (k * 14 + j) = pu_ordRow o f j) (hf : f < 120) (row : pu_Row (m 24) (mL 25) 25 f o.D) (h23 : m 23 1 = 25) (w : pu_WO o) (ok : pu_OKo o) (hsz : o.sz ≤ 200) (y : Int64) : f_Sh_byteOf (Int32.ofNat k) y m mL = some (if y.toInt < 0 ∨ (o.sz : Int) ≤ y.toInt then 0 else pu_obyte o y.toInt.toNat, m, mL) := by
  have c8 := pu_sh_cell (m := m) (mL := mL) hk (w := 8) (by decide)
  have c0 := pu_sh_cell (m := m) (mL := mL) hk (w := 0) (by decide)
  have c10 := pu_sh_cell (m := m) (mL := mL) hk (w := 10) (by decide)
  rw [hr 8 (by decide), show pu_ordRow o f 8 = Int32.ofNat o.sz from rfl, show Int32.ofNat 8 = (8 : Int32) from rfl] at c8
  rw [hr 0 (by decide), show pu_ordRow o f 0 = o.kd from rfl, show Int32.ofNat 0 = (0 : Int32) from rfl] at c0
  rw [hr 10 (by decide), show pu_ordRow o f 10 = Int32.ofNat o.st from rfl, show Int32.ofNat 10 = (10 : Int32) from rfl] at c10
  have hl := w.len
  unfold f_Sh_byteOf f_Sh_byteOf_b0 f_Sh_byteOf_b19
  by_cases q0 : y.toInt < 0
  · rw [if_pos (Or.inl q0), if_pos (pu_lg_lt.mpr (by rw [Int64.lt_iff_toInt_lt]; exact q0))]
  · rw [if_neg (fun z => q0 (by have := pu_lg_lt.mp z; rw [Int64.lt_iff_toInt_lt] at this; exact this)), c8, pu_b_some]
    simp only []
    rw [pu_i_l64 (by omega)]
    by_cases q1 : (o.sz : Int) ≤ y.toInt
    · rw [if_pos (Or.inr q1), if_neg (fun z => by
        have := pu_lg_lt.mp z
        rw [Int64.lt_iff_toInt_lt, pu_l_ofNat (by omega)] at this; omega)]
    · rw [if_neg (c := y.toInt < 0 ∨ (o.sz : Int) ≤ y.toInt) (fun z => z.elim q0 q1), if_pos (pu_lg_lt.mpr (by rw [Int64.lt_iff_toInt_lt, pu_l_ofNat (by omega)]; omega)), c0, pu_b_some]
      simp only []
      have hy : y = Int64.ofNat y.toInt.toNat := by rw [← Int64.toInt_inj, pu_l_ofNat (by omega)]; omega
      generalize hi : y.toInt.toNat = i at hy
      have isz : i < o.sz := by omega
      subst hy
      rw [pu_l_i32 (by omega)]
      unfold pu_obyte
      by_cases q7 : o.kd = 7
      · rw [if_neg (fun z => z q7), if_pos q7]
        have hlen := (ok.2.1 q7).1
        obtain ⟨a, a1, a2⟩ := pu_hx_dB ok q7 (p := 2 * i) (by omega)
        obtain ⟨b, b1, b2⟩ := pu_hx_dB ok q7 (p := 2 * i + 1) (by omega)
        rw [show (2 : Int32) * Int32.ofNat i = Int32.ofNat (2 * i) by rw [pu_n_lit 2, pu_n_mul], pu_sh_told hk hr hf row h23 w (by omega), pu_b_some]
        simp only []
        rw [pu_la_hex, pu_b_some]
        simp only []
        rw [show Int32.ofNat (2 * i) + 1 = Int32.ofNat (2 * i + 1) by rw [pu_n_lit 1, pu_n_add], pu_sh_told hk hr hf row h23 w (by omega), pu_b_some]
        simp only []
        rw [pu_la_hex, pu_b_some]
        simp only []
        rw [a2, b2, pu_n_lit 16, pu_n_mul, pu_n_add, pu_and255 (by omega)]
      · rw [if_pos q7, if_neg q7]
        have hlen := ok.2.2 q7
        obtain ⟨n, n1, n2⟩ := pu_dB_b ok.1 (p := o.st + i) (by omega)
        rw [c10, pu_b_some]
        simp only []
        rw [pu_n_add, pu_sh_told hk hr hf row h23 w (by omega), pu_b_some]
        simp only []
        rw [n2, pu_and255 n1]
theorem pu_or0 (x k : Int64) : x ||| ((0 : Int32).toInt64 <<< k) = x := by
  apply Int64.toBitVec_inj.mp
  rw [Int64.toBitVec_or, Int64.toBitVec_shiftLeft]
  rw [show ((0 : Int32).toInt64).toBitVec = 0#64 from rfl]
  simp
def pu_dval (o : pu_Od) (w : Int32) : Nat → Nat → Int64 → Int64
  | _, 0, a => a
  | j, t + 1, a => pu_dval o w (j + 1) t (if w.toInt + (j : Int) < 0 ∨ (o.sz : Int) ≤ w.toInt + (j : Int) then a else a ||| ((pu_obyte o (w.toInt + (j : Int)).toNat).toInt64 <<< (Int32.toInt64 ((8 : Int32) * Int32.ofNat j) &&& 63)))
theorem pu_la_dl (hk : k < 120) (hr : ∀ j, j < 14 → m 22 (k * 14 + j) = pu_ordRow o f j) (hf : f < 120) (row : pu_Row (m 24) (mL 25) 25 f o.D) (h23 : m 23 1 = 25) (w : pu_WO o) (ok : pu_OKo o) (hsz : o.sz ≤ 200) (x : Int32) : ∀ (t j N : Nat) (a : Int64), t + j = 8 → t < N → f_La_data_l29 N (Int32.ofNat k) x a (Int32.ofNat j) m mL = some (pu_dval o x j t a, m, mL) := by
  intro t
  induction t with
  | zero =>
    intro j N a hj hN
    obtain ⟨N, rfl⟩ : ∃ n', N = n' + 1 := ⟨N - 1, by omega⟩
    rw [f_La_data_l29, if_pos (by simp (disch := omega) only [pu_n_lit, pu_n_add, pu_n_mul, pu_n_sub, pu_n_div, pu_n_nat, pu_q_ltT, pu_q_ltF, pu_q_leT, pu_q_leF, pu_q_eqT, pu_q_eqF, pu_n_lt, pu_n_le, pu_n_eq, pu_p_ltT, pu_p_ltF, pu_p_leT, pu_p_leF, not_true_eq_false, not_false_eq_true, or_false, false_or, or_true, true_or, and_true, true_and, and_false, false_and, ↓reduceIte, pu_b_some])]; rfl
  | succ t ih =>
    intro j N a hj hN
    obtain ⟨N, rfl⟩ : ∃ n', N = n' + 1 := ⟨N - 1, by omega⟩
    rw [f_La_data_l29, if_neg (by simp (disch := omega) only [pu_n_lit, pu_n_add, pu_n_mul, pu_n_sub, pu_n_div, pu_n_nat, pu_q_ltT, pu_q_ltF, pu_q_leT, pu_q_leF, pu_q_eqT, pu_q_eqF, pu_n_lt, pu_n_le, pu_n_eq, pu_p_ltT, pu_p_ltF, pu_p_leT, pu_p_leF, not_true_eq_false, not_false_eq_true, or_false, false_or, or_true, true_or, and_true, true_and, and_false, false_and, ↓reduceIte, pu_b_some]), pu_sh_byte hk hr hf row h23 w ok hsz, pu_b_some]
    simp only []
    rw [pu_w_add x (by omega), pu_n_lit 1, pu_n_add, ih (j + 1) N _ (by omega) (by omega), pu_dval]
    by_cases q : x.toInt + (j : Int) < 0 ∨ (o.sz : Int) ≤ x.toInt + (j : Int)
    · rw [if_pos q, if_pos q, pu_or0]
    · rw [if_neg q, if_neg q]
theorem pu_mo_dl (hk : k < 120) (om : pu_ModO m k o) (h0 : m 39 0 = 0) (hsz : o.sz ≤ 200) (x : Int32) : ∀ (t j N : Nat) (a : Int64), t + j = 8 → t < N → f_Mo_data_l26 N (Int32.ofNat k) x a (Int32.ofNat j) m mL = some (pu_dval o x j t a, m, mL) := by
  intro t
  induction t with
  | zero =>
    intro j N a hj hN
    obtain ⟨N, rfl⟩ : ∃ n', N = n' + 1 := ⟨N - 1, by omega⟩
    rw [f_Mo_data_l26, if_pos (by simp (disch := omega) only [pu_n_lit, pu_n_add, pu_n_mul, pu_n_sub, pu_n_div, pu_n_nat, pu_q_ltT, pu_q_ltF, pu_q_leT, pu_q_leF, pu_q_eqT, pu_q_eqF, pu_n_lt, pu_n_le, pu_n_eq, pu_p_ltT, pu_p_ltF, pu_p_leT, pu_p_leF, not_true_eq_false, not_false_eq_true, or_false, false_or, or_true, true_or, and_true, true_and, and_false, false_and, ↓reduceIte, pu_b_some])]; rfl
  | succ t ih =>
    intro j N a hj hN
    obtain ⟨N, rfl⟩ : ∃ n', N = n' + 1 := ⟨N - 1, by omega⟩
    have B : ∀ (a' : Int64) (y : Int64), f_Mo_data_b98 (f_Mo_data_l26 N) (Int32.ofNat k) x a' (Int32.ofNat j) y m mL = some (pu_dval o x (j + 1) t a', m, mL) := by
      intro a' y
      unfold f_Mo_data_b98
      rw [pu_n_lit 1, pu_n_add]
      exact ih (j + 1) N a' (by omega) (by omega)
    have hw := pu_w_add x (j := j) (by omega)
    have r8 := om.row 8 (by decide)
    rw [show pu_mrow o 8 = Int32.ofNat o.sz from rfl] at r8
    rw [f_Mo_data_l26, if_neg (by simp (disch := omega) only [pu_n_lit, pu_n_add, pu_n_mul, pu_n_sub, pu_n_div, pu_n_nat, pu_q_ltT, pu_q_ltF, pu_q_leT, pu_q_leF, pu_q_eqT, pu_q_eqF, pu_n_lt, pu_n_le, pu_n_eq, pu_p_ltT, pu_p_ltF, pu_p_leT, pu_p_leF, not_true_eq_false, not_false_eq_true, or_false, false_or, or_true, true_or, and_true, true_and, and_false, false_and, ↓reduceIte, pu_b_some]), if_neg (fun z => z h0), pu_dval]
    by_cases q0 : x.toInt + (j : Int) < 0
    · rw [if_pos (c := x.toInt + (j : Int) < 0 ∨ (o.sz : Int) ≤ x.toInt + (j : Int)) (Or.inl q0), if_pos (pu_lg_lt.mpr (by rw [Int64.lt_iff_toInt_lt, hw]; exact q0)), B]
    · rw [if_neg (c := lg_cmp (Int32.toInt64 x + Int32.toInt64 (Int32.ofNat j)) 0 < 0) (fun z => q0 (by have := pu_lg_lt.mp z; rw [Int64.lt_iff_toInt_lt, hw] at this; exact this)), show (9 : Int32) * Int32.ofNat k + 8 = Int32.ofNat (9 * k + 8) by rw [pu_n_lit 9, pu_n_mul, pu_n_lit 8, pu_n_add], if_pos (pu_n_in (by omega) (by omega)), pu_n_nat (by omega), r8, pu_i_l64 (i := o.sz) (by omega)]
      by_cases q1 : (o.sz : Int) ≤ x.toInt + (j : Int)
      · rw [if_pos (c := x.toInt + (j : Int) < 0 ∨ (o.sz : Int) ≤ x.toInt + (j : Int)) (Or.inr q1), if_pos (pu_lg_ge.mpr (fun z => by rw [Int64.lt_iff_toInt_lt, hw, pu_l_ofNat (by omega)] at z; omega)), B]
      · rw [if_neg (c := x.toInt + (j : Int) < 0 ∨ (o.sz : Int) ≤ x.toInt + (j : Int)) (fun z => z.elim q0 q1), if_neg (fun z => pu_lg_ge.mp z (by rw [Int64.lt_iff_toInt_lt, hw, pu_l_ofNat (by omega)]; omega))]
        generalize hi : (x.toInt + (j : Int)).toNat = i
        have hy : Int32.toInt64 x + Int32.toInt64 (Int32.ofNat j) = Int64.ofNat i := by rw [← Int64.toInt_inj, hw, pu_l_ofNat (by omega)]; omega
        have isz : i < o.sz := by omega
        rw [hy, pu_l_i32 (by omega), pu_n_lit 200, pu_n_mul, pu_n_add, if_pos (pu_n_in (by omega) (by omega)), pu_n_nat (by omega), om.dat i isz, B]
end DAT
section ARM2
variable {m : tm_I} {mL : tm_L}
theorem pu_iv_data (h : pu_IvA m mL) (n w : Int32) : ((n < 0 ∨ m 20 4 ≤ n) ∧ ∃ r2 r3, f_Mo_data n w m mL = some r2 ∧ f_Mo_thrown r2.2.1 r2.2.2 = some r3 ∧ r3.1 = 1 ∧ pu_IvA r3.2.1 r3.2.2) ∨ (∃ r1 r2 r3, f_La_data n w m mL = some r1 ∧ f_Mo_data n w r1.2.1 (tm_up r1.2.2 57 0 r1.1) = some r2 ∧ f_Mo_thrown r2.2.1 r2.2.2 = some r3 ∧ r3.1 = 0 ∧ r3.2.2 57 0 = r2.1 ∧ pu_IvA r3.2.1 r3.2.2) := by
  obtain ⟨F, V, T, ls, os, h⟩ := h
  by_cases hn : n < 0 ∨ m 20 4 ≤ n
  · left
    refine ⟨hn, (0, tm_up m 39 0 1, mL), (1, tm_up m 39 0 1, mL), ?_, pu_thr 1, rfl, F, V, T, ls, os, h.f0 1⟩
    obtain ⟨N, hN, _⟩ := pu_tm_FS
    have B : f_Mo_data_b13 n w m mL = some (0, tm_up m 39 0 1, mL) := by
      unfold f_Mo_data_b13 f_Mo_data_b18
      rw [hN, f_Mo_data_l26, if_neg (by decide), tm_up_eq, if_pos (by decide)]
      rfl
    unfold f_Mo_data f_Mo_data_b0
    by_cases q : n < 0
    · rw [if_pos q, B]
    · have q2 := hn.resolve_left q
      rw [h.o4] at q2
      rw [if_neg q, h.o37, if_neg (by rw [Int32.not_lt]; exact q2), B]
  · right
    have has := pu_sh_has (mL := mL) hn
    obtain ⟨k, k1, rfl⟩ := pu_i_nn (fun q => hn (Or.inl q))
    have hol := h.ol
    have hk : k < os.length := by
      have : ¬ m 20 4 ≤ Int32.ofNat k := fun q => hn (Or.inr q)
      rw [h.o4, pu_n_le (by omega) (by omega)] at this; omega
    obtain ⟨Fc, hc⟩ := h.oc
    obtain ⟨f, f1, f2, f3⟩ := hc k hk (by omega)
    rw [Nat.zero_add] at f2
    have mem := List.getElem_mem hk
    have L := pu_la_dl (m := m) (mL := mL) (o := os[k]) (by omega) f2 f1.1 f3 h.kp.e1 (h.wo _ mem) (h.ok _ mem) (h.sz _ mem) w 8 0 tm_F 0 (by decide) (by decide)
    have om := h.om k hk
    have M := pu_mo_dl (m := tm_up m 39 0 0) (mL := tm_up mL 57 0 (pu_dval os[k] w 0 8 0)) (o := os[k]) (k := k) (by omega) ⟨by rw [pu_tm_up_c (by decide)]; exact om.row, by rw [pu_tm_up_c (by decide)]; exact om.dat⟩ (tm_up_eq _ _ _ _) (h.sz _ mem) w 8 0 tm_F 0 (by decide) (by decide)
    rw [show Int32.ofNat 0 = (0 : Int32) from rfl] at L M
    refine ⟨(pu_dval os[k] w 0 8 0, m, mL), (pu_dval os[k] w 0 8 0, tm_up m 39 0 0, tm_up mL 57 0 (pu_dval os[k] w 0 8 0)), _, ?_, ?_, pu_thr 0, rfl, ?_, F, V, T, ls, os, (h.f0 0).f57 _⟩
    · unfold f_La_data f_La_data_b0
      rw [has, pu_b_some, if_pos (show ¬ (1 : Int32) = 0 by decide)]
      exact L
    · show f_Mo_data (Int32.ofNat k) w m (tm_up mL 57 0 (pu_dval os[k] w 0 8 0)) = _
      unfold f_Mo_data f_Mo_data_b0 f_Mo_data_b18
      rw [if_neg (fun q => hn (Or.inl q)), h.o37, if_pos (by simp (disch := omega) only [pu_n_lit, pu_n_add, pu_n_mul, pu_n_sub, pu_n_div, pu_n_nat, pu_q_ltT, pu_q_ltF, pu_q_leT, pu_q_leF, pu_q_eqT, pu_q_eqF, pu_n_lt, pu_n_le, pu_n_eq, pu_p_ltT, pu_p_ltF, pu_p_leT, pu_p_leF, not_true_eq_false, not_false_eq_true, or_false, false_or, or_true, true_or, and_true, true_and, and_false, false_and, ↓reduceIte, pu_b_some])]
      exact M
    · show tm_up mL 57 0 (pu_dval os[k] w 0 8 0) 57 0 = pu_dval os[k] w 0 8 0
      exact tm_up_eq _ _ _ _
end ARM2
