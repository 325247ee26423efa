section FITM
variable {m : tm_I} {mL : tm_L} {D : List Int32}
theorem pu_fit_oth (h51 : ∀ i, i < D.length → m 51 i = D[i]?.getD (-1)) (hl : D.length ≤ 200) {x1 : Int32} (h2 : x1 ≠ 2) (h7 : x1 ≠ 7) (x3 : Int32) : ∀ (t k N : Nat), t + k = D.length → t < N → f_Mo_fits_l76 N x1 (Int32.ofNat D.length) x3 (Int32.ofNat k) m mL = some (1, m, mL) := by
  intro t
  induction t with
  | zero =>
    intro k N hk hN
    obtain ⟨N, rfl⟩ : ∃ n', N = n' + 1 := ⟨N - 1, by omega⟩
    rw [f_Mo_fits_l76, if_pos (by simp (disch := omega) only [pu_n_lit, pu_n_add, pu_n_mul, pu_n_sub, pu_n_div, pu_n_nat, pu_q_ltT, pu_q_ltF, pu_q_leT, pu_q_leF, pu_q_eqT, pu_q_eqF, pu_n_lt, pu_n_le, pu_n_eq, pu_p_ltT, pu_p_ltF, pu_p_leT, pu_p_leF, not_true_eq_false, not_false_eq_true, or_false, false_or, or_true, true_or, and_true, true_and, and_false, false_and, ↓reduceIte, pu_b_some]), if_pos h7, if_pos h2]; rfl
  | succ t ih =>
    intro k N hk hN
    obtain ⟨N, rfl⟩ : ∃ n', N = n' + 1 := ⟨N - 1, by omega⟩
    rw [f_Mo_fits_l76, if_neg (by simp (disch := omega) only [pu_n_lit, pu_n_add, pu_n_mul, pu_n_sub, pu_n_div, pu_n_nat, pu_q_ltT, pu_q_ltF, pu_q_leT, pu_q_leF, pu_q_eqT, pu_q_eqF, pu_n_lt, pu_n_le, pu_n_eq, pu_p_ltT, pu_p_ltF, pu_p_leT, pu_p_leF, not_true_eq_false, not_false_eq_true, or_false, false_or, or_true, true_or, and_true, true_and, and_false, false_and, ↓reduceIte, pu_b_some]), if_pos h2]
    unfold f_Mo_fits_b100 f_Mo_fits_b121
    rw [if_pos h7, pu_n_lit 1, pu_n_add]
    exact ih (k + 1) N (by omega) (by omega)
theorem pu_fit_2 (h51 : ∀ i, i < D.length → m 51 i = D[i]?.getD (-1)) (hl : D.length ≤ 200) (x3 : Int32) : ∀ (t k N : Nat), t + k = D.length → t < N → f_Mo_fits_l76 N 2 (Int32.ofNat D.length) x3 (Int32.ofNat k) m mL = some (pu_bi ((D.drop k).all pu_isD && decide (D.length = 12)), m, mL) := by
  intro t
  induction t with
  | zero =>
    intro k N hk hN
    obtain ⟨N, rfl⟩ : ∃ n', N = n' + 1 := ⟨N - 1, by omega⟩
    rw [f_Mo_fits_l76, if_pos (by simp (disch := omega) only [pu_n_lit, pu_n_add, pu_n_mul, pu_n_sub, pu_n_div, pu_n_nat, pu_q_ltT, pu_q_ltF, pu_q_leT, pu_q_leF, pu_q_eqT, pu_q_eqF, pu_n_lt, pu_n_le, pu_n_eq, pu_p_ltT, pu_p_ltF, pu_p_leT, pu_p_leF, not_true_eq_false, not_false_eq_true, or_false, false_or, or_true, true_or, and_true, true_and, and_false, false_and, ↓reduceIte, pu_b_some]), if_pos (by decide), if_neg (by decide), List.drop_eq_nil_of_le (by omega)]
    unfold f_Mo_fits_b175 f_Mo_fits_b180
    by_cases q : D.length = 12
    · rw [if_neg (by rw [q]; simp), decide_eq_true q]; rfl
    · rw [if_pos (by rw [pu_n_lit 12, pu_n_eq (by omega) (by omega)]; exact q), decide_eq_false q]; rfl
  | succ t ih =>
    intro k N hk hN
    obtain ⟨N, rfl⟩ : ∃ n', N = n' + 1 := ⟨N - 1, by omega⟩
    have hlt : k < D.length := by omega
    rw [f_Mo_fits_l76, if_neg (by simp (disch := omega) only [pu_n_lit, pu_n_add, pu_n_mul, pu_n_sub, pu_n_div, pu_n_nat, pu_q_ltT, pu_q_ltF, pu_q_leT, pu_q_leF, pu_q_eqT, pu_q_eqF, pu_n_lt, pu_n_le, pu_n_eq, pu_p_ltT, pu_p_ltF, pu_p_leT, pu_p_leF, not_true_eq_false, not_false_eq_true, or_false, false_or, or_true, true_or, and_true, true_and, and_false, false_and, ↓reduceIte, pu_b_some]), if_neg (by decide), if_pos (pu_n_in (by omega) (by omega)), pu_n_nat (by omega), h51 k hlt, pu_mo_isDigit, pu_b_some, List.drop_eq_getElem_cons hlt, List.getElem?_eq_getElem hlt]
    simp only [Option.getD_some, List.all_cons]
    unfold f_Mo_fits_b100 f_Mo_fits_b119 f_Mo_fits_b121
    cases pu_isD D[k]
    · rw [if_pos pu_bi_f]; rfl
    · rw [if_neg pu_bi_t, if_pos (by decide), Bool.true_and, pu_n_lit 1, pu_n_add]
      exact ih (k + 1) N (by omega) (by omega)
theorem pu_fit_7 (h51 : ∀ i, i < D.length → m 51 i = D[i]?.getD (-1)) (hb : pu_byteL D) (hl : D.length ≤ 200) {w : Nat} (w1 : 1 ≤ w) (w2 : w ≤ 1024) (hw : m 49 1 = Int32.ofNat w) (x3 : Int32) : ∀ (t k N : Nat), t + k = D.length → t < N → f_Mo_fits_l76 N 7 (Int32.ofNat D.length) x3 (Int32.ofNat k) m mL = some (pu_bi ((D.drop k).all (fun b => decide (pu_hx b ≠ -1)) && decide (D.length % (((w + 7) / 8) * 2) = 0)), m, mL) := by
  intro t
  induction t with
  | zero =>
    intro k N hk hN
    obtain ⟨N, rfl⟩ : ∃ n', N = n' + 1 := ⟨N - 1, by omega⟩
    rw [f_Mo_fits_l76, if_pos (by simp (disch := omega) only [pu_n_lit, pu_n_add, pu_n_mul, pu_n_sub, pu_n_div, pu_n_nat, pu_q_ltT, pu_q_ltF, pu_q_leT, pu_q_leF, pu_q_eqT, pu_q_eqF, pu_n_lt, pu_n_le, pu_n_eq, pu_p_ltT, pu_p_ltF, pu_p_leT, pu_p_leF, not_true_eq_false, not_false_eq_true, or_false, false_or, or_true, true_or, and_true, true_and, and_false, false_and, ↓reduceIte, pu_b_some]), if_neg (by decide), List.drop_eq_nil_of_le (by omega)]
    unfold f_Mo_fits_b162 f_Mo_fits_b163
    have q1 : 1 ≤ (w + 7) / 8 := by omega
    have q2 : (w + 7) / 8 ≤ 128 := by omega
    have e1 : (Int32.ofNat w + 7) / 8 = Int32.ofNat ((w + 7) / 8) := by rw [pu_n_lit 7, pu_n_add, pu_n_lit 8, pu_n_div (by omega) (by omega)]
    have e2 : Int32.ofNat D.length / 2 = Int32.ofNat (D.length / 2) := by rw [pu_n_lit 2, pu_n_div (by omega) (by omega)]
    have e3 : Int32.ofNat D.length - Int32.ofNat (D.length / 2) * 2 = Int32.ofNat (D.length % 2) := by
      rw [pu_n_lit 2, pu_n_mul, pu_n_sub (by omega)]; congr 1; omega
    rw [e2, e3]
    rw [show Int32.toNatClampNeg (1 : Int32) = 1 from rfl, hw, e1]
    generalize (w + 7) / 8 = q at q1 q2
    have e4 : Int32.ofNat (D.length / 2) - Int32.ofNat (D.length / 2) / Int32.ofNat q * Int32.ofNat q = Int32.ofNat (D.length / 2 % q) := by
      rw [pu_n_div (by omega) (by omega), pu_n_mul, pu_n_sub (Nat.div_mul_le_self _ _)]
      congr 1
      have := Nat.div_add_mod (D.length / 2) q
      rw [Nat.mul_comm] at this; omega
    rw [e4]
    have hm : D.length / 2 % q < 2147483648 := Nat.lt_of_le_of_lt (Nat.mod_le _ _) (by omega)
    have key : D.length % (q * 2) = 0 ↔ D.length % 2 = 0 ∧ D.length / 2 % q = 0 := by
      rw [Nat.mul_comm q 2, Nat.mod_mul]
      have := Nat.mod_lt D.length (show 0 < 2 by omega)
      omega
    simp only [List.all_nil, Bool.true_and]
    by_cases h2 : D.length % 2 = 0
    · rw [if_neg (by rw [h2]; simp), if_pos (show ¬ ((1 : Int32) < 0 ∨ 16 ≤ 1) by decide), if_pos (by rw [pu_n_zero, pu_n_eq (by omega) (by omega)]; omega)]
      by_cases h3 : D.length / 2 % q = 0
      · rw [if_neg (by rw [h3]; simp), decide_eq_true (key.mpr ⟨h2, h3⟩)]; rfl
      · rw [if_pos (by rw [pu_n_zero, pu_n_eq hm (by omega)]; exact h3), decide_eq_false (fun z => h3 (key.mp z).2)]; rfl
    · rw [if_pos (by rw [pu_n_zero, pu_n_eq (by omega) (by omega)]; exact h2), decide_eq_false (fun z => h2 (key.mp z).1)]; rfl
  | succ t ih =>
    intro k N hk hN
    obtain ⟨N, rfl⟩ : ∃ n', N = n' + 1 := ⟨N - 1, by omega⟩
    have hlt : k < D.length := by omega
    rw [f_Mo_fits_l76, if_neg (by simp (disch := omega) only [pu_n_lit, pu_n_add, pu_n_mul, pu_n_sub, pu_n_div, pu_n_nat, pu_q_ltT, pu_q_ltF, pu_q_leT, pu_q_leF, pu_q_eqT, pu_q_eqF, pu_n_lt, pu_n_le, pu_n_eq, pu_p_ltT, pu_p_ltF, pu_p_leT, pu_p_leF, not_true_eq_false, not_false_eq_true, or_false, false_or, or_true, true_or, and_true, true_and, and_false, false_and, ↓reduceIte, pu_b_some]), if_pos (by decide)]
    unfold f_Mo_fits_b100 f_Mo_fits_b119 f_Mo_fits_b121
    rw [if_neg (by decide), if_pos (pu_n_in (by omega) (by omega)), pu_n_nat (by omega), h51 k hlt, pu_mo_hex, pu_b_some, List.drop_eq_getElem_cons hlt, List.getElem?_eq_getElem hlt]
    simp only [Option.getD_some, List.all_cons]
    have nn := pu_hx_nn (x := D[k]) (Or.inr (hb _ (List.getElem_mem hlt)))
    by_cases q : pu_hx D[k] = -1
    · rw [if_neg (fun z => nn.mp z q), decide_eq_false (fun z => z q)]; rfl
    · rw [if_pos (nn.mpr q), decide_eq_true q, Bool.true_and, pu_n_lit 1, pu_n_add]
      exact ih (k + 1) N (by omega) (by omega)
theorem pu_mo_fits {s : pu_Sp} (F0 : pu_FldM s m) (hk : s.lt ≠ -1) (wf : pu_WFd (pu_recOf s)) (hl : s.D.length ≤ 200) (hb : pu_byteL s.D) : f_Mo_fits m mL = some (pu_bi (pu_fitF (pu_recOf s)), m, mL) := by
  have hk0 : pu_kindL s.lt := wf.k
  have L0 : ∀ x3, f_Mo_fits_b73 (pu_kd s.lt) (Int32.ofNat s.D.length) x3 m mL = some (pu_bi (if s.lt = 78 then decide (s.D.length = 12) && s.D.all pu_isD else if s.lt = 80 then s.D.all (fun b => decide (pu_hx b ≠ -1)) && decide (s.D.length % pu_picW (pu_recOf s) = 0) else true), m, mL) := by
    intro x3
    unfold f_Mo_fits_b73
    by_cases h78 : s.lt = 78
    · have := pu_fit_2 (m := m) (mL := mL) F0.D hl x3 s.D.length 0 tm_F (by omega) (by unfold tm_F; omega)
      rw [List.drop_zero, Bool.and_comm, show Int32.ofNat 0 = (0 : Int32) from rfl] at this
      rw [if_pos h78, h78, show pu_kd 78 = 2 by decide]
      exact this
    · rw [if_neg h78]
      by_cases h80 : s.lt = 80
      · obtain ⟨w, w1, w2, w3⟩ := wf.p h80
        have w3 : s.sh 0 = Int32.ofNat w := w3
        have hw : m 49 1 = Int32.ofNat w := by
          rw [← w3]; exact F0.sh hk 0 (by rw [h80]; decide)
        have := pu_fit_7 (m := m) (mL := mL) F0.D hb hl w1 w2 hw x3 s.D.length 0 tm_F (by omega) (by unfold tm_F; omega)
        have hp : pu_picW (pu_recOf s) = ((w + 7) / 8) * 2 := by unfold pu_picW; show (((s.sh 0).toNatClampNeg + 7) / 8) * 2 = _; rw [w3, pu_n_nat (by omega)]
        rw [List.drop_zero, show Int32.ofNat 0 = (0 : Int32) from rfl] at this
        rw [if_pos h80, h80, show pu_kd 80 = 7 by decide, hp]
        exact this
      · rw [if_neg h80]
        have := pu_fit_oth (m := m) (mL := mL) (x1 := pu_kd s.lt) F0.D hl (by
          rcases hk0 with e | e | e | e | e | e | e | e | e
          · rw [e]; decide
          · rw [e]; decide
          · rw [e]; decide
          · exact absurd e h78
          · rw [e]; decide
          · rw [e]; decide
          · rw [e]; decide
          · rw [e]; decide
          · exact absurd e h80) (by
          rcases hk0 with e | e | e | e | e | e | e | e | e
          · rw [e]; decide
          · rw [e]; decide
          · rw [e]; decide
          · exact absurd e h78
          · rw [e]; decide
          · rw [e]; decide
          · rw [e]; decide
          · rw [e]; decide
          · exact absurd e h80) x3 s.D.length 0 tm_F (by omega) (by unfold tm_F; omega)
        rw [show Int32.ofNat 0 = (0 : Int32) from rfl] at this
        exact this
  generalize hC : (if s.lt = 78 then decide (s.D.length = 12) && s.D.all pu_isD else if s.lt = 80 then s.D.all (fun b => decide (pu_hx b ≠ -1)) && decide (s.D.length % pu_picW (pu_recOf s) = 0) else true) = C at L0
  have L1 : ∀ x3, f_Mo_fits_b42 (pu_kd s.lt) (Int32.ofNat s.D.length) x3 m mL = some (pu_bi ((if s.cnt then pu_isD (s.D.reverse[0]?.getD (-1)) else true) && C), m, mL) := by
    intro x3
    unfold f_Mo_fits_b42 f_Mo_fits_b71
    rw [if_pos (by decide), show Int32.toNatClampNeg (8 : Int32) = 8 from rfl, F0.cn]
    cases s.cnt
    · rw [if_pos (by decide), L0]; rfl
    · rw [if_neg (show ¬ ¬ pu_bi true = 1 by decide)]
      by_cases h0 : s.D.length = 0
      · have : s.D = [] := List.eq_nil_of_length_eq_zero h0
        rw [h0, if_pos (by decide), this]; rfl
      · have ei : Int32.ofNat s.D.length - 1 = Int32.ofNat (s.D.length - 1) := by rw [pu_n_lit 1, pu_n_sub (by omega)]
        have er : s.D.reverse[0]?.getD (-1) = s.D[s.D.length - 1]?.getD (-1) := by rw [List.getElem?_reverse (by omega)]; rfl
        rw [if_neg (by rw [pu_n_zero, pu_n_eq (by omega) (by omega)]; exact h0), ei, if_pos (pu_n_in (by omega) (by omega)), pu_n_nat (by omega), F0.D _ (by omega), ← er, pu_mo_isDigit, pu_b_some, L0]
        cases pu_isD (s.D.reverse[0]?.getD (-1))
        · rw [if_neg (by simp [pu_bi])]; rfl
        · rw [if_pos pu_bi_t]; rfl
  have fe : pu_fitF (pu_recOf s) = ((if s.cnt then pu_isD (s.D.reverse[0]?.getD (-1)) else true) && (if pu_needD s.lt then decide (s.D ≠ []) else true) && C) := by
    rw [← hC]; rfl
  unfold f_Mo_fits f_Mo_fits_b0 f_Mo_fits_b30 f_Mo_fits_b31
  rw [if_pos (by decide), if_pos (by decide), show Int32.toNatClampNeg (0 : Int32) = 0 from rfl, show Int32.toNatClampNeg (10 : Int32) = 10 from rfl, F0.k, F0.n, fe]
  generalize (if s.cnt then pu_isD (s.D.reverse[0]?.getD (-1)) else true) = A at L1
  have need : ∀ (b : Bool), pu_needD s.lt = b → (if b = true then ¬ (¬ pu_kd s.lt < 4 ∧ ¬ 6 < pu_kd s.lt) else (¬ pu_kd s.lt < 4 ∧ ¬ 6 < pu_kd s.lt)) := by
    rcases hk0 with e | e | e | e | e | e | e | e | e <;> rw [e] <;> decide
  have key : (if ¬ (0 : Int32) = 0 then f_Mo_fits_b42 (pu_kd s.lt) (Int32.ofNat s.D.length) 0 m mL else if ¬ Int32.ofNat s.D.length = 0 then f_Mo_fits_b42 (pu_kd s.lt) (Int32.ofNat s.D.length) 0 m mL else some (0, m, mL)) = some (pu_bi (A && decide (s.D ≠ []) && C), m, mL) := by
    rw [if_neg (by simp)]
    by_cases h0 : s.D = []
    · rw [if_neg (by rw [h0]; simp), decide_eq_false (fun z => z h0)]; simp [pu_bi]
    · have : s.D.length ≠ 0 := by simpa using h0
      rw [if_pos (by rw [pu_n_zero, pu_n_eq (by omega) (by omega)]; exact this), decide_eq_true h0, L1, Bool.and_true]
  cases hq : pu_needD s.lt
  · have := need false hq
    rw [if_neg (by decide)] at this
    rw [if_neg this.1, if_neg this.2, if_pos (by decide), L1]
    simp
  · have nd := need true hq
    rw [if_pos rfl] at nd
    by_cases h4 : pu_kd s.lt < 4
    · rw [if_pos h4, key]; simp
    · rw [if_neg h4]
      have h6 : 6 < pu_kd s.lt := by
        by_cases z : 6 < pu_kd s.lt
        · exact z
        · exact absurd ⟨h4, z⟩ nd
      rw [if_pos h6, key]; simp
end FITM
section TRY
variable {m : tm_I} {mL : tm_L} {s : pu_Sp}
theorem pu_many_kind {l : Int32} (h : pu_kindL l) : pu_manyL l ≤ 4 := by
  rcases h with rfl | rfl | rfl | rfl | rfl | rfl | rfl | rfl | rfl <;> decide
theorem pu_near_map (os : List pu_Od) (c : Nat) : (os.map (pu_cpO c)).all pu_nearO = os.all pu_nearO := by
  induction os with
  | nil => rfl
  | cons o r ih => rw [List.map_cons, List.all_cons, List.all_cons, ih]; rfl
theorem pu_kd87 {l : Int32} (h : pu_kindL l) : pu_kd l = 8 ↔ l = 87 := by
  rcases h with rfl | rfl | rfl | rfl | rfl | rfl | rfl | rfl | rfl <;> decide
theorem pu_ords_le {R : pu_Fd} (w : pu_WFd R) : (pu_ords R).length ≤ 202 := by
  by_cases q : R.lt = 87
  · unfold pu_ords
    rw [if_pos q, pu_linesO_len]
    have : ∀ (n : Nat) (D : List Int32) (f from_ : Nat), (pu_spLines n D f from_).length ≤ f := by
      intro n D f
      induction f with
      | zero => intro from_; simp [pu_spLines]
      | succ f ih =>
        intro from_
        rw [pu_spLines, List.length_cons]
        have := ih (pu_spLine n D from_).2
        split
        · omega
        · simp
    have := this (R.sh 0).toNatClampNeg R.D 202 0
    unfold pu_linesOf; omega
  · rw [pu_ords_not87 q w]; simp; split <;> simp
theorem pu_mo_try (L : pu_LabM s m) (F0 : pu_FldM s m) (w : pu_WS s) (ho : s.opn = true) (hk : s.lt ≠ -1) :
    ∃ m', f_Mo_tryField m mL = some (if pu_fitF (pu_recOf s) = false ∨ pu_okF (pu_recOf s) = false then 8 else if 120 < (pu_opens s).length + (pu_ords (pu_recOf s)).length then 10 else 0, m', mL) ∧ (∀ a, a ≠ 39 → a ≠ 49 → a ≠ 50 → a ≠ 52 → a ≠ 53 → m' a = m a) ∧ (∀ b, b ≠ 32 → b ≠ 33 → b ≠ 34 → m' 39 b = m 39 b) ∧
      (pu_fitF (pu_recOf s) = true → m' 39 34 = Int32.ofNat (pu_ords (pu_recOf s)).length ∧ pu_RecM m' s.fs.length (pu_recOf s) ∧ (∀ (f : Nat) (hf : f < s.fs.length), pu_RecM m' f s.fs[f]) ∧ ∃ w, m' 39 32 = pu_bi w) := by
  have wf := w.k ho hk
  have hl := w.dl ho
  have hb := w.db ho
  have hm4 : pu_manyL s.lt ≤ 4 := pu_many_kind wf.k
  have hF : s.fs.length ≤ 120 := by
    have h1 := w.n
    have : s.fs.length ≤ (pu_opens s).length := by
      unfold pu_opens
      have wfs := w.fs
      generalize s.fs = l at wfs
      induction l with
      | nil => simp
      | cons R r ih =>
        have h2 : 1 ≤ (pu_ords R).length := by
          have wR := (wfs R List.mem_cons_self).w
          by_cases q : R.lt = 87
          · unfold pu_ords; rw [if_pos q, pu_linesO_len]; unfold pu_linesOf; rw [pu_spLines]; simp
          · rw [pu_ords_not87 q wR]; simp
        have := ih (fun R hR => wfs R (List.mem_cons_of_mem _ hR))
        rw [List.flatMap_cons, List.length_append, List.length_cons]; omega
    omega
  have hfs : ∀ R ∈ s.fs, pu_manyL R.lt ≤ 4 ∧ R.D.length ≤ 200 := fun R hR => ⟨pu_many_kind (w.fs R hR).w.k, (w.fs R hR).len⟩
  have hol := pu_ords_le wf
  have hwn := w.n
  unfold f_Mo_tryField f_Mo_tryField_b0 f_Mo_tryField_b18 f_Mo_tryField_b43
  rw [pu_mo_fits F0 hk wf hl hb, pu_b_some]
  cases hfit : pu_fitF (pu_recOf s)
  · rw [if_pos pu_bi_f]
    refine ⟨m, by simp, fun _ _ _ _ _ _ => rfl, fun _ _ _ _ => rfl, fun q => by cases q⟩
  · rw [if_neg pu_bi_t]
    simp only []
    obtain ⟨m1, y1, y2, y3, y4, y5⟩ := pu_mo_lay (mL := mL) L F0 hk hm4 hF hl hfs
    have e1 : m1 39 = m 39 := y2 39 (by decide) (by decide) (by decide)
    generalize hm2 : tm_up (tm_up m1 39 32 0) 39 33 0 = m2
    have o2 : ∀ a, a ≠ 39 → m2 a = m1 a := fun a ha => by rw [← hm2, pu_tm_up_c ha, pu_tm_up_c ha]
    have k33 : m2 39 33 = pu_bi false := by rw [← hm2, tm_up_eq]; rfl
    have k32 : m2 39 32 = pu_bi false := by rw [← hm2, tm_up_k (by decide), tm_up_eq]; rfl
    have kb : ∀ b, b ≠ 32 → b ≠ 33 → m2 39 b = m 39 b := fun b b1 b2 => by rw [← hm2, tm_up_k b2, tm_up_k b1, e1]
    have k26 : m2 39 26 = Int32.ofNat (pu_opens s).length := by rw [kb 26 (by decide) (by decide)]; exact L.md
    have hr2 : pu_RecM m2 s.fs.length (pu_recOf s) := y3.fr (o2 50 (by decide)) (o2 52 (by decide))
    obtain ⟨m3, f1, f2⟩ := pu_mo_makeField (m := m2) (mL := mL) (c := 0) (O := 0) (kp := false) (w := false) hr2 wf hF hl (w.s1 ho) (w.s2 ho) (by omega) k33 k32 (fun q => by cases q)
    have md3 := f2.made _ k26
    have wr3 := f2.wr _ k32
    rw [List.length_map] at md3
    rw [pu_near_map, Bool.false_or] at wr3
    have k49 : m3 49 0 = pu_kd s.lt := by
      rw [f2.o 49 (by decide) (by decide) (by decide) (by decide), o2 49 (by decide), y5]; exact F0.k
    generalize hW : (!(pu_ords (pu_recOf s)).all pu_nearO || pu_badG (pu_recOf s)) = W at wr3
    have PL : ∀ (W' : Bool) (m4 : tm_I), (∀ a, a ≠ 39 → m4 a = m3 a) → (∀ b, b ≠ 32 → m4 39 b = m3 39 b) → m4 39 32 = pu_bi W' → ∃ m5, f_Mo_isPlaced_b52 (Int32.ofNat s.fs.length) (Int32.ofNat (pu_opens s).length) m4 mL = some (pu_bi (!W'), m5, mL) ∧ (∀ a, a ≠ 39 → m5 a = m3 a) ∧ (∀ b, b ≠ 32 → b ≠ 34 → b ≠ 26 → m5 39 b = m3 39 b) ∧ m5 39 34 = Int32.ofNat (pu_ords (pu_recOf s)).length ∧ m5 39 26 = Int32.ofNat (pu_opens s).length ∧ ∃ w, m5 39 32 = pu_bi w := by
      intro W' m4 a1 a2 a3
      have d26 : m4 39 26 = Int32.ofNat ((pu_opens s).length + (pu_ords (pu_recOf s)).length) := by rw [a2 26 (by decide)]; exact md3
      refine ⟨tm_up (tm_up m4 39 34 (m4 39 26 - Int32.ofNat (pu_opens s).length)) 39 26 (Int32.ofNat (pu_opens s).length), ?_, fun a ha => ?_, fun b b1 b2 b3 => ?_, ?_, tm_up_eq _ _ _ _, W', by rw [tm_up_k (by decide), tm_up_k (by decide)]; exact a3⟩
      · unfold f_Mo_isPlaced_b52 f_Mo_isPlaced_b79
        rw [tm_up_k (show 32 ≠ 26 by decide), tm_up_k (show 32 ≠ 34 by decide), a3]
        cases W'
        · rw [if_neg (show ¬ ¬ pu_bi false = 0 by decide), if_pos (Or.inr rfl)]; rfl
        · rw [if_pos pu_bi_t, if_pos (Or.inl rfl)]; rfl
      · rw [pu_tm_up_c ha, pu_tm_up_c ha, a1 a ha]
      · rw [tm_up_k b3, tm_up_k b2, a2 b b1]
      · rw [tm_up_k (by decide), tm_up_eq, d26, pu_n_sub (by omega)]; congr 1; omega
    have okE : pu_okF (pu_recOf s) = !(W || (if (pu_recOf s).lt = 87 then decide (20 < (pu_ords (pu_recOf s)).length) else false)) := by
      rw [← hW]
      unfold pu_okF pu_badG
      by_cases q87 : (pu_recOf s).lt = 87
      · rw [if_pos q87, if_pos q87, if_neg (by rw [q87]; decide)]
        have : (pu_ords (pu_recOf s)).length = (pu_linesOf (pu_recOf s)).length := by
          unfold pu_ords; rw [if_pos q87, pu_linesO_len]
        rw [this]
        cases (pu_ords (pu_recOf s)).all pu_nearO <;> by_cases z : (pu_linesOf (pu_recOf s)).length ≤ 20
        · simp [z]
        · simp [z]
        · simp [z]
        · simp [z]; omega
      · rw [if_neg q87, if_neg q87]
        by_cases q71 : (pu_recOf s).lt = 71
        · rw [if_pos q71, if_pos q71]
          cases (pu_ords (pu_recOf s)).all pu_nearO <;> cases (pu_near ((pu_recOf s).x + (pu_recOf s).sh 0) && pu_near ((pu_recOf s).y + (pu_recOf s).sh 1)) <;> rfl
        · rw [if_neg q71, if_neg q71]
          have : pu_ords (pu_recOf s) ≠ [] := by rw [pu_ords_not87 q87 wf]; simp
          rw [decide_eq_true this]
          cases (pu_ords (pu_recOf s)).all pu_nearO <;> rfl
    have IP : ∃ m5, f_Mo_isPlaced (Int32.ofNat s.fs.length) m mL = some (pu_bi (pu_okF (pu_recOf s)), m5, mL) ∧ (∀ a, a ≠ 39 → m5 a = m3 a) ∧ (∀ b, b ≠ 32 → b ≠ 34 → b ≠ 26 → m5 39 b = m3 39 b) ∧ m5 39 34 = Int32.ofNat (pu_ords (pu_recOf s)).length ∧ m5 39 26 = Int32.ofNat (pu_opens s).length ∧ ∃ w, m5 39 32 = pu_bi w := by
      have f1' : f_Mo_makeField (Int32.ofNat s.fs.length) 0 m2 mL = some (0, m3, mL) := by
        rw [show Int32.ofNat 0 = (0 : Int32) from rfl] at f1; exact f1
      have G0 : f_Mo_isPlaced (Int32.ofNat s.fs.length) m mL = if ¬ pu_kd s.lt = 8 then f_Mo_isPlaced_b52 (Int32.ofNat s.fs.length) (Int32.ofNat (pu_opens s).length) m3 mL else if Int32.ofNat (pu_ords (pu_recOf s)).length ≤ 20 then f_Mo_isPlaced_b52 (Int32.ofNat s.fs.length) (Int32.ofNat (pu_opens s).length) m3 mL else f_Mo_isPlaced_b52 (Int32.ofNat s.fs.length) (Int32.ofNat (pu_opens s).length) (tm_up m3 39 32 1) mL := by
        unfold f_Mo_isPlaced f_Mo_isPlaced_b0
        rw [y1, pu_b_some]
        simp only [hm2]
        rw [f1', pu_b_some]
        simp only []
        rw [if_pos (by decide), show Int32.toNatClampNeg (0 : Int32) = 0 from rfl, k49, k26, md3, pu_n_sub (by omega), show (pu_opens s).length + (pu_ords (pu_recOf s)).length - (pu_opens s).length = (pu_ords (pu_recOf s)).length by omega]
      rw [G0]
      by_cases q8 : pu_kd s.lt = 8
      · have q87 : (pu_recOf s).lt = 87 := (pu_kd87 wf.k).mp q8
        rw [if_neg (fun z => z q8)]
        rw [if_pos q87] at okE
        by_cases q20 : (pu_ords (pu_recOf s)).length ≤ 20
        · rw [if_pos (by simp (disch := omega) only [pu_n_lit, pu_n_add, pu_n_mul, pu_n_sub, pu_n_div, pu_n_nat, pu_q_ltT, pu_q_ltF, pu_q_leT, pu_q_leF, pu_q_eqT, pu_q_eqF, pu_n_lt, pu_n_le, pu_n_eq, pu_p_ltT, pu_p_ltF, pu_p_leT, pu_p_leF, not_true_eq_false, not_false_eq_true, or_false, false_or, or_true, true_or, and_true, true_and, and_false, false_and, ↓reduceIte, pu_b_some])]
          obtain ⟨m5, p1, p2⟩ := PL W m3 (fun _ _ => rfl) (fun _ _ => rfl) wr3
          refine ⟨m5, ?_, p2⟩
          rw [p1, okE, decide_eq_false (by omega), Bool.or_false]
        · rw [if_neg (by simp (disch := omega) only [pu_n_lit, pu_n_add, pu_n_mul, pu_n_sub, pu_n_div, pu_n_nat, pu_q_ltT, pu_q_ltF, pu_q_leT, pu_q_leF, pu_q_eqT, pu_q_eqF, pu_n_lt, pu_n_le, pu_n_eq, pu_p_ltT, pu_p_ltF, pu_p_leT, pu_p_leF, not_true_eq_false, not_false_eq_true, or_false, false_or, or_true, true_or, and_true, true_and, and_false, false_and, ↓reduceIte, pu_b_some])]
          obtain ⟨m5, p1, p2⟩ := PL true (tm_up m3 39 32 1) (fun a ha => pu_tm_up_c ha) (fun b hb => tm_up_k hb) (tm_up_eq _ _ _ _)
          refine ⟨m5, ?_, p2⟩
          rw [p1, okE, decide_eq_true (by omega), Bool.or_true]
      · have q87 : ¬ (pu_recOf s).lt = 87 := fun z => q8 ((pu_kd87 wf.k).mpr z)
        rw [if_pos q8]
        rw [if_neg q87, Bool.or_false] at okE
        obtain ⟨m5, p1, p2⟩ := PL W m3 (fun _ _ => rfl) (fun _ _ => rfl) wr3
        refine ⟨m5, ?_, p2⟩
        rw [p1, okE]
    obtain ⟨m5, p1, p2, p3, p4, p5, p6⟩ := IP
    refine ⟨m5, ?_, fun a a1 a2 a3 a4 a5 => ?_, fun b b1 b2 b3 => ?_, fun _ => ⟨p4, ?_, fun f hf => ?_, p6⟩⟩
    · rw [L.nf, p1, pu_b_some]
      cases pu_okF (pu_recOf s)
      · rw [if_neg (by simp [pu_bi]), if_pos (Or.inr rfl)]
      · rw [if_pos pu_bi_t, if_neg (c := (true = false ∨ true = false)) (by decide)]
        simp only []
        rw [p5, p4, pu_n_add]
        by_cases q : 120 < (pu_opens s).length + (pu_ords (pu_recOf s)).length
        · rw [if_neg (by simp (disch := omega) only [pu_n_lit, pu_n_add, pu_n_mul, pu_n_sub, pu_n_div, pu_n_nat, pu_q_ltT, pu_q_ltF, pu_q_leT, pu_q_leF, pu_q_eqT, pu_q_eqF, pu_n_lt, pu_n_le, pu_n_eq, pu_p_ltT, pu_p_ltF, pu_p_leT, pu_p_leF, not_true_eq_false, not_false_eq_true, or_false, false_or, or_true, true_or, and_true, true_and, and_false, false_and, ↓reduceIte, pu_b_some]), if_pos q]
        · rw [if_pos (by simp (disch := omega) only [pu_n_lit, pu_n_add, pu_n_mul, pu_n_sub, pu_n_div, pu_n_nat, pu_q_ltT, pu_q_ltF, pu_q_leT, pu_q_leF, pu_q_eqT, pu_q_eqF, pu_n_lt, pu_n_le, pu_n_eq, pu_p_ltT, pu_p_ltF, pu_p_leT, pu_p_leF, not_true_eq_false, not_false_eq_true, or_false, false_or, or_true, true_or, and_true, true_and, and_false, false_and, ↓reduceIte, pu_b_some]), if_neg q]
    · by_cases q55 : a = 55
      · rw [p2 a a1, q55, (f2.nok rfl).1, o2 55 (by decide), y2 55 (by decide) (by decide) (by decide)]
      · by_cases q56 : a = 56
        · rw [p2 a a1, q56, (f2.nok rfl).2.1, o2 56 (by decide), y2 56 (by decide) (by decide) (by decide)]
        · rw [p2 a a1, f2.o a a1 a5 q55 q56, o2 a a1, y2 a a2 a3 a4]
    · by_cases q26 : b = 26
      · rw [q26, p5]; exact L.md.symm
      · rw [p3 b b1 b3 q26]
        by_cases q37 : b = 37
        · rw [q37, (f2.nok rfl).2.2, kb 37 (by decide) (by decide)]
        · rw [f2.c39 b q26 b1 q37, kb b b1 b2]
    · exact hr2.fr (by rw [p2 50 (by decide), f2.o 50 (by decide) (by decide) (by decide) (by decide)]) (by rw [p2 52 (by decide), f2.o 52 (by decide) (by decide) (by decide) (by decide)])
    · exact (y4 f hf).fr (by rw [p2 50 (by decide), f2.o 50 (by decide) (by decide) (by decide) (by decide), o2 50 (by decide)]) (by rw [p2 52 (by decide), f2.o 52 (by decide) (by decide) (by decide) (by decide), o2 52 (by decide)])
end TRY
theorem pu_hd_app {cs R : List Int32} (h : pu_hd R = -1) : pu_hd (cs ++ R) = pu_hd cs := by
  cases cs with
  | nil => exact h
  | cons c r => rfl
theorem pu_tl_app {cs R : List Int32} (h : 0 < cs.length) : (cs ++ R).tail = cs.tail ++ R := by
  cases cs with
  | nil => simp at h
  | cons c r => rfl
theorem pu_dig_app {R : List Int32} (h : pu_hd R = -1) : ∀ (f : Nat) (v : Int32) (k : Nat) (cs : List Int32), pu_spDig f v k (cs ++ R) = ((pu_spDig f v k cs).1, (pu_spDig f v k cs).2.1, (pu_spDig f v k cs).2.2 ++ R)
  | 0, v, k, cs => rfl
  | f + 1, v, k, cs => by
    rw [pu_spDig, pu_spDig, pu_hd_app h]
    by_cases q : pu_isD (pu_hd cs) = true
    · rw [if_pos q, if_pos q, pu_tl_app (pu_hd_pos (pu_isD_ne q)), pu_dig_app h f]
    · rw [if_neg q, if_neg q]
theorem pu_one_app {R : List Int32} (h : pu_hd R = -1) (old : Int32) (cs : List Int32) : pu_spOne old (cs ++ R) = match pu_spOne old cs with | none => none | some (v, r) => some (v, r ++ R) := by
  unfold pu_spOne
  rw [pu_hd_app h]
  by_cases q : pu_hd cs = 45
  · rw [if_pos q, if_pos q, pu_tl_app (pu_hd_pos (by rw [q]; decide)), pu_dig_app h]
    simp only []
    by_cases q2 : 5 < (pu_spDig 6 0 0 cs.tail).2.1 ∨ (pu_spDig 6 0 0 cs.tail).2.1 = 0
    · rw [if_pos q2, if_pos q2]
    · rw [if_neg q2, if_neg q2]
  · rw [if_neg q, if_neg q, pu_dig_app h]
    simp only []
    by_cases q2 : 5 < (pu_spDig 6 0 0 cs).2.1
    · rw [if_pos q2, if_pos q2]
    · rw [if_neg q2, if_neg q2]
theorem pu_nums_app {R : List Int32} (h : pu_hd R = -1) : ∀ (t i : Nat) (vs : Nat → Int32) (cs : List Int32), pu_spNums t i vs (cs ++ R) = match pu_spNums t i vs cs with | none => none | some (v, r) => some (v, r ++ R)
  | 0, i, vs, cs => rfl
  | t + 1, i, vs, cs => by
    rw [pu_spNums, pu_spNums, pu_hd_app h]
    by_cases q : 0 < i ∧ pu_hd cs ≠ 44
    · rw [if_pos q, if_pos q]
    · rw [if_neg q, if_neg q]
      have e : (if 0 < i then (cs ++ R).tail else cs ++ R) = (if 0 < i then cs.tail else cs) ++ R := by
        by_cases q2 : 0 < i
        · rw [if_pos q2, if_pos q2]
          have : pu_hd cs = 44 := by
            by_cases z : pu_hd cs = 44
            · exact z
            · exact absurd ⟨q2, z⟩ q
          exact pu_tl_app (pu_hd_pos (by rw [this]; decide))
        · rw [if_neg q2, if_neg q2]
      rw [e, pu_one_app h]
      cases pu_spOne (vs i) (if 0 < i then cs.tail else cs) with
      | none => rfl
      | some z => exact pu_nums_app h t (i + 1) (pu_fu vs i z.1) z.2
theorem pu_post_app {R : List Int32} (h : pu_hd R = -1) (l : Int32) (z : Option ((Nat → Int32) × List Int32)) : pu_spPost l (match z with | none => none | some (v, r) => some (v, r ++ R)) = match pu_spPost l z with | none => none | some (v, r) => some (v, r ++ R) := by
  cases z with
  | none => rfl
  | some y =>
    obtain ⟨v, r⟩ := y
    unfold pu_spPost
    simp only []
    rw [pu_hd_app h]
    by_cases q : ¬ (pu_hd r = 44 ↔ l = 75)
    · rw [if_pos q, if_pos q]
    · rw [if_neg q, if_neg q]
      by_cases q2 : l = 75
      · rw [if_pos q2, if_pos q2]
        have : pu_hd r = 44 := (Decidable.not_not.mp q).mpr q2
        rw [pu_tl_app (pu_hd_pos (by rw [this]; decide))]
      · rw [if_neg q2, if_neg q2]
theorem pu_take_post (j : Nat) (l : Int32) (vs : Nat → Int32) (cs : List Int32) : pu_spTake j l vs cs = match pu_spPost l (pu_spNums ((tm_sv j).length / 3) 0 vs cs) with | none => .inl 4 | some (v, r) => if pu_inRng j v 0 ((tm_sv j).length / 3) = true then .inr (v, r) else .inl 5 := by
  unfold pu_spTake pu_spPost
  cases pu_spNums ((tm_sv j).length / 3) 0 vs cs with
  | none => rfl
  | some y =>
    simp only []
    by_cases q : ¬ (pu_hd y.2 = 44 ↔ l = 75)
    · rw [if_pos q, if_pos q]
    · rw [if_neg q, if_neg q]
theorem pu_gd_app {cs R : List Int32} {i : Nat} (h : i < cs.length) : (cs ++ R)[i]?.getD (-1) = cs[i]?.getD (-1) := by
  rw [List.getElem?_append_left h]
theorem pu_esc_app {cs R : List Int32} (h : pu_hd R = -1) (hc : 0 < cs.length) : pu_esc (cs ++ R) = pu_esc cs := by
  have hR : (R[0]?.getD (-1) : Int32) = -1 := by rw [← pu_hd0]; exact h
  unfold pu_esc
  by_cases q1 : 1 < cs.length
  · rw [pu_gd_app q1]
    by_cases q2 : 2 < cs.length
    · rw [pu_gd_app q2]
    · have e1 : ((cs ++ R)[2]?.getD (-1) : Int32) = -1 := by rw [List.getElem?_append_right (by omega), show 2 - cs.length = 0 by omega]; exact hR
      have e2 : (cs[2]?.getD (-1) : Int32) = -1 := by rw [List.getElem?_eq_none (by omega)]; rfl
      rw [e1, e2]
  · have e1 : ((cs ++ R)[1]?.getD (-1) : Int32) = -1 := by rw [List.getElem?_append_right (by omega), show 1 - cs.length = 0 by omega]; exact hR
    have e2 : (cs[1]?.getD (-1) : Int32) = -1 := by rw [List.getElem?_eq_none (by omega)]; rfl
    rw [e1, e2, if_pos (Or.inl pu_hx_m1), if_pos (Or.inl pu_hx_m1)]
theorem pu_data_app {R : List Int32} (h : pu_hd R = -1) : ∀ (t : Nat) (acc cs : List Int32), pu_byteL cs → pu_spData t acc (cs ++ R) = match pu_spData t acc cs with | none => none | some (a, r) => some (a, r ++ R)
  | 0, acc, cs, _ => rfl
  | t + 1, acc, cs, hb => by
    rw [pu_spData, pu_spData, pu_hd_app h]
    by_cases q1 : pu_hd cs = -1 ∨ pu_hd cs = 94
    · rw [if_pos q1, if_pos q1]
    · rw [if_neg q1, if_neg q1]
      have hp := pu_hd_pos (fun e => q1 (Or.inl e))
      rw [pu_esc_app h hp]
      by_cases q2 : (if pu_hd cs = 95 then pu_esc cs else pu_hd cs) = -1 ∨ 200 ≤ acc.length
      · rw [if_pos q2, if_pos q2]
      · rw [if_neg q2, if_neg q2]
        have e : (cs ++ R).drop (if pu_hd cs = 95 then 3 else 1) = cs.drop (if pu_hd cs = 95 then 3 else 1) ++ R := by
          rw [List.drop_append_of_le_length]
          by_cases q3 : pu_hd cs = 95
          · rw [if_pos q3]
            rcases pu_esc_b hb with z | ⟨_, _, _, z⟩
            · exact absurd (Or.inl (by rw [if_pos q3]; exact z)) q2
            · exact z
          · rw [if_neg q3]; exact hp
        rw [e]
        exact pu_data_app h t _ _ (fun x pu_hx => hb x (List.mem_of_mem_drop pu_hx))
def pu_pend (lv : Nat → List Int32) : Nat → List Int32
  | 0 => lv 0
  | d + 1 => lv (d + 1) ++ (-1) :: pu_pend lv d
def pu_rest (lv : Nat → List Int32) : Nat → List Int32
  | 0 => []
  | d + 1 => (-1) :: pu_pend lv d
theorem pu_pend_rest (lv : Nat → List Int32) (d : Nat) : pu_pend lv d = lv d ++ pu_rest lv d := by
  cases d with
  | zero => simp [pu_pend, pu_rest]
  | succ d => rfl
theorem pu_rest_hd (lv : Nat → List Int32) (d : Nat) : pu_hd (pu_rest lv d) = -1 := by cases d <;> rfl
theorem pu_pend_fl {lv : Nat → List Int32} {x : List Int32} : ∀ {d e : Nat}, d < e → pu_pend (pu_fl lv e x) d = pu_pend lv d
  | 0, e, h => by
    show pu_fl lv e x 0 = lv 0
    unfold pu_fl; rw [if_neg (by omega)]
  | d + 1, e, h => by
    show pu_fl lv e x (d + 1) ++ (-1) :: pu_pend (pu_fl lv e x) d = lv (d + 1) ++ (-1) :: pu_pend lv d
    rw [pu_pend_fl (by omega)]
    unfold pu_fl; rw [if_neg (by omega)]
theorem pu_rest_fl {lv : Nat → List Int32} {x : List Int32} {d e : Nat} (h : d ≤ e) : pu_rest (pu_fl lv e x) d = pu_rest lv d := by
  cases d with
  | zero => rfl
  | succ d => show (-1) :: pu_pend (pu_fl lv e x) d = _; rw [pu_pend_fl (by omega)]; rfl
theorem pu_pend_on (lv : Nat → List Int32) (d : Nat) (x : List Int32) : pu_pend (pu_fl lv d x) d = x ++ pu_rest lv d := by
  rw [pu_pend_rest, pu_rest_fl (Nat.le_refl _)]; unfold pu_fl; rw [if_pos rfl]
theorem pu_Stk.drop {m : tm_I} {P : List Int32} (h : pu_Stk m P) (q : Nat) : pu_Stk m (P.drop q) := by
  refine ⟨by rw [List.length_drop]; have := h.1; omega, fun k hk => ?_⟩
  rw [List.length_drop] at hk
  rw [List.length_drop, show P.length - q - 1 - k = P.length - 1 - (q + k) by omega, h.2 (q + k) (by omega), List.getElem_drop]
theorem pu_pend_bm {lv : Nat → List Int32} : ∀ (d : Nat), (∀ j, j ≤ d → pu_byteL (lv j)) → pu_bm (pu_pend lv d)
  | 0, h => fun b hb => Or.inr (h 0 (Nat.le_refl _) b hb)
  | d + 1, h => by
    intro b hb
    rcases List.mem_append.mp hb with q | q
    · exact Or.inr (h (d + 1) (Nat.le_refl _) b q)
    · rcases List.mem_cons.mp q with q | q
      · exact Or.inl q
      · exact pu_pend_bm d (fun j hj => h j (by omega)) b q
def pu_KM (F V : Nat → List Int32) (T : List Int32) (m : tm_I) : Prop := (m 39 2 = Int32.ofNat T.length) ∧ (T.length ≤ 4096) ∧ (∀ i, i < T.length → m 40 i = T[i]?.getD (-1)) ∧ (∀ k, k < 8 → m 42 k = Int32.ofNat (F k).length ∧ (F k).length ≤ 400) ∧ (∀ k, k < 8 → ∀ i, i < (F k).length → m 41 (400 * k + i) = (F k)[i]?.getD (-1)) ∧ (∀ k, k < 10 → m 44 k = Int32.ofNat (V k).length ∧ (V k).length ≤ 200) ∧ (∀ k, k < 10 → ∀ i, i < (V k).length → m 43 (200 * k + i) = (V k)[i]?.getD (-1))
theorem pu_KM.tn {F : Nat → List Int32} {V : Nat → List Int32} {T : List Int32} {m : tm_I} (h_ : pu_KM F V T m) : m 39 2 = Int32.ofNat T.length := h_.1
theorem pu_KM.tl {F : Nat → List Int32} {V : Nat → List Int32} {T : List Int32} {m : tm_I} (h_ : pu_KM F V T m) : T.length ≤ 4096 := h_.2.1
theorem pu_KM.tx {F : Nat → List Int32} {V : Nat → List Int32} {T : List Int32} {m : tm_I} (h_ : pu_KM F V T m) : ∀ i, i < T.length → m 40 i = T[i]?.getD (-1) := h_.2.2.1
theorem pu_KM.fn {F : Nat → List Int32} {V : Nat → List Int32} {T : List Int32} {m : tm_I} (h_ : pu_KM F V T m) : ∀ k, k < 8 → m 42 k = Int32.ofNat (F k).length ∧ (F k).length ≤ 400 := h_.2.2.2.1
theorem pu_KM.fx {F : Nat → List Int32} {V : Nat → List Int32} {T : List Int32} {m : tm_I} (h_ : pu_KM F V T m) : ∀ k, k < 8 → ∀ i, i < (F k).length → m 41 (400 * k + i) = (F k)[i]?.getD (-1) := h_.2.2.2.2.1
theorem pu_KM.vn {F : Nat → List Int32} {V : Nat → List Int32} {T : List Int32} {m : tm_I} (h_ : pu_KM F V T m) : ∀ k, k < 10 → m 44 k = Int32.ofNat (V k).length ∧ (V k).length ≤ 200 := h_.2.2.2.2.2.1
theorem pu_KM.vx {F : Nat → List Int32} {V : Nat → List Int32} {T : List Int32} {m : tm_I} (h_ : pu_KM F V T m) : ∀ k, k < 10 → ∀ i, i < (V k).length → m 43 (200 * k + i) = (V k)[i]?.getD (-1) := h_.2.2.2.2.2.2
theorem pu_KM.fr {F V : Nat → List Int32} {T : List Int32} {m m' : tm_I} (h : pu_KM F V T m) (e39 : m' 39 2 = m 39 2) (e40 : m' 40 = m 40) (e41 : m' 41 = m 41) (e42 : m' 42 = m 42) (e43 : m' 43 = m 43) (e44 : m' 44 = m 44) : pu_KM F V T m' :=
  ⟨e39.trans h.tn, h.tl, by rw [e40]; exact h.tx, by rw [e42]; exact h.fn, by rw [e41]; exact h.fx, by rw [e44]; exact h.vn, by rw [e43]; exact h.vx⟩
def pu_RM (s : pu_Sp) (T : List Int32) (m : tm_I) : Prop := (pu_KM s.F s.V T m) ∧ (pu_Stk m (pu_pend s.lv s.d)) ∧ (m 39 8 = Int32.ofNat (pu_pend s.lv s.d).length) ∧ (m 39 9 = Int32.ofNat s.d) ∧ (0 < s.d → m 39 10 = s.outer) ∧ (m 39 11 = Int32.ofNat s.cmds) ∧ (m 39 18 = pu_bi s.opn) ∧ (m 39 35 = Int32.ofNat s.ls.length) ∧ (m 39 37 = Int32.ofNat s.os.length) ∧ (∀ (k : Nat) (h : k < s.ls.length), ∀ j, j < 4 → m 54 (4 * k + j) = pu_lb4 s.ls[k] j) ∧ (∀ (K : Nat) (h : K < s.os.length), pu_ModO m K s.os[K]) ∧ (s.fs ≠ [] → ∃ w, m 39 32 = pu_bi w) ∧ (s.opn = true → pu_LabM s m ∧ pu_FldM s m)
theorem pu_RM.k {s : pu_Sp} {T : List Int32} {m : tm_I} (h_ : pu_RM s T m) : pu_KM s.F s.V T m := h_.1
theorem pu_RM.st {s : pu_Sp} {T : List Int32} {m : tm_I} (h_ : pu_RM s T m) : pu_Stk m (pu_pend s.lv s.d) := h_.2.1
theorem pu_RM.l8 {s : pu_Sp} {T : List Int32} {m : tm_I} (h_ : pu_RM s T m) : m 39 8 = Int32.ofNat (pu_pend s.lv s.d).length := h_.2.2.1
theorem pu_RM.dep {s : pu_Sp} {T : List Int32} {m : tm_I} (h_ : pu_RM s T m) : m 39 9 = Int32.ofNat s.d := h_.2.2.2.1
theorem pu_RM.out {s : pu_Sp} {T : List Int32} {m : tm_I} (h_ : pu_RM s T m) : 0 < s.d → m 39 10 = s.outer := h_.2.2.2.2.1
theorem pu_RM.cm {s : pu_Sp} {T : List Int32} {m : tm_I} (h_ : pu_RM s T m) : m 39 11 = Int32.ofNat s.cmds := h_.2.2.2.2.2.1
theorem pu_RM.op {s : pu_Sp} {T : List Int32} {m : tm_I} (h_ : pu_RM s T m) : m 39 18 = pu_bi s.opn := h_.2.2.2.2.2.2.1
theorem pu_RM.n35 {s : pu_Sp} {T : List Int32} {m : tm_I} (h_ : pu_RM s T m) : m 39 35 = Int32.ofNat s.ls.length := h_.2.2.2.2.2.2.2.1
theorem pu_RM.n37 {s : pu_Sp} {T : List Int32} {m : tm_I} (h_ : pu_RM s T m) : m 39 37 = Int32.ofNat s.os.length := h_.2.2.2.2.2.2.2.2.1
theorem pu_RM.lb {s : pu_Sp} {T : List Int32} {m : tm_I} (h_ : pu_RM s T m) : ∀ (k : Nat) (h : k < s.ls.length), ∀ j, j < 4 → m 54 (4 * k + j) = pu_lb4 s.ls[k] j := h_.2.2.2.2.2.2.2.2.2.1
theorem pu_RM.od {s : pu_Sp} {T : List Int32} {m : tm_I} (h_ : pu_RM s T m) : ∀ (K : Nat) (h : K < s.os.length), pu_ModO m K s.os[K] := h_.2.2.2.2.2.2.2.2.2.2.1
theorem pu_RM.w32 {s : pu_Sp} {T : List Int32} {m : tm_I} (h_ : pu_RM s T m) : s.fs ≠ [] → ∃ w, m 39 32 = pu_bi w := h_.2.2.2.2.2.2.2.2.2.2.2.1
theorem pu_RM.lab {s : pu_Sp} {T : List Int32} {m : tm_I} (h_ : pu_RM s T m) : s.opn = true → pu_LabM s m ∧ pu_FldM s m := h_.2.2.2.2.2.2.2.2.2.2.2.2
