section ENDF
variable {m : tm_I} {mL : tm_L} {R : pu_Fd} {A B F : Nat}
theorem pu_ords_not87 (hw : R.lt ≠ 87) (w : pu_WFd R) : pu_ords R = pu_ord1 R :: (if R.lt = 66 ∧ R.sh 3 = 1 then [pu_mk R 0 (R.sh 2) 0 (R.sh 1 + 3) (R.tx 0) (R.tx 1) (R.tx 2) 0 R.D.length] else []) := by
  unfold pu_ords pu_ord1
  rw [if_neg hw]
  rcases w.k with k | k | k | k | k | k | k | k | k
  · simp [k]
  · exact absurd k hw
  · simp [k]
  all_goals simp [k]
theorem pu_okF_not87 (hw : R.lt ≠ 87) (w : pu_WFd R) : pu_okF R = (pu_ok1 R && (if R.lt = 66 ∧ R.sh 3 = 1 then pu_nearO (pu_mk R 0 (R.sh 2) 0 (R.sh 1 + 3) (R.tx 0) (R.tx 1) (R.tx 2) 0 R.D.length) else true)) := by
  unfold pu_okF pu_ok1
  rw [pu_ords_not87 hw w, if_neg hw, List.all_cons]
  by_cases h71 : R.lt = 71
  · have : ¬ (R.lt = 66 ∧ R.sh 3 = 1) := fun q => by rw [h71] at q; exact absurd q.1 (by decide)
    simp [h71]
  · by_cases h66 : R.lt = 66 ∧ R.sh 3 = 1
    · simp [h71, h66]
    · simp [h71, h66]
theorem pu_pr_draw (h : pu_Dr m mL R A B F) (w : pu_WFd R) (hA : A ≤ 120) (hB : B ≤ 120) : ∃ m2, (if ¬ (m 26 2) = (87 : Int32) then (f_Pr_drawWhole m mL).bind fun v6 => f_Pr_endField_b34 v6.1 v6.2.1 v6.2.2 else (f_Pr_drawBlock m mL).bind fun v7 => f_Pr_endField_b34 v7.1 v7.2.1 v7.2.2) = f_Pr_endField_b71 (pu_bi (pu_okF R)) m2 mL ∧ pu_frO m m2 ∧ (pu_okF R = true → pu_Ext m m2 A B (pu_ords R) F) := by
  by_cases hw : R.lt = 87
  · obtain ⟨m2, a1, a2, a3⟩ := pu_pr_block h hw w hA hB
    refine ⟨m2, ?_, a2, a3⟩
    rw [if_neg (by rw [h.lt, hw]; simp), a1, pu_b_some]
    unfold f_Pr_endField_b34
    have e : m2 26 2 = 87 := by rw [a2 26 (by decide) (by decide) (by decide) (by decide) (by decide), h.lt, hw]
    simp only [e]
    cases pu_okF R
    · simp [pu_bi]
    · simp [pu_bi]
  · obtain ⟨m1, a1, a2, a3⟩ := pu_pr_whole h hw w hA hB
    have e : m1 26 2 = R.lt := by rw [a2 26 (by decide) (by decide) (by decide) (by decide) (by decide), h.lt]
    rw [if_pos (by rw [h.lt]; exact hw), a1, pu_b_some, pu_okF_not87 hw w, pu_ords_not87 hw w]
    simp only []
    unfold f_Pr_endField_b34
    cases ho : pu_ok1 R
    · refine ⟨m1, ?_, a2, fun q => by simp at q⟩
      rw [if_pos (by rfl)]; rfl
    · have x1 := a3 ho
      have h2 : pu_Dr m1 mL R A (B + 1) F := h.ext x1
      obtain ⟨_, _, _, g3⟩ := pu_dg30 h2
      rw [if_neg (by decide), e]
      by_cases h66 : R.lt = 66
      · rw [if_neg (fun q => q h66), g3, pu_b_some]
        simp only []
        by_cases h1 : R.sh 3 = 1
        · obtain ⟨m2, b1, b2, b3⟩ := pu_pr_bars h2 hA (by omega)
          rw [if_neg (fun q => q h1), b1, pu_b_some, if_pos ⟨h66, h1⟩, if_pos ⟨h66, h1⟩, Bool.true_and]
          refine ⟨m2, rfl, fun a q1 q2 q3 q4 q5 => (b2 a q1 q2 q3 q4 q5).trans (a2 a q1 q2 q3 q4 q5), fun q => x1.trans (b3 q)⟩
        · rw [if_pos h1, if_neg (fun q => h1 q.2), if_neg (fun q => h1 q.2)]
          exact ⟨m1, rfl, a2, fun _ => x1⟩
      · rw [if_pos h66, if_neg (fun q => h66 q.1), if_neg (fun q => h66 q.1)]
        exact ⟨m1, rfl, a2, fun _ => x1⟩
def pu_FB (m : tm_I) : tm_I := tm_up (tm_up (tm_up (tm_up (tm_up (tm_up (tm_up m 28 0 0) 26 2 (-1)) 26 3 0) 26 4 0) 26 5 0) 26 6 0) 26 7 0
theorem pu_fi_begin : f_Fi_begin m mL = some (0, pu_FB m, mL) := by
  unfold f_Fi_begin f_Fi_begin_b0
  have := pu_ro_clear (o := 27) (c := 28) (R := 1) (r := 0) (mI := m) (mL := mL) rfl rfl (by omega) (by omega)
  rw [show (Int32.ofNat 0) = (0 : Int32) from rfl] at this
  rw [this, pu_b_some]
  rfl
theorem pu_FB_o {a : Nat} (h : a ≠ 26) (h2 : a ≠ 28) : pu_FB m a = m a := by
  funext b; unfold pu_FB; rw [tm_up_o h, tm_up_o h, tm_up_o h, tm_up_o h, tm_up_o h, tm_up_o h, tm_up_o h2]
def pu_EndF (m m' : tm_I) (mL mL' : tm_L) (R : pu_Fd) (A B F : Nat) : Prop := (∀ b, b ≠ 5 → b ≠ 6 → b ≠ 7 → b ≠ 8 → m' 20 b = m 20 b) ∧ (m' 20 5 = Int32.ofNat (B + (pu_ords R).length)) ∧ (m' 20 6 = Int32.ofNat (F + 1)) ∧ (∀ b, b < (A + B) * 14 → m' 22 b = m 22 b) ∧ (∀ (i : Nat) (h : i < (pu_ords R).length), A + B + i < 120 → ∀ j, j < 14 → m' 22 ((A + B + i) * 14 + j) = pu_ordRow (pu_ords R)[i] F j) ∧ (F < 120 → pu_Row (m' 24) (mL' 25) 25 F R.D) ∧ (∀ r T, r ≠ F → T.length ≤ 200 → pu_Row (m 24) (mL 25) 25 r T → pu_Row (m' 24) (mL' 25) 25 r T) ∧ (m' 26 2 = -1) ∧ (m' 26 3 = 0) ∧ (m' 26 4 = 0) ∧ (m' 26 5 = 0) ∧ (m' 26 6 = 0) ∧ (m' 26 7 = 0) ∧ (m' 28 0 = 0)
theorem pu_EndF.c20 {m : tm_I} {m' : tm_I} {mL : tm_L} {mL' : tm_L} {R : pu_Fd} {A : Nat} {B : Nat} {F : Nat} (h_ : pu_EndF m m' mL mL' R A B F) : ∀ b, b ≠ 5 → b ≠ 6 → b ≠ 7 → b ≠ 8 → m' 20 b = m 20 b := h_.1
theorem pu_EndF.n5 {m : tm_I} {m' : tm_I} {mL : tm_L} {mL' : tm_L} {R : pu_Fd} {A : Nat} {B : Nat} {F : Nat} (h_ : pu_EndF m m' mL mL' R A B F) : m' 20 5 = Int32.ofNat (B + (pu_ords R).length) := h_.2.1
theorem pu_EndF.n6 {m : tm_I} {m' : tm_I} {mL : tm_L} {mL' : tm_L} {R : pu_Fd} {A : Nat} {B : Nat} {F : Nat} (h_ : pu_EndF m m' mL mL' R A B F) : m' 20 6 = Int32.ofNat (F + 1) := h_.2.2.1
theorem pu_EndF.old {m : tm_I} {m' : tm_I} {mL : tm_L} {mL' : tm_L} {R : pu_Fd} {A : Nat} {B : Nat} {F : Nat} (h_ : pu_EndF m m' mL mL' R A B F) : ∀ b, b < (A + B) * 14 → m' 22 b = m 22 b := h_.2.2.2.1
theorem pu_EndF.new {m : tm_I} {m' : tm_I} {mL : tm_L} {mL' : tm_L} {R : pu_Fd} {A : Nat} {B : Nat} {F : Nat} (h_ : pu_EndF m m' mL mL' R A B F) : ∀ (i : Nat) (h : i < (pu_ords R).length), A + B + i < 120 → ∀ j, j < 14 → m' 22 ((A + B + i) * 14 + j) = pu_ordRow (pu_ords R)[i] F j := h_.2.2.2.2.1
theorem pu_EndF.told {m : tm_I} {m' : tm_I} {mL : tm_L} {mL' : tm_L} {R : pu_Fd} {A : Nat} {B : Nat} {F : Nat} (h_ : pu_EndF m m' mL mL' R A B F) : F < 120 → pu_Row (m' 24) (mL' 25) 25 F R.D := h_.2.2.2.2.2.1
theorem pu_EndF.oth {m : tm_I} {m' : tm_I} {mL : tm_L} {mL' : tm_L} {R : pu_Fd} {A : Nat} {B : Nat} {F : Nat} (h_ : pu_EndF m m' mL mL' R A B F) : ∀ r T, r ≠ F → T.length ≤ 200 → pu_Row (m 24) (mL 25) 25 r T → pu_Row (m' 24) (mL' 25) 25 r T := h_.2.2.2.2.2.2.1
theorem pu_EndF.k {m : tm_I} {m' : tm_I} {mL : tm_L} {mL' : tm_L} {R : pu_Fd} {A : Nat} {B : Nat} {F : Nat} (h_ : pu_EndF m m' mL mL' R A B F) : m' 26 2 = -1 := h_.2.2.2.2.2.2.2.1
theorem pu_EndF.x {m : tm_I} {m' : tm_I} {mL : tm_L} {mL' : tm_L} {R : pu_Fd} {A : Nat} {B : Nat} {F : Nat} (h_ : pu_EndF m m' mL mL' R A B F) : m' 26 3 = 0 := h_.2.2.2.2.2.2.2.2.1
theorem pu_EndF.y {m : tm_I} {m' : tm_I} {mL : tm_L} {mL' : tm_L} {R : pu_Fd} {A : Nat} {B : Nat} {F : Nat} (h_ : pu_EndF m m' mL mL' R A B F) : m' 26 4 = 0 := h_.2.2.2.2.2.2.2.2.2.1
theorem pu_EndF.t {m : tm_I} {m' : tm_I} {mL : tm_L} {mL' : tm_L} {R : pu_Fd} {A : Nat} {B : Nat} {F : Nat} (h_ : pu_EndF m m' mL mL' R A B F) : m' 26 5 = 0 := h_.2.2.2.2.2.2.2.2.2.2.1
theorem pu_EndF.cn {m : tm_I} {m' : tm_I} {mL : tm_L} {mL' : tm_L} {R : pu_Fd} {A : Nat} {B : Nat} {F : Nat} (h_ : pu_EndF m m' mL mL' R A B F) : m' 26 6 = 0 := h_.2.2.2.2.2.2.2.2.2.2.2.1
theorem pu_EndF.sp {m : tm_I} {m' : tm_I} {mL : tm_L} {mL' : tm_L} {R : pu_Fd} {A : Nat} {B : Nat} {F : Nat} (h_ : pu_EndF m m' mL mL' R A B F) : m' 26 7 = 0 := h_.2.2.2.2.2.2.2.2.2.2.2.2.1
theorem pu_EndF.d {m : tm_I} {m' : tm_I} {mL : tm_L} {mL' : tm_L} {R : pu_Fd} {A : Nat} {B : Nat} {F : Nat} (h_ : pu_EndF m m' mL mL' R A B F) : m' 28 0 = 0 := h_.2.2.2.2.2.2.2.2.2.2.2.2.2
def pu_frE (m m' : tm_I) : Prop := ∀ a, a ≠ 20 → a ≠ 22 → a ≠ 24 → a ≠ 26 → a ≠ 28 → a ≠ 35 → a ≠ 37 → a ≠ 38 → m' a = m a
theorem pu_pr_endField (h : pu_Fl m mL R) (w : pu_WFd R) (hf : m 20 6 = Int32.ofNat F) (ha : m 20 4 = Int32.ofNat A) (hb : m 20 5 = Int32.ofNat B) (hA : A ≤ 120) (hB : B ≤ 120) (hF : F < 99999) (c0 : m 23 0 = 200) (c1 : m 23 1 = 25) (hlen : (pu_ords R).length ≤ 1000) :
    ∃ m' mL', f_Pr_endField m mL = some (if pu_okF R = false then 8 else if 120 < B + (pu_ords R).length then 10 else 0, m', mL') ∧ pu_frE m m' ∧ (∀ e, e ≠ 25 → mL' e = mL e) ∧ (pu_okF R = true → pu_EndF m m' mL mL' R A B F) := by
  obtain ⟨m1, mL1, a1, a2, a3, a4, a5, a6, a7, a8, a9⟩ := pu_sh_addField h hf hF c0 c1
  have q : ∀ a, a ≠ 20 → a ≠ 24 → m1 a = m a := a2
  have hD : pu_Dr m1 mL1 R A B F := by
    refine ⟨?_, ?_, ?_, ?_, ?_, ?_, ?_, ?_, ?_, ?_, a5, a6, a7⟩
    · rw [q 19 (by decide) (by decide), q 26 (by decide) (by decide)]; exact h.x
    · rw [q 19 (by decide) (by decide), q 26 (by decide) (by decide)]; exact h.y
    · rw [q 26 (by decide) (by decide)]; exact h.lt
    · rw [q 26 (by decide) (by decide)]; exact h.t
    · rw [q 26 (by decide) (by decide)]; exact h.sp
    · rw [q 31 (by decide) (by decide)]; exact h.sh
    · rw [q 33 (by decide) (by decide)]; exact h.tx
    · exact h.td.fr (q 28 (by decide) (by decide)) (q 27 (by decide) (by decide)) (a3 29 (by decide))
    · rw [a4 4 (by decide) (by decide) (by decide)]; exact ha
    · rw [a4 5 (by decide) (by decide) (by decide)]; exact hb
  obtain ⟨m2, b1, b2, b3⟩ := pu_pr_draw hD w hA hB
  have F1 : f_Pr_endField m mL = f_Pr_endField_b71 (pu_bi (pu_okF R)) m2 mL1 := by
    unfold f_Pr_endField f_Pr_endField_b0
    rw [a1, pu_b_some]
    exact b1
  rw [F1]
  unfold f_Pr_endField_b71
  cases ho : pu_okF R
  · refine ⟨m2, mL1, ?_, fun a q1 q2 q3 q4 q5 q6 q7 q8 => (b2 a q1 q2 q6 q7 q8).trans (a2 a q1 q3), a3, fun q => by cases q⟩
    simp [pu_bi]
  · have x := b3 ho
    refine ⟨pu_FB m2, mL1, ?_, fun a q1 q2 q3 q4 q5 q6 q7 q8 => (pu_FB_o q4 q5).trans ((b2 a q1 q2 q6 q7 q8).trans (a2 a q1 q3)), a3, fun _ => ?_⟩
    · rw [if_pos (by decide), pu_fi_begin, pu_b_some]
      simp only []
      unfold f_Sh_isOverfull f_Sh_isOverfull_b0 f_Sh_isOverfull_b14
      rw [pu_FB_o (by decide) (by decide), x.n5]
      unfold f_Pr_endField_b101
      by_cases h120 : 120 < B + (pu_ords R).length
      · rw [if_neg (by simp (disch := omega) only [pu_n_lit, pu_n_add, pu_n_mul, pu_n_sub, pu_n_div, pu_n_nat, pu_q_ltT, pu_q_ltF, pu_q_leT, pu_q_leF, pu_q_eqT, pu_q_eqF, pu_n_lt, pu_n_le, pu_n_eq, pu_p_ltT, pu_p_ltF, pu_p_leT, pu_p_leF, not_true_eq_false, not_false_eq_true, or_false, false_or, or_true, true_or, and_true, true_and, and_false, false_and, ↓reduceIte, pu_b_some])]
        simp [h120]
      · rw [if_pos (by simp (disch := omega) only [pu_n_lit, pu_n_add, pu_n_mul, pu_n_sub, pu_n_div, pu_n_nat, pu_q_ltT, pu_q_ltF, pu_q_leT, pu_q_leF, pu_q_eqT, pu_q_eqF, pu_n_lt, pu_n_le, pu_n_eq, pu_p_ltT, pu_p_ltF, pu_p_leT, pu_p_leF, not_true_eq_false, not_false_eq_true, or_false, false_or, or_true, true_or, and_true, true_and, and_false, false_and, ↓reduceIte, pu_b_some])]
        simp [h120]
    · refine ⟨fun b q1 q2 q3 q4 => ?_, ?_, ?_, fun b hb => ?_, fun i hi hlt j hj => ?_, fun hq => ?_, fun r T hr hT H => ?_, rfl, rfl, rfl, rfl, rfl, rfl, rfl⟩
      · rw [pu_FB_o (by decide) (by decide), x.c20 b q1, a4 b q2 q3 q4]
      · rw [pu_FB_o (by decide) (by decide), x.n5]
      · rw [pu_FB_o (by decide) (by decide), x.c20 6 (by decide), a5]
      · rw [pu_FB_o (by decide) (by decide), x.old b hb, a2 22 (by decide) (by decide)]
      · rw [pu_FB_o (by decide) (by decide), x.new i hi hlt j hj]
      · rw [pu_FB_o (by decide) (by decide), b2 24 (by decide) (by decide) (by decide) (by decide) (by decide)]; exact a8 hq
      · rw [pu_FB_o (by decide) (by decide), b2 24 (by decide) (by decide) (by decide) (by decide) (by decide)]; exact a9 r T hr hT H
end ENDF
def pu_idx (l : List Int32) (x : Int32) : Bool := decide (x ∈ l)
section AMONG
variable {mI : tm_I} {mL : tm_L}
theorem pu_s1_loop {i : Nat} (hi : i < 7) (hl : (tm_tx i).length = tm_tl i) (hl2 : tm_tl i < 1000) (x1 x2 v : Int32) : ∀ (t k N : Nat), t + k = tm_tl i → t < N → ∃ z, f_S1_indexOfChar_l7 N i x1 x2 (Int32.ofNat (tm_tl i)) v (Int32.ofNat k) mI mL = some (z, mI, mL) ∧ (z < 0 ↔ v ∉ (tm_tx i).drop k) := by
  intro t
  induction t with
  | zero =>
    intro k N hk hN
    obtain ⟨N, rfl⟩ : ∃ n', N = n' + 1 := ⟨N - 1, by omega⟩
    refine ⟨-1, ?_, ?_⟩
    · rw [f_S1_indexOfChar_l7, if_pos (by simp (disch := omega) only [pu_n_lit, pu_n_add, pu_n_mul, pu_n_sub, pu_n_div, pu_n_nat, pu_q_ltT, pu_q_ltF, pu_q_leT, pu_q_leF, pu_q_eqT, pu_q_eqF, pu_n_lt, pu_n_le, pu_n_eq, pu_p_ltT, pu_p_ltF, pu_p_leT, pu_p_leF, not_true_eq_false, not_false_eq_true, or_false, false_or, or_true, true_or, and_true, true_and, and_false, false_and, ↓reduceIte, pu_b_some])]
    · rw [List.drop_eq_nil_of_le (by omega)]
      exact ⟨fun _ => List.not_mem_nil, fun _ => by decide⟩
  | succ t ih =>
    intro k N hk hN
    obtain ⟨N, rfl⟩ : ∃ n', N = n' + 1 := ⟨N - 1, by omega⟩
    have hlt : k < (tm_tx i).length := by omega
    have e : (tm_tx i).getD k 0 = (tm_tx i)[k] := by rw [List.getD_eq_getElem?_getD, List.getElem?_eq_getElem hlt]; rfl
    rw [List.drop_eq_getElem_cons hlt]
    have F1 : f_S1_indexOfChar_l7 (N + 1) i x1 x2 (Int32.ofNat (tm_tl i)) v (Int32.ofNat k) mI mL = if ¬ (tm_tx i)[k] = v then f_S1_indexOfChar_l7 N i x1 x2 (Int32.ofNat (tm_tl i)) v (Int32.ofNat (k + 1)) mI mL else some (Int32.ofNat k, mI, mL) := by
      rw [f_S1_indexOfChar_l7, if_neg (by simp (disch := omega) only [pu_n_lit, pu_n_add, pu_n_mul, pu_n_sub, pu_n_div, pu_n_nat, pu_q_ltT, pu_q_ltF, pu_q_leT, pu_q_leF, pu_q_eqT, pu_q_eqF, pu_n_lt, pu_n_le, pu_n_eq, pu_p_ltT, pu_p_ltF, pu_p_leT, pu_p_leF, not_true_eq_false, not_false_eq_true, or_false, false_or, or_true, true_or, and_true, true_and, and_false, false_and, ↓reduceIte, pu_b_some]), if_pos hi, if_pos (pu_n_in (by omega) (by omega)), pu_n_nat (by omega), e, pu_n_lit 1, pu_n_add]
    rw [F1]
    by_cases hv : (tm_tx i)[k] = v
    · refine ⟨Int32.ofNat k, if_neg (fun q => q hv), ?_⟩
      constructor
      · intro q; exact absurd q (pu_n_nn (by omega))
      · intro q; exact absurd (by rw [← hv]; exact List.mem_cons_self) q
    · obtain ⟨z, a1, a2⟩ := ih (k + 1) N (by omega) (by omega)
      refine ⟨z, (if_pos hv).trans a1, ?_⟩
      rw [a2, List.mem_cons]
      constructor
      · intro q q2; rcases q2 with q2 | q2
        · exact hv q2.symm
        · exact q q2
      · intro q q2; exact q (Or.inr q2)
theorem pu_la_among {i n : Nat} (hi : i < 3) (hn : n < 256) : f_La_isAmong i (Int32.ofNat n) mI mL = some (pu_bi (pu_idx (tm_tx i) (Int32.ofNat n)), mI, mL) := by
  have k1 : ∀ n : Fin 256, (Int32.toUInt32 (Int32.ofNat n.1) % 65536).toInt32 = Int32.ofNat n.1 := by decide +kernel
  have k2 : ∀ n : Fin 256, ∀ i : Fin 3, decide (((Int32.ofNat n.1).toInt8).toInt32 ∈ tm_tx i.1) = decide (Int32.ofNat n.1 ∈ tm_tx i.1) := by decide +kernel
  have k3 : ∀ i : Fin 3, (tm_tx i.1).length = tm_tl i.1 ∧ tm_tl i.1 < 1000 ∧ 0 < tm_tl i.1 := by decide
  have k4 : ∀ i : Fin 3, (Int32.ofNat (tm_tl i.1)) >>> ((0 : Int32) &&& 31) = Int32.ofNat (tm_tl i.1) := by decide
  have k1 := k1 ⟨n, hn⟩
  have k2 := k2 ⟨n, hn⟩ ⟨i, hi⟩
  have k3 := k3 ⟨i, hi⟩
  have k4 := k4 ⟨i, hi⟩
  simp only [] at k1 k2 k3 k4
  obtain ⟨l1, l2, l3⟩ := k3
  have hi7 : i < 7 := by omega
  obtain ⟨z, z1, z2⟩ := pu_s1_loop (mI := mI) (mL := mL) hi7 l1 l2 (Int32.ofNat n) (Int32.ofNat 0) ((Int32.ofNat n).toInt8).toInt32 (tm_tl i) 0 tm_F (by omega) (by unfold tm_F; omega)
  rw [List.drop_zero] at z2
  have c1 : f_S1_canEncode (Int32.ofNat n) mI mL = some (1, mI, mL) := by
    unfold f_S1_canEncode f_S1_canEncode_b0 f_S1_canEncode_b16
    rw [if_neg (pu_n_nn (by omega)), if_neg (by simp (disch := omega) only [pu_n_lit, pu_n_add, pu_n_mul, pu_n_sub, pu_n_div, pu_n_nat, pu_q_ltT, pu_q_ltF, pu_q_leT, pu_q_leF, pu_q_eqT, pu_q_eqF, pu_n_lt, pu_n_le, pu_n_eq, pu_p_ltT, pu_p_ltF, pu_p_leT, pu_p_leF, not_true_eq_false, not_false_eq_true, or_false, false_or, or_true, true_or, and_true, true_and, and_false, false_and, ↓reduceIte, pu_b_some])]; rfl
  have c2 : f_S1_indexOf i (Int32.ofNat n) 0 (Int32.ofNat (tm_tl i)) mI mL = some (z, mI, mL) := by
    unfold f_S1_indexOf f_S1_indexOf_b0
    rw [c1, pu_b_some]
    simp only []
    rw [if_pos (by decide)]
    unfold f_Ma_max f_Ma_max_b0 f_Ma_max_b10
    rw [if_neg (by decide), pu_b_some]
    simp only []
    rw [if_pos hi7]
    unfold f_Ma_min f_Ma_min_b0 f_Ma_min_b10
    rw [if_neg (fun q => Int32.lt_irrefl q), pu_b_some]
    simp only []
    rw [if_pos (by simp (disch := omega) only [pu_n_lit, pu_n_add, pu_n_mul, pu_n_sub, pu_n_div, pu_n_nat, pu_q_ltT, pu_q_ltF, pu_q_leT, pu_q_leF, pu_q_eqT, pu_q_eqF, pu_n_lt, pu_n_le, pu_n_eq, pu_p_ltT, pu_p_ltF, pu_p_leT, pu_p_leF, not_true_eq_false, not_false_eq_true, or_false, false_or, or_true, true_or, and_true, true_and, and_false, false_and, ↓reduceIte, pu_b_some])]
    unfold f_S1_indexOfChar f_S1_indexOfChar_b0
    have z1' : f_S1_indexOfChar_l7 tm_F i (Int32.ofNat n) 0 (Int32.ofNat (tm_tl i)) ((Int32.ofNat n).toInt8).toInt32 0 mI mL = some (z, mI, mL) := z1
    rw [z1', pu_b_some]
  have c3 : f_St_indexOf i (Int32.ofNat n) mI mL = some (z, mI, mL) := by
    unfold f_St_indexOf f_St_indexOf_b0 f_St_indexOf2 f_St_indexOf2_b0 f_St_indexOf2_b36 f_St_isLatin1 f_St_isLatin1_b0 f_St_isLatin1_b18 f_St_length f_St_length_b0 f_St_coder f_St_coder_b0 f_St_coder_b14
    simp only [if_pos hi7, show ((1 : Int32) = 0) = False by decide, if_false, not_true_eq_false, pu_b_some, or_true, true_or, if_true, k4]
    rw [c2, pu_b_some, pu_b_some]
  unfold f_La_isAmong f_La_isAmong_b0 f_La_isAmong_b14
  rw [if_pos hi7, k1, c3, pu_b_some]
  simp only []
  unfold pu_idx
  rw [← k2]
  by_cases hz : z < 0
  · rw [if_pos hz, decide_eq_false (z2.mp hz)]; rfl
  · have hm : ((Int32.ofNat n).toInt8).toInt32 ∈ tm_tx i := by
      by_cases q : ((Int32.ofNat n).toInt8).toInt32 ∈ tm_tx i
      · exact q
      · exact absurd (z2.mpr q) hz
    rw [if_neg hz, decide_eq_true hm]; rfl
end AMONG
def pu_needD (l : Int32) : Bool := pu_idx (tm_tx 2) l
def pu_picW (R : pu_Fd) : Nat := (((R.sh 0).toNatClampNeg + 7) / 8) * 2
def pu_fitF (R : pu_Fd) : Bool :=
  (if R.cnt then pu_isD (R.D.reverse[0]?.getD (-1)) else true) &&
  (if pu_needD R.lt then decide (R.D ≠ []) else true) &&
  (if R.lt = 78 then decide (R.D.length = 12) && R.D.all pu_isD else if R.lt = 80 then R.D.all (fun b => decide (pu_hx b ≠ -1)) && decide (R.D.length % pu_picW R = 0) else true)
theorem pu_spTail_all (R : List Int32) : ∀ (t k : Nat), pu_spTail R t k = t + k ↔ ∀ j, k ≤ j → j < t + k → pu_isD (R[j]?.getD (-1)) = true
  | 0, k => by simp [pu_spTail]; omega
  | t + 1, k => by
    rw [pu_spTail]
    split
    · next h =>
      have := pu_spTail_all R t (k + 1)
      constructor
      · intro q j h1 h2
        by_cases e : k = j
        · subst e; exact h
        · exact (this.mp (by omega)) j (by omega) (by omega)
      · intro q
        have := this.mpr (fun j h1 h2 => q j (by omega) (by omega))
        omega
    · next h =>
      constructor
      · intro q; omega
      · intro q; exact absurd (q k (by omega) (by omega)) h
section FIT
variable {m : tm_I} {mL : tm_L} {R : pu_Fd}
theorem pu_fi_pic1 (h : pu_TD m mL R.D) {w : Nat} (hw1 : 1 ≤ w) (hw2 : w ≤ 1024) (hw : R.sh 0 = Int32.ofNat w) (hs : m 31 0 = R.sh 0) : ∀ (t k N : Nat), t + k = R.D.length → t < N → f_Fi_isPicture_l11 N (Int32.ofNat R.D.length) (Int32.ofNat k) m mL = some (pu_bi ((R.D.drop k).all (fun b => decide (pu_hx b ≠ -1)) && decide (R.D.length % pu_picW R = 0)), m, mL) := by
  have hl := h.len
  have hp : pu_picW R = ((w + 7) / 8) * 2 := by unfold pu_picW; rw [hw, pu_n_nat (by omega)]
  intro t
  induction t with
  | zero =>
    intro k N hk hN
    obtain ⟨N, rfl⟩ : ∃ n', N = n' + 1 := ⟨N - 1, by omega⟩
    have g0 : f_Fo_get 30 0 m mL = some (Int32.ofNat w, m, mL) := by rw [← hw, ← hs]; exact pu_fg30 (i := 0) (by decide)
    rw [f_Fi_isPicture_l11, if_pos (by simp (disch := omega) only [pu_n_lit, pu_n_add, pu_n_mul, pu_n_sub, pu_n_div, pu_n_nat, pu_q_ltT, pu_q_ltF, pu_q_leT, pu_q_leF, pu_q_eqT, pu_q_eqF, pu_n_lt, pu_n_le, pu_n_eq, pu_p_ltT, pu_p_ltF, pu_p_leT, pu_p_leF, not_true_eq_false, not_false_eq_true, or_false, false_or, or_true, true_or, and_true, true_and, and_false, false_and, ↓reduceIte, pu_b_some]), g0, pu_b_some, List.drop_eq_nil_of_le (by omega)]
    simp only [List.all_nil, Bool.true_and]
    have e1 : (Int32.ofNat w + 7) / 8 = Int32.ofNat ((w + 7) / 8) := by rw [pu_n_lit 7, pu_n_add, pu_n_lit 8, pu_n_div (by omega) (by omega)]
    have q1 : 1 ≤ (w + 7) / 8 := by omega
    have q2 : (w + 7) / 8 ≤ 128 := by omega
    have e2 : f_Ma_max 1 (Int32.ofNat ((w + 7) / 8)) m mL = some (Int32.ofNat ((w + 7) / 8), m, mL) := by
      unfold f_Ma_max f_Ma_max_b0 f_Ma_max_b10
      by_cases hq : 1 < (w + 7) / 8
      · rw [if_pos (by simp (disch := omega) only [pu_n_lit, pu_n_add, pu_n_mul, pu_n_sub, pu_n_div, pu_n_nat, pu_q_ltT, pu_q_ltF, pu_q_leT, pu_q_leF, pu_q_eqT, pu_q_eqF, pu_n_lt, pu_n_le, pu_n_eq, pu_p_ltT, pu_p_ltF, pu_p_leT, pu_p_leF, not_true_eq_false, not_false_eq_true, or_false, false_or, or_true, true_or, and_true, true_and, and_false, false_and, ↓reduceIte, pu_b_some])]
      · rw [if_neg (by simp (disch := omega) only [pu_n_lit, pu_n_add, pu_n_mul, pu_n_sub, pu_n_div, pu_n_nat, pu_q_ltT, pu_q_ltF, pu_q_leT, pu_q_leF, pu_q_eqT, pu_q_eqF, pu_n_lt, pu_n_le, pu_n_eq, pu_p_ltT, pu_p_ltF, pu_p_leT, pu_p_leF, not_true_eq_false, not_false_eq_true, or_false, false_or, or_true, true_or, and_true, true_and, and_false, false_and, ↓reduceIte, pu_b_some]), show (w + 7) / 8 = 1 by omega]; rfl
    rw [e1, e2, pu_b_some, hp]
    simp only []
    generalize (w + 7) / 8 = q at q1 q2
    have e3 : Int32.ofNat q * 2 = Int32.ofNat (q * 2) := by rw [pu_n_lit 2, pu_n_mul]
    rw [e3, pu_n_div (by omega) (by omega), pu_n_mul, pu_n_sub (Nat.div_mul_le_self _ _)]
    rw [if_pos (by simp (disch := omega) only [pu_n_lit, pu_n_add, pu_n_mul, pu_n_sub, pu_n_div, pu_n_nat, pu_q_ltT, pu_q_ltF, pu_q_leT, pu_q_leF, pu_q_eqT, pu_q_eqF, pu_n_lt, pu_n_le, pu_n_eq, pu_p_ltT, pu_p_ltF, pu_p_leT, pu_p_leF, not_true_eq_false, not_false_eq_true, or_false, false_or, or_true, true_or, and_true, true_and, and_false, false_and, ↓reduceIte, pu_b_some])]
    unfold f_Fi_isPicture_b72
    have e4 : R.D.length - R.D.length / (q * 2) * (q * 2) = R.D.length % (q * 2) := by
      have := Nat.div_add_mod R.D.length (q * 2)
      rw [Nat.mul_comm] at this; omega
    have e5 : R.D.length % (q * 2) < 2147483648 := Nat.lt_of_le_of_lt (Nat.mod_le _ _) (by omega)
    rw [e4]
    by_cases hz : R.D.length % (q * 2) = 0
    · rw [if_neg (by rw [hz]; simp), decide_eq_true hz]; rfl
    · rw [if_pos (by rw [pu_n_zero, pu_n_eq e5 (by omega)]; exact hz), decide_eq_false hz]; rfl
  | succ t ih =>
    intro k N hk hN
    obtain ⟨N, rfl⟩ : ∃ n', N = n' + 1 := ⟨N - 1, by omega⟩
    have hlt : k < R.D.length := by omega
    rw [f_Fi_isPicture_l11, if_neg (by simp (disch := omega) only [pu_n_lit, pu_n_add, pu_n_mul, pu_n_sub, pu_n_div, pu_n_nat, pu_q_ltT, pu_q_ltF, pu_q_leT, pu_q_leF, pu_q_eqT, pu_q_eqF, pu_n_lt, pu_n_le, pu_n_eq, pu_p_ltT, pu_p_ltF, pu_p_leT, pu_p_leF, not_true_eq_false, not_false_eq_true, or_false, false_or, or_true, true_or, and_true, true_and, and_false, false_and, ↓reduceIte, pu_b_some]), pu_td_at h (by omega), pu_b_some]
    simp only []
    rw [pu_la_hex, pu_b_some, List.drop_eq_getElem_cons hlt, List.getElem?_eq_getElem hlt]
    simp only [Option.getD_some, List.all_cons]
    by_cases hq : pu_hx R.D[k] = -1
    · rw [if_neg (fun q => q hq), decide_eq_false (fun q => q hq)]; rfl
    · rw [if_pos hq, decide_eq_true hq, Bool.true_and, pu_n_lit 1, pu_n_add]
      exact ih (k + 1) N (by omega) (by omega)
theorem pu_fi_pic (h : pu_TD m mL R.D) {w : Nat} (hw1 : 1 ≤ w) (hw2 : w ≤ 1024) (hw : R.sh 0 = Int32.ofNat w) (hs : m 31 0 = R.sh 0) : f_Fi_isPicture m mL = some (pu_bi (R.D.all (fun b => decide (pu_hx b ≠ -1)) && decide (R.D.length % pu_picW R = 0)), m, mL) := by
  have hl := h.len
  have := pu_fi_pic1 h hw1 hw2 hw hs R.D.length 0 tm_F (by omega) (by unfold tm_F; omega)
  unfold f_Fi_isPicture f_Fi_isPicture_b0
  rw [pu_td_size h, pu_b_some]
  exact this
theorem pu_kindL_b {l : Int32} (h : pu_kindL l) : ∃ n, n < 256 ∧ l = Int32.ofNat n := by
  rcases h with h | h | h | h | h | h | h | h | h
  · exact ⟨84, by decide, h⟩
  · exact ⟨87, by decide, h⟩
  · exact ⟨66, by decide, h⟩
  · exact ⟨78, by decide, h⟩
  · exact ⟨81, by decide, h⟩
  · exact ⟨70, by decide, h⟩
  · exact ⟨73, by decide, h⟩
  · exact ⟨71, by decide, h⟩
  · exact ⟨80, by decide, h⟩
theorem pu_all12 {D : List Int32} (hl : D.length = 12) : pu_spTail D.reverse 12 0 = 12 ↔ D.all pu_isD = true := by
  have := pu_spTail_all D.reverse 12 0
  simp only [Nat.add_zero] at this
  rw [this, List.all_eq_true]
  constructor
  · intro q x pu_hx
    have hx2 : x ∈ D.reverse := List.mem_reverse.mpr pu_hx
    obtain ⟨j, hj, rfl⟩ := List.mem_iff_getElem.mp hx2
    have := q j (by omega) (by rw [List.length_reverse] at hj; omega)
    rw [List.getElem?_eq_getElem hj] at this
    exact this
  · intro q j _ hj
    have hj2 : j < D.reverse.length := by rw [List.length_reverse]; omega
    rw [List.getElem?_eq_getElem hj2]
    exact q _ (List.mem_reverse.mp (List.getElem_mem hj2))
theorem pu_fi_fit (h : pu_Fl m mL R) (w : pu_WFd R) : f_Fi_hasFitData m mL = some (pu_bi (pu_fitF R), m, mL) := by
  have hl := h.td.len
  obtain ⟨n, hn, hln⟩ := pu_kindL_b w.k
  have F2 : f_Fi_hasFitData_b53 (Int32.ofNat R.D.length) m mL = some (pu_bi (if R.lt = 78 then decide (R.D.length = 12) && R.D.all pu_isD else if R.lt = 80 then R.D.all (fun b => decide (pu_hx b ≠ -1)) && decide (R.D.length % pu_picW R = 0) else true), m, mL) := by
    unfold f_Fi_hasFitData_b53 f_Fi_hasFitData_b83 f_Fi_hasFitData_b84 f_Fi_hasFitData_b101 f_Fi_hasFitData_b106
    rw [h.lt]
    by_cases h78 : R.lt = 78
    · rw [if_neg (fun q => q h78), if_pos h78]
      by_cases h12 : R.D.length = 12
      · have e := pu_fi_digits h.td (most := 12) (by omega)
        have e' : f_Fi_digitsAtEnd 12 m mL = _ := e
        have e12 := pu_all12 h12
        rw [if_neg (by rw [h12]; simp), e', pu_b_some]
        simp only []
        have hle := pu_spTail_le R.D.reverse 12 0
        by_cases ht : pu_spTail R.D.reverse 12 0 = 12
        · rw [if_neg (by rw [ht]; simp), e12.mp ht, decide_eq_true h12]; rfl
        · rw [if_pos (by rw [pu_n_lit 12, pu_n_eq (by omega) (by omega)]; exact ht)]
          have : R.D.all pu_isD = false := by
            cases hq : R.D.all pu_isD
            · rfl
            · exact absurd (e12.mpr hq) ht
          rw [this, Bool.and_false]; rfl
      · rw [if_pos (by rw [pu_n_lit 12, pu_n_eq (by omega) (by omega)]; exact h12), decide_eq_false h12]; rfl
    · rw [if_pos h78, if_neg h78]
      by_cases h80 : R.lt = 80
      · obtain ⟨w0, w1, w2, w3⟩ := w.p h80
        rw [if_neg (fun q => q h80), if_pos h80, pu_fi_pic h.td w1 w2 w3 (h.sh 0 (by decide)), pu_b_some]
        cases (R.D.all (fun b => decide (pu_hx b ≠ -1)) && decide (R.D.length % pu_picW R = 0)) <;> simp [pu_bi]
      · rw [if_pos h80, if_neg h80]; rfl
  have F1 : f_Fi_hasFitData_b35 (Int32.ofNat R.D.length) m mL = some (pu_bi ((if pu_needD R.lt then decide (R.D ≠ []) else true) && (if R.lt = 78 then decide (R.D.length = 12) && R.D.all pu_isD else if R.lt = 80 then R.D.all (fun b => decide (pu_hx b ≠ -1)) && decide (R.D.length % pu_picW R = 0) else true)), m, mL) := by
    unfold f_Fi_hasFitData_b35 pu_needD
    rw [h.lt]
    have e : f_La_isAmong 2 R.lt m mL = some (pu_bi (pu_idx (tm_tx 2) R.lt), m, mL) := by rw [hln]; exact pu_la_among (by decide) hn
    rw [e, pu_b_some]
    simp only [F2]
    cases pu_idx (tm_tx 2) R.lt
    · simp [pu_bi]
    · by_cases h0 : R.D = []
      · simp [pu_bi, h0]
      · have : R.D.length ≠ 0 := by simpa using h0
        have q : ¬ Int32.ofNat R.D.length = 0 := by rw [pu_n_zero, pu_n_eq (by omega) (by omega)]; exact this
        simp [pu_bi, h0, q]
  unfold f_Fi_hasFitData f_Fi_hasFitData_b0 pu_fitF
  rw [pu_td_size h.td, pu_b_some]
  simp only []
  rw [h.cn, F1]
  cases R.cnt
  · rw [if_pos (by rfl)]; rfl
  · have e := pu_td_end h.td (k := 0) (by omega)
    have e' : f_Ro_at 27 0 (Int32.ofNat R.D.length - 1) m mL = some (R.D.reverse[0]?.getD (-1), m, mL) := by
      rw [show Int32.ofNat 0 = (0 : Int32) from rfl, Int32.sub_zero] at e; exact e
    rw [if_neg (by decide), e', pu_b_some]
    simp only []
    rw [pu_la_isDigit, pu_b_some]
    simp only [F1]
    cases pu_isD (R.D.reverse[0]?.getD (-1))
    · rfl
    · rfl
end FIT
section TEN
variable {m : tm_I} {mL : tm_L}
theorem pu_la_ten1 (x0 : Nat) (pu_hx : x0 ≤ 9) : ∀ (t k N : Nat), t + k = x0 → t < N → f_La_tenTo_l4 N (Int32.ofNat x0) (Int32.ofNat (10 ^ k)) (Int32.ofNat k) m mL = some (Int32.ofNat (10 ^ x0), m, mL) := by
  intro t
  induction t with
  | zero =>
    intro k N hk hN
    obtain ⟨N, rfl⟩ : ∃ n', N = n' + 1 := ⟨N - 1, by omega⟩
    have : k = x0 := by omega
    subst this
    rw [f_La_tenTo_l4, if_pos (by simp (disch := omega) only [pu_n_lit, pu_n_add, pu_n_mul, pu_n_sub, pu_n_div, pu_n_nat, pu_q_ltT, pu_q_ltF, pu_q_leT, pu_q_leF, pu_q_eqT, pu_q_eqF, pu_n_lt, pu_n_le, pu_n_eq, pu_p_ltT, pu_p_ltF, pu_p_leT, pu_p_leF, not_true_eq_false, not_false_eq_true, or_false, false_or, or_true, true_or, and_true, true_and, and_false, false_and, ↓reduceIte, pu_b_some])]; rfl
  | succ t ih =>
    intro k N hk hN
    obtain ⟨N, rfl⟩ : ∃ n', N = n' + 1 := ⟨N - 1, by omega⟩
    rw [f_La_tenTo_l4, if_neg (by simp (disch := omega) only [pu_n_lit, pu_n_add, pu_n_mul, pu_n_sub, pu_n_div, pu_n_nat, pu_q_ltT, pu_q_ltF, pu_q_leT, pu_q_leF, pu_q_eqT, pu_q_eqF, pu_n_lt, pu_n_le, pu_n_eq, pu_p_ltT, pu_p_ltF, pu_p_leT, pu_p_leF, not_true_eq_false, not_false_eq_true, or_false, false_or, or_true, true_or, and_true, true_and, and_false, false_and, ↓reduceIte, pu_b_some]), if_neg (by simp (disch := omega) only [pu_n_lit, pu_n_add, pu_n_mul, pu_n_sub, pu_n_div, pu_n_nat, pu_q_ltT, pu_q_ltF, pu_q_leT, pu_q_leF, pu_q_eqT, pu_q_eqF, pu_n_lt, pu_n_le, pu_n_eq, pu_p_ltT, pu_p_ltF, pu_p_leT, pu_p_leF, not_true_eq_false, not_false_eq_true, or_false, false_or, or_true, true_or, and_true, true_and, and_false, false_and, ↓reduceIte, pu_b_some]), pu_n_lit 10, pu_n_mul, pu_n_lit 1, pu_n_add, ← Nat.pow_succ]
    exact ih (k + 1) N (by omega) (by omega)
theorem pu_la_ten {x0 : Nat} (pu_hx : x0 ≤ 9) : f_La_tenTo (Int32.ofNat x0) m mL = some (Int32.ofNat (10 ^ x0), m, mL) := by
  have := pu_la_ten1 (m := m) (mL := mL) x0 pu_hx x0 0 tm_F (by omega) (by unfold tm_F; omega)
  exact this
theorem pu_pow_le9 {t : Nat} (h : t ≤ 9) : 10 ^ t ≤ 1000000000 := Nat.pow_le_pow_right (n := 10) (by omega) h
theorem pu_xor_sgn {x y : Int32} (hy : 0 ≤ y) : 0 ≤ x ^^^ y ↔ 0 ≤ x := by
  have e : ∀ z : Int32, 0 ≤ z ↔ z.toBitVec.msb = false := by
    intro z
    rw [Int32.le_iff_toInt_le, show (0 : Int32).toInt = 0 from rfl, ← Int32.toInt_toBitVec]
    rw [BitVec.msb_eq_toInt]
    simp
  rw [e, e, Int32.toBitVec_xor, BitVec.msb_xor, (e y).mp hy, Bool.xor_false]
theorem pu_ma_fmod {x : Int32} {q : Nat} (hq : 1 ≤ q) (hq2 : q ≤ 1000000000) : f_Ma_floorMod x (Int32.ofNat q) m mL = some (Int32.ofNat (x.toInt % q).toNat, m, mL) := by
  have hq3 : (Int32.ofNat q).toInt = q := pu_n_toInt (by omega)
  have hlo := Int32.le_toInt x
  have hhi := Int32.toInt_lt x
  have hmod : (x - x / Int32.ofNat q * Int32.ofNat q).toInt = x.toInt.tmod q := by
    have pu_hd : (x / Int32.ofNat q).toInt = x.toInt.tdiv q := by
      rw [Int32.toInt_div, hq3]
      have h1 : x.toInt.tdiv q ≤ x.toInt.natAbs := by
        have := Int.natAbs_tdiv_le_natAbs x.toInt q
        omega
      have h2 : -(x.toInt.natAbs : Int) ≤ x.toInt.tdiv q := by
        have := Int.natAbs_tdiv_le_natAbs x.toInt q
        omega
      by_cases pu_hx : x.toInt = -2147483648
      · by_cases h1q : q = 1
        · subst h1q; rw [pu_hx]; decide
        · have : (x.toInt.tdiv q).natAbs < 2147483648 := by
            rw [Int.natAbs_tdiv, pu_hx]
            have : (2147483648 : Nat) / q < 2147483648 := Nat.div_lt_self (by omega) (by omega)
            exact this
          exact Int.bmod_eq_of_le (by omega) (by omega)
      · exact Int.bmod_eq_of_le (by omega) (by omega)
    have key := Int.tmod_add_mul_tdiv x.toInt q
    have hb : (x.toInt.tmod q).natAbs < q := by
      rw [Int.natAbs_tmod]; simp; exact Nat.mod_lt _ (by omega)
    rw [Int32.toInt_sub, Int32.toInt_mul, pu_hd, hq3]
    have e1 : x.toInt.tdiv q * q = x.toInt - x.toInt.tmod q := by
      rw [Int.mul_comm]; omega
    rw [e1, Int.sub_bmod_bmod]
    rw [show x.toInt - (x.toInt - x.toInt.tmod q) = x.toInt.tmod q by omega]
    exact Int.bmod_eq_of_le (by omega) (by omega)
  have hb : (x.toInt.tmod q).natAbs < q := by
    rw [Int.natAbs_tmod]; simp; exact Nat.mod_lt _ (by omega)
  have hem := Int.emod_nonneg x.toInt (b := q) (by omega)
  have hem2 := Int.emod_lt_of_pos x.toInt (b := q) (by omega)
  have fin : ∀ z : Int32, z.toInt = x.toInt % q → z = Int32.ofNat (x.toInt % q).toNat := by
    intro z hz
    rw [← Int32.toInt_inj, hz, pu_n_toInt (by omega)]; omega
  unfold f_Ma_floorMod f_Ma_floorMod_b0 f_Ma_floorMod_b18
  rw [if_pos (by rw [pu_n_zero, pu_n_eq (by omega) (by omega)]; omega)]
  by_cases pu_hx : 0 ≤ x
  · rw [if_pos ((pu_xor_sgn (by rw [pu_n_zero, pu_n_le (by omega) (by omega)]; omega)).mpr pu_hx)]
    rw [Int32.le_iff_toInt_le, show (0 : Int32).toInt = 0 from rfl] at pu_hx
    rw [fin (x - x / Int32.ofNat q * Int32.ofNat q) (by rw [hmod, Int.tmod_eq_emod_of_nonneg pu_hx])]
  · rw [if_neg (fun w => pu_hx ((pu_xor_sgn (by rw [pu_n_zero, pu_n_le (by omega) (by omega)]; omega)).mp w))]
    have hx' : x.toInt < 0 := by
      rw [Int32.le_iff_toInt_le, show (0 : Int32).toInt = 0 from rfl] at pu_hx; omega
    have ht := @Int.tmod_eq_emod x.toInt q
    by_cases hz : x - x / Int32.ofNat q * Int32.ofNat q = 0
    · rw [if_pos hz, fin (x - x / Int32.ofNat q * Int32.ofNat q)]
      rw [hmod]
      have h0 : x.toInt.tmod q = 0 := by rw [← hmod, hz]; rfl
      rw [h0]
      have : (q : Int) ∣ x.toInt := Int.dvd_of_tmod_eq_zero h0
      exact (Int.emod_eq_zero_of_dvd this).symm
    · rw [if_neg hz, fin (x - x / Int32.ofNat q * Int32.ofNat q + Int32.ofNat q)]
      rw [Int32.toInt_add, hmod, hq3]
      have h0 : x.toInt.tmod q ≠ 0 := by
        intro w; apply hz; rw [← Int32.toInt_inj, hmod, w]; rfl
      have hnd : ¬ (q : Int) ∣ x.toInt := fun w => h0 (Int.tmod_eq_zero_of_dvd w)
      rw [if_neg (by rintro (w | w); omega; exact hnd w)] at ht
      rw [ht]
      rw [show x.toInt % (q : Int) - ((q : Int).natAbs : Int) + q = x.toInt % q by omega]
      exact Int.bmod_eq_of_le (by omega) (by omega)
end TEN
