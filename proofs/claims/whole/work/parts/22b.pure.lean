def pu_rgi (l : Int32) : Nat := if l = 35 then 6 else if l = 66 then 8 else if l = 67 then 4 else if l = 68 then 5 else if l = 70 then 11 else if l = 71 then 12 else if l = 72 then 3 else if l = 73 then 11 else if l = 75 then 1 else if l = 76 then 2 else if l = 78 then 9 else if l = 79 then 3 else if l = 80 then 13 else if l = 81 then 10 else if l = 83 then 0 else if l = 84 then 5 else if l = 85 then 0 else if l = 86 then 1 else if l = 87 then 7 else 14
theorem pu_ite_some {α : Type} {c : Prop} [Decidable c] {a b : α} : (if c then some a else some b) = some (if c then a else b) := by split <;> rfl
theorem pu_ite_pair {α β : Type} {c : Prop} [Decidable c] {a b : α} {x : β} : (if c then (a, x) else (b, x)) = (if c then a else b, x) := by split <;> rfl
theorem pu_nu_rangesOf (l : Int32) (mI : tm_I) (mL : tm_L) : f_Nu_rangesOf l mI mL = some (pu_rgi l, mI, mL) := by
  unfold f_Nu_rangesOf f_Nu_rangesOf_b0 f_Nu_rangesOf_b228 f_Nu_rangesOf_b232 f_Nu_rangesOf_b240 f_Nu_rangesOf_b248 f_Nu_rangesOf_b272 f_Nu_rangesOf_b284 pu_rgi
  simp only [pu_ite_some, pu_ite_pair]
theorem pu_ite_lt {c : Prop} [Decidable c] {a b n : Nat} (ha : a < n) (hb : b < n) : (if c then a else b) < n := by split <;> assumption
theorem pu_rgi_lt (l : Int32) : pu_rgi l < 15 := by
  unfold pu_rgi
  repeat (refine pu_ite_lt (by decide) ?_)
  decide
theorem pu_sv_len {j : Nat} (hj : j < 15) : (tm_sv j).length ≤ 12 := by
  have : ∀ j : Fin 15, (tm_sv j.1).length ≤ 12 := by decide
  exact this ⟨j, hj⟩
theorem pu_sv_mod {j : Nat} (hj : j < 15) : (tm_sv j).length = 3 * ((tm_sv j).length / 3) := by
  have : ∀ j : Fin 15, (tm_sv j.1).length = 3 * ((tm_sv j.1).length / 3) := by decide
  exact this ⟨j, hj⟩
def pu_pre (j k : Nat) : Int32 := if 3 * k + 2 < (tm_sv j).length then (tm_sv j).getD (3 * k + 2) 0 else 0
def pu_fu4 (vs : Nat → Int32) (a b c d : Int32) : Nat → Int32 := pu_fu (pu_fu (pu_fu (pu_fu vs 0 a) 1 b) 2 c) 3 d
section TAKE
variable {m : tm_I} {mL : tm_L} {S : List Int32}
theorem pu_nu_leave1 {j k n : Nat} (hj : j < 15) (hk : k < 4) (p : Nat) (vs : Nat → Int32) : f_Nu_leaveOut_l2 (n + 1) j (Int32.ofNat k) (pu_Nm m p vs) mL = f_Nu_leaveOut_l2 n j (Int32.ofNat (k + 1)) (pu_Nm m p (pu_fu vs k (pu_pre j k))) mL := by
  have hl := pu_sv_len hj
  rw [f_Nu_leaveOut_l2]
  unfold f_Nu_leaveOut_b33 pu_pre
  by_cases h : 3 * k + 2 < (tm_sv j).length
  · simp (disch := omega) only [pu_n_lit, pu_n_add, pu_n_mul, pu_n_sub, pu_n_div, pu_n_nat, pu_q_ltT, pu_q_ltF, pu_q_leT, pu_q_leF, pu_q_eqT, pu_q_eqF, pu_n_lt, pu_n_le, pu_n_eq, pu_p_ltT, pu_p_ltF, pu_p_leT, pu_p_leF, not_true_eq_false, not_false_eq_true, or_false, false_or, or_true, true_or, and_true, true_and, and_false, false_and, ↓reduceIte, pu_b_some, hj]
    rw [pu_fo_set (c := 18) rfl rfl hk, pu_b_some, pu_Nm_up18]
  · simp (disch := omega) only [pu_n_lit, pu_n_add, pu_n_mul, pu_n_sub, pu_n_div, pu_n_nat, pu_q_ltT, pu_q_ltF, pu_q_leT, pu_q_leF, pu_q_eqT, pu_q_eqF, pu_n_lt, pu_n_le, pu_n_eq, pu_p_ltT, pu_p_ltF, pu_p_leT, pu_p_leF, not_true_eq_false, not_false_eq_true, or_false, false_or, or_true, true_or, and_true, true_and, and_false, false_and, ↓reduceIte, pu_b_some, hj]
    rw [pu_fo_set (c := 18) rfl rfl hk, pu_b_some, pu_Nm_up18]
theorem pu_nu_leave {j : Nat} (hj : j < 15) (p : Nat) (vs : Nat → Int32) : f_Nu_leaveOut j (pu_Nm m p vs) mL = some (0, pu_Nm m p (pu_fu4 vs (pu_pre j 0) (pu_pre j 1) (pu_pre j 2) (pu_pre j 3)), mL) := by
  unfold f_Nu_leaveOut f_Nu_leaveOut_b0
  rw [show tm_F = 99995 + 1 + 1 + 1 + 1 + 1 from rfl, pu_n_zero, pu_nu_leave1 hj (by decide), pu_nu_leave1 hj (by decide), pu_nu_leave1 hj (by decide), pu_nu_leave1 hj (by decide), f_Nu_leaveOut_l2, if_pos (by decide)]
  rfl
theorem pu_fo_setAll {o c : Nat} (h : rr o 0 = c) (hc : tm_len c = 4) {v0 v1 v2 v3 : Int32} {mI : tm_I} {mL : tm_L} : f_Fo_setAll o v0 v1 v2 v3 mI mL = some (0, tm_up (tm_up (tm_up (tm_up mI c 0 v0) c 1 v1) c 2 v2) c 3 v3, mL) := by
  unfold f_Fo_setAll f_Fo_setAll_b0
  rw [pu_n_zero, pu_fo_set h hc (by decide), pu_b_some, pu_n_lit 1, pu_fo_set h hc (by decide), pu_b_some, pu_n_lit 2, pu_fo_set h hc (by decide), pu_b_some, pu_n_lit 3, pu_fo_set h hc (by decide), pu_b_some]
theorem pu_fo_copy_17_32 (p : Nat) (vs : Nat → Int32) : f_Fo_copy_17_32 (pu_Nm m p vs) mL = some (0, pu_Nm m p (pu_fu4 vs (m 33 0) (m 33 1) (m 33 2) (m 33 3)), mL) := by
  unfold f_Fo_copy_17_32 f_Fo_copy_17_32_b0
  rw [pu_n_zero, pu_fo_get (c := 33) rfl rfl (by decide), pu_b_some, pu_n_lit 1, pu_fo_get (c := 33) rfl rfl (by decide), pu_b_some, pu_n_lit 2, pu_fo_get (c := 33) rfl rfl (by decide), pu_b_some, pu_n_lit 3, pu_fo_get (c := 33) rfl rfl (by decide), pu_b_some, pu_fo_setAll (c := 18) rfl rfl, pu_b_some]
  simp only [pu_Nm_up18, pu_Nm_o (show 33 ≠ 1 by decide) (show 33 ≠ 18 by decide)]
  rfl
def pu_inRng (j : Nat) (vs : Nat → Int32) (k t : Nat) : Bool := match t with
  | 0 => true
  | t + 1 => decide ((tm_sv j).getD (3 * k) 0 ≤ vs k) && decide (vs k ≤ (tm_sv j).getD (3 * k + 1) 0) && pu_inRng j vs (k + 1) t
theorem pu_nu_range {j : Nat} (hj : j < 15) (p : Nat) (vs : Nat → Int32) : ∀ (t k n : Nat), t < n → k + t = (tm_sv j).length / 3 → f_Nu_areInRange_l2 n j (Int32.ofNat k) (pu_Nm m p vs) mL = some (if pu_inRng j vs k t = true then 1 else 0, pu_Nm m p vs, mL) := by
  have hl := pu_sv_len hj
  have hl2 := pu_sv_mod hj
  intro t
  induction t with
  | zero =>
    intro k n hn hk
    obtain ⟨n, rfl⟩ : ∃ n', n = n' + 1 := ⟨n - 1, by omega⟩
    rw [f_Nu_areInRange_l2, pu_inRng]
    simp (disch := omega) only [pu_n_lit, pu_n_add, pu_n_mul, pu_n_sub, pu_n_div, pu_n_nat, pu_q_ltT, pu_q_ltF, pu_q_leT, pu_q_leF, pu_q_eqT, pu_q_eqF, pu_n_lt, pu_n_le, pu_n_eq, pu_p_ltT, pu_p_ltF, pu_p_leT, pu_p_leF, not_true_eq_false, not_false_eq_true, or_false, false_or, or_true, true_or, and_true, true_and, and_false, false_and, ↓reduceIte, pu_b_some, hj]
  | succ t ih =>
    intro k n hn hk
    obtain ⟨n, rfl⟩ : ∃ n', n = n' + 1 := ⟨n - 1, by omega⟩
    rw [f_Nu_areInRange_l2, pu_inRng]
    unfold f_Nu_areInRange_b46
    rw [if_pos hj, if_neg (by simp (disch := omega) only [pu_n_lit, pu_n_add, pu_n_mul, pu_n_sub, pu_n_div, pu_n_nat, pu_q_ltT, pu_q_ltF, pu_q_leT, pu_q_leF, pu_q_eqT, pu_q_eqF, pu_n_lt, pu_n_le, pu_n_eq, pu_p_ltT, pu_p_ltF, pu_p_leT, pu_p_leF, not_true_eq_false, not_false_eq_true, or_false, false_or, or_true, true_or, and_true, true_and, and_false, false_and, ↓reduceIte, pu_b_some]), pu_fo_get (c := 18) rfl rfl (by omega), pu_b_some, pu_Nm_18]
    simp only []
    rw [if_pos hj, if_pos (by simp (disch := omega) only [pu_n_lit, pu_n_add, pu_n_mul, pu_n_sub, pu_n_div, pu_n_nat, pu_q_ltT, pu_q_ltF, pu_q_leT, pu_q_leF, pu_q_eqT, pu_q_eqF, pu_n_lt, pu_n_le, pu_n_eq, pu_p_ltT, pu_p_ltF, pu_p_leT, pu_p_leF, not_true_eq_false, not_false_eq_true, or_false, false_or, or_true, true_or, and_true, true_and, and_false, false_and, ↓reduceIte, pu_b_some]), pu_n_lit 3, pu_n_mul, pu_n_nat (by omega)]
    by_cases h1 : vs k < (tm_sv j).getD (3 * k) 0
    · have h1' : ¬ (tm_sv j).getD (3 * k) 0 ≤ vs k := by rw [Int32.not_le]; exact h1
      rw [if_pos h1, decide_eq_false h1']; rfl
    · have h1' : (tm_sv j).getD (3 * k) 0 ≤ vs k := by rw [Int32.not_lt] at h1; exact h1
      rw [if_neg h1, decide_eq_true h1', Bool.true_and, pu_fo_get (c := 18) rfl rfl (by omega), pu_b_some, pu_Nm_18]
      simp only []
      rw [if_pos hj, if_pos (by simp (disch := omega) only [pu_n_lit, pu_n_add, pu_n_mul, pu_n_sub, pu_n_div, pu_n_nat, pu_q_ltT, pu_q_ltF, pu_q_leT, pu_q_leF, pu_q_eqT, pu_q_eqF, pu_n_lt, pu_n_le, pu_n_eq, pu_p_ltT, pu_p_ltF, pu_p_leT, pu_p_leF, not_true_eq_false, not_false_eq_true, or_false, false_or, or_true, true_or, and_true, true_and, and_false, false_and, ↓reduceIte, pu_b_some]), pu_n_lit 1, pu_n_add, pu_n_nat (by omega), pu_n_add]
      by_cases h2 : vs k ≤ (tm_sv j).getD (3 * k + 1) 0
      · rw [if_pos h2, decide_eq_true h2, Bool.true_and, ih (k + 1) n (by omega) (by omega)]; rfl
      · rw [if_neg h2, decide_eq_false h2]; rfl
def pu_spTake (j : Nat) (l : Int32) (vs : Nat → Int32) (cs : List Int32) : Int32 ⊕ ((Nat → Int32) × List Int32) :=
  match pu_spNums ((tm_sv j).length / 3) 0 vs cs with
  | none => .inl 4
  | some (vs', r) => if ¬ (pu_hd r = 44 ↔ l = 75) then .inl 4 else if pu_inRng j vs' 0 ((tm_sv j).length / 3) = true then .inr (vs', if l = 75 then r.tail else r) else .inl 5
def pu_pres (m : tm_I) (l : Int32) (vs : Nat → Int32) : Nat → Int32 := if l = 84 then pu_fu4 vs (m 33 0) (m 33 1) (m 33 2) (m 33 3) else pu_fu4 vs (pu_pre (pu_rgi l) 0) (pu_pre (pu_rgi l) 1) (pu_pre (pu_rgi l) 2) (pu_pre (pu_rgi l) 3)
theorem pu_fu44 (vs : Nat → Int32) (a b c d a' b' c' d' : Int32) : pu_fu4 (pu_fu4 vs a b c d) a' b' c' d' = pu_fu4 vs a' b' c' d' := by
  funext k; unfold pu_fu4 pu_fu; repeat' split
  all_goals rfl
theorem pu_nu_take0 {l : Int32} (hj : pu_rgi l = 14) (p : Nat) (vs : Nat → Int32) : f_Nu_take l (pu_Nm m p vs) mL = some (0, pu_Nm m p vs, mL) := by
  unfold f_Nu_take f_Nu_take_b0
  rw [pu_nu_rangesOf, pu_b_some, hj]
  rfl
theorem pu_nu_take (h : pu_Src m mL S) {l : Int32} (hj : pu_rgi l ≠ 14) {p : Nat} (hp : p ≤ S.length) (vs : Nat → Int32) :
    (∃ c p' vs', pu_spTake (pu_rgi l) l (pu_pres m l vs) (S.drop p) = .inl c ∧ (c = 4 ∨ c = 5) ∧ f_Nu_take l (pu_Nm m p vs) mL = some (c, pu_Nm m p' vs', mL)) ∨
    (∃ vs' p', pu_spTake (pu_rgi l) l (pu_pres m l vs) (S.drop p) = .inr (vs', S.drop p') ∧ p ≤ p' ∧ p' ≤ S.length ∧ f_Nu_take l (pu_Nm m p vs) mL = some (0, pu_Nm m p' vs', mL)) := by
  have hS := h.le
  have hj15 := pu_rgi_lt l
  have hl := pu_sv_len hj15
  have hl2 := pu_sv_mod hj15
  have hl3 : 0 < (tm_sv (pu_rgi l)).length := by
    have : ∀ j : Fin 15, j.1 ≠ 14 → 0 < (tm_sv j.1).length := by decide
    exact this ⟨_, hj15⟩ hj
  have F : f_Nu_take l (pu_Nm m p vs) mL = f_Nu_take_b34 l (pu_rgi l) (pu_Nm m p (pu_pres m l vs)) mL := by
    unfold f_Nu_take f_Nu_take_b0 pu_pres
    rw [pu_nu_rangesOf, pu_b_some]
    simp only []
    rw [if_pos hj15, if_pos (by simp (disch := omega) only [pu_n_lit, pu_n_add, pu_n_mul, pu_n_sub, pu_n_div, pu_n_nat, pu_q_ltT, pu_q_ltF, pu_q_leT, pu_q_leF, pu_q_eqT, pu_q_eqF, pu_n_lt, pu_n_le, pu_n_eq, pu_p_ltT, pu_p_ltF, pu_p_leT, pu_p_leF, not_true_eq_false, not_false_eq_true, or_false, false_or, or_true, true_or, and_true, true_and, and_false, false_and, ↓reduceIte, pu_b_some]), pu_nu_leave hj15, pu_b_some]
    by_cases hT : l = 84
    · simp only []
      rw [if_neg (by simp [hT]), if_pos hT, pu_fo_copy_17_32, pu_b_some, pu_fu44]
    · simp only []
      rw [if_pos hT, if_neg hT]
  rw [F]
  generalize pu_pres m l vs = vs0
  generalize pu_rgi l = j at *
  have A := pu_nu_all h ((tm_sv j).length / 3) tm_F 0 p vs0 (by omega) (by unfold tm_F; omega) hp
  rw [Nat.add_zero] at A
  rcases A with ⟨a1, p', vs', a2⟩ | ⟨vs', p', a1, a2, a3, a4⟩
  · left
    refine ⟨4, p', vs', ?_, Or.inl rfl, ?_⟩
    · unfold pu_spTake; rw [a1]
    · unfold f_Nu_take_b34 f_Nu_takeAll f_Nu_takeAll_b0
      rw [if_pos hj15, pu_n_lit 3, pu_n_div (by omega) (by omega), pu_n_zero, a2]
      rfl
  · have G : f_Nu_take_b34 l j (pu_Nm m p vs0) mL = if ¬ (pu_hd (S.drop p') = 44 ↔ l = 75) then some (4, pu_Nm m p' vs', mL) else f_Nu_take_b94 l j (if l = 75 then 1 else 0) (pu_Nm m (if l = 75 then p' + 1 else p') vs') mL := by
      unfold f_Nu_take_b34 f_Nu_takeAll f_Nu_takeAll_b0
      rw [if_pos hj15, pu_n_lit 3, pu_n_div (by omega) (by omega), pu_n_zero, a4, pu_b_some]
      simp only []
      rw [if_pos (by decide), show Int32.ofNat 0 = (0 : Int32) from rfl, pu_sc_hd (pu_Nm_src h p' vs') (pu_Nm_at m p' vs') (by omega), pu_b_some]
      simp only []
      unfold f_Nu_take_b64 f_Nu_take_b79
      by_cases h1 : pu_hd (S.drop p') = 44 <;> by_cases h2 : l = 75
      · simp only [h1, h2, not_true_eq_false, if_true, if_false]
        rw [if_neg (by decide), pu_n_lit 1, pu_sc_skip (pu_Nm_at m p' vs'), pu_b_some, pu_Nm_up1]
      · simp [h1, h2]
      · simp [h1, h2]
      · simp [h1, h2]
    rw [G]
    by_cases h1 : (pu_hd (S.drop p') = 44 ↔ l = 75)
    · have G2 : f_Nu_take_b94 l j (if l = 75 then 1 else 0) (pu_Nm m (if l = 75 then p' + 1 else p') vs') mL = some (if pu_inRng j vs' 0 ((tm_sv j).length / 3) = true then 0 else 5, pu_Nm m (if l = 75 then p' + 1 else p') vs', mL) := by
        unfold f_Nu_take_b94 f_Nu_take_b108 f_Nu_areInRange f_Nu_areInRange_b0
        rw [pu_n_zero, pu_nu_range hj15 _ vs' ((tm_sv j).length / 3) 0 tm_F (by unfold tm_F; omega) (by omega), pu_b_some]
        by_cases h2 : pu_inRng j vs' 0 ((tm_sv j).length / 3) = true
        · simp [h2, pu_n_zero.symm]
        · simp [h2, pu_n_zero.symm]
      rw [if_neg (fun q => q h1), G2]
      unfold pu_spTake
      rw [a1]
      simp only []
      rw [if_neg (fun q => q h1)]
      by_cases h2 : pu_inRng j vs' 0 ((tm_sv j).length / 3) = true
      · right
        refine ⟨vs', if l = 75 then p' + 1 else p', ?_, ?_, ?_, ?_⟩
        · rw [if_pos h2]
          split
          · rw [pu_tl_drop]
          · rfl
        · split <;> omega
        · split
          · next e =>
            have h3 := pu_hd_pos (cs := S.drop p') (by rw [h1.mpr e]; decide)
            rw [List.length_drop] at h3; omega
          · exact a3
        · rw [if_pos h2]
      · left
        rw [if_neg h2, if_neg h2]
        exact ⟨5, _, vs', rfl, Or.inr rfl, rfl⟩
    · rw [if_pos h1]
      refine Or.inl ⟨4, p', vs', ?_, Or.inl rfl, rfl⟩
      unfold pu_spTake
      rw [a1]
      simp only []
      rw [if_pos h1]
end TAKE
def pu_hx (x : Int32) : Int32 := if pu_isD x = true then x - 48 else if ¬ x < 65 ∧ ¬ 70 < x then x - 55 else if ¬ x < 97 ∧ ¬ 102 < x then x - 87 else -1
theorem pu_i_nlt {a b : Int32} (h : ¬ a < b) : b ≤ a := by rw [Int32.not_lt] at h; exact h
theorem pu_i_nle {a b : Int32} (h : a < b) : ¬ b ≤ a := by rw [Int32.not_le]; exact h
theorem pu_la_hex (x : Int32) (mI : tm_I) (mL : tm_L) : f_La_hexValue x mI mL = some (pu_hx x, mI, mL) := by
  unfold f_La_hexValue f_La_hexValue_b0 f_La_hexValue_b32 f_La_hexValue_b54 f_La_hexValue_b55 pu_hx
  rw [pu_la_isDigit, pu_b_some]
  by_cases h0 : pu_isD x = true
  · simp [h0]
  · rw [if_neg h0, if_neg h0]
    simp only []
    rw [if_pos trivial]
    have e1 : x - 65 + 10 = x - 55 := by
      rw [Int32.sub_eq_add_neg, Int32.add_assoc, Int32.sub_eq_add_neg]; rfl
    have e2 : x - 97 + 10 = x - 87 := by
      rw [Int32.sub_eq_add_neg, Int32.add_assoc, Int32.sub_eq_add_neg]; rfl
    rw [e1, e2]
    by_cases h1 : x < 65 <;> by_cases h2 : 70 < x <;> by_cases h3 : x < 97 <;> by_cases h4 : 102 < x <;> simp only [h1, h2, h3, h4, if_true, if_false, not_true_eq_false, not_false_eq_true, and_true, and_false, true_and, false_and, and_self]
theorem pu_hx_m1 : pu_hx (-1) = -1 := by decide
theorem pu_hx_b {n : Nat} (hn : n < 256) : pu_hx (Int32.ofNat n) = -1 ∨ ∃ k, k < 16 ∧ pu_hx (Int32.ofNat n) = Int32.ofNat k := by
  have : ∀ n : Fin 256, pu_hx (Int32.ofNat n.1) = -1 ∨ ∃ k : Fin 16, pu_hx (Int32.ofNat n.1) = Int32.ofNat k.1 := by decide +kernel
  rcases this ⟨n, hn⟩ with h | ⟨k, h⟩
  · exact Or.inl h
  · exact Or.inr ⟨k.1, k.2, h⟩
theorem pu_Src.lt {m : tm_I} {mL : tm_L} {S : List Int32} (h : pu_Src m mL S) : ∀ b ∈ S, ∃ n, n < 256 ∧ b = Int32.ofNat n := by
  rcases h with ⟨_, _, h, _⟩ | ⟨_, _, _, _, _, _, _, _, h, _⟩ <;> exact h.lt
theorem pu_Src.mL {m : tm_I} {mL mL' : tm_L} {S : List Int32} (h : pu_Src m mL S) (h4 : mL' 4 = mL 4) (h7 : mL' 7 = mL 7) : pu_Src m mL' S := by
  unfold pu_Src; rw [h4, h7]; exact h
theorem pu_by_or {S : List Int32} (h : ∀ b ∈ S, ∃ n, n < 256 ∧ b = Int32.ofNat n) (i : Nat) : S[i]?.getD (-1) = -1 ∨ ∃ n, n < 256 ∧ S[i]?.getD (-1) = Int32.ofNat n := by
  by_cases hi : i < S.length
  · right
    obtain ⟨n, h1, h2⟩ := h _ (List.getElem_mem hi)
    exact ⟨n, h1, by rw [List.getElem?_eq_getElem hi]; exact h2⟩
  · left; rw [List.getElem?_eq_none (by omega)]; rfl
def pu_esc (cs : List Int32) : Int32 := if pu_hx (cs[1]?.getD (-1)) = -1 ∨ pu_hx (cs[2]?.getD (-1)) = -1 then -1 else pu_hx (cs[1]?.getD (-1)) * 16 + pu_hx (cs[2]?.getD (-1))
theorem pu_hd0 (cs : List Int32) : pu_hd cs = cs[0]?.getD (-1) := by cases cs <;> rfl
def pu_spData : Nat → List Int32 → List Int32 → Option (List Int32 × List Int32)
  | 0, _, _ => none
  | t + 1, acc, cs =>
    if pu_hd cs = -1 ∨ pu_hd cs = 94 then some (acc, cs)
    else if (if pu_hd cs = 95 then pu_esc cs else pu_hd cs) = -1 ∨ 200 ≤ acc.length then none
    else pu_spData t (acc ++ [if pu_hd cs = 95 then pu_esc cs else pu_hd cs]) (cs.drop (if pu_hd cs = 95 then 3 else 1))
def pu_Dm (m : tm_I) (p : Nat) (z : Int32) : tm_I := fun a b => if a = 1 ∧ b = 6 then Int32.ofNat p else if a = 14 ∧ b = 0 then z else m a b
theorem pu_Dm_at (m : tm_I) (p : Nat) (z : Int32) : pu_Dm m p z 1 6 = Int32.ofNat p := rfl
theorem pu_Dm_14 (m : tm_I) (p : Nat) (z : Int32) : pu_Dm m p z 14 0 = z := rfl
theorem pu_Dm_o {m : tm_I} {p : Nat} {z : Int32} {a : Nat} (h : a ≠ 1) (h2 : a ≠ 14) : pu_Dm m p z a = m a := by
  funext b; unfold pu_Dm; simp [h, h2]
theorem pu_Dm_1 {m : tm_I} {p : Nat} {z : Int32} {b : Nat} (h : b ≠ 6) : pu_Dm m p z 1 b = m 1 b := by
  unfold pu_Dm; simp [h]
theorem pu_Dm_up1 {m : tm_I} {p q : Nat} {z : Int32} : tm_up (pu_Dm m p z) 1 6 (Int32.ofNat q) = pu_Dm m q z := by
  funext a b; unfold tm_up pu_Dm; split <;> simp_all
theorem pu_Dm_up14 {m : tm_I} {p : Nat} {z v : Int32} : tm_up (pu_Dm m p z) 14 0 v = pu_Dm m p v := by
  funext a b; unfold tm_up pu_Dm
  by_cases h : a = 14
  · subst h; by_cases h : b = 0 <;> simp [h]
  · simp [h]
theorem pu_Dm_src {m : tm_I} {mL : tm_L} {S : List Int32} (h : pu_Src m mL S) (p : Nat) (z : Int32) : pu_Src (pu_Dm m p z) mL S := by
  unfold pu_Src
  rw [pu_Dm_1 (by decide), pu_Dm_1 (by decide), pu_Dm_o (a := 2) (by decide) (by decide), pu_Dm_o (a := 3) (by decide) (by decide), pu_Dm_o (a := 5) (by decide) (by decide), pu_Dm_o (a := 6) (by decide) (by decide)]
  exact h
theorem pu_la_esc {m : tm_I} {mL : tm_L} {S : List Int32} (h : pu_Src m mL S) {p : Nat} (hp : m 1 6 = Int32.ofNat p) (hb : p ≤ 100000) : f_La_escapedByte m mL = some (pu_esc (S.drop p), m, mL) := by
  unfold f_La_escapedByte f_La_escapedByte_b0 f_La_escapedByte_b34 f_La_escapedByte_b44 pu_esc
  have a1 : f_Sc_ahead 1 m mL = some ((S.drop p)[1]?.getD (-1), m, mL) := pu_sc_ahead (n := 1) h hp (by omega)
  have a2 : f_Sc_ahead 2 m mL = some ((S.drop p)[2]?.getD (-1), m, mL) := pu_sc_ahead (n := 2) h hp (by omega)
  rw [a1, pu_b_some, pu_la_hex, pu_b_some, a2, pu_b_some, pu_la_hex, pu_b_some]
  simp only []
  by_cases h1 : pu_hx ((S.drop p)[1]?.getD (-1)) = -1
  · rw [if_pos h1, if_pos (Or.inl h1)]
  · by_cases h2 : pu_hx ((S.drop p)[2]?.getD (-1)) = -1
    · rw [if_neg h1, if_neg (fun q => q h2), if_pos (Or.inr h2)]
    · rw [if_neg h1, if_pos h2, if_neg (fun q => q.elim h1 h2)]
theorem pu_esc_b {cs : List Int32} (h : ∀ b ∈ cs, ∃ n, n < 256 ∧ b = Int32.ofNat n) : pu_esc cs = -1 ∨ ∃ n, n < 256 ∧ pu_esc cs = Int32.ofNat n ∧ 3 ≤ cs.length := by
  unfold pu_esc
  rcases pu_by_or h 1 with h1 | ⟨n1, h1, h1'⟩
  · left; rw [if_pos (Or.inl (by rw [h1]; exact pu_hx_m1))]
  · rcases pu_by_or h 2 with h2 | ⟨n2, h2, h2'⟩
    · left; rw [if_pos (Or.inr (by rw [h2]; exact pu_hx_m1))]
    · rw [h1', h2']
      rcases pu_hx_b h1 with a | ⟨k1, a, a'⟩
      · left; rw [if_pos (Or.inl a)]
      · rcases pu_hx_b h2 with b | ⟨k2, b, b'⟩
        · left; rw [if_pos (Or.inr b)]
        · right
          refine ⟨k1 * 16 + k2, by omega, ?_, ?_⟩
          · rw [a', b']
            have key : ∀ k : Fin 16, Int32.ofNat k.1 ≠ -1 := by decide
            rw [if_neg (fun q => q.elim (key ⟨k1, a⟩) (key ⟨k2, b⟩)), pu_n_lit 16, pu_n_mul, pu_n_add]
          · rcases Nat.lt_or_ge 2 cs.length with q | q
            · exact q
            · rw [List.getElem?_eq_none (by omega)] at h2'
              have key : ∀ k : Fin 256, (-1 : Int32) ≠ Int32.ofNat k.1 := by decide +kernel
              exact absurd h2' (key ⟨n2, h2⟩)
theorem pu_b_ne {n : Nat} (hn : n < 256) : Int32.ofNat n ≠ -1 := by
  have key : ∀ k : Fin 256, Int32.ofNat k.1 ≠ -1 := by decide +kernel
  exact key ⟨n, hn⟩
theorem pu_la_data {m : tm_I} {S : List Int32} (h13 : m 13 0 = 200) (h13' : m 13 1 = 25) : ∀ (t n p : Nat) (acc : List Int32) (mL : tm_L), t + acc.length = 201 → acc.length ≤ 200 → t < n → p ≤ S.length → pu_Src m mL S → pu_Row (fun _ => Int32.ofNat acc.length) (mL 15) 25 0 acc →
    (pu_spData t acc (S.drop p) = none ∧ ∃ p' z mL', f_La_decodeData_l10 n (Int32.ofNat acc.length) (pu_Dm m p (Int32.ofNat acc.length)) mL = some (0, pu_Dm m p' z, mL') ∧ ∀ e, e ≠ 15 → mL' e = mL e) ∨
    (∃ acc' p' mL', pu_spData t acc (S.drop p) = some (acc', S.drop p') ∧ acc'.length ≤ 200 ∧ p ≤ p' ∧ p' ≤ S.length ∧ f_La_decodeData_l10 n (Int32.ofNat acc.length) (pu_Dm m p (Int32.ofNat acc.length)) mL = some (1, pu_Dm m p' (Int32.ofNat acc'.length), mL') ∧ (∀ e, e ≠ 15 → mL' e = mL e) ∧ pu_Row (fun _ => Int32.ofNat acc'.length) (mL' 15) 25 0 acc') := by
  intro t
  induction t with
  | zero => intro n p acc mL h1 h2; omega
  | succ t ih =>
    intro n p acc mL ht ha hn hp h hr
    have hS := h.le
    have hlt := h.lt
    obtain ⟨n, rfl⟩ : ∃ n', n = n' + 1 := ⟨n - 1, by omega⟩
    generalize hm : pu_Dm m p (Int32.ofNat acc.length) = mI
    have hsrc : pu_Src mI mL S := by rw [← hm]; exact pu_Dm_src h _ _
    have hat : mI 1 6 = Int32.ofNat p := by rw [← hm]; rfl
    have hld : ∀ b ∈ S.drop p, ∃ n, n < 256 ∧ b = Int32.ofNat n := fun b hb => hlt b (List.mem_of_mem_drop hb)
    by_cases h1 : pu_hd (S.drop p) = -1 ∨ pu_hd (S.drop p) = 94
    · right
      refine ⟨acc, p, mL, ?_, ha, Nat.le_refl _, hp, ?_, fun _ _ => rfl, hr⟩
      · rw [pu_spData, if_pos h1]
      · rw [f_La_decodeData_l10]
        unfold f_La_decodeData_b37
        rw [if_neg (by simp (disch := omega) only [pu_n_lit, pu_n_add, pu_n_mul, pu_n_sub, pu_n_div, pu_n_nat, pu_q_ltT, pu_q_ltF, pu_q_leT, pu_q_leF, pu_q_eqT, pu_q_eqF, pu_n_lt, pu_n_le, pu_n_eq, pu_p_ltT, pu_p_ltF, pu_p_leT, pu_p_leF, not_true_eq_false, not_false_eq_true, or_false, false_or, or_true, true_or, and_true, true_and, and_false, false_and, ↓reduceIte, pu_b_some]), pu_sc_hd hsrc hat (by omega), pu_b_some]
        simp only []
        rcases h1 with h1 | h1
        · rw [if_pos h1, hm]
        · rw [if_neg (by rw [h1]; decide), if_neg (by rw [h1]; simp), hm]
    · have F : f_La_decodeData_l10 (n + 1) (Int32.ofNat acc.length) mI mL = f_La_decodeData_b53 (f_La_decodeData_l10 n) (Int32.ofNat acc.length) (pu_hd (S.drop p)) (if pu_hd (S.drop p) = 95 then pu_esc (S.drop p) else pu_hd (S.drop p)) mI mL := by
        rw [f_La_decodeData_l10, if_neg (by simp (disch := omega) only [pu_n_lit, pu_n_add, pu_n_mul, pu_n_sub, pu_n_div, pu_n_nat, pu_q_ltT, pu_q_ltF, pu_q_leT, pu_q_leF, pu_q_eqT, pu_q_eqF, pu_n_lt, pu_n_le, pu_n_eq, pu_p_ltT, pu_p_ltF, pu_p_leT, pu_p_leF, not_true_eq_false, not_false_eq_true, or_false, false_or, or_true, true_or, and_true, true_and, and_false, false_and, ↓reduceIte, pu_b_some]), pu_sc_hd hsrc hat (by omega), pu_b_some]
        simp only []
        rw [if_neg (fun q => h1 (Or.inl q)), if_pos (fun q => h1 (Or.inr q))]
        by_cases h2 : pu_hd (S.drop p) = 95
        · rw [if_neg (fun q => q h2), pu_la_esc hsrc hat (by omega), pu_b_some, if_pos h2]
        · rw [if_pos h2, if_neg h2]
      have V : (if pu_hd (S.drop p) = 95 then pu_esc (S.drop p) else pu_hd (S.drop p)) = -1 ∨ ∃ k, k < 256 ∧ (if pu_hd (S.drop p) = 95 then pu_esc (S.drop p) else pu_hd (S.drop p)) = Int32.ofNat k ∧ (if pu_hd (S.drop p) = 95 then 3 else 1) ≤ (S.drop p).length := by
        by_cases h2 : pu_hd (S.drop p) = 95
        · rw [if_pos h2, if_pos h2]
          rcases pu_esc_b hld with q | ⟨k, q1, q2, q3⟩
          · exact Or.inl q
          · exact Or.inr ⟨k, q1, q2, q3⟩
        · rw [if_neg h2, if_neg h2]
          have h3 := pu_hd_pos (fun q => h1 (Or.inl q))
          rw [pu_hd0]
          rcases pu_by_or hld 0 with q | ⟨k, q1, q2⟩
          · exact Or.inl q
          · exact Or.inr ⟨k, q1, q2, h3⟩
      rw [pu_spData, if_neg h1, F]
      generalize hv : (if pu_hd (S.drop p) = 95 then pu_esc (S.drop p) else pu_hd (S.drop p)) = v at V
      unfold f_La_decodeData_b53 f_La_decodeData_b71 f_La_decodeData_b88
      rcases V with V | ⟨k, k1, k2, k3⟩
      · left
        refine ⟨if_pos (Or.inl V), p, Int32.ofNat acc.length, mL, ?_, fun _ _ => rfl⟩
        rw [if_pos V, hm]
      · have hvn : v ≠ -1 := by rw [k2]; exact pu_b_ne k1
        have hr0 : pu_Row (mI 14) (mL 15) 25 0 acc := ⟨by rw [← hm]; rfl, hr.byt⟩
        have hm0 : mI 13 0 = 200 := by rw [← hm, pu_Dm_o (by decide) (by decide)]; exact h13
        have hm1 : mI 13 1 = 25 := by rw [← hm, pu_Dm_o (by decide) (by decide)]; exact h13'
        by_cases hf : 200 ≤ acc.length
        · left
          refine ⟨if_pos (Or.inr hf), p, Int32.ofNat acc.length, mL, ?_, fun _ _ => rfl⟩
          have e200 : acc.length = 200 := by omega
          rw [if_neg hvn, pu_n_zero, pu_ro_add_full (c := 14) (d := 15) (R := 1) (w := 25) rfl rfl (by omega) (by omega) hr0 (by rw [e200]; exact hm0), pu_b_some, hm]
          rfl
        · rw [if_neg (fun q => q.elim hvn hf)]
          obtain ⟨x, x1, x2⟩ := pu_ro_add (o := 13) (c := 14) (d := 15) (R := 1) (w := 25) (r := 0) (M := 200) rfl rfl rfl rfl hm1 (by omega) (by omega) (by omega) hr0 hm0 (by omega) (by omega) k1
          have G : ∀ z : Option (Int32 × tm_I × tm_L), (if v = -1 then some (0, mI, mL) else (f_Ro_add 13 0 v mI mL).bind fun v2 => if ¬ v2.1 = 0 then if ¬ pu_hd (S.drop p) = 95 then (f_Sc_skip 1 v2.2.1 v2.2.2).bind fun v1 => f_La_decodeData_l10 n (Int32.ofNat acc.length + 1) v1.2.1 v1.2.2 else (f_Sc_skip 3 v2.2.1 v2.2.2).bind fun v1 => f_La_decodeData_l10 n (Int32.ofNat acc.length + 1) v1.2.1 v1.2.2 else some (0, v2.2.1, v2.2.2)) = f_La_decodeData_l10 n (Int32.ofNat (acc ++ [v]).length) (pu_Dm m (p + (if pu_hd (S.drop p) = 95 then 3 else 1)) (Int32.ofNat (acc ++ [v]).length)) (tm_up mL 15 (0 * 25 + acc.length / 8) x) := by
            intro _
            rw [if_neg hvn, pu_n_zero, k2, x1, pu_b_some]
            simp only []
            rw [if_pos (by decide), ← hm, pu_Dm_up14, pu_n_lit 1, pu_n_add, List.length_append, List.length_singleton]
            by_cases h2 : pu_hd (S.drop p) = 95
            · rw [if_neg (fun q => q h2), pu_n_lit 3, pu_sc_skip (pu_Dm_at _ _ _), pu_b_some, pu_Dm_up1, if_pos h2]
            · rw [if_pos h2, pu_sc_skip (pu_Dm_at _ _ _), pu_b_some, pu_Dm_up1, if_neg h2]
          rw [G none, ← k2] at *
          rw [List.length_drop] at k3
          rw [List.drop_drop]
          have hother : ∀ e, e ≠ 15 → tm_up mL 15 (0 * 25 + acc.length / 8) x e = mL e := fun e he => by funext b; exact tm_up_o he
          have hr2 : pu_Row (fun _ => Int32.ofNat (acc ++ [v]).length) (tm_up mL 15 (0 * 25 + acc.length / 8) x 15) 25 0 (acc ++ [v]) := by
            rw [k2]; exact x2 _ (by simp)
          rcases ih n (p + (if pu_hd (S.drop p) = 95 then 3 else 1)) (acc ++ [v]) (tm_up mL 15 (0 * 25 + acc.length / 8) x) (by simp; omega) (by simp; omega) (by omega) (by omega) (h.mL (hother 4 (by decide)) (hother 7 (by decide))) hr2 with ⟨a1, p', z, mL', a2, a3⟩ | ⟨acc', p', mL', a1, a2, a3, a4, a5, a6, a7⟩
          · left
            exact ⟨a1, p', z, mL', a2, fun e he => (a3 e he).trans (hother e he)⟩
          · right
            exact ⟨acc', p', mL', a1, a2, by omega, a4, a5, fun e he => (a6 e he).trans (hother e he), a7⟩
def pu_blk (cs : List Int32) : List Int32 := cs.dropWhile (fun c => decide (c ≤ 32))
theorem pu_At_src {m : tm_I} {mL : tm_L} {S : List Int32} (h : pu_Src m mL S) (x : Int32) : pu_Src (tm_up m 1 6 x) mL S := by
  unfold pu_Src
  have e : ∀ a, a ≠ 1 → tm_up m 1 6 x a = m a := fun a ha => by funext b; exact tm_up_o ha
  have e4 : tm_up m 1 6 x 1 4 = m 1 4 := tm_up_k (by decide)
  have e5 : tm_up m 1 6 x 1 5 = m 1 5 := tm_up_k (by decide)
  rw [e4, e5, e 2 (by decide), e 3 (by decide), e 5 (by decide), e 6 (by decide)]
  exact h
theorem pu_sc_blanks1 {m : tm_I} {mL : tm_L} {S : List Int32} (h : pu_Src m mL S) : ∀ (t i n p : Nat), t + p = S.length → i + t ≤ 4096 → t < n → ∃ p', S.drop p' = pu_blk (S.drop p) ∧ p ≤ p' ∧ p' ≤ S.length ∧ f_Sc_skipBlanks_l2 n (Int32.ofNat i) (tm_up m 1 6 (Int32.ofNat p)) mL = some (0, tm_up m 1 6 (Int32.ofNat p'), mL) := by
  intro t
  have hS := h.le
  induction t with
  | zero =>
    intro i n p hp hi hn
    obtain ⟨n, rfl⟩ : ∃ n', n = n' + 1 := ⟨n - 1, by omega⟩
    have e : S.drop p = [] := List.drop_eq_nil_of_le (by omega)
    refine ⟨p, by rw [e]; rfl, Nat.le_refl _, by omega, ?_⟩
    rw [f_Sc_skipBlanks_l2]
    unfold f_Sc_skipBlanks_b44
    rw [pu_sc_hd (pu_At_src h _) (tm_up_eq _ _ _ _) (by omega), pu_b_some]
    simp only []
    rw [if_pos (c := pu_hd _ = -1) (by rw [e]; rfl)]
    split <;> rfl
  | succ t ih =>
    intro i n p hp hi hn
    obtain ⟨n, rfl⟩ : ∃ n', n = n' + 1 := ⟨n - 1, by omega⟩
    have hlt : p < S.length := by omega
    obtain ⟨c, hc⟩ : ∃ c, S.drop p = c :: S.drop (p + 1) := ⟨S[p], List.drop_eq_getElem_cons hlt⟩
    have hcm : c ∈ S := List.mem_of_mem_drop (i := p) (by rw [hc]; exact List.mem_cons_self)
    obtain ⟨nb, hnb, hcn⟩ := h.lt c hcm
    have hh : pu_hd (S.drop p) = c := by rw [hc]; rfl
    have hne : pu_hd (S.drop p) ≠ -1 := by rw [hh, hcn]; exact pu_b_ne hnb
    by_cases h32 : 32 < c
    · refine ⟨p, ?_, Nat.le_refl _, by omega, ?_⟩
      · rw [hc]; unfold pu_blk; rw [List.dropWhile_cons_of_neg]; simp; exact h32
      · rw [f_Sc_skipBlanks_l2]
        unfold f_Sc_skipBlanks_b44
        rw [if_neg (by simp (disch := omega) only [pu_n_lit, pu_n_add, pu_n_mul, pu_n_sub, pu_n_div, pu_n_nat, pu_q_ltT, pu_q_ltF, pu_q_leT, pu_q_leF, pu_q_eqT, pu_q_eqF, pu_n_lt, pu_n_le, pu_n_eq, pu_p_ltT, pu_p_ltF, pu_p_leT, pu_p_leF, not_true_eq_false, not_false_eq_true, or_false, false_or, or_true, true_or, and_true, true_and, and_false, false_and, ↓reduceIte, pu_b_some]), pu_sc_hd (pu_At_src h _) (tm_up_eq _ _ _ _) (by omega), pu_b_some]
        simp only []
        rw [if_neg hne, pu_sc_hd (pu_At_src h _) (tm_up_eq _ _ _ _) (by omega), pu_b_some]
        simp only []
        rw [if_pos (by rw [hh]; exact h32)]
    · obtain ⟨p', a1, a2, a3, a4⟩ := ih (i + 1) n (p + 1) (by omega) (by omega) (by omega)
      refine ⟨p', ?_, by omega, a3, ?_⟩
      · rw [a1, hc]; unfold pu_blk; rw [List.dropWhile_cons_of_pos]; simp; exact pu_i_nlt h32
      · rw [f_Sc_skipBlanks_l2]
        rw [if_neg (by simp (disch := omega) only [pu_n_lit, pu_n_add, pu_n_mul, pu_n_sub, pu_n_div, pu_n_nat, pu_q_ltT, pu_q_ltF, pu_q_leT, pu_q_leF, pu_q_eqT, pu_q_eqF, pu_n_lt, pu_n_le, pu_n_eq, pu_p_ltT, pu_p_ltF, pu_p_leT, pu_p_leF, not_true_eq_false, not_false_eq_true, or_false, false_or, or_true, true_or, and_true, true_and, and_false, false_and, ↓reduceIte, pu_b_some]), pu_sc_hd (pu_At_src h _) (tm_up_eq _ _ _ _) (by omega), pu_b_some]
        simp only []
        rw [if_neg hne, pu_sc_hd (pu_At_src h _) (tm_up_eq _ _ _ _) (by omega), pu_b_some]
        simp only []
        rw [if_neg (by rw [hh]; exact h32), tm_up_eq, pu_tm_up_up, pu_n_lit 1, pu_n_add, pu_n_add]
        exact a4
theorem pu_sc_blanks {m : tm_I} {mL : tm_L} {S : List Int32} (h : pu_Src m mL S) {p : Nat} (hp : m 1 6 = Int32.ofNat p) (hb : p ≤ S.length) : ∃ p', S.drop p' = pu_blk (S.drop p) ∧ p ≤ p' ∧ p' ≤ S.length ∧ f_Sc_skipBlanks m mL = some (0, tm_up m 1 6 (Int32.ofNat p'), mL) := by
  have hS := h.le
  obtain ⟨p', a1, a2, a3, a4⟩ := pu_sc_blanks1 h (S.length - p) 0 tm_F p (by omega) (by omega) (by unfold tm_F; omega)
  refine ⟨p', a1, a2, a3, ?_⟩
  rw [pu_tm_up_same hp] at a4
  exact a4
def pu_spFind : List Int32 → Nat → Option Nat
  | [], _ => none
  | c :: r, k => if c = 94 ∧ pu_hd r = 90 then some k else pu_spFind r (k + 1)
def pu_oi (o : Option Nat) : Int32 := match o with
  | none => -1
  | some k => Int32.ofNat k
theorem pu_sc_form1 {m : tm_I} {mL : tm_L} {S : List Int32} (h : pu_Src m mL S) {p : Nat} (hp : m 1 6 = Int32.ofNat p) (hb : p ≤ S.length) : ∀ (d k n : Nat), d + k = 4096 → d < n → f_Sc_formSize_l2 n (Int32.ofNat k) m mL = some (pu_oi (pu_spFind (S.drop (p + k)) k), m, mL) := by
  intro d
  have hS := h.le
  induction d with
  | zero =>
    intro k n hk hn
    obtain ⟨n, rfl⟩ : ∃ n', n = n' + 1 := ⟨n - 1, by omega⟩
    rw [f_Sc_formSize_l2, if_pos (by simp (disch := omega) only [pu_n_lit, pu_n_add, pu_n_mul, pu_n_sub, pu_n_div, pu_n_nat, pu_q_ltT, pu_q_ltF, pu_q_leT, pu_q_leF, pu_q_eqT, pu_q_eqF, pu_n_lt, pu_n_le, pu_n_eq, pu_p_ltT, pu_p_ltF, pu_p_leT, pu_p_leF, not_true_eq_false, not_false_eq_true, or_false, false_or, or_true, true_or, and_true, true_and, and_false, false_and, ↓reduceIte, pu_b_some]), List.drop_eq_nil_of_le (by omega)]
    rfl
  | succ d ih =>
    intro k n hk hn
    obtain ⟨n, rfl⟩ : ∃ n', n = n' + 1 := ⟨n - 1, by omega⟩
    have ih := ih (k + 1) n (by omega) (by omega)
    have e0 : (S.drop p)[k]?.getD (-1) = pu_hd (S.drop (p + k)) := by rw [pu_hd0, List.getElem?_drop, List.getElem?_drop]; rfl
    have e1 : (S.drop p)[k + 1]?.getD (-1) = pu_hd (S.drop (p + (k + 1))) := by rw [pu_hd0, List.getElem?_drop, List.getElem?_drop]; rfl
    have a1 : f_Sc_ahead (Int32.ofNat k + 1) m mL = some ((S.drop p)[k + 1]?.getD (-1), m, mL) := by
      rw [pu_n_lit 1, pu_n_add]; exact pu_sc_ahead h hp (by omega)
    rw [f_Sc_formSize_l2, if_neg (by simp (disch := omega) only [pu_n_lit, pu_n_add, pu_n_mul, pu_n_sub, pu_n_div, pu_n_nat, pu_q_ltT, pu_q_ltF, pu_q_leT, pu_q_leF, pu_q_eqT, pu_q_eqF, pu_n_lt, pu_n_le, pu_n_eq, pu_p_ltT, pu_p_ltF, pu_p_leT, pu_p_leF, not_true_eq_false, not_false_eq_true, or_false, false_or, or_true, true_or, and_true, true_and, and_false, false_and, ↓reduceIte, pu_b_some]), pu_sc_ahead h hp (by omega), pu_b_some, e0]
    simp only []
    unfold f_Sc_formSize_b33
    rw [a1, e1, pu_b_some]
    simp only []
    have i1 : f_Sc_formSize_l2 n (Int32.ofNat k + 1) m mL = some (pu_oi (pu_spFind (S.drop (p + (k + 1))) (k + 1)), m, mL) := by
      rw [pu_n_lit 1, pu_n_add]; exact ih
    rw [i1]
    have key : pu_oi (pu_spFind (S.drop (p + k)) k) = if pu_hd (S.drop (p + k)) = 94 ∧ pu_hd (S.drop (p + (k + 1))) = 90 then Int32.ofNat k else pu_oi (pu_spFind (S.drop (p + (k + 1))) (k + 1)) := by
      by_cases hl : p + k < S.length
      · rw [List.drop_eq_getElem_cons hl, pu_spFind, show p + k + 1 = p + (k + 1) by omega]
        rw [show pu_hd (S[p + k] :: S.drop (p + (k + 1))) = S[p + k] from rfl]
        split <;> rfl
      · rw [List.drop_eq_nil_of_le (by omega), List.drop_eq_nil_of_le (show S.length ≤ p + (k + 1) by omega)]
        rfl
    rw [key]
    by_cases c1 : pu_hd (S.drop (p + k)) = 94
    · rw [if_neg (fun q => q c1)]
      by_cases c2 : pu_hd (S.drop (p + (k + 1))) = 90
      · rw [if_neg (fun q => q c2), if_pos ⟨c1, c2⟩]
      · rw [if_pos c2, if_neg (fun q => c2 q.2)]
    · rw [if_pos c1, if_neg (fun q => c1 q.1)]
theorem pu_sc_form {m : tm_I} {mL : tm_L} {S : List Int32} (h : pu_Src m mL S) {p : Nat} (hp : m 1 6 = Int32.ofNat p) (hb : p ≤ S.length) : f_Sc_formSize m mL = some (pu_oi (pu_spFind (S.drop p) 0), m, mL) :=
  pu_sc_form1 h hp hb 4096 0 tm_F (by omega) (by decide)
theorem pu_spFind_lt : ∀ (cs : List Int32) (k j : Nat), pu_spFind cs k = some j → k ≤ j ∧ j - k + 2 ≤ cs.length
  | [], _, _, h => nomatch h
  | c :: r, k, j, h => by
    rw [pu_spFind] at h
    split at h
    · next q =>
      have := pu_hd_pos (cs := r) (by rw [q.2]; decide)
      cases h; simp; omega
    · have := pu_spFind_lt r (k + 1) j h
      simp; omega
theorem pu_Row.add_o {sz sz' : Nat → Int32} {mL : tm_L} {d w r r' j : Nat} {T : List Int32} {x : Int64} (H : pu_Row sz (mL d) w r T) (hT : T.length ≤ 8 * w) (hz : sz' r = sz r) (hr : r ≠ r') (hj : j < w) : pu_Row sz' (tm_up mL d (r' * w + j) x d) w r T := by
  refine ⟨hz.trans H.len, fun i hi => ?_⟩
  rw [tm_up_k, H.byt i hi]
  have h1 : i / 8 < w := by omega
  intro q
  rcases Nat.lt_or_gt_of_ne hr with h2 | h2
  · have : (r + 1) * w ≤ r' * w := Nat.mul_le_mul_right w h2
    rw [Nat.add_mul] at this; omega
  · have : (r' + 1) * w ≤ r * w := Nat.mul_le_mul_right w h2
    rw [Nat.add_mul] at this; omega
theorem pu_sc_keep1 {m : tm_I} {T : List Int32} {p k sz : Nat} (h0 : m 1 4 = 0) (h2 : m 2 1 = 512) (hT : T.length ≤ 4096) (hp : m 1 6 = Int32.ofNat p) (hk : k < 8) (h50 : m 5 0 = 400) (h51 : m 5 1 = 50) (hs : p + sz ≤ T.length) (hsz : sz ≤ 400) : ∀ (t i n : Nat) (mL : tm_L), t + i = sz → t < n → pu_Row (m 3) (mL 4) 512 0 T → pu_Row (tm_up m 6 k (Int32.ofNat i) 6) (mL 7) 50 k ((T.drop p).take i) →
    ∃ mL', f_Sc_keepForm_l10 n (Int32.ofNat k) (Int32.ofNat sz) (Int32.ofNat i) (tm_up m 6 k (Int32.ofNat i)) mL = some (0, tm_up (tm_up m 6 k (Int32.ofNat sz)) 1 6 (Int32.ofNat (p + (sz + 2))), mL') ∧ (∀ e, e ≠ 7 → mL' e = mL e) ∧ pu_Row (tm_up m 6 k (Int32.ofNat sz) 6) (mL' 7) 50 k ((T.drop p).take sz) ∧ (∀ r V, r ≠ k → V.length ≤ 400 → pu_Row (m 6) (mL 7) 50 r V → pu_Row (m 6) (mL' 7) 50 r V) := by
  intro t
  induction t with
  | zero =>
    intro i n mL hi hn hr hr2
    obtain ⟨n, rfl⟩ : ∃ n', n = n' + 1 := ⟨n - 1, by omega⟩
    have : i = sz := by omega
    subst this
    refine ⟨mL, ?_, fun _ _ => rfl, hr2, fun _ _ _ _ q => q⟩
    rw [f_Sc_keepForm_l10, if_pos (by simp (disch := omega) only [pu_n_lit, pu_n_add, pu_n_mul, pu_n_sub, pu_n_div, pu_n_nat, pu_q_ltT, pu_q_ltF, pu_q_leT, pu_q_leF, pu_q_eqT, pu_q_eqF, pu_n_lt, pu_n_le, pu_n_eq, pu_p_ltT, pu_p_ltF, pu_p_leT, pu_p_leF, not_true_eq_false, not_false_eq_true, or_false, false_or, or_true, true_or, and_true, true_and, and_false, false_and, ↓reduceIte, pu_b_some]), pu_n_lit 2, pu_n_add, pu_sc_skip (p := p) (by rw [tm_up_o (by decide)]; exact hp)]
    rfl
  | succ t ih =>
    intro i n mL hi hn hr hr2
    obtain ⟨n, rfl⟩ : ∃ n', n = n' + 1 := ⟨n - 1, by omega⟩
    have hsrc : pu_Src (tm_up m 6 k (Int32.ofNat i)) mL T := by
      left
      refine ⟨(tm_up_o (by decide)).trans h0, (tm_up_o (by decide)).trans h2, ?_, hT⟩
      have : tm_up m 6 k (Int32.ofNat i) 3 = m 3 := by funext b; exact tm_up_o (by decide)
      rw [this]; exact hr
    have hlt : p + i < T.length := by omega
    have e0 : (T.drop p)[i]?.getD (-1) = T[p + i] := by rw [List.getElem?_drop, List.getElem?_eq_getElem hlt]; rfl
    obtain ⟨b, hb, hb2⟩ := hr.lt T[p + i] (List.getElem_mem hlt)
    have hlen : ((T.drop p).take i).length = i := by rw [List.length_take, List.length_drop]; omega
    obtain ⟨x, x1, x2⟩ := pu_ro_add (o := 5) (c := 6) (d := 7) (R := 8) (w := 50) (r := k) (M := 400) (mI := tm_up m 6 k (Int32.ofNat i)) (mL := mL) rfl rfl rfl rfl ((tm_up_o (by decide)).trans h51) hk (by omega) (by omega) hr2 ((tm_up_o (by decide)).trans h50) (by omega) (by rw [hlen]; omega) hb
    rw [hlen, pu_tm_up_up] at x1
    rw [hlen] at x2
    have etk : (T.drop p).take i ++ [Int32.ofNat b] = (T.drop p).take (i + 1) := by
      rw [← hb2, List.take_succ_eq_append_getElem (by rw [List.length_drop]; omega)]
      simp
    rw [etk] at x2
    have F : f_Sc_keepForm_l10 (n + 1) (Int32.ofNat k) (Int32.ofNat sz) (Int32.ofNat i) (tm_up m 6 k (Int32.ofNat i)) mL = f_Sc_keepForm_l10 n (Int32.ofNat k) (Int32.ofNat sz) (Int32.ofNat (i + 1)) (tm_up m 6 k (Int32.ofNat (i + 1))) (tm_up mL 7 (k * 50 + i / 8) x) := by
      rw [f_Sc_keepForm_l10, if_neg (by simp (disch := omega) only [pu_n_lit, pu_n_add, pu_n_mul, pu_n_sub, pu_n_div, pu_n_nat, pu_q_ltT, pu_q_ltF, pu_q_leT, pu_q_leF, pu_q_eqT, pu_q_eqF, pu_n_lt, pu_n_le, pu_n_eq, pu_p_ltT, pu_p_ltF, pu_p_leT, pu_p_leF, not_true_eq_false, not_false_eq_true, or_false, false_or, or_true, true_or, and_true, true_and, and_false, false_and, ↓reduceIte, pu_b_some]), pu_sc_ahead (p := p) hsrc ((tm_up_o (by decide)).trans hp) (by omega), pu_b_some, e0, hb2]
      simp only []
      rw [x1, pu_b_some, pu_n_lit 1, pu_n_add]
    rw [F]
    have ho : ∀ e, e ≠ 7 → tm_up mL 7 (k * 50 + i / 8) x e = mL e := fun e he => by funext b; exact tm_up_o he
    obtain ⟨mL', y1, y2, y3, y4⟩ := ih (i + 1) n (tm_up mL 7 (k * 50 + i / 8) x) (by omega) (by omega) (by rw [ho 4 (by decide)]; exact hr) (x2 _ (tm_up_eq _ _ _ _))
    refine ⟨mL', y1, fun e he => (y2 e he).trans (ho e he), y3, fun r V hr hV H => y4 r V hr hV ?_⟩
    exact H.add_o (by omega) rfl hr (by omega)
theorem pu_sc_keep {m : tm_I} {mL : tm_L} {T : List Int32} {p k sz : Nat} (h0 : m 1 4 = 0) (h2 : m 2 1 = 512) (hT : T.length ≤ 4096) (hp : m 1 6 = Int32.ofNat p) (hk : k < 8) (h50 : m 5 0 = 400) (h51 : m 5 1 = 50) (hs : p + sz ≤ T.length) (hsz : sz ≤ 400) (hr : pu_Row (m 3) (mL 4) 512 0 T) :
    ∃ mL', f_Sc_keepForm (Int32.ofNat k) (Int32.ofNat sz) m mL = some (0, tm_up (tm_up m 6 k (Int32.ofNat sz)) 1 6 (Int32.ofNat (p + (sz + 2))), mL') ∧ (∀ e, e ≠ 7 → mL' e = mL e) ∧ pu_Row (tm_up m 6 k (Int32.ofNat sz) 6) (mL' 7) 50 k ((T.drop p).take sz) ∧ (∀ r V, r ≠ k → V.length ≤ 400 → pu_Row (m 6) (mL 7) 50 r V → pu_Row (m 6) (mL' 7) 50 r V) := by
  obtain ⟨mL', y1, y2, y3, y4⟩ := pu_sc_keep1 h0 h2 hT hp hk h50 h51 hs hsz sz 0 tm_F mL (by omega) (by unfold tm_F; omega) hr (by rw [List.take_zero]; exact pu_Row.empty (tm_up_eq _ _ _ _))
  refine ⟨mL', ?_, y2, y3, y4⟩
  unfold f_Sc_keepForm f_Sc_keepForm_b0
  rw [pu_ro_clear (c := 6) (R := 8) rfl rfl hk (by omega), pu_b_some]
  exact y1
