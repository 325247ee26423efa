def pu_cnum (o : pu_Od) (c : Nat) : Nat := (((o.nm : Int) + o.sp.toInt * (c : Int)) % ((10 ^ o.tl : Nat) : Int)).toNat
def pu_cpO (c : Nat) (o : pu_Od) : pu_Od := (pu_Od.mk_ o.kd o.x o.y o.r o.wy o.a o.b o.c o.st o.sz o.D o.tl (pu_cnum o c) o.sp)
def pu_WO (o : pu_Od) : Prop := (o.tl ≤ 9) ∧ (o.nm < 10 ^ o.tl) ∧ (-99 ≤ o.sp.toInt) ∧ (o.sp.toInt ≤ 99) ∧ (o.D.length ≤ 200)
theorem pu_WO.tl {o : pu_Od} (h_ : pu_WO o) : o.tl ≤ 9 := h_.1
theorem pu_WO.nm {o : pu_Od} (h_ : pu_WO o) : o.nm < 10 ^ o.tl := h_.2.1
theorem pu_WO.s1 {o : pu_Od} (h_ : pu_WO o) : -99 ≤ o.sp.toInt := h_.2.2.1
theorem pu_WO.s2 {o : pu_Od} (h_ : pu_WO o) : o.sp.toInt ≤ 99 := h_.2.2.2.1
theorem pu_WO.len {o : pu_Od} (h_ : pu_WO o) : o.D.length ≤ 200 := h_.2.2.2.2
theorem pu_cnum_lt (o : pu_Od) (c : Nat) : pu_cnum o c < 10 ^ o.tl := by
  unfold pu_cnum
  have h : 0 < 10 ^ o.tl := Nat.pow_pos (by decide)
  generalize 10 ^ o.tl = q at h
  have h1 := Int.emod_nonneg ((o.nm : Int) + o.sp.toInt * (c : Int)) (b := (q : Int)) (by omega)
  have h2 := Int.emod_lt_of_pos ((o.nm : Int) + o.sp.toInt * (c : Int)) (b := (q : Int)) (by omega)
  omega
theorem pu_cpO_0 {o : pu_Od} (h : pu_WO o) : pu_cpO 0 o = o := by
  have : pu_cnum o 0 = o.nm := by
    unfold pu_cnum
    have h := h.nm
    generalize 10 ^ o.tl = q at h
    rw [Int.natCast_zero, Int.mul_zero, Int.add_zero, ← Int.natCast_emod, Int.toNat_natCast, Nat.mod_eq_of_lt h]
  unfold pu_cpO; rw [this]
section CP
variable {m : tm_I} {mL : tm_L} {Fc : Nat}
theorem pu_sh_cell {k w : Nat} (hk : k < 120) (hw : w < 14) : f_Sh_cell (Int32.ofNat k) (Int32.ofNat w) m mL = some (m 22 (k * 14 + w), m, mL) := by
  unfold f_Sh_cell f_Sh_cell_b0 f_Sh_cell_b25 f_Sh_cell_b45
  simp (disch := omega) only [pu_n_lit, pu_n_add, pu_n_mul, pu_n_sub, pu_n_div, pu_n_nat, pu_q_ltT, pu_q_ltF, pu_q_leT, pu_q_leF, pu_q_eqT, pu_q_eqF, pu_n_lt, pu_n_le, pu_n_eq, pu_p_ltT, pu_p_ltF, pu_p_leT, pu_p_leF, not_true_eq_false, not_false_eq_true, or_false, false_or, or_true, true_or, and_true, true_and, and_false, false_and, ↓reduceIte, pu_b_some]
theorem pu_sh_set {k w : Nat} (hk : k < 120) (hw : w < 14) (v : Int32) : f_Sh_setCell (Int32.ofNat k) (Int32.ofNat w) v m mL = some (0, tm_up m 22 (k * 14 + w) v, mL) := by
  unfold f_Sh_setCell f_Sh_setCell_b0 f_Sh_setCell_b32
  simp (disch := omega) only [pu_n_lit, pu_n_add, pu_n_mul, pu_n_sub, pu_n_div, pu_n_nat, pu_q_ltT, pu_q_ltF, pu_q_leT, pu_q_leF, pu_q_eqT, pu_q_eqF, pu_n_lt, pu_n_le, pu_n_eq, pu_p_ltT, pu_p_ltF, pu_p_leT, pu_p_leF, not_true_eq_false, not_false_eq_true, or_false, false_or, or_true, true_or, and_true, true_and, and_false, false_and, ↓reduceIte, pu_b_some]
def pu_Cp (m : tm_I) (to fr k : Nat) : tm_I := fun a b => if a = 22 ∧ to * 14 ≤ b ∧ b < to * 14 + k then m 22 (fr * 14 + (b - to * 14)) else m a b
theorem pu_Cp_0 {to fr : Nat} : pu_Cp m to fr 0 = m := by
  funext a b; unfold pu_Cp; rw [if_neg (by omega)]
theorem pu_Cp_fr {to fr k w : Nat} (h : fr < to) (hw : w < 14) : pu_Cp m to fr k 22 (fr * 14 + w) = m 22 (fr * 14 + w) := by
  unfold pu_Cp; rw [if_neg (by omega)]
theorem pu_Cp_s {to fr k : Nat} (h : fr < to) (hk : k < 14) : tm_up (pu_Cp m to fr k) 22 (to * 14 + k) (pu_Cp m to fr k 22 (fr * 14 + k)) = pu_Cp m to fr (k + 1) := by
  rw [pu_Cp_fr h hk]
  funext a b
  unfold tm_up pu_Cp
  by_cases h1 : a = 22 ∧ b = to * 14 + k
  · rw [if_pos h1, if_pos (by omega), h1.2]
    congr 1; omega
  · rw [if_neg h1]
    by_cases h2 : a = 22 ∧ to * 14 ≤ b ∧ b < to * 14 + k
    · rw [if_pos h2, if_pos (by omega)]
    · rw [if_neg h2, if_neg (by omega)]
theorem pu_Cp_in {to fr k w : Nat} (hw : w < k) : pu_Cp m to fr k 22 (to * 14 + w) = m 22 (fr * 14 + w) := by
  unfold pu_Cp; rw [if_pos (by omega)]; congr 1; omega
theorem pu_cp_row {r2 : Int32 → Int32 → Int32 → tm_I → tm_L → Option (Int32 × tm_I × tm_L)} {x1 x3 to c : Nat} {o : pu_Od} {F : Nat} (hfr : x1 + x3 < to) (hto : to < 120) (hc : c ≤ 12) (w : pu_WO o) (hrow : ∀ j, j < 14 → m 22 ((x1 + x3) * 14 + j) = pu_ordRow o F j) : ∀ (t k N : Nat), t + k = 14 → t < N → f_Sh_copyOrders_l25 r2 N (Int32.ofNat x1) (Int32.ofNat c) (Int32.ofNat x3) (Int32.ofNat to) (Int32.ofNat k) (pu_Cp m to (x1 + x3) k) mL = r2 (Int32.ofNat x1) (Int32.ofNat c) (Int32.ofNat (x3 + 1)) (tm_up (pu_Cp m to (x1 + x3) 14) 22 (to * 14 + 12) (Int32.ofNat (pu_cnum o c))) mL := by
  intro t
  induction t with
  | zero =>
    intro k N hk hN
    obtain ⟨N, rfl⟩ : ∃ n', N = n' + 1 := ⟨N - 1, by omega⟩
    have : k = 14 := by omega
    subst this
    have c12 : f_Sh_cell (Int32.ofNat to) 12 (pu_Cp m to (x1 + x3) 14) mL = some (Int32.ofNat o.nm, pu_Cp m to (x1 + x3) 14, mL) := by
      have := pu_sh_cell (m := pu_Cp m to (x1 + x3) 14) (mL := mL) hto (w := 12) (by decide)
      rw [pu_Cp_in (by decide), hrow 12 (by decide)] at this; exact this
    have c13 : f_Sh_cell (Int32.ofNat to) 13 (pu_Cp m to (x1 + x3) 14) mL = some (o.sp, pu_Cp m to (x1 + x3) 14, mL) := by
      have := pu_sh_cell (m := pu_Cp m to (x1 + x3) 14) (mL := mL) hto (w := 13) (by decide)
      rw [pu_Cp_in (by decide), hrow 13 (by decide)] at this; exact this
    have c11 : f_Sh_cell (Int32.ofNat to) 11 (pu_Cp m to (x1 + x3) 14) mL = some (Int32.ofNat o.tl, pu_Cp m to (x1 + x3) 14, mL) := by
      have := pu_sh_cell (m := pu_Cp m to (x1 + x3) 14) (mL := mL) hto (w := 11) (by decide)
      rw [pu_Cp_in (by decide), hrow 11 (by decide)] at this; exact this
    have hp := pu_pow_le9 w.tl
    have hp1 : 1 ≤ 10 ^ o.tl := Nat.pow_pos (by decide)
    have hmv : (Int32.ofNat o.nm + o.sp * Int32.ofNat c).toInt = (o.nm : Int) + o.sp.toInt * (c : Int) := by
      have h1 := w.s1
      have h2 := w.s2
      have h3 := w.nm
      have b1 : o.sp.toInt * (c : Int) ≤ 99 * 12 := by
        have : o.sp.toInt * (c : Int) ≤ 99 * (c : Int) := Int.mul_le_mul_of_nonneg_right h2 (by omega)
        omega
      have b2 : -(99 * 12) ≤ o.sp.toInt * (c : Int) := by
        have : -99 * (c : Int) ≤ o.sp.toInt * (c : Int) := Int.mul_le_mul_of_nonneg_right h1 (by omega)
        omega
      rw [Int32.toInt_add, Int32.toInt_mul, pu_n_toInt (by omega), pu_n_toInt (by omega), Int.add_bmod_bmod]
      exact Int.bmod_eq_of_le (by omega) (by omega)
    have st : ∀ v, f_Sh_setCell (Int32.ofNat to) 12 v (pu_Cp m to (x1 + x3) 14) mL = some (0, tm_up (pu_Cp m to (x1 + x3) 14) 22 (to * 14 + 12) v, mL) := fun v => pu_sh_set hto (w := 12) (by decide) v
    rw [f_Sh_copyOrders_l25, if_pos (by simp (disch := omega) only [pu_n_lit, pu_n_add, pu_n_mul, pu_n_sub, pu_n_div, pu_n_nat, pu_q_ltT, pu_q_ltF, pu_q_leT, pu_q_leF, pu_q_eqT, pu_q_eqF, pu_n_lt, pu_n_le, pu_n_eq, pu_p_ltT, pu_p_ltF, pu_p_leT, pu_p_leF, not_true_eq_false, not_false_eq_true, or_false, false_or, or_true, true_or, and_true, true_and, and_false, false_and, ↓reduceIte, pu_b_some]), c12, pu_b_some]
    simp only []
    rw [c13, pu_b_some]
    simp only []
    rw [c11, pu_b_some]
    simp only []
    rw [pu_la_ten w.tl, pu_b_some]
    simp only []
    rw [pu_ma_fmod hp1 hp, pu_b_some]
    simp only []
    rw [st, pu_b_some, hmv, pu_n_lit 1, pu_n_add]
    rfl
  | succ t ih =>
    intro k N hk hN
    obtain ⟨N, rfl⟩ : ∃ n', N = n' + 1 := ⟨N - 1, by omega⟩
    rw [f_Sh_copyOrders_l25, if_neg (by simp (disch := omega) only [pu_n_lit, pu_n_add, pu_n_mul, pu_n_sub, pu_n_div, pu_n_nat, pu_q_ltT, pu_q_ltF, pu_q_leT, pu_q_leF, pu_q_eqT, pu_q_eqF, pu_n_lt, pu_n_le, pu_n_eq, pu_p_ltT, pu_p_ltF, pu_p_leT, pu_p_leF, not_true_eq_false, not_false_eq_true, or_false, false_or, or_true, true_or, and_true, true_and, and_false, false_and, ↓reduceIte, pu_b_some]), pu_n_add, pu_sh_cell (by omega) (by omega), pu_b_some]
    simp only []
    rw [pu_sh_set hto (by omega), pu_b_some]
    simp only []
    rw [pu_Cp_s hfr (by omega), pu_n_lit 1, pu_n_add]
    exact ih (k + 1) N (by omega) (by omega)
def pu_CN (Fc : Nat) (m : tm_I) (mL : tm_L) (K : Nat) (os : List pu_Od) : Prop := ∀ (i : Nat) (h : i < os.length), K + i < 120 → ∃ F, (F < 120 ∧ F < Fc) ∧ (∀ j, j < 14 → m 22 ((K + i) * 14 + j) = pu_ordRow os[i] F j) ∧ pu_Row (m 24) (mL 25) 25 F os[i].D
theorem pu_CN.app {K : Nat} {os1 os2 : List pu_Od} (h1 : pu_CN Fc m mL K os1) (h2 : pu_CN Fc m mL (K + os1.length) os2) : pu_CN Fc m mL K (os1 ++ os2) := by
  intro i hi hK
  by_cases h : i < os1.length
  · rw [List.getElem_append_left h]; exact h1 i h hK
  · rw [List.length_append] at hi
    rw [List.getElem_append_right (by omega)]
    have := h2 (i - os1.length) (by omega) (by omega)
    rw [show K + os1.length + (i - os1.length) = K + i by omega] at this
    exact this
theorem pu_cp_all {x1 O c B : Nat} {fs : List pu_Od} (hfs : fs.length = B) (hw : ∀ o ∈ fs, pu_WO o) (pu_hx : x1 + B ≤ O) (hO : O + B ≤ 120) (hc : 1 ≤ c) (hc2 : c ≤ 12) : ∀ (t n N : Nat) (m : tm_I), t + n = B → t < N → m 20 5 = Int32.ofNat B → m 20 4 = Int32.ofNat O → pu_CN Fc m mL x1 fs → pu_CN Fc m mL O ((fs.take n).map (pu_cpO c)) →
    ∃ m', f_Sh_copyOrders_l2 N (Int32.ofNat x1) (Int32.ofNat c) (Int32.ofNat n) m mL = some (0, m', mL) ∧ (∀ a, a ≠ 22 → m' a = m a) ∧ (∀ b, b < O * 14 → m' 22 b = m 22 b) ∧ pu_CN Fc m' mL O (fs.map (pu_cpO c)) := by
  intro t
  induction t with
  | zero =>
    intro n N m hn hN h5 h4 hs pu_hd
    obtain ⟨N, rfl⟩ : ∃ n', N = n' + 1 := ⟨N - 1, by omega⟩
    refine ⟨m, ?_, fun _ _ => rfl, fun _ _ => rfl, ?_⟩
    · rw [f_Sh_copyOrders_l2, if_neg (by simp (disch := omega) only [pu_n_lit, pu_n_add, pu_n_mul, pu_n_sub, pu_n_div, pu_n_nat, pu_q_ltT, pu_q_ltF, pu_q_leT, pu_q_leF, pu_q_eqT, pu_q_eqF, pu_n_lt, pu_n_le, pu_n_eq, pu_p_ltT, pu_p_ltF, pu_p_leT, pu_p_leF, not_true_eq_false, not_false_eq_true, or_false, false_or, or_true, true_or, and_true, true_and, and_false, false_and, ↓reduceIte, pu_b_some]), h5, if_pos (by simp (disch := omega) only [pu_n_lit, pu_n_add, pu_n_mul, pu_n_sub, pu_n_div, pu_n_nat, pu_q_ltT, pu_q_ltF, pu_q_leT, pu_q_leF, pu_q_eqT, pu_q_eqF, pu_n_lt, pu_n_le, pu_n_eq, pu_p_ltT, pu_p_ltF, pu_p_leT, pu_p_leF, not_true_eq_false, not_false_eq_true, or_false, false_or, or_true, true_or, and_true, true_and, and_false, false_and, ↓reduceIte, pu_b_some])]; rfl
    · rw [List.take_of_length_le (by omega)] at pu_hd; exact pu_hd
  | succ t ih =>
    intro n N m hn hN h5 h4 hs pu_hd
    obtain ⟨N, rfl⟩ : ∃ n', N = n' + 1 := ⟨N - 1, by omega⟩
    have hnl : n < fs.length := by omega
    obtain ⟨F, f1, f2, f3⟩ := hs n hnl (by omega)
    have hrow := pu_cp_row (mL := mL) (r2 := f_Sh_copyOrders_l2 N) (to := O + n) (c := c) (by omega) (by omega) hc2 (hw _ (List.getElem_mem hnl)) f2 14 0 tm_F (by omega) (by decide)
    rw [pu_Cp_0] at hrow
    have F1 : f_Sh_copyOrders_l2 (N + 1) (Int32.ofNat x1) (Int32.ofNat c) (Int32.ofNat n) m mL = f_Sh_copyOrders_l2 N (Int32.ofNat x1) (Int32.ofNat c) (Int32.ofNat (n + 1)) (tm_up (pu_Cp m (O + n) (x1 + n) 14) 22 ((O + n) * 14 + 12) (Int32.ofNat (pu_cnum fs[n] c))) mL := by
      rw [f_Sh_copyOrders_l2, if_neg (by simp (disch := omega) only [pu_n_lit, pu_n_add, pu_n_mul, pu_n_sub, pu_n_div, pu_n_nat, pu_q_ltT, pu_q_ltF, pu_q_leT, pu_q_leF, pu_q_eqT, pu_q_eqF, pu_n_lt, pu_n_le, pu_n_eq, pu_p_ltT, pu_p_ltF, pu_p_leT, pu_p_leF, not_true_eq_false, not_false_eq_true, or_false, false_or, or_true, true_or, and_true, true_and, and_false, false_and, ↓reduceIte, pu_b_some]), h5, if_neg (by simp (disch := omega) only [pu_n_lit, pu_n_add, pu_n_mul, pu_n_sub, pu_n_div, pu_n_nat, pu_q_ltT, pu_q_ltF, pu_q_leT, pu_q_leF, pu_q_eqT, pu_q_eqF, pu_n_lt, pu_n_le, pu_n_eq, pu_p_ltT, pu_p_ltF, pu_p_leT, pu_p_leF, not_true_eq_false, not_false_eq_true, or_false, false_or, or_true, true_or, and_true, true_and, and_false, false_and, ↓reduceIte, pu_b_some]), h4, pu_n_add]
      exact hrow
    generalize hm2 : tm_up (pu_Cp m (O + n) (x1 + n) 14) 22 ((O + n) * 14 + 12) (Int32.ofNat (pu_cnum fs[n] c)) = m2 at F1
    have o1 : ∀ a, a ≠ 22 → m2 a = m a := by
      intro a ha; rw [← hm2]; funext b; rw [tm_up_o ha]; unfold pu_Cp; rw [if_neg (fun q => ha q.1)]
    have o2 : ∀ b, b < (O + n) * 14 → m2 22 b = m 22 b := by
      intro b hb; rw [← hm2, tm_up_k (by omega)]; unfold pu_Cp; rw [if_neg (by omega)]
    have o3 : ∀ j, j < 14 → m2 22 ((O + n) * 14 + j) = pu_ordRow (pu_cpO c fs[n]) F j := by
      intro j hj
      rw [← hm2]
      by_cases h12 : j = 12
      · subst h12; rw [tm_up_eq]; rfl
      · rw [tm_up_k (by omega), pu_Cp_in hj, f2 j hj]
        have : j = 0 ∨ j = 1 ∨ j = 2 ∨ j = 3 ∨ j = 4 ∨ j = 5 ∨ j = 6 ∨ j = 7 ∨ j = 8 ∨ j = 9 ∨ j = 10 ∨ j = 11 ∨ j = 13 := by omega
        rcases this with rfl | rfl | rfl | rfl | rfl | rfl | rfl | rfl | rfl | rfl | rfl | rfl | rfl <;> rfl
    have hs2 : pu_CN Fc m2 mL x1 fs := by
      intro i hi hK
      obtain ⟨G, g1, g2, g3⟩ := hs i hi hK
      refine ⟨G, g1, fun j hj => by rw [o2 _ (by omega)]; exact g2 j hj, ?_⟩
      rw [o1 24 (by decide)]; exact g3
    have hd2 : pu_CN Fc m2 mL O ((fs.take (n + 1)).map (pu_cpO c)) := by
      intro i hi hK
      have hi' : i < n + 1 := by simp at hi; omega
      have e : ((fs.take (n + 1)).map (pu_cpO c))[i] = pu_cpO c fs[i] := by simp
      rw [e]
      by_cases hin : i = n
      · subst hin
        exact ⟨F, f1, o3, by rw [o1 24 (by decide)]; exact f3⟩
      · have hi2 : i < ((fs.take n).map (pu_cpO c)).length := by simp; omega
        obtain ⟨G, g1, g2, g3⟩ := pu_hd i hi2 hK
        have e2 : ((fs.take n).map (pu_cpO c))[i] = pu_cpO c fs[i] := by simp
        rw [e2] at g2 g3
        refine ⟨G, g1, fun j hj => by rw [o2 _ (by omega)]; exact g2 j hj, ?_⟩
        rw [o1 24 (by decide)]; exact g3
    obtain ⟨m', a1, a2, a3, a4⟩ := ih (n + 1) N m2 (by omega) (by omega) (by rw [o1 20 (by decide)]; exact h5) (by rw [o1 20 (by decide)]; exact h4) hs2 hd2
    exact ⟨m', F1.trans a1, fun a ha => (a2 a ha).trans (o1 a ha), fun b hb => (a3 b hb).trans (o2 b (by omega)), a4⟩
end CP
abbrev pu_Lb := Int32 × Int32 × Nat × Nat
def pu_lb4 (q : pu_Lb) : Nat → Int32 := fun j => match j with
  | 0 => q.1 | 1 => q.2.1 | 2 => Int32.ofNat q.2.2.1 | _ => Int32.ofNat q.2.2.2
def pu_CLb (m : tm_I) (ls : List pu_Lb) : Prop := ∀ (k : Nat) (h : k < ls.length), ∀ j, j < 4 → m 21 (k * 4 + j) = pu_lb4 ls[k] j
def pu_cpsO (fs : List pu_Od) : Nat → Nat → List pu_Od
  | _, 0 => []
  | c, t + 1 => fs.map (pu_cpO c) ++ pu_cpsO fs (c + 1) t
def pu_cpsL (w h : Int32) (x1 B : Nat) : Nat → Nat → List pu_Lb
  | _, 0 => []
  | c, t + 1 => (w, h, x1 + c * B, B) :: pu_cpsL w h x1 B (c + 1) t
section ENDL
variable {m : tm_I} {mL : tm_L} {Fc : Nat}
theorem pu_sh_addLabel {L B : Nat} (hL : m 20 3 = Int32.ofNat L) (hL2 : L < 12) (hB : m 20 5 = Int32.ofNat B) (w h : Int32) (O : Nat) : ∃ m', f_Sh_addLabel w h (Int32.ofNat O) m mL = some (0, m', mL) ∧ (∀ a, a ≠ 20 → a ≠ 21 → m' a = m a) ∧ (∀ b, b ≠ 3 → m' 20 b = m 20 b) ∧ m' 20 3 = Int32.ofNat (L + 1) ∧ (∀ b, b < L * 4 → m' 21 b = m 21 b) ∧ (∀ j, j < 4 → m' 21 (L * 4 + j) = pu_lb4 (w, h, O, B) j) := by
  refine ⟨tm_up (tm_up (tm_up (tm_up (tm_up m 21 (L * 4) w) 21 (L * 4 + 1) h) 21 (L * 4 + 2) (Int32.ofNat O)) 21 (L * 4 + 3) (Int32.ofNat B)) 20 3 (Int32.ofNat (L + 1)), ?_, ?_, ?_, ?_, ?_, ?_⟩
  · unfold f_Sh_addLabel f_Sh_addLabel_b0 f_Sh_addLabel_b66
    simp (disch := omega) only [pu_n_lit, pu_n_add, pu_n_mul, pu_n_sub, pu_n_div, pu_n_nat, pu_q_ltT, pu_q_ltF, pu_q_leT, pu_q_leF, pu_q_eqT, pu_q_eqF, pu_n_lt, pu_n_le, pu_n_eq, pu_p_ltT, pu_p_ltF, pu_p_leT, pu_p_leF, not_true_eq_false, not_false_eq_true, or_false, false_or, or_true, true_or, and_true, true_and, and_false, false_and, ↓reduceIte, pu_b_some, hL, hB, tm_up_o]
  · intro a q1 q2; funext b; rw [tm_up_o q1, tm_up_o q2, tm_up_o q2, tm_up_o q2, tm_up_o q2]
  · intro b q; rw [tm_up_k q, tm_up_o (by decide), tm_up_o (by decide), tm_up_o (by decide), tm_up_o (by decide)]
  · rw [tm_up_eq]
  · intro b q; rw [tm_up_o (by decide), tm_up_k (by omega), tm_up_k (by omega), tm_up_k (by omega), tm_up_k (by omega)]
  · intro j hj
    have : j = 0 ∨ j = 1 ∨ j = 2 ∨ j = 3 := by omega
    rcases this with rfl | rfl | rfl | rfl <;> simp [tm_up, pu_lb4]
theorem pu_cp_zero (x1 : Int32) : f_Sh_copyOrders x1 (Int32.ofNat 0) m mL = some (0, m, mL) := by
  unfold f_Sh_copyOrders f_Sh_copyOrders_b0
  rw [show tm_F = 99999 + 1 from rfl, f_Sh_copyOrders_l2, if_pos (by decide)]; rfl
theorem pu_CN.fr {m' : tm_I} {mL' : tm_L} {K : Nat} {os : List pu_Od} (h : pu_CN Fc m mL K os) (h22 : m' 22 = m 22) (h24 : m' 24 = m 24) (h25 : mL' 25 = mL 25) : pu_CN Fc m' mL' K os := by
  unfold pu_CN; rw [h22, h24, h25]; exact h
theorem pu_sh_end1 {x1 B cp : Nat} {w h : Int32} {fs : List pu_Od} (hfs : fs.length = B) (hw : ∀ o ∈ fs, pu_WO o) (hcp : cp ≤ 12) (hO : x1 + B * cp ≤ 120) : ∀ (t c N : Nat) (m : tm_I) (os : List pu_Od) (ls : List pu_Lb), t + c = cp → t < N → ls.length + t ≤ 12 → os.length = x1 + c * B → m 20 3 = Int32.ofNat ls.length → m 20 4 = Int32.ofNat os.length → m 20 5 = Int32.ofNat B → pu_CN Fc m mL 0 os → pu_CN Fc m mL x1 fs → pu_CLb m ls →
    ∃ m', f_Sh_endLabel_l38 N w h (Int32.ofNat cp) (Int32.ofNat x1) (Int32.ofNat c) m mL = some (1, m', mL) ∧ (∀ a, a ≠ 20 → a ≠ 21 → a ≠ 22 → m' a = m a) ∧ (∀ b, b ≠ 3 → b ≠ 4 → b ≠ 5 → m' 20 b = m 20 b) ∧ m' 20 3 = Int32.ofNat (ls ++ pu_cpsL w h x1 B c t).length ∧ m' 20 4 = Int32.ofNat (os ++ pu_cpsO fs c t).length ∧ m' 20 5 = 0 ∧ pu_CN Fc m' mL 0 (os ++ pu_cpsO fs c t) ∧ pu_CLb m' (ls ++ pu_cpsL w h x1 B c t) := by
  intro t
  induction t with
  | zero =>
    intro c N m os ls hc hN hl ho h3 h4 h5 hos hsrc hls
    obtain ⟨N, rfl⟩ : ∃ n', N = n' + 1 := ⟨N - 1, by omega⟩
    refine ⟨tm_up m 20 5 0, ?_, fun a q _ _ => by funext b; exact tm_up_o q, fun b _ _ q => tm_up_k q, ?_, ?_, tm_up_eq _ _ _ _, ?_, ?_⟩
    · rw [f_Sh_endLabel_l38, if_pos (by simp (disch := omega) only [pu_n_lit, pu_n_add, pu_n_mul, pu_n_sub, pu_n_div, pu_n_nat, pu_q_ltT, pu_q_ltF, pu_q_leT, pu_q_leF, pu_q_eqT, pu_q_eqF, pu_n_lt, pu_n_le, pu_n_eq, pu_p_ltT, pu_p_ltF, pu_p_leT, pu_p_leF, not_true_eq_false, not_false_eq_true, or_false, false_or, or_true, true_or, and_true, true_and, and_false, false_and, ↓reduceIte, pu_b_some])]
    · rw [tm_up_k (by decide), h3]; simp [pu_cpsL]
    · rw [tm_up_k (by decide), h4]; simp [pu_cpsO]
    · simp only [pu_cpsO, List.append_nil]
      exact hos.fr (by funext b; exact tm_up_o (by decide)) (by funext b; exact tm_up_o (by decide)) rfl
    · simp only [pu_cpsL, List.append_nil]
      intro k hk j hj; rw [tm_up_o (by decide)]; exact hls k hk j hj
  | succ t ih =>
    intro c N m os ls hc hN hl ho h3 h4 h5 hos hsrc hls
    obtain ⟨N, rfl⟩ : ∃ n', N = n' + 1 := ⟨N - 1, by omega⟩
    have hcB : x1 + (c + 1) * B ≤ 120 := by
      have : (c + 1) * B ≤ cp * B := Nat.mul_le_mul_right B (by omega)
      rw [Nat.mul_comm cp B] at this; omega
    have hcB' : (c + 1) * B = c * B + B := by rw [Nat.add_mul]; omega
    obtain ⟨m1, a1, a2, a3, a4, a5, a6⟩ := pu_sh_addLabel (mL := mL) h3 (by omega) h5 w h os.length
    have hos1 : pu_CN Fc m1 mL 0 os := hos.fr (a2 22 (by decide) (by decide)) (a2 24 (by decide) (by decide)) rfl
    have hsrc1 : pu_CN Fc m1 mL x1 fs := hsrc.fr (a2 22 (by decide) (by decide)) (a2 24 (by decide) (by decide)) rfl
    obtain ⟨m2, b1, b2, b3, b4⟩ : ∃ m2, f_Sh_copyOrders (Int32.ofNat x1) (Int32.ofNat c) m1 mL = some (0, m2, mL) ∧ (∀ a, a ≠ 22 → m2 a = m1 a) ∧ (∀ b, b < os.length * 14 → m2 22 b = m1 22 b) ∧ pu_CN Fc m2 mL os.length (fs.map (pu_cpO c)) := by
      by_cases h0 : c = 0
      · subst h0
        refine ⟨m1, pu_cp_zero _, fun _ _ => rfl, fun _ _ => rfl, ?_⟩
        have e : fs.map (pu_cpO 0) = fs := by
          have : fs.map (pu_cpO 0) = fs.map id := List.map_congr_left (fun o ho => pu_cpO_0 (hw o ho))
          rw [this, List.map_id]
        rw [e, ho, Nat.zero_mul, Nat.add_zero]; exact hsrc1
      · have hBc : B ≤ c * B := Nat.le_mul_of_pos_left B (by omega)
        obtain ⟨m2, b1, b2, b3, b4⟩ := pu_cp_all (mL := mL) (c := c) (O := os.length) hfs hw (by omega) (by omega) (by omega) (by omega) B 0 tm_F m1 (by omega) (by unfold tm_F; omega) (by rw [a3 5 (by decide)]; exact h5) (by rw [a3 4 (by decide)]; exact h4) hsrc1 (by intro i hi; simp at hi)
        exact ⟨m2, b1, b2, b3, b4⟩
    have F1 : f_Sh_endLabel_l38 (N + 1) w h (Int32.ofNat cp) (Int32.ofNat x1) (Int32.ofNat c) m mL = f_Sh_endLabel_l38 N w h (Int32.ofNat cp) (Int32.ofNat x1) (Int32.ofNat (c + 1)) (tm_up m2 20 4 (Int32.ofNat (os.length + B))) mL := by
      rw [f_Sh_endLabel_l38, if_neg (by simp (disch := omega) only [pu_n_lit, pu_n_add, pu_n_mul, pu_n_sub, pu_n_div, pu_n_nat, pu_q_ltT, pu_q_ltF, pu_q_leT, pu_q_leF, pu_q_eqT, pu_q_eqF, pu_n_lt, pu_n_le, pu_n_eq, pu_p_ltT, pu_p_ltF, pu_p_leT, pu_p_leF, not_true_eq_false, not_false_eq_true, or_false, false_or, or_true, true_or, and_true, true_and, and_false, false_and, ↓reduceIte, pu_b_some]), h4, a1, pu_b_some]
      simp only []
      rw [b1, pu_b_some]
      simp only []
      rw [b2 20 (by decide), a3 4 (by decide), a3 5 (by decide), h4, h5, pu_n_add, pu_n_lit 1, pu_n_add]
    have hos2 : pu_CN Fc m2 mL 0 os := by
      intro i hi hK
      obtain ⟨G, g1, g2, g3⟩ := hos1 i hi hK
      exact ⟨G, g1, fun j hj => by rw [b3 _ (by omega)]; exact g2 j hj, by rw [b2 24 (by decide)]; exact g3⟩
    have hsrc2 : pu_CN Fc m2 mL x1 fs := by
      intro i hi hK
      by_cases h0 : c = 0
      · subst h0
        have hi2 : i < (fs.map (pu_cpO 0)).length := by simp; exact hi
        have := b4 i hi2 (by rw [ho, Nat.zero_mul]; exact hK)
        rw [List.getElem_map, pu_cpO_0 (hw _ (List.getElem_mem hi)), ho, Nat.zero_mul, Nat.add_zero] at this
        exact this
      · have hBc : B ≤ c * B := Nat.le_mul_of_pos_left B (by omega)
        obtain ⟨G, g1, g2, g3⟩ := hsrc1 i hi hK
        exact ⟨G, g1, fun j hj => by rw [b3 _ (by omega)]; exact g2 j hj, by rw [b2 24 (by decide)]; exact g3⟩
    generalize hm3 : tm_up m2 20 4 (Int32.ofNat (os.length + B)) = m3 at F1
    have e3 : ∀ a, a ≠ 20 → m3 a = m2 a := fun a ha => by rw [← hm3]; funext b; exact tm_up_o ha
    have hcat : pu_CN Fc m3 mL 0 (os ++ fs.map (pu_cpO c)) := by
      have : pu_CN Fc m2 mL 0 (os ++ fs.map (pu_cpO c)) := hos2.app (by rw [Nat.zero_add]; exact b4)
      exact this.fr (e3 22 (by decide)) (e3 24 (by decide)) rfl
    have hls3 : pu_CLb m3 (ls ++ [(w, h, x1 + c * B, B)]) := by
      intro k hk j hj
      rw [e3 21 (by decide), b2 21 (by decide)]
      rw [List.length_append, List.length_singleton] at hk
      by_cases hkl : k < ls.length
      · rw [a5 _ (by omega), List.getElem_append_left hkl]; exact hls k hkl j hj
      · have : k = ls.length := by omega
        subst this
        rw [a6 j hj, List.getElem_append_right (by omega), ho]
        simp
    obtain ⟨m', c1, c2, c3, c4, c5, c6, c7, c8⟩ := ih (c + 1) N m3 (os ++ fs.map (pu_cpO c)) (ls ++ [(w, h, x1 + c * B, B)]) (by omega) (by omega) (by simp; omega) (by simp; omega) (by rw [← hm3, tm_up_k (by decide), b2 20 (by decide), a4]; simp) (by rw [← hm3, tm_up_eq]; simp [hfs]) (by rw [← hm3, tm_up_k (by decide), b2 20 (by decide), a3 5 (by decide)]; exact h5) hcat (hsrc2.fr (e3 22 (by decide)) (e3 24 (by decide)) rfl) hls3
    have eO : os ++ fs.map (pu_cpO c) ++ pu_cpsO fs (c + 1) t = os ++ pu_cpsO fs c (t + 1) := by rw [pu_cpsO, List.append_assoc]
    have eL : ls ++ [(w, h, x1 + c * B, B)] ++ pu_cpsL w h x1 B (c + 1) t = ls ++ pu_cpsL w h x1 B c (t + 1) := by rw [pu_cpsL, List.append_assoc]; rfl
    rw [eO] at c5 c7
    rw [eL] at c4 c8
    refine ⟨m', F1.trans c1, fun a q1 q2 q3 => ?_, fun b q1 q2 q3 => ?_, c4, c5, c6, c7, c8⟩
    · rw [c2 a q1 q2 q3, e3 a q1, b2 a q3, a2 a q1 q2]
    · rw [c3 b q1 q2 q3, ← hm3, tm_up_k q2, b2 20 (by decide), a3 b q1]
theorem pu_sh_end {B cp : Nat} {w h : Int32} {fs os : List pu_Od} {ls : List pu_Lb} (hfs : fs.length = B) (hB : B ≤ 1000) (hw : ∀ o ∈ fs, pu_WO o) (hcp : cp ≤ 12) (hls : ls.length ≤ 12) (hos : os.length ≤ 120) (h3 : m 20 3 = Int32.ofNat ls.length) (h4 : m 20 4 = Int32.ofNat os.length) (h5 : m 20 5 = Int32.ofNat B) (c1 : pu_CN Fc m mL 0 os) (c2 : pu_CN Fc m mL os.length fs) (c3 : pu_CLb m ls) :
    (¬ (ls.length + cp ≤ 12 ∧ os.length + B * cp ≤ 120) ∧ f_Sh_endLabel w h (Int32.ofNat cp) m mL = some (0, m, mL)) ∨
    ((ls.length + cp ≤ 12 ∧ os.length + B * cp ≤ 120) ∧ ∃ m', f_Sh_endLabel w h (Int32.ofNat cp) m mL = some (1, m', mL) ∧ (∀ a, a ≠ 20 → a ≠ 21 → a ≠ 22 → m' a = m a) ∧ (∀ b, b ≠ 3 → b ≠ 4 → b ≠ 5 → m' 20 b = m 20 b) ∧ m' 20 3 = Int32.ofNat (ls ++ pu_cpsL w h os.length B 0 cp).length ∧ m' 20 4 = Int32.ofNat (os ++ pu_cpsO fs 0 cp).length ∧ m' 20 5 = 0 ∧ pu_CN Fc m' mL 0 (os ++ pu_cpsO fs 0 cp) ∧ pu_CLb m' (ls ++ pu_cpsL w h os.length B 0 cp)) := by
  have hBc : B * cp ≤ 1000 * 12 := Nat.mul_le_mul hB hcp
  unfold f_Sh_endLabel f_Sh_endLabel_b0 f_Sh_endLabel_b27
  rw [h3, h4, h5, pu_n_add, pu_n_mul, pu_n_add]
  by_cases q1 : ls.length + cp ≤ 12
  · by_cases q2 : os.length + B * cp ≤ 120
    · right
      refine ⟨⟨q1, q2⟩, ?_⟩
      rw [if_neg (by simp (disch := omega) only [pu_n_lit, pu_n_add, pu_n_mul, pu_n_sub, pu_n_div, pu_n_nat, pu_q_ltT, pu_q_ltF, pu_q_leT, pu_q_leF, pu_q_eqT, pu_q_eqF, pu_n_lt, pu_n_le, pu_n_eq, pu_p_ltT, pu_p_ltF, pu_p_leT, pu_p_leF, not_true_eq_false, not_false_eq_true, or_false, false_or, or_true, true_or, and_true, true_and, and_false, false_and, ↓reduceIte, pu_b_some]), if_pos (by simp (disch := omega) only [pu_n_lit, pu_n_add, pu_n_mul, pu_n_sub, pu_n_div, pu_n_nat, pu_q_ltT, pu_q_ltF, pu_q_leT, pu_q_leF, pu_q_eqT, pu_q_eqF, pu_n_lt, pu_n_le, pu_n_eq, pu_p_ltT, pu_p_ltF, pu_p_leT, pu_p_leF, not_true_eq_false, not_false_eq_true, or_false, false_or, or_true, true_or, and_true, true_and, and_false, false_and, ↓reduceIte, pu_b_some])]
      exact pu_sh_end1 hfs hw hcp q2 cp 0 tm_F m os ls (by omega) (by unfold tm_F; omega) q1 (by simp) h3 h4 h5 c1 c2 c3
    · left
      refine ⟨fun q => q2 q.2, ?_⟩
      rw [if_neg (by simp (disch := omega) only [pu_n_lit, pu_n_add, pu_n_mul, pu_n_sub, pu_n_div, pu_n_nat, pu_q_ltT, pu_q_ltF, pu_q_leT, pu_q_leF, pu_q_eqT, pu_q_eqF, pu_n_lt, pu_n_le, pu_n_eq, pu_p_ltT, pu_p_ltF, pu_p_leT, pu_p_leF, not_true_eq_false, not_false_eq_true, or_false, false_or, or_true, true_or, and_true, true_and, and_false, false_and, ↓reduceIte, pu_b_some]), if_neg (by simp (disch := omega) only [pu_n_lit, pu_n_add, pu_n_mul, pu_n_sub, pu_n_div, pu_n_nat, pu_q_ltT, pu_q_ltF, pu_q_leT, pu_q_leF, pu_q_eqT, pu_q_eqF, pu_n_lt, pu_n_le, pu_n_eq, pu_p_ltT, pu_p_ltF, pu_p_leT, pu_p_leF, not_true_eq_false, not_false_eq_true, or_false, false_or, or_true, true_or, and_true, true_and, and_false, false_and, ↓reduceIte, pu_b_some])]
  · left
    refine ⟨fun q => q1 q.1, ?_⟩
    rw [if_pos (by simp (disch := omega) only [pu_n_lit, pu_n_add, pu_n_mul, pu_n_sub, pu_n_div, pu_n_nat, pu_q_ltT, pu_q_ltF, pu_q_leT, pu_q_leF, pu_q_eqT, pu_q_eqF, pu_n_lt, pu_n_le, pu_n_eq, pu_p_ltT, pu_p_ltF, pu_p_leT, pu_p_leF, not_true_eq_false, not_false_eq_true, or_false, false_or, or_true, true_or, and_true, true_and, and_false, false_and, ↓reduceIte, pu_b_some])]
end ENDL
abbrev pu_Sp : Type := (Nat) × (Nat → List Int32) × (Int32) × (Nat) × (Nat → List Int32) × (Nat → List Int32) × (Bool) × (Int32) × (Int32) × (Int32) × (Int32) × (Nat) × (Nat → Int32) × (Int32) × (Int32) × (Int32) × (Bool) × (Bool) × (Int32) × (List Int32) × (Nat → Int32) × (List pu_Fd) × (List pu_Od) × (List pu_Lb)
abbrev pu_Sp.d (s_ : pu_Sp) : Nat := s_.1
abbrev pu_Sp.lv (s_ : pu_Sp) : Nat → List Int32 := s_.2.1
abbrev pu_Sp.outer (s_ : pu_Sp) : Int32 := s_.2.2.1
abbrev pu_Sp.cmds (s_ : pu_Sp) : Nat := s_.2.2.2.1
abbrev pu_Sp.F (s_ : pu_Sp) : Nat → List Int32 := s_.2.2.2.2.1
abbrev pu_Sp.V (s_ : pu_Sp) : Nat → List Int32 := s_.2.2.2.2.2.1
abbrev pu_Sp.opn (s_ : pu_Sp) : Bool := s_.2.2.2.2.2.2.1
abbrev pu_Sp.w (s_ : pu_Sp) : Int32 := s_.2.2.2.2.2.2.2.1
abbrev pu_Sp.h (s_ : pu_Sp) : Int32 := s_.2.2.2.2.2.2.2.2.1
abbrev pu_Sp.hx (s_ : pu_Sp) : Int32 := s_.2.2.2.2.2.2.2.2.2.1
abbrev pu_Sp.hy (s_ : pu_Sp) : Int32 := s_.2.2.2.2.2.2.2.2.2.2.1
abbrev pu_Sp.cp (s_ : pu_Sp) : Nat := s_.2.2.2.2.2.2.2.2.2.2.2.1
abbrev pu_Sp.tx (s_ : pu_Sp) : Nat → Int32 := s_.2.2.2.2.2.2.2.2.2.2.2.2.1
abbrev pu_Sp.lt (s_ : pu_Sp) : Int32 := s_.2.2.2.2.2.2.2.2.2.2.2.2.2.1
abbrev pu_Sp.fx (s_ : pu_Sp) : Int32 := s_.2.2.2.2.2.2.2.2.2.2.2.2.2.2.1
abbrev pu_Sp.fy (s_ : pu_Sp) : Int32 := s_.2.2.2.2.2.2.2.2.2.2.2.2.2.2.2.1
abbrev pu_Sp.t (s_ : pu_Sp) : Bool := s_.2.2.2.2.2.2.2.2.2.2.2.2.2.2.2.2.1
abbrev pu_Sp.cnt (s_ : pu_Sp) : Bool := s_.2.2.2.2.2.2.2.2.2.2.2.2.2.2.2.2.2.1
abbrev pu_Sp.sp (s_ : pu_Sp) : Int32 := s_.2.2.2.2.2.2.2.2.2.2.2.2.2.2.2.2.2.2.1
abbrev pu_Sp.D (s_ : pu_Sp) : List Int32 := s_.2.2.2.2.2.2.2.2.2.2.2.2.2.2.2.2.2.2.2.1
abbrev pu_Sp.sh (s_ : pu_Sp) : Nat → Int32 := s_.2.2.2.2.2.2.2.2.2.2.2.2.2.2.2.2.2.2.2.2.1
abbrev pu_Sp.fs (s_ : pu_Sp) : List pu_Fd := s_.2.2.2.2.2.2.2.2.2.2.2.2.2.2.2.2.2.2.2.2.2.1
abbrev pu_Sp.os (s_ : pu_Sp) : List pu_Od := s_.2.2.2.2.2.2.2.2.2.2.2.2.2.2.2.2.2.2.2.2.2.2.1
abbrev pu_Sp.ls (s_ : pu_Sp) : List pu_Lb := s_.2.2.2.2.2.2.2.2.2.2.2.2.2.2.2.2.2.2.2.2.2.2.2
abbrev pu_Sp.mk_ (a0 : Nat) (a1 : Nat → List Int32) (a2 : Int32) (a3 : Nat) (a4 : Nat → List Int32) (a5 : Nat → List Int32) (a6 : Bool) (a7 : Int32) (a8 : Int32) (a9 : Int32) (a10 : Int32) (a11 : Nat) (a12 : Nat → Int32) (a13 : Int32) (a14 : Int32) (a15 : Int32) (a16 : Bool) (a17 : Bool) (a18 : Int32) (a19 : List Int32) (a20 : Nat → Int32) (a21 : List pu_Fd) (a22 : List pu_Od) (a23 : List pu_Lb) : pu_Sp := (a0, a1, a2, a3, a4, a5, a6, a7, a8, a9, a10, a11, a12, a13, a14, a15, a16, a17, a18, a19, a20, a21, a22, a23)
def pu_fl (g : Nat → List Int32) (i : Nat) (v : List Int32) : Nat → List Int32 := fun b => if b = i then v else g b
def pu_recOf (s : pu_Sp) : pu_Fd := ⟨s.lt, s.hx + s.fx, s.hy + s.fy, s.t, s.sh, s.tx, s.D, s.cnt, s.sp⟩
def pu_opens (s : pu_Sp) : List pu_Od := s.fs.flatMap pu_ords
def pu_vz : Nat → Int32 := fun _ => 0
def pu_presS (s : pu_Sp) (l : Int32) : Nat → Int32 := if l = 84 then pu_fu4 pu_vz (s.tx 0) (s.tx 1) (s.tx 2) (s.tx 3) else pu_fu4 pu_vz (pu_pre (pu_rgi l) 0) (pu_pre (pu_rgi l) 1) (pu_pre (pu_rgi l) 2) (pu_pre (pu_rgi l) 3)
def pu_takeN (s : pu_Sp) (l : Int32) (cs : List Int32) : Int32 ⊕ ((Nat → Int32) × List Int32) := if pu_rgi l = 14 then .inr (pu_vz, cs) else pu_spTake (pu_rgi l) l (pu_presS s l) cs
def pu_dataN (l : Int32) (cs : List Int32) : Option (List Int32 × List Int32) := if l = 75 ∨ l = 88 then pu_spData 201 [] cs else some ([], cs)
def pu_newF (s : pu_Sp) : pu_Sp := (pu_Sp.mk_ s.d s.lv s.outer s.cmds s.F s.V s.opn s.w s.h s.hx s.hy s.cp s.tx (-1) (0) (0) (false) (false) (0) ([]) s.sh s.fs s.os s.ls)
def pu_onL (s : pu_Sp) (cs : List Int32) : pu_Sp := (pu_Sp.mk_ s.d (pu_fl s.lv s.d cs) s.outer s.cmds s.F s.V s.opn s.w s.h s.hx s.hy s.cp s.tx s.lt s.fx s.fy s.t s.cnt s.sp s.D s.sh s.fs s.os s.ls)
def pu_act (s : pu_Sp) (l : Int32) (vs : Nat → Int32) (dd cs : List Int32) (at_ : Int32) : Int32 ⊕ pu_Sp :=
  if l = 83 then match pu_spFind cs 0 with
    | none => .inl 7
    | some k => if 400 < k then .inl 7 else .inr (pu_Sp.mk_ s.d (pu_fl s.lv s.d (cs.drop (k + 2))) s.outer s.cmds (pu_fl s.F (vs 0).toNatClampNeg (cs.take k)) s.V s.opn s.w s.h s.hx s.hy s.cp s.tx s.lt s.fx s.fy s.t s.cnt s.sp s.D s.sh s.fs s.os s.ls)
  else if l = 75 then .inr (pu_Sp.mk_ (pu_onL s cs).d (pu_onL s cs).lv (pu_onL s cs).outer (pu_onL s cs).cmds (pu_onL s cs).F (pu_fl s.V (vs 0).toNatClampNeg dd) (pu_onL s cs).opn (pu_onL s cs).w (pu_onL s cs).h (pu_onL s cs).hx (pu_onL s cs).hy (pu_onL s cs).cp (pu_onL s cs).tx (pu_onL s cs).lt (pu_onL s cs).fx (pu_onL s cs).fy (pu_onL s cs).t (pu_onL s cs).cnt (pu_onL s cs).sp (pu_onL s cs).D (pu_onL s cs).sh (pu_onL s cs).fs (pu_onL s cs).os (pu_onL s cs).ls)
  else if l = 76 then .inr (pu_newF (pu_Sp.mk_ (pu_onL s cs).d (pu_onL s cs).lv (pu_onL s cs).outer (pu_onL s cs).cmds (pu_onL s cs).F (pu_onL s cs).V (true) (vs 0) (vs 1) (0) (0) (1) (pu_fu4 pu_vz 0 1 1 0) (pu_onL s cs).lt (pu_onL s cs).fx (pu_onL s cs).fy (pu_onL s cs).t (pu_onL s cs).cnt (pu_onL s cs).sp (pu_onL s cs).D (pu_onL s cs).sh ([]) (pu_onL s cs).os (pu_onL s cs).ls))
  else if l = 69 then if ¬ (s.ls.length + s.cp ≤ 12 ∧ s.os.length + (pu_opens s).length * s.cp ≤ 120) then .inl 10 else .inr (pu_Sp.mk_ (pu_onL s cs).d (pu_onL s cs).lv (pu_onL s cs).outer (pu_onL s cs).cmds (pu_onL s cs).F (pu_onL s cs).V (false) (pu_onL s cs).w (pu_onL s cs).h (pu_onL s cs).hx (pu_onL s cs).hy (pu_onL s cs).cp (pu_onL s cs).tx (pu_onL s cs).lt (pu_onL s cs).fx (pu_onL s cs).fy (pu_onL s cs).t (pu_onL s cs).cnt (pu_onL s cs).sp (pu_onL s cs).D (pu_onL s cs).sh ([]) (s.os ++ pu_cpsO (pu_opens s) 0 s.cp) (s.ls ++ pu_cpsL s.w s.h s.os.length (pu_opens s).length 0 s.cp))
  else if l = 85 then if s.F (vs 0).toNatClampNeg = [] ∨ 4 ≤ s.d then .inl 9 else .inr (pu_Sp.mk_ (s.d + 1) (pu_fl (pu_fl s.lv s.d cs) (s.d + 1) (s.F (vs 0).toNatClampNeg)) (at_) s.cmds s.F s.V s.opn s.w s.h s.hx s.hy s.cp s.tx s.lt s.fx s.fy s.t s.cnt s.sp s.D s.sh s.fs s.os s.ls)
  else if l = 88 then .inr (pu_Sp.mk_ (pu_onL s cs).d (pu_onL s cs).lv (pu_onL s cs).outer (pu_onL s cs).cmds (pu_onL s cs).F (pu_onL s cs).V (pu_onL s cs).opn (pu_onL s cs).w (pu_onL s cs).h (pu_onL s cs).hx (pu_onL s cs).hy (pu_onL s cs).cp (pu_onL s cs).tx (pu_onL s cs).lt (pu_onL s cs).fx (pu_onL s cs).fy (pu_onL s cs).t (pu_onL s cs).cnt (pu_onL s cs).sp (dd) (pu_onL s cs).sh (pu_onL s cs).fs (pu_onL s cs).os (pu_onL s cs).ls)
  else if l = 86 then .inr (pu_Sp.mk_ (pu_onL s cs).d (pu_onL s cs).lv (pu_onL s cs).outer (pu_onL s cs).cmds (pu_onL s cs).F (pu_onL s cs).V (pu_onL s cs).opn (pu_onL s cs).w (pu_onL s cs).h (pu_onL s cs).hx (pu_onL s cs).hy (pu_onL s cs).cp (pu_onL s cs).tx (pu_onL s cs).lt (pu_onL s cs).fx (pu_onL s cs).fy (pu_onL s cs).t (pu_onL s cs).cnt (pu_onL s cs).sp (s.V (vs 0).toNatClampNeg) (pu_onL s cs).sh (pu_onL s cs).fs (pu_onL s cs).os (pu_onL s cs).ls)
  else if l = 59 then if pu_fitF (pu_recOf s) = false ∨ pu_okF (pu_recOf s) = false then .inl 8 else if 120 < (pu_opens s).length + (pu_ords (pu_recOf s)).length then .inl 10 else .inr (pu_newF (pu_Sp.mk_ (pu_onL s cs).d (pu_onL s cs).lv (pu_onL s cs).outer (pu_onL s cs).cmds (pu_onL s cs).F (pu_onL s cs).V (pu_onL s cs).opn (pu_onL s cs).w (pu_onL s cs).h (pu_onL s cs).hx (pu_onL s cs).hy (pu_onL s cs).cp (pu_onL s cs).tx (pu_onL s cs).lt (pu_onL s cs).fx (pu_onL s cs).fy (pu_onL s cs).t (pu_onL s cs).cnt (pu_onL s cs).sp (pu_onL s cs).D (pu_onL s cs).sh (s.fs ++ [pu_recOf s]) (pu_onL s cs).os (pu_onL s cs).ls))
  else if l = 35 then .inr (pu_Sp.mk_ (pu_onL s cs).d (pu_onL s cs).lv (pu_onL s cs).outer (pu_onL s cs).cmds (pu_onL s cs).F (pu_onL s cs).V (pu_onL s cs).opn (pu_onL s cs).w (pu_onL s cs).h (pu_onL s cs).hx (pu_onL s cs).hy (pu_onL s cs).cp (pu_onL s cs).tx (pu_onL s cs).lt (pu_onL s cs).fx (pu_onL s cs).fy (pu_onL s cs).t (true) (vs 0) (pu_onL s cs).D (pu_onL s cs).sh (pu_onL s cs).fs (pu_onL s cs).os (pu_onL s cs).ls)
  else if l = 67 then .inr (pu_Sp.mk_ (pu_onL s cs).d (pu_onL s cs).lv (pu_onL s cs).outer (pu_onL s cs).cmds (pu_onL s cs).F (pu_onL s cs).V (pu_onL s cs).opn (pu_onL s cs).w (pu_onL s cs).h (pu_onL s cs).hx (pu_onL s cs).hy ((vs 0).toNatClampNeg) (pu_onL s cs).tx (pu_onL s cs).lt (pu_onL s cs).fx (pu_onL s cs).fy (pu_onL s cs).t (pu_onL s cs).cnt (pu_onL s cs).sp (pu_onL s cs).D (pu_onL s cs).sh (pu_onL s cs).fs (pu_onL s cs).os (pu_onL s cs).ls)
  else if l = 68 then .inr (pu_Sp.mk_ (pu_onL s cs).d (pu_onL s cs).lv (pu_onL s cs).outer (pu_onL s cs).cmds (pu_onL s cs).F (pu_onL s cs).V (pu_onL s cs).opn (pu_onL s cs).w (pu_onL s cs).h (pu_onL s cs).hx (pu_onL s cs).hy (pu_onL s cs).cp (vs) (pu_onL s cs).lt (pu_onL s cs).fx (pu_onL s cs).fy (pu_onL s cs).t (pu_onL s cs).cnt (pu_onL s cs).sp (pu_onL s cs).D (pu_onL s cs).sh (pu_onL s cs).fs (pu_onL s cs).os (pu_onL s cs).ls)
  else if l = 72 then .inr (pu_Sp.mk_ (pu_onL s cs).d (pu_onL s cs).lv (pu_onL s cs).outer (pu_onL s cs).cmds (pu_onL s cs).F (pu_onL s cs).V (pu_onL s cs).opn (pu_onL s cs).w (pu_onL s cs).h (vs 0) (vs 1) (pu_onL s cs).cp (pu_onL s cs).tx (pu_onL s cs).lt (pu_onL s cs).fx (pu_onL s cs).fy (pu_onL s cs).t (pu_onL s cs).cnt (pu_onL s cs).sp (pu_onL s cs).D (pu_onL s cs).sh (pu_onL s cs).fs (pu_onL s cs).os (pu_onL s cs).ls)
  else if l = 79 then .inr (pu_Sp.mk_ (pu_onL s cs).d (pu_onL s cs).lv (pu_onL s cs).outer (pu_onL s cs).cmds (pu_onL s cs).F (pu_onL s cs).V (pu_onL s cs).opn (pu_onL s cs).w (pu_onL s cs).h (pu_onL s cs).hx (pu_onL s cs).hy (pu_onL s cs).cp (pu_onL s cs).tx (pu_onL s cs).lt (vs 0) (vs 1) (pu_onL s cs).t (pu_onL s cs).cnt (pu_onL s cs).sp (pu_onL s cs).D (pu_onL s cs).sh (pu_onL s cs).fs (pu_onL s cs).os (pu_onL s cs).ls)
  else if l = 82 then .inr (pu_Sp.mk_ (pu_onL s cs).d (pu_onL s cs).lv (pu_onL s cs).outer (pu_onL s cs).cmds (pu_onL s cs).F (pu_onL s cs).V (pu_onL s cs).opn (pu_onL s cs).w (pu_onL s cs).h (pu_onL s cs).hx (pu_onL s cs).hy (pu_onL s cs).cp (pu_onL s cs).tx (pu_onL s cs).lt (pu_onL s cs).fx (pu_onL s cs).fy (true) (pu_onL s cs).cnt (pu_onL s cs).sp (pu_onL s cs).D (pu_onL s cs).sh (pu_onL s cs).fs (pu_onL s cs).os (pu_onL s cs).ls)
  else .inr (pu_Sp.mk_ (pu_onL s cs).d (pu_onL s cs).lv (pu_onL s cs).outer (pu_onL s cs).cmds (pu_onL s cs).F (pu_onL s cs).V (pu_onL s cs).opn (pu_onL s cs).w (pu_onL s cs).h (pu_onL s cs).hx (pu_onL s cs).hy (pu_onL s cs).cp (pu_onL s cs).tx (l) (pu_onL s cs).fx (pu_onL s cs).fy (pu_onL s cs).t (pu_onL s cs).cnt (pu_onL s cs).sp (pu_onL s cs).D (vs) (pu_onL s cs).fs (pu_onL s cs).os (pu_onL s cs).ls)
def pu_isLet (l : Int32) : Bool := pu_idx (tm_tx 0) l || pu_idx (tm_tx 1) l
def pu_may (s : pu_Sp) (l : Int32) : Bool := if s.opn = false then pu_idx (tm_tx 0) l else if l = 69 then decide (s.d = 0) else if l = 59 then decide (s.lt ≠ -1) else pu_idx (tm_tx 1) l
def pu_cmd (s : pu_Sp) (l : Int32) (cs : List Int32) (at_ : Int32) : Int32 ⊕ pu_Sp :=
  if pu_isLet l = false then .inl 2 else if pu_may s l = false then .inl 3 else
  match pu_takeN s l cs with
  | .inl c => .inl c
  | .inr (vs, cs1) => match pu_dataN l cs1 with
    | none => .inl 6
    | some (dd, cs2) => match pu_act s l vs dd cs2 at_ with
      | .inl c => .inl c
      | .inr s' => if 2000 ≤ s.cmds then .inl 10 else .inr s'
def pu_ag4 (u v : Nat → Int32) : Prop := ∀ k, k < 4 → u k = v k
theorem pu_ag4_fu {u v : Nat → Int32} (h : pu_ag4 u v) (i : Nat) (x : Int32) : pu_ag4 (pu_fu u i x) (pu_fu v i x) := by
  intro k hk; unfold pu_fu; split
  · rfl
  · exact h k hk
theorem pu_ag4_fu4 (u v : Nat → Int32) (a b c d : Int32) : pu_ag4 (pu_fu4 u a b c d) (pu_fu4 v a b c d) := by
  intro k hk
  have : k = 0 ∨ k = 1 ∨ k = 2 ∨ k = 3 := by omega
  rcases this with rfl | rfl | rfl | rfl <;> rfl
theorem pu_nums_ag : ∀ (t i : Nat) (u v : Nat → Int32) (cs : List Int32), t + i ≤ 4 → pu_ag4 u v → (pu_spNums t i u cs = none ∧ pu_spNums t i v cs = none) ∨ ∃ u' v' r, pu_spNums t i u cs = some (u', r) ∧ pu_spNums t i v cs = some (v', r) ∧ pu_ag4 u' v'
  | 0, i, u, v, cs, _, h => Or.inr ⟨u, v, cs, rfl, rfl, h⟩
  | t + 1, i, u, v, cs, ht, h => by
    rw [pu_spNums, pu_spNums, h i (by omega)]
    by_cases q : 0 < i ∧ pu_hd cs ≠ 44
    · rw [if_pos q, if_pos q]; exact Or.inr ⟨u, v, cs, rfl, rfl, h⟩
    · rw [if_neg q, if_neg q]
      cases pu_spOne (v i) (if 0 < i then cs.tail else cs) with
      | none => exact Or.inl ⟨rfl, rfl⟩
      | some z => exact pu_nums_ag t (i + 1) (pu_fu u i z.1) (pu_fu v i z.1) z.2 (by omega) (pu_ag4_fu h i z.1)
theorem pu_rng_ag (j : Nat) : ∀ (t k : Nat) (u v : Nat → Int32), t + k ≤ 4 → pu_ag4 u v → pu_inRng j u k t = pu_inRng j v k t
  | 0, k, u, v, _, h => rfl
  | t + 1, k, u, v, ht, h => by rw [pu_inRng, pu_inRng, h k (by omega), pu_rng_ag j t (k + 1) u v (by omega) h]
theorem pu_take_ag {j : Nat} (hj : j < 15) (l : Int32) {u v : Nat → Int32} (cs : List Int32) (h : pu_ag4 u v) : (∃ c, pu_spTake j l u cs = .inl c ∧ pu_spTake j l v cs = .inl c) ∨ ∃ u' v' r, pu_spTake j l u cs = .inr (u', r) ∧ pu_spTake j l v cs = .inr (v', r) ∧ pu_ag4 u' v' := by
  have hl := pu_sv_len hj
  unfold pu_spTake
  rcases pu_nums_ag ((tm_sv j).length / 3) 0 u v cs (by omega) h with ⟨a, b⟩ | ⟨u', v', r, a, b, c⟩
  · rw [a, b]; exact Or.inl ⟨4, rfl, rfl⟩
  · rw [a, b]
    simp only []
    rw [pu_rng_ag j ((tm_sv j).length / 3) 0 u' v' (by omega) c]
    by_cases q : ¬ (pu_hd r = 44 ↔ l = 75)
    · rw [if_pos q, if_pos q]; exact Or.inl ⟨4, rfl, rfl⟩
    · rw [if_neg q, if_neg q]
      by_cases q2 : pu_inRng j v' 0 ((tm_sv j).length / 3) = true
      · rw [if_pos q2, if_pos q2]; exact Or.inr ⟨u', v', _, rfl, rfl, c⟩
      · rw [if_neg q2, if_neg q2]; exact Or.inl ⟨5, rfl, rfl⟩
theorem pu_nums_keep : ∀ (t i : Nat) (u : Nat → Int32) (cs : List Int32) (u' : Nat → Int32) (r : List Int32), pu_spNums t i u cs = some (u', r) → ∀ k, t + i ≤ k → u' k = u k
  | 0, i, u, cs, u', r, h, k, hk => by rw [pu_spNums] at h; cases h; rfl
  | t + 1, i, u, cs, u', r, h, k, hk => by
    rw [pu_spNums] at h
    split at h
    · cases h; rfl
    · split at h
      · cases h
      · next v r' _ =>
        have := pu_nums_keep t (i + 1) (pu_fu u i v) r' u' r h k (by omega)
        rw [this]; unfold pu_fu; rw [if_neg (by omega)]
theorem pu_rng_k {j : Nat} {u : Nat → Int32} : ∀ (t k : Nat), pu_inRng j u k t = true → ∀ i, k ≤ i → i < k + t → (tm_sv j).getD (3 * i) 0 ≤ u i ∧ u i ≤ (tm_sv j).getD (3 * i + 1) 0
  | 0, k, _, i, h1, h2 => by omega
  | t + 1, k, h, i, h1, h2 => by
    rw [pu_inRng, Bool.and_eq_true, Bool.and_eq_true, decide_eq_true_eq, decide_eq_true_eq] at h
    by_cases e : k = i
    · subst e; exact h.1
    · exact pu_rng_k t (k + 1) h.2 i (by omega) (by omega)
theorem pu_take_ok {j : Nat} {l : Int32} {u u' : Nat → Int32} {cs r : List Int32} (h : pu_spTake j l u cs = .inr (u', r)) : (∀ i, i < (tm_sv j).length / 3 → (tm_sv j).getD (3 * i) 0 ≤ u' i ∧ u' i ≤ (tm_sv j).getD (3 * i + 1) 0) ∧ (∀ i, (tm_sv j).length / 3 ≤ i → u' i = u i) := by
  unfold pu_spTake at h
  split at h
  · cases h
  · next vs' r' hn =>
    split at h
    · cases h
    · split at h
      · next hr =>
        cases h
        exact ⟨fun i hi => pu_rng_k _ 0 hr i (by omega) (by omega), fun i hi => pu_nums_keep _ 0 u cs _ _ hn i (by omega)⟩
      · cases h
theorem pu_i_rng {x a b : Int32} (h : a ≤ x ∧ x ≤ b) {na nb : Nat} (ha : a.toInt = na) (hb : b.toInt = nb) : ∃ n, na ≤ n ∧ n ≤ nb ∧ x = Int32.ofNat n := by
  obtain ⟨h1, h2⟩ := h
  rw [Int32.le_iff_toInt_le] at h1 h2
  have := Int32.toInt_lt x
  refine ⟨x.toInt.toNat, by omega, by omega, ?_⟩
  rw [← Int32.toInt_inj, pu_n_toInt (by omega)]; omega
