def pu_Stk (m : tm_I) (P : List Int32) : Prop := P.length ≤ 5800 ∧ ∀ (k : Nat) (h : k < P.length), m 45 (P.length - 1 - k) = P[k]
section MO
variable {m : tm_I} {mL : tm_L} {P : List Int32}
theorem pu_Stk.fr {m' : tm_I} (h : pu_Stk m P) (e : m' 45 = m 45) : pu_Stk m' P := by unfold pu_Stk; rw [e]; exact h
theorem pu_mo_peek (h : pu_Stk m P) {q : Nat} (hq : m 39 8 = Int32.ofNat (P.length - q)) : f_Mo_peek m mL = some (pu_hd (P.drop q), m, mL) := by
  obtain ⟨h1, h2⟩ := h
  unfold f_Mo_peek f_Mo_peek_b0 f_Mo_peek_b22
  rw [hq]
  by_cases hl : q < P.length
  · have e : pu_hd (P.drop q) = P[q] := by rw [pu_hd0, List.getElem?_drop, Nat.add_zero, List.getElem?_eq_getElem hl]; rfl
    simp (disch := omega) only [pu_n_lit, pu_n_add, pu_n_mul, pu_n_sub, pu_n_div, pu_n_nat, pu_q_ltT, pu_q_ltF, pu_q_leT, pu_q_leF, pu_q_eqT, pu_q_eqF, pu_n_lt, pu_n_le, pu_n_eq, pu_p_ltT, pu_p_ltF, pu_p_leT, pu_p_leF, not_true_eq_false, not_false_eq_true, or_false, false_or, or_true, true_or, and_true, true_and, and_false, false_and, ↓reduceIte, pu_b_some]
    rw [e, ← h2 q hl]
    congr 2; congr 1; omega
  · rw [List.drop_eq_nil_of_le (by omega), show P.length - q = 0 by omega]
    rfl
theorem pu_mo_next (h : pu_Stk m P) {q : Nat} (hq : m 39 8 = Int32.ofNat (P.length - q)) : f_Mo_next m mL = some (pu_hd (P.drop q), tm_up m 39 8 (Int32.ofNat (P.length - (q + 1))), mL) := by
  have h1 := h.1
  unfold f_Mo_next f_Mo_next_b0 f_Mo_next_b23
  rw [pu_mo_peek h hq, pu_b_some]
  simp only []
  rw [hq]
  by_cases hl : q < P.length
  · simp (disch := omega) only [pu_n_lit, pu_n_add, pu_n_mul, pu_n_sub, pu_n_div, pu_n_nat, pu_q_ltT, pu_q_ltF, pu_q_leT, pu_q_leF, pu_q_eqT, pu_q_eqF, pu_n_lt, pu_n_le, pu_n_eq, pu_p_ltT, pu_p_ltF, pu_p_leT, pu_p_leF, not_true_eq_false, not_false_eq_true, or_false, false_or, or_true, true_or, and_true, true_and, and_false, false_and, ↓reduceIte, pu_b_some]
    congr 4
  · rw [show P.length - q = 0 by omega, show P.length - (q + 1) = 0 by omega]
    rfl
theorem pu_mo_isDigit (x : Int32) : f_Mo_isDigit x m mL = some (pu_bi (pu_isD x), m, mL) := by
  have := pu_la_isDigit x m mL
  unfold f_La_isDigit f_La_isDigit_b0 f_La_isDigit_b16 f_La_isDigit_b17 at this
  unfold f_Mo_isDigit f_Mo_isDigit_b0 f_Mo_isDigit_b16 f_Mo_isDigit_b17 pu_bi
  exact this
theorem pu_mo_hex (x : Int32) : f_Mo_hex x m mL = some (pu_hx x, m, mL) := by
  unfold f_Mo_hex f_Mo_hex_b0 f_Mo_hex_b33 f_Mo_hex_b52 f_Mo_hex_b53 pu_hx
  rw [pu_mo_isDigit, pu_b_some]
  cases h0 : pu_isD x
  · rw [if_pos pu_bi_f]
    simp only []
    by_cases h1 : x < 65 <;> by_cases h2 : 70 < x <;> by_cases h3 : x < 97 <;> by_cases h4 : 102 < x <;> simp [h1, h2, h3, h4]
  · rw [if_neg pu_bi_t]; simp
end MO
def pu_Mm (m : tm_I) (L : Nat) (vs : Nat → Int32) : tm_I := fun a b => if a = 39 ∧ b = 8 then Int32.ofNat L else if a = 46 then vs b else m a b
theorem pu_Mm_at (m : tm_I) (L : Nat) (vs : Nat → Int32) : pu_Mm m L vs 39 8 = Int32.ofNat L := rfl
theorem pu_Mm_46 (m : tm_I) (L : Nat) (vs : Nat → Int32) : pu_Mm m L vs 46 = vs := rfl
theorem pu_Mm_o {m : tm_I} {L : Nat} {vs : Nat → Int32} {a : Nat} (h : a ≠ 39) (h2 : a ≠ 46) : pu_Mm m L vs a = m a := by
  funext b; unfold pu_Mm; simp [h, h2]
theorem pu_Mm_39 {m : tm_I} {L : Nat} {vs : Nat → Int32} {b : Nat} (h : b ≠ 8) : pu_Mm m L vs 39 b = m 39 b := by
  unfold pu_Mm; simp [h]
theorem pu_Mm_up8 {m : tm_I} {L q : Nat} {vs : Nat → Int32} : tm_up (pu_Mm m L vs) 39 8 (Int32.ofNat q) = pu_Mm m q vs := by
  funext a b; unfold tm_up pu_Mm; split <;> simp_all
theorem pu_Mm_up46 {m : tm_I} {L : Nat} {vs : Nat → Int32} {i : Nat} {v : Int32} : tm_up (pu_Mm m L vs) 46 i v = pu_Mm m L (pu_fu vs i v) := by
  funext a b; unfold tm_up pu_Mm pu_fu
  by_cases h : a = 46
  · subst h; simp
  · simp [h]
theorem pu_Mm_id {m : tm_I} {L : Nat} (h : m 39 8 = Int32.ofNat L) : pu_Mm m L (m 46) = m := by
  funext a b; unfold pu_Mm
  split
  · next q => rw [q.1, q.2, h]
  · split
    · next q => rw [q]
    · rfl
theorem pu_Mm_stk {m : tm_I} {P : List Int32} (h : pu_Stk m P) (L : Nat) (vs : Nat → Int32) : pu_Stk (pu_Mm m L vs) P := h.fr (pu_Mm_o (by decide) (by decide))
section MN
variable {m : tm_I} {mL : tm_L} {P : List Int32}
theorem pu_mo_dig (h : pu_Stk m P) (r32 : Int32 → Int32 → Int32 → tm_I → tm_L → Option (Int32 × tm_I × tm_L)) (x1 x2 x3 x4 : Int32) (vs : Nat → Int32) : ∀ (f n : Nat) (v : Int32) (k q : Nat), f + k = 6 → f < n →
    f_Mo_takeNumbers_l81 r32 n x1 x2 x3 x4 (Int32.ofNat k) v (pu_Mm m (P.length - q) vs) mL = f_Mo_takeNumbers_b119 r32 x1 x2 x3 x4 (Int32.ofNat (pu_spDig f v k (P.drop q)).2.1) (pu_spDig f v k (P.drop q)).1 (pu_Mm m (P.length - (q + ((pu_spDig f v k (P.drop q)).2.1 - k))) vs) mL := by
  intro f
  induction f with
  | zero =>
    intro n v k q hk hn
    obtain ⟨n, rfl⟩ : ∃ n', n = n' + 1 := ⟨n - 1, by omega⟩
    have : k = 6 := by omega
    subst this
    rw [f_Mo_takeNumbers_l81, pu_mo_peek (pu_Mm_stk h _ _) (pu_Mm_at _ _ _), pu_b_some]
    simp only []
    rw [pu_mo_isDigit, pu_b_some, pu_spDig]
    simp only [Nat.sub_self, Nat.add_zero]
    cases pu_isD (pu_hd (P.drop q))
    · rw [if_pos pu_bi_f]
    · rw [if_neg pu_bi_t, if_pos (by simp (disch := omega) only [pu_n_lit, pu_n_add, pu_n_mul, pu_n_sub, pu_n_div, pu_n_nat, pu_q_ltT, pu_q_ltF, pu_q_leT, pu_q_leF, pu_q_eqT, pu_q_eqF, pu_n_lt, pu_n_le, pu_n_eq, pu_p_ltT, pu_p_ltF, pu_p_leT, pu_p_leF, not_true_eq_false, not_false_eq_true, or_false, false_or, or_true, true_or, and_true, true_and, and_false, false_and, ↓reduceIte, pu_b_some])]
  | succ f ih =>
    intro n v k q hk hn
    obtain ⟨n, rfl⟩ : ∃ n', n = n' + 1 := ⟨n - 1, by omega⟩
    rw [f_Mo_takeNumbers_l81, pu_mo_peek (pu_Mm_stk h _ _) (pu_Mm_at _ _ _), pu_b_some]
    simp only []
    rw [pu_mo_isDigit, pu_b_some, pu_spDig]
    cases hd1 : pu_isD (pu_hd (P.drop q))
    · rw [if_pos pu_bi_f, if_neg (by decide)]
      simp only [Nat.sub_self, Nat.add_zero]
    · rw [if_neg pu_bi_t, if_neg (by simp (disch := omega) only [pu_n_lit, pu_n_add, pu_n_mul, pu_n_sub, pu_n_div, pu_n_nat, pu_q_ltT, pu_q_ltF, pu_q_leT, pu_q_leF, pu_q_eqT, pu_q_eqF, pu_n_lt, pu_n_le, pu_n_eq, pu_p_ltT, pu_p_ltF, pu_p_leT, pu_p_leF, not_true_eq_false, not_false_eq_true, or_false, false_or, or_true, true_or, and_true, true_and, and_false, false_and, ↓reduceIte, pu_b_some]), if_pos rfl]
      simp only []
      rw [pu_mo_next (pu_Mm_stk h _ _) (pu_Mm_at _ _ _), pu_b_some]
      simp only []
      rw [pu_Mm_up8, pu_n_lit 1, pu_n_add, Int32.mul_comm 10 v, ih n _ (k + 1) (q + 1) (by omega) (by omega), pu_tl_drop]
      obtain ⟨q1, q2, q3, q4⟩ := pu_spDig_spec f (v * 10 + pu_hd (P.drop q) - 48) (k + 1) (P.drop (q + 1))
      have e : q + 1 + ((pu_spDig f (v * 10 + pu_hd (P.drop q) - 48) (k + 1) (P.drop (q + 1))).2.1 - (k + 1)) = q + ((pu_spDig f (v * 10 + pu_hd (P.drop q) - 48) (k + 1) (P.drop (q + 1))).2.1 - k) := by omega
      rw [e]
def pu_spPost (l : Int32) (z : Option ((Nat → Int32) × List Int32)) : Option ((Nat → Int32) × List Int32) := match z with
  | none => none
  | some (vs', r) => if ¬ (pu_hd r = 44 ↔ l = 75) then none else some (vs', if l = 75 then r.tail else r)
def pu_spGo (t i : Nat) (vs : Nat → Int32) (cs : List Int32) : Option ((Nat → Int32) × List Int32) := match pu_spOne (vs i) cs with
  | none => none
  | some (v, r) => pu_spNums t (i + 1) (pu_fu vs i v) r
theorem pu_mo_one (h : pu_Stk m P) (r32 : Int32 → Int32 → Int32 → tm_I → tm_L → Option (Int32 × tm_I × tm_L)) (x1 x2 : Int32) (vs : Nat → Int32) {i q : Nat} (hi : i < 4) (minus : Int32) (hmin : minus = if pu_hd (P.drop q) = 45 then 1 else 0) :
    (pu_spOne (vs i) (P.drop q) = none ∧ ∃ q', f_Mo_takeNumbers_b51 r32 x1 x2 (Int32.ofNat i) minus (pu_Mm m (P.length - q) vs) mL = some (4, pu_Mm m (P.length - q') vs, mL)) ∨
    (∃ v q' a b c, pu_spOne (vs i) (P.drop q) = some (v, P.drop q') ∧ f_Mo_takeNumbers_b51 r32 x1 x2 (Int32.ofNat i) minus (pu_Mm m (P.length - q) vs) mL = f_Mo_takeNumbers_b151 r32 x1 x2 (Int32.ofNat i) a b c (pu_Mm m (P.length - q') (pu_fu vs i v)) mL) := by
  have same : pu_fu vs i (vs i) = vs := by
    funext b; unfold pu_fu; split
    · next e => rw [e]
    · rfl
  by_cases h1 : pu_hd (P.drop q) = 45
  · rw [if_pos h1] at hmin
    subst hmin
    have G : f_Mo_takeNumbers_b51 r32 x1 x2 (Int32.ofNat i) 1 (pu_Mm m (P.length - q) vs) mL = if pu_isD (pu_hd (P.drop (q + 1))) = true then f_Mo_takeNumbers_l81 r32 tm_F x1 x2 (Int32.ofNat i) 1 (Int32.ofNat 0) 0 (pu_Mm m (P.length - (q + 1)) vs) mL else some (4, pu_Mm m (P.length - (q + 1)) vs, mL) := by
      unfold f_Mo_takeNumbers_b51 f_Mo_takeNumbers_b75
      rw [if_neg (by decide), pu_mo_next (pu_Mm_stk h _ _) (pu_Mm_at _ _ _), pu_b_some]
      simp only []
      rw [pu_Mm_up8, pu_mo_peek (pu_Mm_stk h _ _) (pu_Mm_at _ _ _), pu_b_some]
      simp only []
      rw [pu_mo_isDigit, pu_b_some]
      cases pu_isD (pu_hd (P.drop (q + 1)))
      · rw [if_neg (by simp [pu_bi]), if_neg (by decide)]
      · rw [if_pos pu_bi_t, if_pos rfl]; rfl
    rw [G]
    by_cases h2 : pu_isD (pu_hd (P.drop (q + 1))) = true
    · rw [if_pos h2, pu_mo_dig h r32 x1 x2 (Int32.ofNat i) 1 vs 6 tm_F 0 0 (q + 1) (by omega) (by decide)]
      obtain ⟨q1, q2, q3, q4⟩ := pu_spDig_spec 6 0 0 (P.drop (q + 1))
      have hpos : 1 ≤ (pu_spDig 6 0 0 (P.drop (q + 1))).2.1 := by
        rw [pu_spDig, if_pos h2]
        exact (pu_spDig_spec 5 _ 1 _).1
      unfold pu_spOne
      rw [if_pos h1, pu_tl_drop]
      rw [List.drop_drop] at q4
      generalize pu_spDig 6 0 0 (P.drop (q + 1)) = z at *
      obtain ⟨v, k, r⟩ := z
      simp only [Nat.sub_zero] at *
      unfold f_Mo_takeNumbers_b119 f_Mo_takeNumbers_b150
      by_cases hk : 5 < k
      · left
        exact ⟨if_pos (Or.inl hk), q + 1 + k, by rw [if_neg (by simp (disch := omega) only [pu_n_lit, pu_n_add, pu_n_mul, pu_n_sub, pu_n_div, pu_n_nat, pu_q_ltT, pu_q_ltF, pu_q_leT, pu_q_leF, pu_q_eqT, pu_q_eqF, pu_n_lt, pu_n_le, pu_n_eq, pu_p_ltT, pu_p_ltF, pu_p_leT, pu_p_leF, not_true_eq_false, not_false_eq_true, or_false, false_or, or_true, true_or, and_true, true_and, and_false, false_and, ↓reduceIte, pu_b_some])]⟩
      · right
        refine ⟨-v, q + 1 + k, 1, Int32.ofNat k, v, ?_, ?_⟩
        · rw [if_neg (by omega), q4]
        · simp (disch := omega) only [pu_n_lit, pu_n_add, pu_n_mul, pu_n_sub, pu_n_div, pu_n_nat, pu_q_ltT, pu_q_ltF, pu_q_leT, pu_q_leF, pu_q_eqT, pu_q_eqF, pu_n_lt, pu_n_le, pu_n_eq, pu_p_ltT, pu_p_ltF, pu_p_leT, pu_p_leF, not_true_eq_false, not_false_eq_true, or_false, false_or, or_true, true_or, and_true, true_and, and_false, false_and, ↓reduceIte, pu_b_some]
          rw [pu_Mm_up46]
    · left
      refine ⟨?_, q + 1, if_neg h2⟩
      unfold pu_spOne
      rw [if_pos h1, pu_tl_drop, if_pos]
      right
      rw [pu_spDig, if_neg h2]
  · rw [if_neg h1] at hmin
    subst hmin
    have G : f_Mo_takeNumbers_b51 r32 x1 x2 (Int32.ofNat i) 0 (pu_Mm m (P.length - q) vs) mL = f_Mo_takeNumbers_l81 r32 tm_F x1 x2 (Int32.ofNat i) 0 (Int32.ofNat 0) 0 (pu_Mm m (P.length - q) vs) mL := by
      unfold f_Mo_takeNumbers_b51 f_Mo_takeNumbers_b75
      rw [if_pos rfl]; rfl
    rw [G, pu_mo_dig h r32 x1 x2 (Int32.ofNat i) 0 vs 6 tm_F 0 0 q (by omega) (by decide)]
    obtain ⟨q1, q2, q3, q4⟩ := pu_spDig_spec 6 0 0 (P.drop q)
    unfold pu_spOne
    rw [if_neg h1]
    rw [List.drop_drop] at q4
    generalize pu_spDig 6 0 0 (P.drop q) = z at *
    obtain ⟨v, k, r⟩ := z
    simp only [Nat.sub_zero] at *
    unfold f_Mo_takeNumbers_b119 f_Mo_takeNumbers_b150
    by_cases hk : 5 < k
    · left
      exact ⟨if_pos hk, q + k, by rw [if_neg (by simp (disch := omega) only [pu_n_lit, pu_n_add, pu_n_mul, pu_n_sub, pu_n_div, pu_n_nat, pu_q_ltT, pu_q_ltF, pu_q_leT, pu_q_leF, pu_q_eqT, pu_q_eqF, pu_n_lt, pu_n_le, pu_n_eq, pu_p_ltT, pu_p_ltF, pu_p_leT, pu_p_leF, not_true_eq_false, not_false_eq_true, or_false, false_or, or_true, true_or, and_true, true_and, and_false, false_and, ↓reduceIte, pu_b_some])]⟩
    · by_cases hk0 : k = 0
      · right
        subst hk0
        refine ⟨vs i, q, 0, 0, v, ?_, ?_⟩
        · rw [if_neg (by omega), q4]; rfl
        · rw [same, if_pos (by decide), if_pos (by decide)]; rfl
      · right
        refine ⟨v, q + k, 0, Int32.ofNat k, v, ?_, ?_⟩
        · rw [if_neg (by omega), if_neg hk0, q4]
        · simp (disch := omega) only [pu_n_lit, pu_n_add, pu_n_mul, pu_n_sub, pu_n_div, pu_n_nat, pu_q_ltT, pu_q_ltF, pu_q_leT, pu_q_leF, pu_q_eqT, pu_q_eqF, pu_n_lt, pu_n_le, pu_n_eq, pu_p_ltT, pu_p_ltF, pu_p_leT, pu_p_leF, not_true_eq_false, not_false_eq_true, or_false, false_or, or_true, true_or, and_true, true_and, and_false, false_and, ↓reduceIte, pu_b_some]
          rw [pu_Mm_up46]
theorem pu_mo_nums (h : pu_Stk m P) (l : Int32) (many : Nat) (hm : many ≤ 4) (h75 : l = 75 → many = 1) : ∀ (t i n q : Nat) (vs : Nat → Int32), i + t + 1 = many → t + 1 < n →
    (pu_spPost l (pu_spGo t i vs (P.drop q)) = none ∧ ∃ q' vs', f_Mo_takeNumbers_l32 n l (Int32.ofNat many) (Int32.ofNat i) (pu_Mm m (P.length - q) vs) mL = some (4, pu_Mm m (P.length - q') vs', mL)) ∨
    (∃ vs' q', pu_spPost l (pu_spGo t i vs (P.drop q)) = some (vs', P.drop q') ∧ f_Mo_takeNumbers_l32 n l (Int32.ofNat many) (Int32.ofNat i) (pu_Mm m (P.length - q) vs) mL = some (0, pu_Mm m (P.length - q') vs', mL)) := by
  intro t
  induction t with
  | zero =>
    intro i n q vs hit hn
    obtain ⟨n, rfl⟩ : ∃ n', n = n' + 1 := ⟨n - 1, by omega⟩
    have F0 : f_Mo_takeNumbers_l32 (n + 1) l (Int32.ofNat many) (Int32.ofNat i) (pu_Mm m (P.length - q) vs) mL = f_Mo_takeNumbers_b51 (f_Mo_takeNumbers_l32 n) l (Int32.ofNat many) (Int32.ofNat i) (if pu_hd (P.drop q) = 45 then 1 else 0) (pu_Mm m (P.length - q) vs) mL := by
      rw [f_Mo_takeNumbers_l32, if_neg (by simp (disch := omega) only [pu_n_lit, pu_n_add, pu_n_mul, pu_n_sub, pu_n_div, pu_n_nat, pu_q_ltT, pu_q_ltF, pu_q_leT, pu_q_leF, pu_q_eqT, pu_q_eqF, pu_n_lt, pu_n_le, pu_n_eq, pu_p_ltT, pu_p_ltF, pu_p_leT, pu_p_leF, not_true_eq_false, not_false_eq_true, or_false, false_or, or_true, true_or, and_true, true_and, and_false, false_and, ↓reduceIte, pu_b_some]), pu_mo_peek (pu_Mm_stk h _ _) (pu_Mm_at _ _ _), pu_b_some]
      by_cases q1 : pu_hd (P.drop q) = 45
      · rw [if_neg (fun z => z q1), if_pos q1]
      · rw [if_pos q1, if_neg q1]
    rw [F0]
    rcases pu_mo_one h (f_Mo_takeNumbers_l32 n) l (Int32.ofNat many) vs (i := i) (q := q) (by omega) _ rfl with ⟨a1, q', a2⟩ | ⟨v, q', a, b, c, a1, a2⟩
    · left
      exact ⟨by unfold pu_spGo; rw [a1]; rfl, q', vs, a2⟩
    · have Z : pu_spPost l (pu_spGo 0 i vs (P.drop q)) = if ¬ (pu_hd (P.drop q') = 44 ↔ l = 75) then none else some (pu_fu vs i v, if l = 75 then (P.drop q').tail else P.drop q') := by
        unfold pu_spGo; rw [a1]; rfl
      rw [a2]
      unfold f_Mo_takeNumbers_b151 f_Mo_takeNumbers_b171
      by_cases q75 : l = 75
      · rw [if_neg (c := ¬ l = 75) (fun z => z q75), pu_mo_next (pu_Mm_stk h _ _) (pu_Mm_at _ _ _), pu_b_some]
        simp only []
        rw [pu_Mm_up8]
        by_cases q44 : pu_hd (P.drop q') = 44
        · right
          refine ⟨pu_fu vs i v, q' + 1, ?_, ?_⟩
          · rw [Z, if_neg (by simp [q44, q75]), if_pos q75, pu_tl_drop]
          · rw [if_neg (fun z => z q44)]
        · left
          refine ⟨by rw [Z, if_pos (fun z => q44 (z.mpr q75))], q' + 1, pu_fu vs i v, ?_⟩
          rw [if_pos q44]
      · rw [if_pos (c := ¬ l = 75) q75, pu_mo_peek (pu_Mm_stk h _ _) (pu_Mm_at _ _ _), pu_b_some]
        simp only []
        by_cases q44 : pu_hd (P.drop q') = 44
        · left
          refine ⟨by rw [Z, if_pos (fun z => q75 (z.mp q44))], q' + 1, pu_fu vs i v, ?_⟩
          rw [if_pos q44, pu_mo_next (pu_Mm_stk h _ _) (pu_Mm_at _ _ _), pu_b_some]
          simp only []
          rw [pu_Mm_up8, if_neg (by rw [pu_n_lit 1, pu_n_sub (by omega), show many - 1 = i by omega]; simp)]
        · right
          refine ⟨pu_fu vs i v, q', ?_, ?_⟩
          · rw [Z, if_neg (by simp [q44, q75]), if_neg q75]
          · rw [if_neg q44]
  | succ t ih =>
    intro i n q vs hit hn
    obtain ⟨n, rfl⟩ : ∃ n', n = n' + 1 := ⟨n - 1, by omega⟩
    have q75 : ¬ l = 75 := fun e => by have := h75 e; omega
    have F0 : f_Mo_takeNumbers_l32 (n + 1) l (Int32.ofNat many) (Int32.ofNat i) (pu_Mm m (P.length - q) vs) mL = f_Mo_takeNumbers_b51 (f_Mo_takeNumbers_l32 n) l (Int32.ofNat many) (Int32.ofNat i) (if pu_hd (P.drop q) = 45 then 1 else 0) (pu_Mm m (P.length - q) vs) mL := by
      rw [f_Mo_takeNumbers_l32, if_neg (by simp (disch := omega) only [pu_n_lit, pu_n_add, pu_n_mul, pu_n_sub, pu_n_div, pu_n_nat, pu_q_ltT, pu_q_ltF, pu_q_leT, pu_q_leF, pu_q_eqT, pu_q_eqF, pu_n_lt, pu_n_le, pu_n_eq, pu_p_ltT, pu_p_ltF, pu_p_leT, pu_p_leF, not_true_eq_false, not_false_eq_true, or_false, false_or, or_true, true_or, and_true, true_and, and_false, false_and, ↓reduceIte, pu_b_some]), pu_mo_peek (pu_Mm_stk h _ _) (pu_Mm_at _ _ _), pu_b_some]
      by_cases q1 : pu_hd (P.drop q) = 45
      · rw [if_neg (fun z => z q1), if_pos q1]
      · rw [if_pos q1, if_neg q1]
    rw [F0]
    rcases pu_mo_one h (f_Mo_takeNumbers_l32 n) l (Int32.ofNat many) vs (i := i) (q := q) (by omega) _ rfl with ⟨a1, q', a2⟩ | ⟨v, q', a, b, c, a1, a2⟩
    · left
      refine ⟨by unfold pu_spGo; rw [a1]; rfl, q', vs, a2⟩
    · rw [a2]
      unfold f_Mo_takeNumbers_b151
      rw [if_pos q75, pu_mo_peek (pu_Mm_stk h _ _) (pu_Mm_at _ _ _), pu_b_some]
      simp only []
      by_cases q44 : pu_hd (P.drop q') = 44
      · have e : pu_spGo (t + 1) i vs (P.drop q) = pu_spGo t (i + 1) (pu_fu vs i v) (P.drop (q' + 1)) := by
          conv => lhs; unfold pu_spGo
          rw [a1]
          simp only []
          rw [pu_spNums, if_neg (by simp [q44]), if_pos (by omega), pu_tl_drop]
          rfl
        rw [if_pos q44, pu_mo_next (pu_Mm_stk h _ _) (pu_Mm_at _ _ _), pu_b_some, e]
        simp only []
        rw [pu_Mm_up8, if_pos (by rw [pu_n_lit 1, pu_n_sub (by omega), pu_n_eq (by omega) (by omega)]; omega), pu_n_lit 1, pu_n_add]
        exact ih (i + 1) n (q' + 1) (pu_fu vs i v) (by omega) (by omega)
      · right
        refine ⟨pu_fu vs i v, q', ?_, ?_⟩
        · unfold pu_spGo; rw [a1]
          simp only []
          rw [pu_spNums, if_pos ⟨by omega, q44⟩]
          simp only [pu_spPost]
          rw [if_neg (by simp [q44, q75]), if_neg q75]
        · rw [if_neg q44]
end MN
def pu_numL (l : Int32) : Prop := l = 35 ∨ l = 66 ∨ l = 67 ∨ l = 68 ∨ l = 70 ∨ l = 71 ∨ l = 72 ∨ l = 73 ∨ l = 75 ∨ l = 76 ∨ l = 78 ∨ l = 79 ∨ l = 80 ∨ l = 81 ∨ l = 83 ∨ l = 84 ∨ l = 85 ∨ l = 86 ∨ l = 87
theorem pu_numL_of {l : Int32} (h : pu_isLet l = true) (h14 : pu_rgi l ≠ 14) : pu_numL l := by
  unfold pu_isLet at h
  rw [Bool.or_eq_true] at h
  unfold pu_numL
  rcases h with h | h
  · rcases pu_outside_cases h with rfl | rfl | rfl <;> decide
  · rcases pu_inside_cases h with rfl | rfl | rfl | rfl | rfl | rfl | rfl | rfl | rfl | rfl | rfl | k | rfl
    · decide
    · exact absurd (by decide) h14
    · decide
    · decide
    · decide
    · decide
    · decide
    · exact absurd (by decide) h14
    · exact absurd (by decide) h14
    · decide
    · decide
    · rcases k with rfl | rfl | rfl | rfl | rfl | rfl | rfl | rfl | rfl <;> decide
    · exact absurd (by decide) h14
section ML
variable {m : tm_I} {mL : tm_L}
def pu_manyL (l : Int32) : Nat := (tm_sv (pu_rgi l)).length / 3
theorem pu_mo_numbers {l : Int32} (h : pu_numL l) : f_Mo_numbers l m mL = some (Int32.ofNat (pu_manyL l), m, mL) := by
  rcases h with rfl | rfl | rfl | rfl | rfl | rfl | rfl | rfl | rfl | rfl | rfl | rfl | rfl | rfl | rfl | rfl | rfl | rfl | rfl <;> rfl
theorem pu_mo_numbers0 {l : Int32} (h : l = 69 ∨ l = 82 ∨ l = 88 ∨ l = 59) : f_Mo_numbers l m mL = some (0, m, mL) := by
  rcases h with rfl | rfl | rfl | rfl <;> rfl
theorem pu_mo_numbersX {l : Int32} (h : pu_isLet l = false) : f_Mo_numbers l m mL = some (-1, m, mL) := by
  have n35 : ¬ l = 35 := by rintro rfl; revert h; decide
  have n59 : ¬ l = 59 := by rintro rfl; revert h; decide
  have n66 : ¬ l = 66 := by rintro rfl; revert h; decide
  have n67 : ¬ l = 67 := by rintro rfl; revert h; decide
  have n68 : ¬ l = 68 := by rintro rfl; revert h; decide
  have n69 : ¬ l = 69 := by rintro rfl; revert h; decide
  have n70 : ¬ l = 70 := by rintro rfl; revert h; decide
  have n71 : ¬ l = 71 := by rintro rfl; revert h; decide
  have n72 : ¬ l = 72 := by rintro rfl; revert h; decide
  have n73 : ¬ l = 73 := by rintro rfl; revert h; decide
  have n75 : ¬ l = 75 := by rintro rfl; revert h; decide
  have n76 : ¬ l = 76 := by rintro rfl; revert h; decide
  have n78 : ¬ l = 78 := by rintro rfl; revert h; decide
  have n79 : ¬ l = 79 := by rintro rfl; revert h; decide
  have n80 : ¬ l = 80 := by rintro rfl; revert h; decide
  have n81 : ¬ l = 81 := by rintro rfl; revert h; decide
  have n82 : ¬ l = 82 := by rintro rfl; revert h; decide
  have n83 : ¬ l = 83 := by rintro rfl; revert h; decide
  have n84 : ¬ l = 84 := by rintro rfl; revert h; decide
  have n85 : ¬ l = 85 := by rintro rfl; revert h; decide
  have n86 : ¬ l = 86 := by rintro rfl; revert h; decide
  have n87 : ¬ l = 87 := by rintro rfl; revert h; decide
  have n88 : ¬ l = 88 := by rintro rfl; revert h; decide
  unfold f_Mo_numbers f_Mo_numbers_b0
  rw [if_neg n35, if_neg n59, if_neg n66, if_neg n67, if_neg n68, if_neg n69, if_neg n70, if_neg n71, if_neg n72, if_neg n73, if_neg n75, if_neg n76, if_neg n78, if_neg n79, if_neg n80, if_neg n81, if_neg n82, if_neg n83, if_neg n84, if_neg n85, if_neg n86, if_neg n87, if_neg n88]
  rfl
theorem pu_mo_preset {l : Int32} (h : pu_numL l) (tx : Nat → Int32) (ht : l = 84 → ∀ k, k < 4 → m 48 k = tx k) {k : Nat} (hk : k < pu_manyL l) : f_Mo_preset l (Int32.ofNat k) m mL = some (if l = 84 then tx k else pu_pre (pu_rgi l) k, m, mL) := by
  unfold pu_numL at h
  rcases h with rfl | rfl | rfl | rfl | rfl | rfl | rfl | rfl | rfl | rfl | rfl | rfl | rfl | rfl | rfl | rfl | rfl | rfl | rfl
  · have hk : k < 1 := hk
    have e : k = 0 := by omega
    rcases e with rfl
    rfl
  · have hk : k < 4 := hk
    have e : k = 0 ∨ k = 1 ∨ k = 2 ∨ k = 3 := by omega
    rcases e with rfl | rfl | rfl | rfl <;> rfl
  · have hk : k < 1 := hk
    have e : k = 0 := by omega
    rcases e with rfl
    rfl
  · have hk : k < 4 := hk
    have e : k = 0 ∨ k = 1 ∨ k = 2 ∨ k = 3 := by omega
    rcases e with rfl | rfl | rfl | rfl <;> rfl
  · have hk : k < 3 := hk
    have e : k = 0 ∨ k = 1 ∨ k = 2 := by omega
    rcases e with rfl | rfl | rfl <;> rfl
  · have hk : k < 3 := hk
    have e : k = 0 ∨ k = 1 ∨ k = 2 := by omega
    rcases e with rfl | rfl | rfl <;> rfl
  · have hk : k < 2 := hk
    have e : k = 0 ∨ k = 1 := by omega
    rcases e with rfl | rfl <;> rfl
  · have hk : k < 3 := hk
    have e : k = 0 ∨ k = 1 ∨ k = 2 := by omega
    rcases e with rfl | rfl | rfl <;> rfl
  · have hk : k < 1 := hk
    have e : k = 0 := by omega
    rcases e with rfl
    rfl
  · have hk : k < 2 := hk
    have e : k = 0 ∨ k = 1 := by omega
    rcases e with rfl | rfl <;> rfl
  · have hk : k < 3 := hk
    have e : k = 0 ∨ k = 1 ∨ k = 2 := by omega
    rcases e with rfl | rfl | rfl <;> rfl
  · have hk : k < 2 := hk
    have e : k = 0 ∨ k = 1 := by omega
    rcases e with rfl | rfl <;> rfl
  · have hk : k < 1 := hk
    have e : k = 0 := by omega
    rcases e with rfl
    rfl
  · have hk : k < 4 := hk
    have e : k = 0 ∨ k = 1 ∨ k = 2 ∨ k = 3 := by omega
    rcases e with rfl | rfl | rfl | rfl <;> rfl
  · have hk : k < 1 := hk
    have e : k = 0 := by omega
    rcases e with rfl
    rfl
  · have hk : k < 4 := hk
    have := ht rfl k hk
    rw [if_pos rfl, ← this]
    have e : k = 0 ∨ k = 1 ∨ k = 2 ∨ k = 3 := by omega
    rcases e with rfl | rfl | rfl | rfl <;> rfl
  · have hk : k < 1 := hk
    have e : k = 0 := by omega
    rcases e with rfl
    rfl
  · have hk : k < 1 := hk
    have e : k = 0 := by omega
    rcases e with rfl
    rfl
  · have hk : k < 4 := hk
    have e : k = 0 ∨ k = 1 ∨ k = 2 ∨ k = 3 := by omega
    rcases e with rfl | rfl | rfl | rfl <;> rfl
theorem pu_mo_range_lo {l : Int32} (h : pu_numL l) {k : Nat} (hk : k < pu_manyL l) : f_Mo_range l (Int32.ofNat (2 * k)) m mL = some ((tm_sv (pu_rgi l)).getD (3 * k) 0, m, mL) := by
  unfold pu_numL at h
  rcases h with rfl | rfl | rfl | rfl | rfl | rfl | rfl | rfl | rfl | rfl | rfl | rfl | rfl | rfl | rfl | rfl | rfl | rfl | rfl
  · have hk : k < 1 := hk
    have e : k = 0 := by omega
    rcases e with rfl
    rfl
  · have hk : k < 4 := hk
    have e : k = 0 ∨ k = 1 ∨ k = 2 ∨ k = 3 := by omega
    rcases e with rfl | rfl | rfl | rfl <;> rfl
  · have hk : k < 1 := hk
    have e : k = 0 := by omega
    rcases e with rfl
    rfl
  · have hk : k < 4 := hk
    have e : k = 0 ∨ k = 1 ∨ k = 2 ∨ k = 3 := by omega
    rcases e with rfl | rfl | rfl | rfl <;> rfl
  · have hk : k < 3 := hk
    have e : k = 0 ∨ k = 1 ∨ k = 2 := by omega
    rcases e with rfl | rfl | rfl <;> rfl
  · have hk : k < 3 := hk
    have e : k = 0 ∨ k = 1 ∨ k = 2 := by omega
    rcases e with rfl | rfl | rfl <;> rfl
  · have hk : k < 2 := hk
    have e : k = 0 ∨ k = 1 := by omega
    rcases e with rfl | rfl <;> rfl
  · have hk : k < 3 := hk
    have e : k = 0 ∨ k = 1 ∨ k = 2 := by omega
    rcases e with rfl | rfl | rfl <;> rfl
  · have hk : k < 1 := hk
    have e : k = 0 := by omega
    rcases e with rfl
    rfl
  · have hk : k < 2 := hk
    have e : k = 0 ∨ k = 1 := by omega
    rcases e with rfl | rfl <;> rfl
  · have hk : k < 3 := hk
    have e : k = 0 ∨ k = 1 ∨ k = 2 := by omega
    rcases e with rfl | rfl | rfl <;> rfl
  · have hk : k < 2 := hk
    have e : k = 0 ∨ k = 1 := by omega
    rcases e with rfl | rfl <;> rfl
  · have hk : k < 1 := hk
    have e : k = 0 := by omega
    rcases e with rfl
    rfl
  · have hk : k < 4 := hk
    have e : k = 0 ∨ k = 1 ∨ k = 2 ∨ k = 3 := by omega
    rcases e with rfl | rfl | rfl | rfl <;> rfl
  · have hk : k < 1 := hk
    have e : k = 0 := by omega
    rcases e with rfl
    rfl
  · have hk : k < 4 := hk
    have e : k = 0 ∨ k = 1 ∨ k = 2 ∨ k = 3 := by omega
    rcases e with rfl | rfl | rfl | rfl <;> rfl
  · have hk : k < 1 := hk
    have e : k = 0 := by omega
    rcases e with rfl
    rfl
  · have hk : k < 1 := hk
    have e : k = 0 := by omega
    rcases e with rfl
    rfl
  · have hk : k < 4 := hk
    have e : k = 0 ∨ k = 1 ∨ k = 2 ∨ k = 3 := by omega
    rcases e with rfl | rfl | rfl | rfl <;> rfl
theorem pu_mo_range_hi {l : Int32} (h : pu_numL l) {k : Nat} (hk : k < pu_manyL l) : f_Mo_range l (Int32.ofNat (2 * k + 1)) m mL = some ((tm_sv (pu_rgi l)).getD (3 * k + 1) 0, m, mL) := by
  unfold pu_numL at h
  rcases h with rfl | rfl | rfl | rfl | rfl | rfl | rfl | rfl | rfl | rfl | rfl | rfl | rfl | rfl | rfl | rfl | rfl | rfl | rfl
  · have hk : k < 1 := hk
    have e : k = 0 := by omega
    rcases e with rfl
    rfl
  · have hk : k < 4 := hk
    have e : k = 0 ∨ k = 1 ∨ k = 2 ∨ k = 3 := by omega
    rcases e with rfl | rfl | rfl | rfl <;> rfl
  · have hk : k < 1 := hk
    have e : k = 0 := by omega
    rcases e with rfl
    rfl
  · have hk : k < 4 := hk
    have e : k = 0 ∨ k = 1 ∨ k = 2 ∨ k = 3 := by omega
    rcases e with rfl | rfl | rfl | rfl <;> rfl
  · have hk : k < 3 := hk
    have e : k = 0 ∨ k = 1 ∨ k = 2 := by omega
    rcases e with rfl | rfl | rfl <;> rfl
  · have hk : k < 3 := hk
    have e : k = 0 ∨ k = 1 ∨ k = 2 := by omega
    rcases e with rfl | rfl | rfl <;> rfl
  · have hk : k < 2 := hk
    have e : k = 0 ∨ k = 1 := by omega
    rcases e with rfl | rfl <;> rfl
  · have hk : k < 3 := hk
    have e : k = 0 ∨ k = 1 ∨ k = 2 := by omega
    rcases e with rfl | rfl | rfl <;> rfl
  · have hk : k < 1 := hk
    have e : k = 0 := by omega
    rcases e with rfl
    rfl
  · have hk : k < 2 := hk
    have e : k = 0 ∨ k = 1 := by omega
    rcases e with rfl | rfl <;> rfl
  · have hk : k < 3 := hk
    have e : k = 0 ∨ k = 1 ∨ k = 2 := by omega
    rcases e with rfl | rfl | rfl <;> rfl
  · have hk : k < 2 := hk
    have e : k = 0 ∨ k = 1 := by omega
    rcases e with rfl | rfl <;> rfl
  · have hk : k < 1 := hk
    have e : k = 0 := by omega
    rcases e with rfl
    rfl
  · have hk : k < 4 := hk
    have e : k = 0 ∨ k = 1 ∨ k = 2 ∨ k = 3 := by omega
    rcases e with rfl | rfl | rfl | rfl <;> rfl
  · have hk : k < 1 := hk
    have e : k = 0 := by omega
    rcases e with rfl
    rfl
  · have hk : k < 4 := hk
    have e : k = 0 ∨ k = 1 ∨ k = 2 ∨ k = 3 := by omega
    rcases e with rfl | rfl | rfl | rfl <;> rfl
  · have hk : k < 1 := hk
    have e : k = 0 := by omega
    rcases e with rfl
    rfl
  · have hk : k < 1 := hk
    have e : k = 0 := by omega
    rcases e with rfl
    rfl
  · have hk : k < 4 := hk
    have e : k = 0 ∨ k = 1 ∨ k = 2 ∨ k = 3 := by omega
    rcases e with rfl | rfl | rfl | rfl <;> rfl
end ML
def pu_agn (n : Nat) (u v : Nat → Int32) : Prop := ∀ k, k < n → u k = v k
theorem pu_agn_fu {n : Nat} {u v : Nat → Int32} (h : pu_agn n u v) (i : Nat) (x : Int32) : pu_agn n (pu_fu u i x) (pu_fu v i x) := by
  intro k hk; unfold pu_fu; split
  · rfl
  · exact h k hk
theorem pu_nums_agn (n : Nat) : ∀ (t i : Nat) (u v : Nat → Int32) (cs : List Int32), t + i ≤ n → pu_agn n u v → (pu_spNums t i u cs = none ∧ pu_spNums t i v cs = none) ∨ ∃ u' v' r, pu_spNums t i u cs = some (u', r) ∧ pu_spNums t i v cs = some (v', r) ∧ pu_agn n u' v'
  | 0, i, u, v, cs, _, h => Or.inr ⟨u, v, cs, rfl, rfl, h⟩
  | t + 1, i, u, v, cs, ht, h => by
    rw [pu_spNums, pu_spNums, h i (by omega)]
    by_cases q : 0 < i ∧ pu_hd cs ≠ 44
    · rw [if_pos q, if_pos q]; exact Or.inr ⟨u, v, cs, rfl, rfl, h⟩
    · rw [if_neg q, if_neg q]
      cases pu_spOne (v i) (if 0 < i then cs.tail else cs) with
      | none => exact Or.inl ⟨rfl, rfl⟩
      | some z => exact pu_nums_agn n t (i + 1) (pu_fu u i z.1) (pu_fu v i z.1) z.2 (by omega) (pu_agn_fu h i z.1)
theorem pu_rng_agn {n : Nat} (j : Nat) : ∀ (t k : Nat) (u v : Nat → Int32), t + k ≤ n → pu_agn n u v → pu_inRng j u k t = pu_inRng j v k t
  | 0, k, u, v, _, h => rfl
  | t + 1, k, u, v, ht, h => by rw [pu_inRng, pu_inRng, h k (by omega), pu_rng_agn j t (k + 1) u v (by omega) h]
section MT
variable {m : tm_I} {mL : tm_L} {P : List Int32}
theorem pu_manyL_le {l : Int32} (h : pu_numL l) : 1 ≤ pu_manyL l ∧ pu_manyL l ≤ 4 ∧ (l = 75 → pu_manyL l = 1) := by
  unfold pu_numL at h
  rcases h with rfl | rfl | rfl | rfl | rfl | rfl | rfl | rfl | rfl | rfl | rfl | rfl | rfl | rfl | rfl | rfl | rfl | rfl | rfl <;> decide
theorem pu_mo_pre {l : Int32} (h : pu_numL l) (pv tx : Nat → Int32) (ht : l = 84 → ∀ k, k < 4 → m 48 k = tx k) (hpv : ∀ k, k < pu_manyL l → pv k = if l = 84 then tx k else pu_pre (pu_rgi l) k) (L : Nat) : ∀ (t k n : Nat) (vs : Nat → Int32), t + k = pu_manyL l → t < n → (∀ j, j < k → vs j = pv j) → ∃ vs', f_Mo_takeNumbers_l7 n l (Int32.ofNat (pu_manyL l)) (Int32.ofNat k) (pu_Mm m L vs) mL = f_Mo_takeNumbers_l32 tm_F l (Int32.ofNat (pu_manyL l)) 0 (pu_Mm m L vs') mL ∧ pu_agn (pu_manyL l) vs' pv := by
  obtain ⟨hm1, hm2, _⟩ := pu_manyL_le h
  intro t
  induction t with
  | zero =>
    intro k n vs hk hn hv
    obtain ⟨n, rfl⟩ : ∃ n', n = n' + 1 := ⟨n - 1, by omega⟩
    refine ⟨vs, ?_, fun j hj => hv j (by omega)⟩
    rw [f_Mo_takeNumbers_l7, if_pos (by simp (disch := omega) only [pu_n_lit, pu_n_add, pu_n_mul, pu_n_sub, pu_n_div, pu_n_nat, pu_q_ltT, pu_q_ltF, pu_q_leT, pu_q_leF, pu_q_eqT, pu_q_eqF, pu_n_lt, pu_n_le, pu_n_eq, pu_p_ltT, pu_p_ltF, pu_p_leT, pu_p_leF, not_true_eq_false, not_false_eq_true, or_false, false_or, or_true, true_or, and_true, true_and, and_false, false_and, ↓reduceIte, pu_b_some])]
  | succ t ih =>
    intro k n vs hk hn hv
    obtain ⟨n, rfl⟩ : ∃ n', n = n' + 1 := ⟨n - 1, by omega⟩
    obtain ⟨vs', e1, e2⟩ := ih (k + 1) n (pu_fu vs k (pv k)) (by omega) (by omega) (fun j hj => by
      unfold pu_fu
      by_cases q : j = k
      · rw [if_pos q, q]
      · rw [if_neg q]; exact hv j (by omega))
    refine ⟨vs', ?_, e2⟩
    rw [f_Mo_takeNumbers_l7, if_neg (by simp (disch := omega) only [pu_n_lit, pu_n_add, pu_n_mul, pu_n_sub, pu_n_div, pu_n_nat, pu_q_ltT, pu_q_ltF, pu_q_leT, pu_q_leF, pu_q_eqT, pu_q_eqF, pu_n_lt, pu_n_le, pu_n_eq, pu_p_ltT, pu_p_ltF, pu_p_leT, pu_p_leF, not_true_eq_false, not_false_eq_true, or_false, false_or, or_true, true_or, and_true, true_and, and_false, false_and, ↓reduceIte, pu_b_some]), pu_mo_preset h tx (fun e j hj => by rw [pu_Mm_o (by decide) (by decide)]; exact ht e j hj) (by omega), pu_b_some]
    simp only []
    rw [if_pos (pu_n_in (by omega) (by omega)), pu_n_nat (by omega), ← hpv k (by omega), pu_Mm_up46, pu_n_lit 1, pu_n_add]
    exact e1
theorem pu_mo_tk {l : Int32} (h : pu_numL l) (hs : pu_Stk m P) (pv tx : Nat → Int32) (ht : l = 84 → ∀ k, k < 4 → m 48 k = tx k) (hpv : ∀ k, k < pu_manyL l → pv k = if l = 84 then tx k else pu_pre (pu_rgi l) k) (q : Nat) (vs : Nat → Int32) :
    (pu_spPost l (pu_spNums (pu_manyL l) 0 pv (P.drop q)) = none ∧ ∃ q' vs', f_Mo_takeNumbers l (pu_Mm m (P.length - q) vs) mL = some (4, pu_Mm m (P.length - q') vs', mL)) ∨
    (∃ u vs' q', pu_spPost l (pu_spNums (pu_manyL l) 0 pv (P.drop q)) = some (u, P.drop q') ∧ pu_agn (pu_manyL l) vs' u ∧ f_Mo_takeNumbers l (pu_Mm m (P.length - q) vs) mL = some (0, pu_Mm m (P.length - q') vs', mL)) := by
  obtain ⟨hm1, hm2, hm3⟩ := pu_manyL_le h
  obtain ⟨v0, e1, e2⟩ := pu_mo_pre (mL := mL) h pv tx ht hpv (P.length - q) (pu_manyL l) 0 tm_F vs (by omega) (by unfold tm_F; omega) (fun j hj => absurd hj (Nat.not_lt_zero j))
  have F0 : f_Mo_takeNumbers l (pu_Mm m (P.length - q) vs) mL = f_Mo_takeNumbers_l32 tm_F l (Int32.ofNat (pu_manyL l)) 0 (pu_Mm m (P.length - q) v0) mL := by
    unfold f_Mo_takeNumbers f_Mo_takeNumbers_b0
    rw [pu_mo_numbers h, pu_b_some]
    exact e1
  rw [F0]
  obtain ⟨t, ht2⟩ : ∃ t, pu_manyL l = t + 1 := ⟨pu_manyL l - 1, by omega⟩
  have EG : ∀ u, pu_spGo t 0 u (P.drop q) = pu_spNums (pu_manyL l) 0 u (P.drop q) := by
    intro u
    rw [ht2, pu_spNums, if_neg (by omega), if_neg (by omega)]; rfl
  have M := pu_mo_nums (mL := mL) hs l (pu_manyL l) hm2 hm3 t 0 tm_F q v0 (by omega) (by unfold tm_F; omega)
  rw [EG] at M
  have A := pu_nums_agn (pu_manyL l) (pu_manyL l) 0 v0 pv (P.drop q) (by omega) e2
  rcases A with ⟨a1, a2⟩ | ⟨u', v', r, a1, a2, a3⟩
  · rw [a1] at M
    rw [a2]
    rcases M with ⟨_, q', vs', b2⟩ | ⟨vs', q', b1, b2⟩
    · exact Or.inl ⟨rfl, q', vs', b2⟩
    · cases b1
  · rw [a1] at M
    rw [a2]
    simp only [pu_spPost] at M ⊢
    by_cases qq : ¬ (pu_hd r = 44 ↔ l = 75)
    · rw [if_pos qq] at M ⊢
      rcases M with ⟨_, q', vs', b2⟩ | ⟨vs', q', b1, b2⟩
      · exact Or.inl ⟨rfl, q', vs', b2⟩
      · cases b1
    · rw [if_neg qq] at M ⊢
      rcases M with ⟨b1, _⟩ | ⟨vs', q', b1, b2⟩
      · cases b1
      · simp only [Option.some.injEq, Prod.mk.injEq] at b1
        obtain ⟨b1, b3⟩ := b1
        subst b1
        refine Or.inr ⟨v', u', q', ?_, a3, b2⟩
        rw [b3]
theorem pu_mo_rng {l : Int32} (h : pu_numL l) (L : Nat) (vs : Nat → Int32) : ∀ (t k n : Nat), t + k = pu_manyL l → t < n → f_Mo_testRanges_l2 n l (Int32.ofNat k) (pu_Mm m L vs) mL = some (if pu_inRng (pu_rgi l) vs k t = true then 0 else 5, pu_Mm m L vs, mL) := by
  obtain ⟨hm1, hm2, _⟩ := pu_manyL_le h
  intro t
  induction t with
  | zero =>
    intro k n hk hn
    obtain ⟨n, rfl⟩ : ∃ n', n = n' + 1 := ⟨n - 1, by omega⟩
    rw [f_Mo_testRanges_l2, pu_mo_numbers h, pu_b_some, if_pos (by simp (disch := omega) only [pu_n_lit, pu_n_add, pu_n_mul, pu_n_sub, pu_n_div, pu_n_nat, pu_q_ltT, pu_q_ltF, pu_q_leT, pu_q_leF, pu_q_eqT, pu_q_eqF, pu_n_lt, pu_n_le, pu_n_eq, pu_p_ltT, pu_p_ltF, pu_p_leT, pu_p_leF, not_true_eq_false, not_false_eq_true, or_false, false_or, or_true, true_or, and_true, true_and, and_false, false_and, ↓reduceIte, pu_b_some]), pu_inRng]
    rfl
  | succ t ih =>
    intro k n hk hn
    obtain ⟨n, rfl⟩ : ∃ n', n = n' + 1 := ⟨n - 1, by omega⟩
    rw [f_Mo_testRanges_l2, pu_mo_numbers h, pu_b_some, if_neg (by simp (disch := omega) only [pu_n_lit, pu_n_add, pu_n_mul, pu_n_sub, pu_n_div, pu_n_nat, pu_q_ltT, pu_q_ltF, pu_q_leT, pu_q_leF, pu_q_eqT, pu_q_eqF, pu_n_lt, pu_n_le, pu_n_eq, pu_p_ltT, pu_p_ltF, pu_p_leT, pu_p_leF, not_true_eq_false, not_false_eq_true, or_false, false_or, or_true, true_or, and_true, true_and, and_false, false_and, ↓reduceIte, pu_b_some]), pu_inRng]
    simp only []
    have e2 : (2 : Int32) * Int32.ofNat k = Int32.ofNat (2 * k) := by rw [pu_n_lit 2, pu_n_mul]
    have e3 : (2 : Int32) * Int32.ofNat k + 1 = Int32.ofNat (2 * k + 1) := by rw [pu_n_lit 2, pu_n_mul, pu_n_lit 1, pu_n_add]
    rw [if_pos (pu_n_in (by omega) (by omega)), e3, e2, pu_mo_range_lo h (by omega), pu_b_some, pu_n_nat (by omega)]
    simp only [pu_Mm_46]
    unfold f_Mo_testRanges_b44
    by_cases h1 : vs k < (tm_sv (pu_rgi l)).getD (3 * k) 0
    · simp only [h1, ↓reduceIte]
      rw [decide_eq_false (pu_i_nle h1)]; rfl
    · simp only [h1, ↓reduceIte]
      rw [decide_eq_true (pu_i_nlt h1), Bool.true_and, if_pos (c := ¬ (Int32.ofNat k < 0 ∨ 4 ≤ k)) (fun z => z.elim (pu_n_nn (by omega)) (fun z => absurd z (by omega))), pu_mo_range_hi h (by omega), pu_b_some]
      simp only []
      by_cases h2 : vs k ≤ (tm_sv (pu_rgi l)).getD (3 * k + 1) 0
      · simp only [h2, ↓reduceIte]
        rw [pu_n_lit 1, pu_n_add, ih (k + 1) n (by omega) (by omega)]
        simp
      · simp only [h2, ↓reduceIte]
        simp
theorem pu_mo_ranges {l : Int32} (h : pu_numL l) (L : Nat) (vs : Nat → Int32) : f_Mo_testRanges l (pu_Mm m L vs) mL = some (if pu_inRng (pu_rgi l) vs 0 (pu_manyL l) = true then 0 else 5, pu_Mm m L vs, mL) := by
  obtain ⟨hm1, hm2, _⟩ := pu_manyL_le h
  exact pu_mo_rng h L vs (pu_manyL l) 0 tm_F (by omega) (by unfold tm_F; omega)
end MT
