theorem pu_n_neg {a b : Nat} (h : a < b) (hb : b < 2147483648) : Int32.ofNat a - Int32.ofNat b < 0 := by
  rw [Int32.lt_iff_toInt_lt, Int32.toInt_sub, pu_n_toInt (by omega), pu_n_toInt hb]
  rw [Int.bmod_eq_of_le (by omega) (by omega)]
  rw [show (0 : Int32).toInt = 0 from rfl]; omega
def pu_TD (mI : tm_I) (mL : tm_L) (D : List Int32) : Prop := (pu_Row (mI 28) (mL 29) 25 0 D) ∧ (D.length ≤ 200) ∧ (mI 27 0 = 200) ∧ (mI 27 1 = 25)
theorem pu_TD.row {mI : tm_I} {mL : tm_L} {D : List Int32} (h_ : pu_TD mI mL D) : pu_Row (mI 28) (mL 29) 25 0 D := h_.1
theorem pu_TD.len {mI : tm_I} {mL : tm_L} {D : List Int32} (h_ : pu_TD mI mL D) : D.length ≤ 200 := h_.2.1
theorem pu_TD.most {mI : tm_I} {mL : tm_L} {D : List Int32} (h_ : pu_TD mI mL D) : mI 27 0 = 200 := h_.2.2.1
theorem pu_TD.wid {mI : tm_I} {mL : tm_L} {D : List Int32} (h_ : pu_TD mI mL D) : mI 27 1 = 25 := h_.2.2.2
theorem pu_TD.fr {mI mI' : tm_I} {mL mL' : tm_L} {D : List Int32} (h : pu_TD mI mL D) (h28 : mI' 28 = mI 28) (h27 : mI' 27 = mI 27) (h29 : mL' 29 = mL 29) : pu_TD mI' mL' D :=
  ⟨by rw [h28, h29]; exact h.row, h.len, by rw [h27]; exact h.most, by rw [h27]; exact h.wid⟩
section TOLD
variable {mI : tm_I} {mL : tm_L} {D : List Int32}
theorem pu_td_size (h : pu_TD mI mL D) : f_Ro_size 27 0 mI mL = some (Int32.ofNat D.length, mI, mL) := by
  have := pu_ro_size (o := 27) (c := 28) (R := 1) (r := 0) (mI := mI) (mL := mL) rfl rfl (by omega) (by omega)
  rw [h.row.len] at this
  exact this
theorem pu_td_at (h : pu_TD mI mL D) {i : Nat} (hi : i < 2147483648) : f_Ro_at 27 0 (Int32.ofNat i) mI mL = some (D[i]?.getD (-1), mI, mL) := by
  have := h.len
  exact pu_ro_at (o := 27) (c := 28) (d := 29) (R := 1) (r := 0) (w := 25) rfl rfl rfl rfl h.wid (by omega) (by omega) (by omega) h.row (by omega) hi
theorem pu_td_end (h : pu_TD mI mL D) {k : Nat} (hk : k < 10000) : f_Ro_at 27 0 (Int32.ofNat D.length - 1 - Int32.ofNat k) mI mL = some (D.reverse[k]?.getD (-1), mI, mL) := by
  have hl := h.len
  by_cases hq : k < D.length
  · rw [pu_n_lit 1, pu_n_sub (by omega), pu_n_sub (by omega), pu_td_at h (by omega), List.getElem?_reverse hq]
    rfl
  · have e : Int32.ofNat D.length - 1 - Int32.ofNat k = Int32.ofNat D.length - Int32.ofNat (1 + k) := by
      rw [pu_n_lit 1, ← pu_n_add, Int32.sub_eq_add_neg, Int32.sub_eq_add_neg, Int32.sub_eq_add_neg, Int32.neg_add, Int32.add_assoc, Int32.sub_eq_add_neg]
    rw [e, show (0 : Int32) = Int32.ofNat 0 from rfl, pu_ro_atn (c := 28) (R := 1) rfl rfl (by omega) (by omega) (pu_n_neg (by omega) (by omega)), List.getElem?_eq_none (by simp; omega)]
    rfl
def pu_spTail (R : List Int32) : Nat → Nat → Nat
  | 0, k => k
  | t + 1, k => if pu_isD (R[k]?.getD (-1)) = true then pu_spTail R t (k + 1) else k
theorem pu_spTail_le (R : List Int32) : ∀ (t k : Nat), k ≤ pu_spTail R t k ∧ pu_spTail R t k ≤ t + k ∧ (k ≤ R.length → pu_spTail R t k ≤ R.length)
  | 0, k => by simp [pu_spTail]
  | t + 1, k => by
    rw [pu_spTail]
    split
    · next h =>
      have := pu_spTail_le R t (k + 1)
      have hk : k < R.length := by
        rcases Nat.lt_or_ge k R.length with q | q
        · exact q
        · rw [List.getElem?_eq_none q] at h; exact absurd h (by decide)
      omega
    · omega
theorem pu_spTail_dig (R : List Int32) : ∀ (t k j : Nat), k ≤ j → j < pu_spTail R t k → pu_isD (R[j]?.getD (-1)) = true
  | 0, k, j, h1, h2 => by simp [pu_spTail] at h2; omega
  | t + 1, k, j, h1, h2 => by
    rw [pu_spTail] at h2
    split at h2
    · next h =>
      by_cases e : k = j
      · subst e; exact h
      · exact pu_spTail_dig R t (k + 1) j (by omega) h2
    · omega
theorem pu_fi_digits1 (h : pu_TD mI mL D) : ∀ (t k n most : Nat), t + k = most → most < 1000 → t < n → f_Fi_digitsAtEnd_l13 n (Int32.ofNat most) (Int32.ofNat D.length - 1) (Int32.ofNat k) mI mL = some (Int32.ofNat (pu_spTail D.reverse t k), mI, mL) := by
  intro t
  induction t with
  | zero =>
    intro k n most hk hm hn
    obtain ⟨n, rfl⟩ : ∃ n', n = n' + 1 := ⟨n - 1, by omega⟩
    rw [f_Fi_digitsAtEnd_l13, if_pos (by simp (disch := omega) only [pu_n_lit, pu_n_add, pu_n_mul, pu_n_sub, pu_n_div, pu_n_nat, pu_q_ltT, pu_q_ltF, pu_q_leT, pu_q_leF, pu_q_eqT, pu_q_eqF, pu_n_lt, pu_n_le, pu_n_eq, pu_p_ltT, pu_p_ltF, pu_p_leT, pu_p_leF, not_true_eq_false, not_false_eq_true, or_false, false_or, or_true, true_or, and_true, true_and, and_false, false_and, ↓reduceIte, pu_b_some])]
    rfl
  | succ t ih =>
    intro k n most hk hm hn
    obtain ⟨n, rfl⟩ : ∃ n', n = n' + 1 := ⟨n - 1, by omega⟩
    rw [f_Fi_digitsAtEnd_l13, if_neg (by simp (disch := omega) only [pu_n_lit, pu_n_add, pu_n_mul, pu_n_sub, pu_n_div, pu_n_nat, pu_q_ltT, pu_q_ltF, pu_q_leT, pu_q_leF, pu_q_eqT, pu_q_eqF, pu_n_lt, pu_n_le, pu_n_eq, pu_p_ltT, pu_p_ltF, pu_p_leT, pu_p_leF, not_true_eq_false, not_false_eq_true, or_false, false_or, or_true, true_or, and_true, true_and, and_false, false_and, ↓reduceIte, pu_b_some]), pu_td_end h (by omega), pu_b_some, pu_la_isDigit, pu_b_some, pu_spTail]
    by_cases hd1 : pu_isD (D.reverse[k]?.getD (-1)) = true
    · simp only [hd1, if_true]
      rw [if_neg (by decide), pu_n_lit 1, pu_n_add]
      exact ih (k + 1) n most (by omega) hm (by omega)
    · simp only [hd1, if_false]
      rfl
theorem pu_fi_digits (h : pu_TD mI mL D) {most : Nat} (hm : most < 1000) : f_Fi_digitsAtEnd (Int32.ofNat most) mI mL = some (Int32.ofNat (pu_spTail D.reverse most 0), mI, mL) := by
  unfold f_Fi_digitsAtEnd f_Fi_digitsAtEnd_b0
  rw [pu_td_size h, pu_b_some]
  exact pu_fi_digits1 h most 0 tm_F most (by omega) hm (by unfold tm_F; omega)
def pu_dg (x : Int32) : Nat := (x - 48).toNatClampNeg
theorem pu_isD_val {x : Int32} (h : pu_isD x = true) : ∃ k, k < 10 ∧ x = Int32.ofNat (48 + k) := by
  unfold pu_isD at h
  simp only [Bool.and_eq_true, decide_eq_true_eq] at h
  obtain ⟨h1, h2⟩ := h
  rw [Int32.le_iff_toInt_le] at h1 h2
  rw [show (48 : Int32).toInt = 48 from rfl] at h1
  rw [show (57 : Int32).toInt = 57 from rfl] at h2
  refine ⟨(x.toInt - 48).toNat, by omega, ?_⟩
  rw [← Int32.toInt_inj, pu_n_toInt (by omega)]
  omega
theorem pu_dg_val {x : Int32} (h : pu_isD x = true) : pu_dg x < 10 ∧ x = Int32.ofNat (48 + pu_dg x) := by
  obtain ⟨k, hk, rfl⟩ := pu_isD_val h
  have : pu_dg (Int32.ofNat (48 + k)) = k := by
    unfold pu_dg
    rw [pu_n_lit 48, pu_n_sub (by omega), pu_n_nat (by omega)]; omega
  rw [this]; exact ⟨hk, rfl⟩
def pu_spNum (R : List Int32) (b : Nat) : Nat → Nat
  | 0 => 0
  | t + 1 => pu_dg (R[b]?.getD (-1)) + 10 * pu_spNum R (b + 1) t
theorem pu_spNum_lt (R : List Int32) : ∀ (t b : Nat), (∀ j, b ≤ j → j < b + t → pu_isD (R[j]?.getD (-1)) = true) → pu_spNum R b t < 10 ^ t
  | 0, b, _ => by simp [pu_spNum]
  | t + 1, b, h => by
    have h1 := pu_spNum_lt R t (b + 1) (fun j h1 h2 => h j (by omega) (by omega))
    have h2 := (pu_dg_val (h b (by omega) (by omega))).1
    rw [pu_spNum, Nat.pow_succ]; omega
theorem pu_fi_number1 (h : pu_TD mI mL D) (x1 : Int32) : ∀ (b t n : Nat), b + t ≤ 9 → b < n → (∀ j, j < b + t → pu_isD (D.reverse[j]?.getD (-1)) = true) → f_Fi_tailNumber_l18 n x1 (Int32.ofNat D.length - 1) (Int32.ofNat (pu_spNum D.reverse b t)) (Int32.ofNat b - 1) mI mL = some (Int32.ofNat (pu_spNum D.reverse 0 (b + t)), mI, mL) := by
  intro b
  induction b with
  | zero =>
    intro t n hb hn pu_hd
    obtain ⟨n, rfl⟩ : ∃ n', n = n' + 1 := ⟨n - 1, by omega⟩
    rw [f_Fi_tailNumber_l18, if_pos (by decide), Nat.zero_add]
  | succ b ih =>
    intro t n hb hn pu_hd
    obtain ⟨n, rfl⟩ : ∃ n', n = n' + 1 := ⟨n - 1, by omega⟩
    have e : Int32.ofNat (b + 1) - 1 = Int32.ofNat b := by rw [pu_n_lit 1, pu_n_sub (by omega)]; rfl
    rw [f_Fi_tailNumber_l18, e, if_neg (pu_n_nn (by omega)), pu_td_end h (by omega), pu_b_some]
    simp only []
    obtain ⟨q1, q2⟩ := pu_dg_val (pu_hd b (by omega))
    have hlt : pu_spNum D.reverse (b + 1) t < 10 ^ t := pu_spNum_lt _ _ _ (fun j h1 h2 => pu_hd j (by omega))
    have e2 : Int32.ofNat (pu_spNum D.reverse (b + 1) t) * 10 + D.reverse[b]?.getD (-1) - 48 = Int32.ofNat (pu_spNum D.reverse b (t + 1)) := by
      rw [q2, pu_n_lit 10, pu_n_lit 48, pu_n_mul, pu_n_add, pu_n_sub (by omega), pu_spNum]
      congr 1; omega
    have e3 : Int32.ofNat b + -1 = Int32.ofNat b - 1 := by rw [Int32.sub_eq_add_neg]
    rw [e2, e3, ih (t + 1) n (by omega) (by omega) (fun j hj => pu_hd j (by omega))]
    rw [show b + (t + 1) = b + 1 + t by omega]
theorem pu_fi_number (h : pu_TD mI mL D) {tl : Nat} (hl : tl ≤ 9) (pu_hd : ∀ j, j < tl → pu_isD (D.reverse[j]?.getD (-1)) = true) : f_Fi_tailNumber (Int32.ofNat tl) mI mL = some (Int32.ofNat (pu_spNum D.reverse 0 tl), mI, mL) := by
  unfold f_Fi_tailNumber f_Fi_tailNumber_b0
  rw [pu_td_size h, pu_b_some]
  exact pu_fi_number1 h _ tl 0 tm_F (by omega) (by unfold tm_F; omega) (fun j hj => pu_hd j (by omega))
def pu_tailOf (cnt : Bool) (D : List Int32) : Nat := if cnt then pu_spTail D.reverse 9 0 else 0
theorem pu_tailOf_le (cnt : Bool) (D : List Int32) : pu_tailOf cnt D ≤ 9 ∧ pu_tailOf cnt D ≤ D.length := by
  unfold pu_tailOf
  have := pu_spTail_le D.reverse 9 0
  rw [List.length_reverse] at this
  split <;> omega
theorem pu_tailOf_dig (cnt : Bool) (D : List Int32) : ∀ j, j < pu_tailOf cnt D → pu_isD (D.reverse[j]?.getD (-1)) = true := by
  unfold pu_tailOf
  intro j hj
  split at hj
  · exact pu_spTail_dig _ 9 0 j (by omega) hj
  · omega
def pu_bi (b : Bool) : Int32 := if b then 1 else 0
theorem pu_fi_tail (h : pu_TD mI mL D) {cnt : Bool} (hc : mI 26 6 = pu_bi cnt) : f_Fi_tail mI mL = some (Int32.ofNat (pu_tailOf cnt D), mI, mL) := by
  unfold f_Fi_tail f_Fi_tail_b0 f_Fi_tail_b17 pu_tailOf
  rw [hc]
  cases cnt
  · rw [if_pos (by decide), if_neg (by decide)]; rfl
  · rw [if_neg (by decide), if_pos rfl]
    have : f_Fi_digitsAtEnd 9 mI mL = _ := pu_fi_digits h (most := 9) (by omega)
    rw [this, pu_b_some]
end TOLD
def pu_spPe (D : List Int32) : Nat → Nat → Nat
  | 0, k => k
  | t + 1, k => if D[k]?.getD (-1) = 10 then k else pu_spPe D t (k + 1)
theorem pu_spPe_le (D : List Int32) : ∀ t k, k ≤ pu_spPe D t k ∧ pu_spPe D t k ≤ t + k
  | 0, k => by simp [pu_spPe]
  | t + 1, k => by
    rw [pu_spPe]
    have := pu_spPe_le D t (k + 1)
    split <;> omega
def pu_spLb (D : List Int32) (from_ : Nat) : Nat → Option Nat
  | 0 => none
  | j + 1 => if D[from_ + j]?.getD (-1) = 32 then some (from_ + j) else pu_spLb D from_ j
theorem pu_spLb_le {D : List Int32} {from_ : Nat} : ∀ {j b : Nat}, pu_spLb D from_ j = some b → from_ ≤ b ∧ b < from_ + j
  | j + 1, b, h => by
    rw [pu_spLb] at h
    split at h
    · cases h; omega
    · have := pu_spLb_le h; omega
def pu_spLine (n : Nat) (D : List Int32) (from_ : Nat) : Nat × Nat :=
  if n < pu_spPe D (D.length - from_) from_ - from_ then
    match pu_spLb D from_ (n + 1) with
    | some b => (b, b + 1)
    | none => (from_ + n, from_ + n)
  else (pu_spPe D (D.length - from_) from_, pu_spPe D (D.length - from_) from_ + 1)
theorem pu_spLine_le {n : Nat} {D : List Int32} {from_ : Nat} (hn : 1 ≤ n) (hf : from_ ≤ D.length) : from_ ≤ (pu_spLine n D from_).1 ∧ (pu_spLine n D from_).1 ≤ D.length ∧ from_ < (pu_spLine n D from_).2 ∧ (pu_spLine n D from_).2 ≤ D.length + 1 ∧ (pu_spLine n D from_).1 - from_ ≤ n := by
  have h1 := pu_spPe_le D (D.length - from_) from_
  unfold pu_spLine
  split
  · split
    · next b hb => have := pu_spLb_le hb; simp only []; omega
    · simp only []; omega
  · simp only []; omega
def pu_spLines (n : Nat) (D : List Int32) : Nat → Nat → List (Nat × Nat)
  | 0, _ => []
  | f + 1, from_ => (from_, (pu_spLine n D from_).1 - from_) :: (if (pu_spLine n D from_).2 ≤ D.length then pu_spLines n D f (pu_spLine n D from_).2 else [])
theorem pu_spLines_ok {n : Nat} {D : List Int32} (hn : 1 ≤ n) : ∀ (f from_ : Nat), from_ ≤ D.length → ∀ q ∈ pu_spLines n D f from_, q.1 + q.2 ≤ D.length ∧ q.2 ≤ n
  | 0, _, _, q, h => by simp [pu_spLines] at h
  | f + 1, from_, hf, q, h => by
    have h1 := pu_spLine_le hn hf
    rw [pu_spLines, List.mem_cons] at h
    rcases h with rfl | h
    · simp only []; omega
    · split at h
      · next h2 => exact pu_spLines_ok hn f _ h2 q h
      · simp at h
section CUT
variable {mI : tm_I} {mL : tm_L} {D : List Int32}
theorem pu_li_pe1 (h : pu_TD mI mL D) (x1 : Int32) : ∀ (t k n : Nat), t + k = D.length → t < n → f_Li_pieceEnd_l2 n x1 (Int32.ofNat k) mI mL = some (Int32.ofNat (pu_spPe D t k), mI, mL) := by
  have hl := h.len
  intro t
  induction t with
  | zero =>
    intro k n hk hn
    obtain ⟨n, rfl⟩ : ∃ n', n = n' + 1 := ⟨n - 1, by omega⟩
    rw [f_Li_pieceEnd_l2, pu_td_size h, pu_b_some]
    simp only []
    rw [if_pos (by simp (disch := omega) only [pu_n_lit, pu_n_add, pu_n_mul, pu_n_sub, pu_n_div, pu_n_nat, pu_q_ltT, pu_q_ltF, pu_q_leT, pu_q_leF, pu_q_eqT, pu_q_eqF, pu_n_lt, pu_n_le, pu_n_eq, pu_p_ltT, pu_p_ltF, pu_p_leT, pu_p_leF, not_true_eq_false, not_false_eq_true, or_false, false_or, or_true, true_or, and_true, true_and, and_false, false_and, ↓reduceIte, pu_b_some])]
    rfl
  | succ t ih =>
    intro k n hk hn
    obtain ⟨n, rfl⟩ : ∃ n', n = n' + 1 := ⟨n - 1, by omega⟩
    rw [f_Li_pieceEnd_l2, pu_td_size h, pu_b_some]
    simp only []
    rw [if_neg (by simp (disch := omega) only [pu_n_lit, pu_n_add, pu_n_mul, pu_n_sub, pu_n_div, pu_n_nat, pu_q_ltT, pu_q_ltF, pu_q_leT, pu_q_leF, pu_q_eqT, pu_q_eqF, pu_n_lt, pu_n_le, pu_n_eq, pu_p_ltT, pu_p_ltF, pu_p_leT, pu_p_leF, not_true_eq_false, not_false_eq_true, or_false, false_or, or_true, true_or, and_true, true_and, and_false, false_and, ↓reduceIte, pu_b_some]), pu_td_at h (by omega), pu_b_some, pu_spPe]
    simp only []
    by_cases h1 : D[k]?.getD (-1) = 10
    · rw [if_pos h1, if_pos h1]; rfl
    · rw [if_neg h1, if_neg h1, pu_n_lit 1, pu_n_add]
      exact ih (k + 1) n (by omega) (by omega)
theorem pu_li_pe (h : pu_TD mI mL D) {k : Nat} (hk : k ≤ D.length) : f_Li_pieceEnd (Int32.ofNat k) mI mL = some (Int32.ofNat (pu_spPe D (D.length - k) k), mI, mL) := by
  have hl := h.len
  exact pu_li_pe1 h _ (D.length - k) k tm_F (by omega) (by unfold tm_F; omega)
theorem pu_li_lb1 (h : pu_TD mI mL D) (x2 : Int32) {from_ : Nat} : ∀ (j n : Nat), from_ + j < 10000 → j < n → f_Li_lastBlank_l2 n (Int32.ofNat from_) x2 (Int32.ofNat (from_ + j) - 1) mI mL = some (pu_oi (pu_spLb D from_ j), mI, mL) := by
  intro j
  induction j with
  | zero =>
    intro n hk hn
    obtain ⟨n, rfl⟩ : ∃ n', n = n' + 1 := ⟨n - 1, by omega⟩
    rw [f_Li_lastBlank_l2, if_pos]
    · rfl
    · rw [Int32.lt_iff_toInt_lt, Int32.toInt_sub, Nat.add_zero, pu_n_toInt (by omega), show (1 : Int32).toInt = 1 from rfl, Int.bmod_eq_of_le (by omega) (by omega)]; omega
  | succ j ih =>
    intro n hk hn
    obtain ⟨n, rfl⟩ : ∃ n', n = n' + 1 := ⟨n - 1, by omega⟩
    have e : Int32.ofNat (from_ + (j + 1)) - 1 = Int32.ofNat (from_ + j) := by rw [pu_n_lit 1, pu_n_sub (by omega)]; rfl
    rw [f_Li_lastBlank_l2, e, if_neg (by simp (disch := omega) only [pu_n_lit, pu_n_add, pu_n_mul, pu_n_sub, pu_n_div, pu_n_nat, pu_q_ltT, pu_q_ltF, pu_q_leT, pu_q_leF, pu_q_eqT, pu_q_eqF, pu_n_lt, pu_n_le, pu_n_eq, pu_p_ltT, pu_p_ltF, pu_p_leT, pu_p_leF, not_true_eq_false, not_false_eq_true, or_false, false_or, or_true, true_or, and_true, true_and, and_false, false_and, ↓reduceIte, pu_b_some]), pu_td_at h (by omega), pu_b_some, pu_spLb]
    simp only []
    by_cases h1 : D[from_ + j]?.getD (-1) = 32
    · rw [if_neg (fun q => q h1), if_pos h1]; rfl
    · rw [if_pos h1, if_neg h1]
      have e3 : Int32.ofNat (from_ + j) + -1 = Int32.ofNat (from_ + j) - 1 := by rw [Int32.sub_eq_add_neg]
      rw [e3]
      exact ih n (by omega) (by omega)
theorem pu_li_lb (h : pu_TD mI mL D) {from_ n : Nat} (hb : from_ + n < 9000) : f_Li_lastBlank (Int32.ofNat from_) (Int32.ofNat (from_ + n)) mI mL = some (pu_oi (pu_spLb D from_ (n + 1)), mI, mL) := by
  have := pu_li_lb1 h (Int32.ofNat (from_ + n)) (from_ := from_) (n + 1) tm_F (by omega) (by unfold tm_F; omega)
  rw [show Int32.ofNat (from_ + (n + 1)) - 1 = Int32.ofNat (from_ + n) by rw [pu_n_lit 1, pu_n_sub (by omega)]; rfl] at this
  exact this
theorem pu_li_keep {k a b : Nat} (hk : k < 20) (hab : a ≤ b) : f_Li_keep (Int32.ofNat k) (Int32.ofNat a) (Int32.ofNat b) mI mL = some (0, tm_up (tm_up mI 37 k (Int32.ofNat a)) 38 k (Int32.ofNat (b - a)), mL) := by
  unfold f_Li_keep f_Li_keep_b0 f_Li_keep_b38
  simp (disch := omega) only [pu_n_lit, pu_n_add, pu_n_mul, pu_n_sub, pu_n_div, pu_n_nat, pu_q_ltT, pu_q_ltF, pu_q_leT, pu_q_leF, pu_q_eqT, pu_q_eqF, pu_n_lt, pu_n_le, pu_n_eq, pu_p_ltT, pu_p_ltF, pu_p_leT, pu_p_leF, not_true_eq_false, not_false_eq_true, or_false, false_or, or_true, true_or, and_true, true_and, and_false, false_and, ↓reduceIte, pu_b_some]
def pu_KL (mI : tm_I) (k a s : Nat) : tm_I := tm_up (tm_up mI 37 k (Int32.ofNat a)) 38 k (Int32.ofNat s)
theorem pu_KL_o {mI : tm_I} {k a s e : Nat} (h : e ≠ 37) (h2 : e ≠ 38) : pu_KL mI k a s e = mI e := by
  funext b; unfold pu_KL; rw [tm_up_o h2, tm_up_o h]
theorem pu_KL_k {mI : tm_I} {k a s j : Nat} (h : j ≠ k) : pu_KL mI k a s 37 j = mI 37 j ∧ pu_KL mI k a s 38 j = mI 38 j := by
  unfold pu_KL
  exact ⟨by rw [tm_up_o (by decide), tm_up_k h], by rw [tm_up_k h, tm_up_o (by decide)]⟩
theorem pu_KL_s {mI : tm_I} {k a s : Nat} : pu_KL mI k a s 37 k = Int32.ofNat a ∧ pu_KL mI k a s 38 k = Int32.ofNat s := by
  unfold pu_KL
  exact ⟨by rw [tm_up_o (by decide), tm_up_eq], by rw [tm_up_eq]⟩
theorem pu_li_one {n from_ k N : Nat} (hn : 1 ≤ n) (hn2 : n < 1000) (h : pu_TD mI mL D) (hf : from_ ≤ D.length) (hk : k < 20) : f_Li_cut_l5 (N + 1) (Int32.ofNat n) (Int32.ofNat from_) (Int32.ofNat k) mI mL = if (pu_spLine n D from_).2 ≤ D.length then f_Li_cut_l5 N (Int32.ofNat n) (Int32.ofNat (pu_spLine n D from_).2) (Int32.ofNat (k + 1)) (pu_KL mI k from_ ((pu_spLine n D from_).1 - from_)) mL else some (Int32.ofNat (k + 1), pu_KL mI k from_ ((pu_spLine n D from_).1 - from_), mL) := by
  have hl := h.len
  have h1 := pu_spPe_le D (D.length - from_) from_
  have hle := pu_spLine_le hn hf
  rw [f_Li_cut_l5, if_neg (by simp (disch := omega) only [pu_n_lit, pu_n_add, pu_n_mul, pu_n_sub, pu_n_div, pu_n_nat, pu_q_ltT, pu_q_ltF, pu_q_leT, pu_q_leF, pu_q_eqT, pu_q_eqF, pu_n_lt, pu_n_le, pu_n_eq, pu_p_ltT, pu_p_ltF, pu_p_leT, pu_p_leF, not_true_eq_false, not_false_eq_true, or_false, false_or, or_true, true_or, and_true, true_and, and_false, false_and, ↓reduceIte, pu_b_some]), pu_li_pe h hf, pu_b_some]
  simp only []
  rw [pu_n_sub (by omega)]
  unfold pu_spLine at *
  generalize pu_spPe D (D.length - from_) from_ = e at *
  by_cases h2 : n < e - from_
  · rw [if_pos ((pu_n_lt (by omega) (by omega)).mpr h2), pu_n_add, pu_li_lb h (by omega), pu_b_some]
    rw [if_pos h2] at hle
    simp only [if_pos h2]
    cases hb : pu_spLb D from_ (n + 1) with
    | some b =>
      have hb2 := pu_spLb_le hb
      have hne : ¬ Int32.ofNat b = -1 := by
        intro q
        rw [← Int32.toInt_inj, pu_n_toInt (by omega)] at q
        rw [show (-1 : Int32).toInt = -1 from rfl] at q; omega
      unfold f_Li_cut_b87 f_Li_cut_b106 f_Li_cut_b107
      simp only [pu_oi, hne, not_false_eq_true, ↓reduceIte]
      rw [pu_li_keep hk (by omega), pu_b_some, if_pos (by omega), pu_n_lit 1, pu_n_add, pu_n_add]
      rfl
    | none =>
      unfold f_Li_cut_b87 f_Li_cut_b106 f_Li_cut_b107
      simp only [pu_oi, not_true_eq_false, ↓reduceIte]
      rw [pu_li_keep hk (by omega), pu_b_some, if_pos (by omega), pu_n_lit 1, pu_n_add, pu_n_add]
      rfl
  · rw [if_neg (fun q => h2 ((pu_n_lt (by omega) (by omega)).mp q)), pu_li_keep hk (by omega), pu_b_some]
    simp only [if_neg h2]
    have hT : pu_TD (pu_KL mI k from_ (e - from_)) mL D := h.fr (pu_KL_o (by decide) (by decide)) (pu_KL_o (by decide) (by decide)) rfl
    have := pu_td_size hT
    unfold pu_KL at this
    rw [this, pu_b_some]
    simp only []
    unfold f_Li_cut_b107
    by_cases h3 : e < D.length
    · rw [if_pos ((pu_n_lt (by omega) (by omega)).mpr h3), if_pos (by omega), pu_n_lit 1, pu_n_add, pu_n_add]; rfl
    · rw [if_neg (fun q => h3 ((pu_n_lt (by omega) (by omega)).mp q)), if_neg (by omega), pu_n_lit 1, pu_n_add]; rfl
theorem pu_li_cut1 {n : Nat} (hn : 1 ≤ n) (hn2 : n < 1000) : ∀ (t k N f from_ : Nat) (mI : tm_I), pu_TD mI mL D → t + k = 20 → t < N → from_ ≤ D.length → D.length + 1 ≤ f + from_ →
    ∃ mI', f_Li_cut_l5 N (Int32.ofNat n) (Int32.ofNat from_) (Int32.ofNat k) mI mL = some (if k + (pu_spLines n D f from_).length ≤ 20 then Int32.ofNat (k + (pu_spLines n D f from_).length) else -1, mI', mL) ∧ (∀ a, a ≠ 37 → a ≠ 38 → mI' a = mI a) ∧ (∀ j, j < k → mI' 37 j = mI 37 j ∧ mI' 38 j = mI 38 j) ∧ (k + (pu_spLines n D f from_).length ≤ 20 → ∀ (j : Nat) (hj : j < (pu_spLines n D f from_).length), mI' 37 (k + j) = Int32.ofNat (pu_spLines n D f from_)[j].1 ∧ mI' 38 (k + j) = Int32.ofNat (pu_spLines n D f from_)[j].2) := by
  intro t
  induction t with
  | zero =>
    intro k N f from_ mI h hk hN hf hff
    obtain ⟨N, rfl⟩ : ∃ n', N = n' + 1 := ⟨N - 1, by omega⟩
    obtain ⟨f, rfl⟩ : ∃ n', f = n' + 1 := ⟨f - 1, by omega⟩
    have hlen : ¬ k + (pu_spLines n D (f + 1) from_).length ≤ 20 := by rw [pu_spLines]; simp; omega
    refine ⟨mI, ?_, fun _ _ _ => rfl, fun _ _ => ⟨rfl, rfl⟩, fun q => absurd q hlen⟩
    rw [if_neg hlen, f_Li_cut_l5, if_pos (by simp (disch := omega) only [pu_n_lit, pu_n_add, pu_n_mul, pu_n_sub, pu_n_div, pu_n_nat, pu_q_ltT, pu_q_ltF, pu_q_leT, pu_q_leF, pu_q_eqT, pu_q_eqF, pu_n_lt, pu_n_le, pu_n_eq, pu_p_ltT, pu_p_ltF, pu_p_leT, pu_p_leF, not_true_eq_false, not_false_eq_true, or_false, false_or, or_true, true_or, and_true, true_and, and_false, false_and, ↓reduceIte, pu_b_some])]
  | succ t ih =>
    intro k N f from_ mI h hk hN hf hff
    obtain ⟨N, rfl⟩ : ∃ n', N = n' + 1 := ⟨N - 1, by omega⟩
    obtain ⟨f, rfl⟩ : ∃ n', f = n' + 1 := ⟨f - 1, by omega⟩
    have hle := pu_spLine_le hn hf
    rw [pu_li_one hn hn2 h hf (by omega)]
    by_cases h2 : (pu_spLine n D from_).2 ≤ D.length
    · have hT : pu_TD (pu_KL mI k from_ ((pu_spLine n D from_).1 - from_)) mL D := h.fr (pu_KL_o (by decide) (by decide)) (pu_KL_o (by decide) (by decide)) rfl
      obtain ⟨mI', a1, a2, a3, a4⟩ := ih (k + 1) N f (pu_spLine n D from_).2 _ hT (by omega) (by omega) h2 (by omega)
      have hlen : (pu_spLines n D (f + 1) from_).length = 1 + (pu_spLines n D f (pu_spLine n D from_).2).length := by
        rw [pu_spLines, if_pos h2]; simp; omega
      refine ⟨mI', ?_, fun a h1 h2 => (a2 a h1 h2).trans (pu_KL_o h1 h2), fun j hj => ?_, fun hq j hj => ?_⟩
      · rw [if_pos h2, a1, hlen, show k + 1 + (pu_spLines n D f (pu_spLine n D from_).2).length = k + (1 + (pu_spLines n D f (pu_spLine n D from_).2).length) by omega]
      · have := a3 j (by omega)
        have h5 := pu_KL_k (mI := mI) (k := k) (a := from_) (s := (pu_spLine n D from_).1 - from_) (j := j) (by omega)
        exact ⟨this.1.trans h5.1, this.2.trans h5.2⟩
      · have e : pu_spLines n D (f + 1) from_ = (from_, (pu_spLine n D from_).1 - from_) :: pu_spLines n D f (pu_spLine n D from_).2 := by rw [pu_spLines, if_pos h2]
        rw [hlen] at hq
        cases j with
        | zero =>
          have := a3 k (by omega)
          have h5 := pu_KL_s (mI := mI) (k := k) (a := from_) (s := (pu_spLine n D from_).1 - from_)
          simp only [e, List.getElem_cons_zero, Nat.add_zero]
          exact ⟨this.1.trans h5.1, this.2.trans h5.2⟩
        | succ j =>
          simp only [e, List.getElem_cons_succ]
          have := a4 (by omega) j (by rw [hlen] at hj; omega)
          rw [show k + (j + 1) = k + 1 + j by omega]
          exact this
    · have e : pu_spLines n D (f + 1) from_ = [(from_, (pu_spLine n D from_).1 - from_)] := by rw [pu_spLines, if_neg h2]
      refine ⟨pu_KL mI k from_ ((pu_spLine n D from_).1 - from_), ?_, fun a h1 h2 => pu_KL_o h1 h2, fun j hj => pu_KL_k (by omega), fun hq j hj => ?_⟩
      · rw [if_neg h2, e, if_pos (by simp; omega)]; rfl
      · simp only [e, List.length_singleton] at hj
        have : j = 0 := by omega
        subst this
        simp only [e, List.getElem_cons_zero, Nat.add_zero]
        exact pu_KL_s
end CUT
def pu_rowF (k x y r w a b c s f st tl nm sp : Int32) : Nat → Int32 := fun j => match j with
  | 0 => k | 1 => x | 2 => y | 3 => r | 4 => w | 5 => a | 6 => b | 7 => c | 8 => s | 9 => f | 10 => st | 11 => tl | 12 => nm | _ => sp
def pu_W14 (m : tm_I) (K : Nat) (r : Nat → Int32) : tm_I := tm_up (tm_up (tm_up (tm_up (tm_up (tm_up (tm_up (tm_up (tm_up (tm_up (tm_up (tm_up (tm_up (tm_up m 22 (K * 14 + 0) (r 0)) 22 (K * 14 + 1) (r 1)) 22 (K * 14 + 2) (r 2)) 22 (K * 14 + 3) (r 3)) 22 (K * 14 + 4) (r 4)) 22 (K * 14 + 5) (r 5)) 22 (K * 14 + 6) (r 6)) 22 (K * 14 + 7) (r 7)) 22 (K * 14 + 8) (r 8)) 22 (K * 14 + 9) (r 9)) 22 (K * 14 + 10) (r 10)) 22 (K * 14 + 11) (r 11)) 22 (K * 14 + 12) (r 12)) 22 (K * 14 + 13) (r 13)
theorem pu_W14_o {m : tm_I} {K : Nat} {r : Nat → Int32} {a : Nat} (h : a ≠ 22) : pu_W14 m K r a = m a := by
  funext b; unfold pu_W14; simp only [tm_up_o h]
theorem pu_W14_k {m : tm_I} {K : Nat} {r : Nat → Int32} {b : Nat} (h : b < K * 14 ∨ K * 14 + 14 ≤ b) : pu_W14 m K r 22 b = m 22 b := by
  unfold pu_W14
  rw [tm_up_k (by omega), tm_up_k (by omega), tm_up_k (by omega), tm_up_k (by omega), tm_up_k (by omega), tm_up_k (by omega), tm_up_k (by omega), tm_up_k (by omega), tm_up_k (by omega), tm_up_k (by omega), tm_up_k (by omega), tm_up_k (by omega), tm_up_k (by omega), tm_up_k (by omega)]
theorem pu_W14_in {m : tm_I} {K : Nat} {r : Nat → Int32} {j : Nat} (h : j < 14) : pu_W14 m K r 22 (K * 14 + j) = r j := by
  unfold pu_W14 tm_up
  have : j = 0 ∨ j = 1 ∨ j = 2 ∨ j = 3 ∨ j = 4 ∨ j = 5 ∨ j = 6 ∨ j = 7 ∨ j = 8 ∨ j = 9 ∨ j = 10 ∨ j = 11 ∨ j = 12 ∨ j = 13 := by omega
  rcases this with rfl | rfl | rfl | rfl | rfl | rfl | rfl | rfl | rfl | rfl | rfl | rfl | rfl | rfl <;> simp
def pu_wy (t : Bool) : Int32 := if t then 2 else 0
def pu_near (x : Int32) : Bool := decide (-4096 ≤ x) && decide (x ≤ 4096)
theorem pu_la_near (x : Int32) (mI : tm_I) (mL : tm_L) : f_La_isNear x mI mL = some (pu_bi (pu_near x), mI, mL) := by
  unfold f_La_isNear f_La_isNear_b0 f_La_isNear_b18 f_La_isNear_b19 pu_near pu_bi
  by_cases h1 : x < -4096
  · have : ¬ (-4096 : Int32) ≤ x := pu_i_nle h1
    simp [h1, this]
  · have h1' : (-4096 : Int32) ≤ x := pu_i_nlt h1
    by_cases h2 : 4096 < x
    · have : ¬ x ≤ 4096 := pu_i_nle h2
      simp [h1, h2, this]
    · have h2' : x ≤ 4096 := pu_i_nlt h2
      simp [h1, h2, h1', h2']
def pu_stX (r i j : Int32) : Int32 := if r = 0 then i else if r = 1 then -j else if r = 2 then -i else j
def pu_stY (r i j : Int32) : Int32 := if r = 0 then j else if r = 1 then i else if r = 2 then -j else -i
theorem pu_pr_stX (r i j : Int32) (mI : tm_I) (mL : tm_L) : f_Pr_stepsX r i j mI mL = some (pu_stX r i j, mI, mL) := by
  unfold f_Pr_stepsX f_Pr_stepsX_b0 pu_stX
  simp only [pu_ite_some, pu_ite_pair]
theorem pu_pr_stY (r i j : Int32) (mI : tm_I) (mL : tm_L) : f_Pr_stepsY r i j mI mL = some (pu_stY r i j, mI, mL) := by
  unfold f_Pr_stepsY f_Pr_stepsY_b0 pu_stY
  simp only [pu_ite_some, pu_ite_pair]
section ORD
variable {mI : tm_I} {mL : tm_L}
theorem pu_fg30 {mI : tm_I} {mL : tm_L} {i : Nat} (hi : i < 4) : f_Fo_get 30 (Int32.ofNat i) mI mL = some (mI 31 i, mI, mL) := pu_fo_get rfl rfl hi
def pu_AO30 (m : tm_I) (A B : Nat) (t : Bool) (k x y st s : Int32) : tm_I := if A + B < 120 then pu_W14 (tm_up m 20 5 (Int32.ofNat (B + 1))) (A + B) (pu_rowF k x y (m 31 3) (pu_wy t) (m 31 0) (m 31 1) (m 31 2) s (m 20 6 - 1) st (m 20 7) (m 20 8) (m 26 7)) else tm_up m 20 5 (Int32.ofNat (B + 1))
set_option maxHeartbeats 2000000 in
theorem pu_sh_add30 {A B : Nat} {t : Bool} (h4 : mI 20 4 = Int32.ofNat A) (h5 : mI 20 5 = Int32.ofNat B) (ht : mI 26 5 = pu_bi t) (hA : A ≤ 1000) (hB : B ≤ 1000) (k x y st s : Int32) : f_Sh_addOrder_30 k x y st s mI mL = some (0, pu_AO30 mI A B t k x y st s, mL) := by
  unfold f_Sh_addOrder_30 f_Sh_addOrder_30_b0 pu_AO30
  by_cases h : A + B < 120
  · rw [if_pos h]
    unfold f_Sh_addOrder_30_b109
    cases t
    · simp only [pu_bi] at ht
      simp (disch := omega) only [pu_n_lit, pu_n_add, pu_n_mul, pu_n_sub, pu_n_div, pu_n_nat, pu_q_ltT, pu_q_ltF, pu_q_leT, pu_q_leF, pu_q_eqT, pu_q_eqF, pu_n_lt, pu_n_le, pu_n_eq, pu_p_ltT, pu_p_ltF, pu_p_leT, pu_p_leF, not_true_eq_false, not_false_eq_true, or_false, false_or, or_true, true_or, and_true, true_and, and_false, false_and, ↓reduceIte, pu_b_some, h4, h5, tm_up_o, tm_up_k, pu_fg30, ht]
      rfl
    · simp only [pu_bi] at ht
      simp (disch := omega) only [pu_n_lit, pu_n_add, pu_n_mul, pu_n_sub, pu_n_div, pu_n_nat, pu_q_ltT, pu_q_ltF, pu_q_leT, pu_q_leF, pu_q_eqT, pu_q_eqF, pu_n_lt, pu_n_le, pu_n_eq, pu_p_ltT, pu_p_ltF, pu_p_leT, pu_p_leF, not_true_eq_false, not_false_eq_true, or_false, false_or, or_true, true_or, and_true, true_and, and_false, false_and, ↓reduceIte, pu_b_some, h4, h5, tm_up_o, tm_up_k, pu_fg30, ht]
      rfl
  · rw [if_neg h]
    unfold f_Sh_addOrder_30_b42
    simp (disch := omega) only [pu_n_lit, pu_n_add, pu_n_mul, pu_n_sub, pu_n_div, pu_n_nat, pu_q_ltT, pu_q_ltF, pu_q_leT, pu_q_leF, pu_q_eqT, pu_q_eqF, pu_n_lt, pu_n_le, pu_n_eq, pu_p_ltT, pu_p_ltF, pu_p_leT, pu_p_leF, not_true_eq_false, not_false_eq_true, or_false, false_or, or_true, true_or, and_true, true_and, and_false, false_and, ↓reduceIte, pu_b_some, h4, h5]
set_option maxHeartbeats 2000000 in
theorem pu_pr_add30 {A B : Nat} {t : Bool} (h4 : mI 20 4 = Int32.ofNat A) (h5 : mI 20 5 = Int32.ofNat B) (ht : mI 26 5 = pu_bi t) (hA : A ≤ 1000) (hB : B ≤ 1000) (k i j st s : Int32) : f_Pr_add_30 k i j st s mI mL = some (pu_bi (pu_near (mI 19 8 + mI 26 3 + pu_stX (mI 31 3) i j) && pu_near (mI 19 9 + mI 26 4 + pu_stY (mI 31 3) i j)), pu_AO30 mI A B t k (mI 19 8 + mI 26 3 + pu_stX (mI 31 3) i j) (mI 19 9 + mI 26 4 + pu_stY (mI 31 3) i j) st s, mL) := by
  unfold f_Pr_add_30 f_Pr_add_30_b0
  have e : f_Fo_get 30 3 mI mL = some (mI 31 3, mI, mL) := pu_fg30 (i := 3) (by decide)
  rw [e, pu_b_some]
  simp only []
  rw [pu_pr_stX, pu_b_some]
  simp only []
  rw [pu_pr_stY, pu_b_some]
  simp only []
  rw [pu_sh_add30 h4 h5 ht hA hB, pu_b_some]
  simp only []
  rw [pu_la_near, pu_b_some]
  simp only []
  unfold f_Pr_add_30_b94 f_Pr_add_30_b95
  cases pu_near (mI 19 8 + mI 26 3 + pu_stX (mI 31 3) i j)
  · simp [pu_bi]
  · rw [if_neg (by simp [pu_bi]), pu_la_near, pu_b_some]
    simp only []
    cases pu_near (mI 19 9 + mI 26 4 + pu_stY (mI 31 3) i j)
    · simp [pu_bi]
    · simp [pu_bi]
theorem pu_fg32 {mI : tm_I} {mL : tm_L} {i : Nat} (hi : i < 4) : f_Fo_get 32 (Int32.ofNat i) mI mL = some (mI 33 i, mI, mL) := pu_fo_get rfl rfl hi
def pu_AO32 (m : tm_I) (A B : Nat) (t : Bool) (k x y st s : Int32) : tm_I := if A + B < 120 then pu_W14 (tm_up m 20 5 (Int32.ofNat (B + 1))) (A + B) (pu_rowF k x y (m 33 3) (pu_wy t) (m 33 0) (m 33 1) (m 33 2) s (m 20 6 - 1) st (m 20 7) (m 20 8) (m 26 7)) else tm_up m 20 5 (Int32.ofNat (B + 1))
set_option maxHeartbeats 2000000 in
theorem pu_sh_add32 {A B : Nat} {t : Bool} (h4 : mI 20 4 = Int32.ofNat A) (h5 : mI 20 5 = Int32.ofNat B) (ht : mI 26 5 = pu_bi t) (hA : A ≤ 1000) (hB : B ≤ 1000) (k x y st s : Int32) : f_Sh_addOrder_32 k x y st s mI mL = some (0, pu_AO32 mI A B t k x y st s, mL) := by
  unfold f_Sh_addOrder_32 f_Sh_addOrder_32_b0 pu_AO32
  by_cases h : A + B < 120
  · rw [if_pos h]
    unfold f_Sh_addOrder_32_b109
    cases t
    · simp only [pu_bi] at ht
      simp (disch := omega) only [pu_n_lit, pu_n_add, pu_n_mul, pu_n_sub, pu_n_div, pu_n_nat, pu_q_ltT, pu_q_ltF, pu_q_leT, pu_q_leF, pu_q_eqT, pu_q_eqF, pu_n_lt, pu_n_le, pu_n_eq, pu_p_ltT, pu_p_ltF, pu_p_leT, pu_p_leF, not_true_eq_false, not_false_eq_true, or_false, false_or, or_true, true_or, and_true, true_and, and_false, false_and, ↓reduceIte, pu_b_some, h4, h5, tm_up_o, tm_up_k, pu_fg32, ht]
      rfl
    · simp only [pu_bi] at ht
      simp (disch := omega) only [pu_n_lit, pu_n_add, pu_n_mul, pu_n_sub, pu_n_div, pu_n_nat, pu_q_ltT, pu_q_ltF, pu_q_leT, pu_q_leF, pu_q_eqT, pu_q_eqF, pu_n_lt, pu_n_le, pu_n_eq, pu_p_ltT, pu_p_ltF, pu_p_leT, pu_p_leF, not_true_eq_false, not_false_eq_true, or_false, false_or, or_true, true_or, and_true, true_and, and_false, false_and, ↓reduceIte, pu_b_some, h4, h5, tm_up_o, tm_up_k, pu_fg32, ht]
      rfl
  · rw [if_neg h]
    unfold f_Sh_addOrder_32_b42
    simp (disch := omega) only [pu_n_lit, pu_n_add, pu_n_mul, pu_n_sub, pu_n_div, pu_n_nat, pu_q_ltT, pu_q_ltF, pu_q_leT, pu_q_leF, pu_q_eqT, pu_q_eqF, pu_n_lt, pu_n_le, pu_n_eq, pu_p_ltT, pu_p_ltF, pu_p_leT, pu_p_leF, not_true_eq_false, not_false_eq_true, or_false, false_or, or_true, true_or, and_true, true_and, and_false, false_and, ↓reduceIte, pu_b_some, h4, h5]
set_option maxHeartbeats 2000000 in
theorem pu_pr_add32 {A B : Nat} {t : Bool} (h4 : mI 20 4 = Int32.ofNat A) (h5 : mI 20 5 = Int32.ofNat B) (ht : mI 26 5 = pu_bi t) (hA : A ≤ 1000) (hB : B ≤ 1000) (k i j st s : Int32) : f_Pr_add_32 k i j st s mI mL = some (pu_bi (pu_near (mI 19 8 + mI 26 3 + pu_stX (mI 33 3) i j) && pu_near (mI 19 9 + mI 26 4 + pu_stY (mI 33 3) i j)), pu_AO32 mI A B t k (mI 19 8 + mI 26 3 + pu_stX (mI 33 3) i j) (mI 19 9 + mI 26 4 + pu_stY (mI 33 3) i j) st s, mL) := by
  unfold f_Pr_add_32 f_Pr_add_32_b0
  have e : f_Fo_get 32 3 mI mL = some (mI 33 3, mI, mL) := pu_fg32 (i := 3) (by decide)
  rw [e, pu_b_some]
  simp only []
  rw [pu_pr_stX, pu_b_some]
  simp only []
  rw [pu_pr_stY, pu_b_some]
  simp only []
  rw [pu_sh_add32 h4 h5 ht hA hB, pu_b_some]
  simp only []
  rw [pu_la_near, pu_b_some]
  simp only []
  unfold f_Pr_add_32_b94 f_Pr_add_32_b95
  cases pu_near (mI 19 8 + mI 26 3 + pu_stX (mI 33 3) i j)
  · simp [pu_bi]
  · rw [if_neg (by simp [pu_bi]), pu_la_near, pu_b_some]
    simp only []
    cases pu_near (mI 19 9 + mI 26 4 + pu_stY (mI 33 3) i j)
    · simp [pu_bi]
    · simp [pu_bi]
theorem pu_fg34 {mI : tm_I} {mL : tm_L} {i : Nat} (hi : i < 4) : f_Fo_get 34 (Int32.ofNat i) mI mL = some (mI 35 i, mI, mL) := pu_fo_get rfl rfl hi
def pu_AO34 (m : tm_I) (A B : Nat) (t : Bool) (k x y st s : Int32) : tm_I := if A + B < 120 then pu_W14 (tm_up m 20 5 (Int32.ofNat (B + 1))) (A + B) (pu_rowF k x y (m 35 3) (pu_wy t) (m 35 0) (m 35 1) (m 35 2) s (m 20 6 - 1) st (m 20 7) (m 20 8) (m 26 7)) else tm_up m 20 5 (Int32.ofNat (B + 1))
set_option maxHeartbeats 2000000 in
theorem pu_sh_add34 {A B : Nat} {t : Bool} (h4 : mI 20 4 = Int32.ofNat A) (h5 : mI 20 5 = Int32.ofNat B) (ht : mI 26 5 = pu_bi t) (hA : A ≤ 1000) (hB : B ≤ 1000) (k x y st s : Int32) : f_Sh_addOrder_34 k x y st s mI mL = some (0, pu_AO34 mI A B t k x y st s, mL) := by
  unfold f_Sh_addOrder_34 f_Sh_addOrder_34_b0 pu_AO34
  by_cases h : A + B < 120
  · rw [if_pos h]
    unfold f_Sh_addOrder_34_b109
    cases t
    · simp only [pu_bi] at ht
      simp (disch := omega) only [pu_n_lit, pu_n_add, pu_n_mul, pu_n_sub, pu_n_div, pu_n_nat, pu_q_ltT, pu_q_ltF, pu_q_leT, pu_q_leF, pu_q_eqT, pu_q_eqF, pu_n_lt, pu_n_le, pu_n_eq, pu_p_ltT, pu_p_ltF, pu_p_leT, pu_p_leF, not_true_eq_false, not_false_eq_true, or_false, false_or, or_true, true_or, and_true, true_and, and_false, false_and, ↓reduceIte, pu_b_some, h4, h5, tm_up_o, tm_up_k, pu_fg34, ht]
      rfl
    · simp only [pu_bi] at ht
      simp (disch := omega) only [pu_n_lit, pu_n_add, pu_n_mul, pu_n_sub, pu_n_div, pu_n_nat, pu_q_ltT, pu_q_ltF, pu_q_leT, pu_q_leF, pu_q_eqT, pu_q_eqF, pu_n_lt, pu_n_le, pu_n_eq, pu_p_ltT, pu_p_ltF, pu_p_leT, pu_p_leF, not_true_eq_false, not_false_eq_true, or_false, false_or, or_true, true_or, and_true, true_and, and_false, false_and, ↓reduceIte, pu_b_some, h4, h5, tm_up_o, tm_up_k, pu_fg34, ht]
      rfl
  · rw [if_neg h]
    unfold f_Sh_addOrder_34_b42
    simp (disch := omega) only [pu_n_lit, pu_n_add, pu_n_mul, pu_n_sub, pu_n_div, pu_n_nat, pu_q_ltT, pu_q_ltF, pu_q_leT, pu_q_leF, pu_q_eqT, pu_q_eqF, pu_n_lt, pu_n_le, pu_n_eq, pu_p_ltT, pu_p_ltF, pu_p_leT, pu_p_leF, not_true_eq_false, not_false_eq_true, or_false, false_or, or_true, true_or, and_true, true_and, and_false, false_and, ↓reduceIte, pu_b_some, h4, h5]
set_option maxHeartbeats 2000000 in
theorem pu_pr_add34 {A B : Nat} {t : Bool} (h4 : mI 20 4 = Int32.ofNat A) (h5 : mI 20 5 = Int32.ofNat B) (ht : mI 26 5 = pu_bi t) (hA : A ≤ 1000) (hB : B ≤ 1000) (k i j st s : Int32) : f_Pr_add_34 k i j st s mI mL = some (pu_bi (pu_near (mI 19 8 + mI 26 3 + pu_stX (mI 35 3) i j) && pu_near (mI 19 9 + mI 26 4 + pu_stY (mI 35 3) i j)), pu_AO34 mI A B t k (mI 19 8 + mI 26 3 + pu_stX (mI 35 3) i j) (mI 19 9 + mI 26 4 + pu_stY (mI 35 3) i j) st s, mL) := by
  unfold f_Pr_add_34 f_Pr_add_34_b0
  have e : f_Fo_get 34 3 mI mL = some (mI 35 3, mI, mL) := pu_fg34 (i := 3) (by decide)
  rw [e, pu_b_some]
  simp only []
  rw [pu_pr_stX, pu_b_some]
  simp only []
  rw [pu_pr_stY, pu_b_some]
  simp only []
  rw [pu_sh_add34 h4 h5 ht hA hB, pu_b_some]
  simp only []
  rw [pu_la_near, pu_b_some]
  simp only []
  unfold f_Pr_add_34_b94 f_Pr_add_34_b95
  cases pu_near (mI 19 8 + mI 26 3 + pu_stX (mI 35 3) i j)
  · simp [pu_bi]
  · rw [if_neg (by simp [pu_bi]), pu_la_near, pu_b_some]
    simp only []
    cases pu_near (mI 19 9 + mI 26 4 + pu_stY (mI 35 3) i j)
    · simp [pu_bi]
    · simp [pu_bi]
end ORD
