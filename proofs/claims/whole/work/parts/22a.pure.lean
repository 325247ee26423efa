theorem pu_n_toInt {a : Nat} (h : a < 2147483648) : (Int32.ofNat a).toInt = a := by
  rw [Int32.toInt_ofNat']
  exact Int.bmod_eq_of_le (by simp only [Int32.size]; omega) (by simp only [Int32.size]; omega)
theorem pu_n_lt {a b : Nat} (ha : a < 2147483648) (hb : b < 2147483648) : Int32.ofNat a < Int32.ofNat b ↔ a < b := by
  rw [Int32.lt_iff_toInt_lt, pu_n_toInt ha, pu_n_toInt hb]; omega
theorem pu_n_le {a b : Nat} (ha : a < 2147483648) (hb : b < 2147483648) : Int32.ofNat a ≤ Int32.ofNat b ↔ a ≤ b := by
  rw [Int32.le_iff_toInt_le, pu_n_toInt ha, pu_n_toInt hb]; omega
theorem pu_n_eq {a b : Nat} (ha : a < 2147483648) (hb : b < 2147483648) : Int32.ofNat a = Int32.ofNat b ↔ a = b := by
  rw [← Int32.toInt_inj, pu_n_toInt ha, pu_n_toInt hb]; omega
theorem pu_n_nat {a : Nat} (ha : a < 2147483648) : (Int32.ofNat a).toNatClampNeg = a := by
  rw [← Int32.toNat_toInt, pu_n_toInt ha]; omega
theorem pu_n_add (a b : Nat) : Int32.ofNat a + Int32.ofNat b = Int32.ofNat (a + b) := (Int32.ofNat_add a b).symm
theorem pu_n_mul (a b : Nat) : Int32.ofNat a * Int32.ofNat b = Int32.ofNat (a * b) := (Int32.ofNat_mul a b).symm
theorem pu_n_sub {a b : Nat} (h : b ≤ a) : Int32.ofNat a - Int32.ofNat b = Int32.ofNat (a - b) := by
  have e : Int32.ofNat a = Int32.ofNat (a - b) + Int32.ofNat b := by rw [pu_n_add]; congr 1; omega
  rw [e, Int32.add_sub_cancel]
theorem pu_n_div {a b : Nat} (ha : a < 2147483648) (hb : b < 2147483648) : Int32.ofNat a / Int32.ofNat b = Int32.ofNat (a / b) := by
  have h1 : a / b < 2147483648 := Nat.lt_of_le_of_lt (Nat.div_le_self a b) ha
  rw [← Int32.toInt_inj, Int32.toInt_div, pu_n_toInt ha, pu_n_toInt hb, pu_n_toInt h1]
  rw [← Int.ofNat_tdiv]
  generalize a / b = q at h1
  exact Int.bmod_eq_of_le (by omega) (by omega)
theorem pu_n_lit (n : Nat) : (OfNat.ofNat n : Int32) = Int32.ofNat n := rfl
theorem pu_n_zero : (0 : Int32) = Int32.ofNat 0 := rfl
theorem pu_q_ltT {a b : Nat} (ha : a < 2147483648) (hb : b < 2147483648) (h : a < b) : (Int32.ofNat a < Int32.ofNat b) = True := eq_true ((pu_n_lt ha hb).mpr h)
theorem pu_q_ltF {a b : Nat} (ha : a < 2147483648) (hb : b < 2147483648) (h : b ≤ a) : (Int32.ofNat a < Int32.ofNat b) = False := eq_false (fun q => by have := (pu_n_lt ha hb).mp q; omega)
theorem pu_q_leT {a b : Nat} (ha : a < 2147483648) (hb : b < 2147483648) (h : a ≤ b) : (Int32.ofNat a ≤ Int32.ofNat b) = True := eq_true ((pu_n_le ha hb).mpr h)
theorem pu_q_leF {a b : Nat} (ha : a < 2147483648) (hb : b < 2147483648) (h : b < a) : (Int32.ofNat a ≤ Int32.ofNat b) = False := eq_false (fun q => by have := (pu_n_le ha hb).mp q; omega)
theorem pu_q_eqT {a b : Nat} (h : a = b) : (Int32.ofNat a = Int32.ofNat b) = True := eq_true (by rw [h])
theorem pu_q_eqF {a b : Nat} (ha : a < 2147483648) (hb : b < 2147483648) (h : a ≠ b) : (Int32.ofNat a = Int32.ofNat b) = False := eq_false (fun q => h ((pu_n_eq ha hb).mp q))
theorem pu_p_ltT {a b : Nat} (h : a < b) : (a < b) = True := eq_true h
theorem pu_p_ltF {a b : Nat} (h : b ≤ a) : (a < b) = False := eq_false (by omega)
theorem pu_p_leT {a b : Nat} (h : a ≤ b) : (a ≤ b) = True := eq_true h
theorem pu_p_leF {a b : Nat} (h : b < a) : (a ≤ b) = False := eq_false (by omega)
theorem pu_p_eqF {a b : Nat} (h : a ≠ b) : (a = b) = False := eq_false h
theorem pu_b_some {α β : Type} (a : α) (f : α → Option β) : (some a).bind f = f a := rfl
def pu_gb (x : Int64) (j : Nat) : Int32 := Int32.ofBitVec (((x.toBitVec >>> (8 * j)).setWidth 8).setWidth 32)
theorem pu_gA {x k : Int64} {j : Nat} (hj : j < 8) (hk : k = Int64.ofNat (8 * j)) : ((x.toUInt64 >>> (k.toUInt64 &&& Int64.toUInt64 63)).toInt64).toInt32 &&& 255 = pu_gb x j := by
  subst hk
  have hs : ∀ (y : BitVec 64) (n : Nat), (y >>> n).setWidth 32 &&& 255#32 = ((y >>> n).setWidth 8).setWidth 32 := by
    intro y n
    apply BitVec.eq_of_getLsbD_eq
    intro i hi
    have h255 : (255#32).getLsbD i = decide (i < 8) := by
      have : ∀ i : Fin 32, (255#32).getLsbD i.1 = decide (i.1 < 8) := by decide
      exact this ⟨i, hi⟩
    simp only [BitVec.getLsbD_and, BitVec.getLsbD_setWidth, h255, hi]
    by_cases h8 : i < 8 <;> simp [h8]
  apply Int32.toBitVec_inj.mp
  have key : ∀ j : Fin 8, (((x.toUInt64 >>> ((Int64.ofNat (8 * j.1)).toUInt64 &&& Int64.toUInt64 63)).toInt64).toInt32 &&& 255).toBitVec = (pu_gb x j.1).toBitVec := by
    intro j
    have h2 : ∀ j : Fin 8, ((Int64.ofNat (8 * j.1)).toUInt64 &&& Int64.toUInt64 63).toBitVec % 64 = BitVec.ofNat 64 (8 * j.1) := by decide
    have h3 : ∀ j : Fin 8, (BitVec.ofNat 64 (8 * j.1)).toNat = 8 * j.1 := by decide
    have e1 : (((x.toUInt64 >>> ((Int64.ofNat (8 * j.1)).toUInt64 &&& Int64.toUInt64 63)).toInt64).toInt32 &&& 255).toBitVec = (x.toBitVec >>> (((Int64.ofNat (8 * j.1)).toUInt64 &&& Int64.toUInt64 63).toBitVec % 64)).setWidth 32 &&& 255#32 := by
      rw [Int32.toBitVec_and, Int64.toBitVec_toInt32, BitVec.signExtend_eq_setWidth_of_le _ (by decide)]; rfl
    rw [e1, h2 j, BitVec.ushiftRight_eq', h3 j, hs]
    rfl
  exact key ⟨j, hj⟩
theorem pu_gb_lt (x : Int64) (j : Nat) : ∃ n, n < 256 ∧ pu_gb x j = Int32.ofNat n := by
  refine ⟨((x.toBitVec >>> (8 * j)).setWidth 8).toNat, ((x.toBitVec >>> (8 * j)).setWidth 8).isLt, ?_⟩
  apply Int32.toBitVec_inj.mp
  unfold pu_gb
  apply BitVec.eq_of_toNat_eq
  rw [Int32.toBitVec_ofBitVec, BitVec.toNat_setWidth, show (Int32.ofNat (BitVec.setWidth 8 (x.toBitVec >>> (8 * j))).toNat).toBitVec = BitVec.ofNat 32 (BitVec.setWidth 8 (x.toBitVec >>> (8 * j))).toNat from rfl, BitVec.toNat_ofNat]
theorem pu_gB {x k : Int64} {j n j' : Nat} (hj : j < 8) (hj' : j' < 8) (hn : n < 256) (hk : k = Int64.ofNat (8 * j)) : pu_gb ((x &&& (((255 : Int64) <<< (k &&& 63)) ^^^ (-1 : Int64))) ||| ((Int32.toInt64 (Int32.ofNat n &&& (255 : Int32))) <<< (k &&& 63))) j' = if j' = j then Int32.ofNat n else pu_gb x j' := by
  subst hk
  have h2 : ∀ j : Fin 8, ((Int64.ofNat (8 * j.1)) &&& 63).toBitVec.smod 64 = BitVec.ofNat 64 (8 * j.1) := by decide
  have h3 : ∀ j : Fin 8, (BitVec.ofNat 64 (8 * j.1)).toNat = 8 * j.1 := by decide
  have hb : ∀ n : Fin 256, (Int32.toInt64 (Int32.ofNat n.1 &&& (255 : Int32))).toBitVec = (BitVec.ofNat 8 n.1).setWidth 64 := by decide +kernel
  have hb := hb ⟨n, hn⟩
  have hn8 : (Int32.ofNat n) = Int32.ofBitVec ((BitVec.ofNat 8 n).setWidth 32) := by
    apply Int32.toBitVec_inj.mp
    rw [Int32.toBitVec_ofBitVec, show (Int32.ofNat n).toBitVec = BitVec.ofNat 32 n from rfl]
    apply BitVec.eq_of_toNat_eq
    rw [BitVec.toNat_ofNat, BitVec.toNat_setWidth, BitVec.toNat_ofNat]; omega
  have e1 : ((x &&& (((255 : Int64) <<< (Int64.ofNat (8 * j) &&& 63)) ^^^ (-1 : Int64))) ||| ((Int32.toInt64 (Int32.ofNat n &&& (255 : Int32))) <<< (Int64.ofNat (8 * j) &&& 63))).toBitVec = (x.toBitVec &&& ((255#64 <<< (8 * j)) ^^^ BitVec.allOnes 64)) ||| (((BitVec.ofNat 8 n).setWidth 64) <<< (8 * j)) := by
    rw [Int64.toBitVec_or, Int64.toBitVec_and, Int64.toBitVec_xor, Int64.toBitVec_shiftLeft, Int64.toBitVec_shiftLeft, hb, h2 ⟨j, hj⟩, BitVec.shiftLeft_eq', BitVec.shiftLeft_eq', h3 ⟨j, hj⟩]
    rfl
  unfold pu_gb
  rw [e1, hn8]
  have h255 : ∀ i, (255#64).getLsbD i = decide (i < 8) := by
    intro i
    by_cases hi : i < 64
    · have : ∀ i : Fin 64, (255#64).getLsbD i.1 = decide (i.1 < 8) := by decide
      exact this ⟨i, hi⟩
    · rw [BitVec.getLsbD_of_ge _ _ (by omega)]; simp; omega
  have key : (((x.toBitVec &&& ((255#64 <<< (8 * j)) ^^^ BitVec.allOnes 64)) ||| (((BitVec.ofNat 8 n).setWidth 64) <<< (8 * j))) >>> (8 * j')).setWidth 8 = if j' = j then BitVec.ofNat 8 n else (x.toBitVec >>> (8 * j')).setWidth 8 := by
    apply BitVec.eq_of_getLsbD_eq
    intro i hi
    split
    · next h =>
      subst h
      simp only [BitVec.getLsbD_setWidth, BitVec.getLsbD_ushiftRight, BitVec.getLsbD_or, BitVec.getLsbD_and, BitVec.getLsbD_xor, BitVec.getLsbD_shiftLeft, h255, BitVec.getLsbD_allOnes]
      have q1 : 8 * j' + i < 64 := by omega
      have q2 : ¬ (8 * j' + i < 8 * j') := by omega
      have q3 : 8 * j' + i - 8 * j' = i := by omega
      have q4 : i < 64 := by omega
      have q2' : decide (8 * j' + i < 8 * j') = false := decide_eq_false q2
      simp only [q2', q3, hi, q4, q1, decide_true, Bool.true_and, Bool.not_false, Bool.false_or, Bool.and_true]
      simp
    · next h =>
      simp only [BitVec.getLsbD_setWidth, BitVec.getLsbD_ushiftRight, BitVec.getLsbD_or, BitVec.getLsbD_and, BitVec.getLsbD_xor, BitVec.getLsbD_shiftLeft, h255, BitVec.getLsbD_allOnes]
      have q1 : 8 * j' + i < 64 := by omega
      by_cases hl : 8 * j' + i < 8 * j
      · simp [q1, hi, hl]
      · have q5 : ¬ (8 * j' + i - 8 * j < 8) := by omega
        have q6 : (BitVec.ofNat 8 n).getLsbD (8 * j' + i - 8 * j) = false := BitVec.getLsbD_of_ge _ _ (by omega)
        simp [q1, hi, hl, q5, q6]
  rw [key]
  split <;> rfl
def pu_Row (sz : Nat → Int32) (lg : Nat → Int64) (w r : Nat) (T : List Int32) : Prop := (sz r = Int32.ofNat T.length) ∧ (∀ (i : Nat) (h : i < T.length), pu_gb (lg (r * w + i / 8)) (i % 8) = T[i])
theorem pu_Row.len {sz : Nat → Int32} {lg : Nat → Int64} {w : Nat} {r : Nat} {T : List Int32} (h_ : pu_Row sz lg w r T) : sz r = Int32.ofNat T.length := h_.1
theorem pu_Row.byt {sz : Nat → Int32} {lg : Nat → Int64} {w : Nat} {r : Nat} {T : List Int32} (h_ : pu_Row sz lg w r T) : ∀ (i : Nat) (h : i < T.length), pu_gb (lg (r * w + i / 8)) (i % 8) = T[i] := h_.2
theorem pu_Row.lt {sz : Nat → Int32} {lg : Nat → Int64} {w r : Nat} {T : List Int32} (h : pu_Row sz lg w r T) : ∀ b ∈ T, ∃ n, n < 256 ∧ b = Int32.ofNat n := by
  intro b hb
  obtain ⟨i, hi, rfl⟩ := List.mem_iff_getElem.mp hb
  rw [← h.byt i hi]
  exact pu_gb_lt _ _
theorem pu_n_nn {a : Nat} (ha : a < 2147483648) : ¬ Int32.ofNat a < 0 := by
  rw [pu_n_zero, pu_n_lt ha (by omega)]; omega
theorem pu_n_in {a n : Nat} (ha : a < 2147483648) (h : a < n) : ¬ (Int32.ofNat a < 0 ∨ n ≤ Int32.toNatClampNeg (Int32.ofNat a)) := by
  rw [pu_n_nat ha]
  rintro (h1 | h1)
  · exact pu_n_nn ha h1
  · omega
theorem pu_n_sh {i : Nat} (hi : i < 2147483648) : Int32.toInt64 ((Int32.ofNat i - Int32.ofNat i / (8 : Int32) * (8 : Int32)) * (8 : Int32)) = Int64.ofNat (8 * (i % 8)) := by
  rw [pu_n_lit 8, pu_n_div hi (by omega), pu_n_mul, pu_n_sub (by omega), pu_n_mul]
  have e : (i - i / 8 * 8) * 8 = 8 * (i % 8) := by omega
  rw [e]
  have h8 : i % 8 < 8 := by omega
  generalize i % 8 = j at h8
  have : ∀ j : Fin 8, Int32.toInt64 (Int32.ofNat (8 * j.1)) = Int64.ofNat (8 * j.1) := by decide
  exact this ⟨j, h8⟩
theorem pu_n_sh2 {i : Nat} (hi : i < 2147483648) : (Int32.ofNat ((i - i / 8 * 8) * 8)).toInt64 = Int64.ofNat (8 * (i % 8)) := by
  have h := pu_n_sh hi
  simp (disch := omega) only [pu_n_lit, pu_n_add, pu_n_mul, pu_n_sub, pu_n_div, pu_n_nat, pu_q_ltT, pu_q_ltF, pu_q_leT, pu_q_leF, pu_q_eqT, pu_q_eqF, pu_n_lt, pu_n_le, pu_n_eq, pu_p_ltT, pu_p_ltF, pu_p_leT, pu_p_leF, not_true_eq_false, not_false_eq_true, or_false, false_or, or_true, true_or, and_true, true_and, and_false, false_and, ↓reduceIte, pu_b_some] at h
  exact h
section ROWS
variable {o c d R w r : Nat} {mI : tm_I} {mL : tm_L} {T : List Int32}
theorem pu_ro_size (h2 : rr o 2 = c) (hc : tm_len c = R) (hr : r < R) (hR : R < 10000) : f_Ro_size o (Int32.ofNat r) mI mL = some (mI c r, mI, mL) := by
  unfold f_Ro_size f_Ro_size_b0 f_Ro_size_b23
  rw [h2, hc, if_neg (pu_n_nn (by omega)), if_neg (by rw [pu_n_le (by omega) (by omega)]; omega), if_pos (pu_n_in (by omega) hr), pu_n_nat (by omega)]
theorem pu_ro_at (h2 : rr o 2 = c) (h3 : rr o 3 = d) (hc : tm_len c = R) (pu_hd : tm_len d = R * w) (hw : mI o 1 = Int32.ofNat w) (hr : r < R) (hR : R * w < 10000) (hR2 : R < 10000) (H : pu_Row (mI c) (mL d) w r T) (hT : T.length ≤ 8 * w) {i : Nat} (hi : i < 2147483648) : f_Ro_at o (Int32.ofNat r) (Int32.ofNat i) mI mL = some (T[i]?.getD (-1), mI, mL) := by
  unfold f_Ro_at f_Ro_at_b0 f_Ro_at_b27
  have hT2 : T.length < 2147483648 := by
    have : w ≤ R * w := Nat.le_mul_of_pos_left w (by omega)
    omega
  rw [h2, h3, hc, pu_hd, hw, if_neg (pu_n_nn (by omega)), if_neg (by rw [pu_n_le (by omega) (by omega)]; omega), if_neg (pu_n_nn hi), if_pos (pu_n_in (by omega) hr), pu_n_nat (by omega), H.len]
  by_cases h : i < T.length
  · have h8 : i / 8 < w := by omega
    have h9 : r * w + i / 8 < R * w := by
      have : (r + 1) * w ≤ R * w := Nat.mul_le_mul_right w hr
      rw [Nat.add_mul] at this; omega
    rw [if_pos ((pu_n_lt hi hT2).mpr h), pu_n_lit 8, pu_n_div hi (by omega), pu_n_mul, pu_n_add, if_pos (pu_n_in (by omega) h9), pu_n_nat (by omega)]
    have e := pu_n_sh hi
    rw [pu_n_lit 8, pu_n_div hi (by omega)] at e
    rw [pu_gA (j := i % 8) (by omega) e, H.byt i h, List.getElem?_eq_getElem h]
    rfl
  · rw [if_neg (fun q => h ((pu_n_lt hi hT2).mp q)), List.getElem?_eq_none (by omega)]
    rfl
theorem pu_ro_atn (h2 : rr o 2 = c) (hc : tm_len c = R) (hr : r < R) (hR : R < 10000) {x : Int32} (pu_hx : x < 0) : f_Ro_at o (Int32.ofNat r) x mI mL = some (-1, mI, mL) := by
  unfold f_Ro_at f_Ro_at_b0 f_Ro_at_b27
  rw [h2, hc, if_neg (pu_n_nn (by omega)), if_neg (by rw [pu_n_le (by omega) (by omega)]; omega), if_pos pu_hx]
theorem pu_ro_clear (h2 : rr o 2 = c) (hc : tm_len c = R) (hr : r < R) (hR : R < 10000) : f_Ro_clear o (Int32.ofNat r) mI mL = some (0, tm_up mI c r 0, mL) := by
  unfold f_Ro_clear f_Ro_clear_b0 f_Ro_clear_b20
  rw [h2, hc, if_neg (pu_n_nn (by omega)), if_neg (by rw [pu_n_le (by omega) (by omega)]; omega), if_pos (pu_n_in (by omega) hr), pu_n_nat (by omega)]
theorem pu_Row.empty {sz : Nat → Int32} {lg : Nat → Int64} (h : sz r = 0) : pu_Row sz lg w r [] := ⟨h, fun i hi => absurd hi (Nat.not_lt_zero i)⟩
theorem pu_ro_add_full (h2 : rr o 2 = c) (hc : tm_len c = R) (hr : r < R) (hR : R < 10000) (H : pu_Row (mI c) (mL d) w r T) (hm : mI o 0 = Int32.ofNat T.length) {x : Int32} : f_Ro_add o (Int32.ofNat r) x mI mL = some (0, mI, mL) := by
  unfold f_Ro_add f_Ro_add_b0 f_Ro_add_b26
  rw [h2, hc, if_neg (pu_n_nn (by omega)), if_neg (by rw [pu_n_le (by omega) (by omega)]; omega), if_pos (pu_n_in (by omega) hr), pu_n_nat (by omega), H.len, hm, if_neg (fun q => Int32.lt_irrefl q)]
theorem pu_ro_add (h2 : rr o 2 = c) (h3 : rr o 3 = d) (hc : tm_len c = R) (pu_hd : tm_len d = R * w) (hw : mI o 1 = Int32.ofNat w) (hr : r < R) (hR : R * w < 10000) (hR2 : R < 10000) (H : pu_Row (mI c) (mL d) w r T) {M : Nat} (hm : mI o 0 = Int32.ofNat M) (hM : M ≤ 8 * w) (hT : T.length < M) {n : Nat} (hn : n < 256) : ∃ x, f_Ro_add o (Int32.ofNat r) (Int32.ofNat n) mI mL = some (1, tm_up mI c r (Int32.ofNat (T.length + 1)), tm_up mL d (r * w + T.length / 8) x) ∧ (∀ sz : Nat → Int32, sz r = Int32.ofNat (T.length + 1) → pu_Row sz (tm_up mL d (r * w + T.length / 8) x d) w r (T ++ [Int32.ofNat n])) := by
  have hww : w ≤ R * w := Nat.le_mul_of_pos_left w (by omega)
  have hT2 : T.length < 2147483648 := by omega
  have h9 : r * w + T.length / 8 < R * w := by
    have : (r + 1) * w ≤ R * w := Nat.mul_le_mul_right w hr
    rw [Nat.add_mul] at this; omega
  refine ⟨((mL d (r * w + T.length / 8) &&& (((255 : Int64) <<< (Int64.ofNat (8 * (T.length % 8)) &&& 63)) ^^^ (-1 : Int64))) ||| ((Int32.toInt64 (Int32.ofNat n &&& (255 : Int32))) <<< (Int64.ofNat (8 * (T.length % 8)) &&& 63))), ?_, ?_⟩
  · unfold f_Ro_add f_Ro_add_b0
    simp (disch := omega) only [pu_n_lit, pu_n_add, pu_n_mul, pu_n_sub, pu_n_div, pu_n_nat, pu_q_ltT, pu_q_ltF, pu_q_leT, pu_q_leF, pu_q_eqT, pu_q_eqF, pu_n_lt, pu_n_le, pu_n_eq, pu_p_ltT, pu_p_ltF, pu_p_leT, pu_p_leF, not_true_eq_false, not_false_eq_true, or_false, false_or, or_true, true_or, and_true, true_and, and_false, false_and, ↓reduceIte, pu_b_some, h2, h3, hc, pu_hd, hw, hm, H.len, pu_n_sh2]
  · intro sz hs
    refine ⟨by rw [hs]; simp, fun i hi => ?_⟩
    simp only [List.length_append, List.length_singleton] at hi
    rw [List.getElem_append]
    unfold tm_up
    simp only [true_and]
    by_cases hq : r * w + i / 8 = r * w + T.length / 8
    · rw [if_pos hq, pu_gB (j := T.length % 8) (by omega) (by omega) hn rfl]
      by_cases h : i < T.length
      · rw [if_neg (by omega), dif_pos h, ← hq, H.byt i h]
      · have : i = T.length := by omega
        subst this
        simp
    · rw [if_neg hq]
      have h : i < T.length := by
        rcases Nat.lt_or_ge i T.length with h | h
        · exact h
        · exact absurd (by have : i = T.length := by omega
                           rw [this]) hq
      rw [dif_pos h, H.byt i h]
end ROWS
theorem pu_Row.cpy {sz sz' : Nat → Int32} {mL : tm_L} {s d r r' : Nat} {T : List Int32} (H : pu_Row sz (mL s) 25 r T) (hz : sz' r' = Int32.ofNat T.length) : pu_Row sz' (tm_cpy mL s d (r * 25) (r' * 25) ((T.length + 7) / 8) d) 25 r' T := by
  refine ⟨hz, fun i hi => ?_⟩
  unfold tm_cpy va_cpy
  simp only [if_true]
  rw [if_pos (by omega), ← H.byt i hi]
  congr 2; omega
theorem pu_Row.cpy_o {sz sz' : Nat → Int32} {mL : tm_L} {s d r r' a n : Nat} {T : List Int32} (H : pu_Row sz (mL d) 25 r T) (hT : T.length ≤ 200) (hz : sz' r = sz r) (hr : r ≠ r') (hn : n ≤ 25) : pu_Row sz' (tm_cpy mL s d a (r' * 25) n d) 25 r T := by
  refine ⟨hz.trans H.len, fun i hi => ?_⟩
  unfold tm_cpy va_cpy
  simp only [if_true]
  rw [if_neg (by omega), ← H.byt i hi]
theorem pu_tm_cpy_ne {mL : tm_L} {s d a b n e : Nat} (h : e ≠ d) : tm_cpy mL s d a b n e = mL e := by
  unfold tm_cpy; simp only [if_neg h]
section COPY
variable {mI : tm_I} {mL : tm_L} {T : List Int32} {k : Nat}
theorem pu_co_10_13 (hT : T.length ≤ 200) (H : pu_Row (mI 14) (mL 15) 25 0 T) (hk : k < 10) (h1 : mI 10 0 = 200) (h2 : mI 10 1 = 25) (h3 : mI 13 1 = 25) : f_Ro_copy_10_13 (Int32.ofNat k) 0 mI mL = some (0, tm_up mI 11 k (Int32.ofNat T.length), tm_cpy mL 15 12 (0 * 25) (k * 25) ((T.length + 7) / 8)) := by
  have e := H.len
  unfold f_Ro_copy_10_13 f_Ro_copy_10_13_b0 f_Ma_min f_Ma_min_b0 f_Ma_min_b10
  simp (disch := omega) only [pu_n_lit, pu_n_add, pu_n_mul, pu_n_sub, pu_n_div, pu_n_nat, pu_q_ltT, pu_q_ltF, pu_q_leT, pu_q_leF, pu_q_eqT, pu_q_eqF, pu_n_lt, pu_n_le, pu_n_eq, pu_p_ltT, pu_p_ltF, pu_p_leT, pu_p_leF, not_true_eq_false, not_false_eq_true, or_false, false_or, or_true, true_or, and_true, true_and, and_false, false_and, ↓reduceIte, pu_b_some, h1, h2, h3, e]
theorem pu_co_27_13 (hT : T.length ≤ 200) (H : pu_Row (mI 14) (mL 15) 25 0 T) (h1 : mI 27 0 = 200) (h2 : mI 27 1 = 25) (h3 : mI 13 1 = 25) : f_Ro_copy_27_13 0 0 mI mL = some (0, tm_up mI 28 0 (Int32.ofNat T.length), tm_cpy mL 15 29 (0 * 25) (0 * 25) ((T.length + 7) / 8)) := by
  have e := H.len
  unfold f_Ro_copy_27_13 f_Ro_copy_27_13_b0 f_Ma_min f_Ma_min_b0 f_Ma_min_b10
  simp (disch := omega) only [pu_n_lit, pu_n_add, pu_n_mul, pu_n_sub, pu_n_div, pu_n_nat, pu_q_ltT, pu_q_ltF, pu_q_leT, pu_q_leF, pu_q_eqT, pu_q_eqF, pu_n_lt, pu_n_le, pu_n_eq, pu_p_ltT, pu_p_ltF, pu_p_leT, pu_p_leF, not_true_eq_false, not_false_eq_true, or_false, false_or, or_true, true_or, and_true, true_and, and_false, false_and, ↓reduceIte, pu_b_some, h1, h2, h3, e]
theorem pu_co_27_10 (hT : T.length ≤ 200) (hk : k < 10) (H : pu_Row (mI 11) (mL 12) 25 k T) (h1 : mI 27 0 = 200) (h2 : mI 27 1 = 25) (h3 : mI 10 1 = 25) : f_Ro_copy_27_10 0 (Int32.ofNat k) mI mL = some (0, tm_up mI 28 0 (Int32.ofNat T.length), tm_cpy mL 12 29 (k * 25) (0 * 25) ((T.length + 7) / 8)) := by
  have e := H.len
  unfold f_Ro_copy_27_10 f_Ro_copy_27_10_b0 f_Ma_min f_Ma_min_b0 f_Ma_min_b10
  simp (disch := omega) only [pu_n_lit, pu_n_add, pu_n_mul, pu_n_sub, pu_n_div, pu_n_nat, pu_q_ltT, pu_q_ltF, pu_q_leT, pu_q_leF, pu_q_eqT, pu_q_eqF, pu_n_lt, pu_n_le, pu_n_eq, pu_p_ltT, pu_p_ltF, pu_p_leT, pu_p_leF, not_true_eq_false, not_false_eq_true, or_false, false_or, or_true, true_or, and_true, true_and, and_false, false_and, ↓reduceIte, pu_b_some, h1, h2, h3, e]
theorem pu_co_23_27 (hT : T.length ≤ 200) (hk : k < 120) (H : pu_Row (mI 28) (mL 29) 25 0 T) (h1 : mI 23 0 = 200) (h2 : mI 23 1 = 25) (h3 : mI 27 1 = 25) : f_Ro_copy_23_27 (Int32.ofNat k) 0 mI mL = some (0, tm_up mI 24 k (Int32.ofNat T.length), tm_cpy mL 29 25 (0 * 25) (k * 25) ((T.length + 7) / 8)) := by
  have e := H.len
  unfold f_Ro_copy_23_27 f_Ro_copy_23_27_b0 f_Ma_min f_Ma_min_b0 f_Ma_min_b10
  simp (disch := omega) only [pu_n_lit, pu_n_add, pu_n_mul, pu_n_sub, pu_n_div, pu_n_nat, pu_q_ltT, pu_q_ltF, pu_q_leT, pu_q_leF, pu_q_eqT, pu_q_eqF, pu_n_lt, pu_n_le, pu_n_eq, pu_p_ltT, pu_p_ltF, pu_p_leT, pu_p_leF, not_true_eq_false, not_false_eq_true, or_false, false_or, or_true, true_or, and_true, true_and, and_false, false_and, ↓reduceIte, pu_b_some, h1, h2, h3, e]
theorem pu_co_23_27_no (hk : 120 ≤ k) (hk2 : k < 100000) : f_Ro_copy_23_27 (Int32.ofNat k) 0 mI mL = some (0, mI, mL) := by
  unfold f_Ro_copy_23_27 f_Ro_copy_23_27_b0 f_Ro_copy_23_27_b26
  simp (disch := omega) only [pu_n_lit, pu_n_add, pu_n_mul, pu_n_sub, pu_n_div, pu_n_nat, pu_q_ltT, pu_q_ltF, pu_q_leT, pu_q_leF, pu_q_eqT, pu_q_eqF, pu_n_lt, pu_n_le, pu_n_eq, pu_p_ltT, pu_p_ltF, pu_p_leT, pu_p_leF, not_true_eq_false, not_false_eq_true, or_false, false_or, or_true, true_or, and_true, true_and, and_false, false_and, ↓reduceIte, pu_b_some]
end COPY
theorem pu_tm_up_same {α : Type} {g : Nat → Nat → α} {o k : Nat} {x : α} (h : g o k = x) : tm_up g o k x = g := by
  funext a b
  unfold tm_up
  split
  · next q => rw [q.1, q.2, h]
  · rfl
theorem pu_tm_up_up {α : Type} {g : Nat → Nat → α} {o k : Nat} {x y : α} : tm_up (tm_up g o k x) o k y = tm_up g o k y := by
  funext a b
  unfold tm_up
  split <;> rfl
def pu_hd (cs : List Int32) : Int32 := cs.headD (-1)
def pu_isD (x : Int32) : Bool := decide (48 ≤ x) && decide (x ≤ 57)
theorem pu_la_isDigit (x : Int32) (mI : tm_I) (mL : tm_L) : f_La_isDigit x mI mL = some (if pu_isD x = true then 1 else 0, mI, mL) := by
  unfold f_La_isDigit f_La_isDigit_b0 f_La_isDigit_b16 f_La_isDigit_b17 pu_isD
  by_cases h1 : x < 48
  · have : ¬ (48 : Int32) ≤ x := by rw [Int32.not_le]; exact h1
    simp [h1, this]
  · have h1' : (48 : Int32) ≤ x := by rw [Int32.not_lt] at h1; exact h1
    by_cases h2 : 57 < x
    · have : ¬ x ≤ 57 := by rw [Int32.not_le]; exact h2
      simp [h1, h2, this]
    · have h2' : x ≤ 57 := by rw [Int32.not_lt] at h2; exact h2
      simp [h1, h2, h1', h2']
def pu_Src (mI : tm_I) (mL : tm_L) (S : List Int32) : Prop := (mI 1 4 = 0 ∧ mI 2 1 = 512 ∧ pu_Row (mI 3) (mL 4) 512 0 S ∧ S.length ≤ 4096) ∨ (∃ d k, 0 < d ∧ d ≤ 4 ∧ mI 1 4 = Int32.ofNat d ∧ k < 8 ∧ mI 1 5 = Int32.ofNat k ∧ mI 5 1 = 50 ∧ pu_Row (mI 6) (mL 7) 50 k S ∧ S.length ≤ 400)
theorem pu_Src.le {mI : tm_I} {mL : tm_L} {S : List Int32} (h : pu_Src mI mL S) : S.length ≤ 4096 := by
  rcases h with ⟨_, _, _, h⟩ | ⟨_, _, _, _, _, _, _, _, _, h⟩ <;> omega
theorem pu_sc_ahead {mI : tm_I} {mL : tm_L} {S : List Int32} (h : pu_Src mI mL S) {p n : Nat} (hp : mI 1 6 = Int32.ofNat p) (hb : p + n < 2147483648) : f_Sc_ahead (Int32.ofNat n) mI mL = some ((S.drop p)[n]?.getD (-1), mI, mL) := by
  unfold f_Sc_ahead f_Sc_ahead_b0 f_Sc_ahead_b41
  rw [List.getElem?_drop, hp, pu_n_add]
  rcases h with ⟨h1, h2, h3, h4⟩ | ⟨d, k, h1, h2, h3, h4, h5, h6, h7, h8⟩
  · rw [h1, if_pos (by decide), pu_n_zero, pu_ro_at (R := 1) (w := 512) rfl rfl rfl rfl h2 (by omega) (by omega) (by omega) h3 (by omega) hb]
    rfl
  · rw [h3, if_neg (by simp (disch := omega) only [pu_n_lit, pu_n_add, pu_n_mul, pu_n_sub, pu_n_div, pu_n_nat, pu_q_ltT, pu_q_ltF, pu_q_leT, pu_q_leF, pu_q_eqT, pu_q_eqF, pu_n_lt, pu_n_le, pu_n_eq, pu_p_ltT, pu_p_ltF, pu_p_leT, pu_p_leF, not_true_eq_false, not_false_eq_true, or_false, false_or, or_true, true_or, and_true, true_and, and_false, false_and, ↓reduceIte, pu_b_some]), h5, pu_ro_at (R := 8) (w := 50) rfl rfl rfl rfl h6 h4 (by omega) (by omega) h7 (by omega) hb]
    rfl
theorem pu_sc_hd {mI : tm_I} {mL : tm_L} {S : List Int32} (h : pu_Src mI mL S) {p : Nat} (hp : mI 1 6 = Int32.ofNat p) (hb : p ≤ 100000) : f_Sc_ahead 0 mI mL = some (pu_hd (S.drop p), mI, mL) := by
  have := pu_sc_ahead h (n := 0) hp (by omega)
  rw [pu_n_zero, this]
  unfold pu_hd
  cases S.drop p <;> rfl
theorem pu_sc_skip {mI : tm_I} {mL : tm_L} {p n : Nat} (hp : mI 1 6 = Int32.ofNat p) : f_Sc_skip (Int32.ofNat n) mI mL = some (0, tm_up mI 1 6 (Int32.ofNat (p + n)), mL) := by
  unfold f_Sc_skip f_Sc_skip_b0
  rw [hp, pu_n_add]
def pu_Nm (m : tm_I) (p : Nat) (vs : Nat → Int32) : tm_I := fun a b => if a = 1 ∧ b = 6 then Int32.ofNat p else if a = 18 then vs b else m a b
def pu_fu (vs : Nat → Int32) (i : Nat) (v : Int32) : Nat → Int32 := fun b => if b = i then v else vs b
theorem pu_Nm_at (m : tm_I) (p : Nat) (vs : Nat → Int32) : pu_Nm m p vs 1 6 = Int32.ofNat p := rfl
theorem pu_Nm_18 (m : tm_I) (p : Nat) (vs : Nat → Int32) : pu_Nm m p vs 18 = vs := rfl
theorem pu_Nm_o {m : tm_I} {p : Nat} {vs : Nat → Int32} {a : Nat} (h : a ≠ 1) (h2 : a ≠ 18) : pu_Nm m p vs a = m a := by
  funext b; unfold pu_Nm; simp [h, h2]
theorem pu_Nm_1 {m : tm_I} {p : Nat} {vs : Nat → Int32} {b : Nat} (h : b ≠ 6) : pu_Nm m p vs 1 b = m 1 b := by
  unfold pu_Nm; simp [h]
theorem pu_Nm_up1 {m : tm_I} {p q : Nat} {vs : Nat → Int32} : tm_up (pu_Nm m p vs) 1 6 (Int32.ofNat q) = pu_Nm m q vs := by
  funext a b; unfold tm_up pu_Nm; split <;> simp_all
theorem pu_Nm_up18 {m : tm_I} {p : Nat} {vs : Nat → Int32} {i : Nat} {v : Int32} : tm_up (pu_Nm m p vs) 18 i v = pu_Nm m p (pu_fu vs i v) := by
  funext a b; unfold tm_up pu_Nm pu_fu
  by_cases h : a = 18
  · subst h; simp
  · simp [h]
theorem pu_Nm_src {m : tm_I} {mL : tm_L} {S : List Int32} (h : pu_Src m mL S) (p : Nat) (vs : Nat → Int32) : pu_Src (pu_Nm m p vs) mL S := by
  unfold pu_Src
  rw [pu_Nm_1 (by decide), pu_Nm_1 (by decide), pu_Nm_o (a := 2) (by decide) (by decide), pu_Nm_o (a := 3) (by decide) (by decide), pu_Nm_o (a := 5) (by decide) (by decide), pu_Nm_o (a := 6) (by decide) (by decide)]
  exact h
theorem pu_fo_set {o c : Nat} (h : rr o 0 = c) (hc : tm_len c = 4) {i : Nat} (hi : i < 4) {v : Int32} {mI : tm_I} {mL : tm_L} : f_Fo_set o (Int32.ofNat i) v mI mL = some (0, tm_up mI c i v, mL) := by
  unfold f_Fo_set f_Fo_set_b0 f_Fo_set_b20
  simp (disch := omega) only [pu_n_lit, pu_n_add, pu_n_mul, pu_n_sub, pu_n_div, pu_n_nat, pu_q_ltT, pu_q_ltF, pu_q_leT, pu_q_leF, pu_q_eqT, pu_q_eqF, pu_n_lt, pu_n_le, pu_n_eq, pu_p_ltT, pu_p_ltF, pu_p_leT, pu_p_leF, not_true_eq_false, not_false_eq_true, or_false, false_or, or_true, true_or, and_true, true_and, and_false, false_and, ↓reduceIte, pu_b_some, h, hc]
theorem pu_fo_get {o c : Nat} (h : rr o 0 = c) (hc : tm_len c = 4) {i : Nat} (hi : i < 4) {mI : tm_I} {mL : tm_L} : f_Fo_get o (Int32.ofNat i) mI mL = some (mI c i, mI, mL) := by
  unfold f_Fo_get f_Fo_get_b0 f_Fo_get_b22 f_Fo_get_b23
  simp (disch := omega) only [pu_n_lit, pu_n_add, pu_n_mul, pu_n_sub, pu_n_div, pu_n_nat, pu_q_ltT, pu_q_ltF, pu_q_leT, pu_q_leF, pu_q_eqT, pu_q_eqF, pu_n_lt, pu_n_le, pu_n_eq, pu_p_ltT, pu_p_ltF, pu_p_leT, pu_p_leF, not_true_eq_false, not_false_eq_true, or_false, false_or, or_true, true_or, and_true, true_and, and_false, false_and, ↓reduceIte, pu_b_some, h, hc]
def pu_spDig : Nat → Int32 → Nat → List Int32 → Int32 × Nat × List Int32
  | 0, v, k, cs => (v, k, cs)
  | f + 1, v, k, cs => if pu_isD (pu_hd cs) = true then pu_spDig f (v * 10 + pu_hd cs - 48) (k + 1) cs.tail else (v, k, cs)
theorem pu_hd_cons {cs : List Int32} {x : Int32} (h : pu_hd cs = x) (pu_hx : x ≠ -1) : ∃ r, cs = x :: r := by
  cases cs with
  | nil => exact absurd h.symm pu_hx
  | cons c r => exact ⟨r, by unfold pu_hd at h; simp at h; rw [h]⟩
theorem pu_isD_ne {x : Int32} (h : pu_isD x = true) : x ≠ -1 := by
  intro e; subst e; revert h; decide
theorem pu_hd_pos {cs : List Int32} (h : pu_hd cs ≠ -1) : 0 < cs.length := by
  obtain ⟨r, hr⟩ := pu_hd_cons rfl h
  rw [hr]; simp
theorem pu_drop_tl {α : Type} (cs : List α) (n : Nat) : cs.tail.drop n = cs.drop (n + 1) := by
  cases cs <;> simp
theorem pu_tl_drop {α : Type} (cs : List α) (n : Nat) : (cs.drop n).tail = cs.drop (n + 1) := by
  rw [← List.drop_one, List.drop_drop]
theorem pu_spDig_spec : ∀ (f : Nat) (v : Int32) (k : Nat) (cs : List Int32), k ≤ (pu_spDig f v k cs).2.1 ∧ (pu_spDig f v k cs).2.1 ≤ k + f ∧ (pu_spDig f v k cs).2.1 - k ≤ cs.length ∧ (pu_spDig f v k cs).2.2 = cs.drop ((pu_spDig f v k cs).2.1 - k)
  | 0, v, k, cs => by simp [pu_spDig]
  | f + 1, v, k, cs => by
    rw [pu_spDig]
    by_cases h : pu_isD (pu_hd cs) = true
    · rw [if_pos h]
      have h2 := pu_hd_pos (pu_isD_ne h)
      obtain ⟨q1, q2, q3, q4⟩ := pu_spDig_spec f (v * 10 + pu_hd cs - 48) (k + 1) cs.tail
      rw [List.length_tail] at q3
      refine ⟨by omega, by omega, by omega, ?_⟩
      rw [q4, pu_drop_tl]
      congr 1; omega
    · rw [if_neg h]; simp
def pu_spOne (old : Int32) (cs : List Int32) : Option (Int32 × List Int32) :=
  if pu_hd cs = 45 then
    if 5 < (pu_spDig 6 0 0 cs.tail).2.1 ∨ (pu_spDig 6 0 0 cs.tail).2.1 = 0 then none else some (-(pu_spDig 6 0 0 cs.tail).1, (pu_spDig 6 0 0 cs.tail).2.2)
  else if 5 < (pu_spDig 6 0 0 cs).2.1 then none else some (if (pu_spDig 6 0 0 cs).2.1 = 0 then old else (pu_spDig 6 0 0 cs).1, (pu_spDig 6 0 0 cs).2.2)
section NUMS
variable {m : tm_I} {mL : tm_L} {S : List Int32}
theorem pu_nu_dig (h : pu_Src m mL S) (x2 x3 : Int32) (vs : Nat → Int32) : ∀ (f n : Nat) (v : Int32) (k p : Nat), f + k = 6 → f < n → p ≤ S.length →
    f_Nu_takeOne_l31 n x2 x3 v (Int32.ofNat k) (pu_Nm m p vs) mL = f_Nu_takeOne_b75 x2 x3 (pu_spDig f v k (S.drop p)).1 (Int32.ofNat (pu_spDig f v k (S.drop p)).2.1) (pu_Nm m (p + ((pu_spDig f v k (S.drop p)).2.1 - k)) vs) mL := by
  intro f
  have hS := h.le
  induction f with
  | zero =>
    intro n v k p hk hn hp
    obtain ⟨n, rfl⟩ : ∃ n', n = n' + 1 := ⟨n - 1, by omega⟩
    unfold f_Nu_takeOne_l31 pu_spDig
    have : k = 6 := by omega
    subst this
    simp (disch := omega) only [pu_n_lit, pu_n_add, pu_n_mul, pu_n_sub, pu_n_div, pu_n_nat, pu_q_ltT, pu_q_ltF, pu_q_leT, pu_q_leF, pu_q_eqT, pu_q_eqF, pu_n_lt, pu_n_le, pu_n_eq, pu_p_ltT, pu_p_ltF, pu_p_leT, pu_p_leF, not_true_eq_false, not_false_eq_true, or_false, false_or, or_true, true_or, and_true, true_and, and_false, false_and, ↓reduceIte, pu_b_some, Nat.sub_self, Nat.add_zero]
  | succ f ih =>
    intro n v k p hk hn hp
    obtain ⟨n, rfl⟩ : ∃ n', n = n' + 1 := ⟨n - 1, by omega⟩
    unfold f_Nu_takeOne_l31 pu_spDig
    rw [if_neg (by simp (disch := omega) only [pu_n_lit, pu_n_add, pu_n_mul, pu_n_sub, pu_n_div, pu_n_nat, pu_q_ltT, pu_q_ltF, pu_q_leT, pu_q_leF, pu_q_eqT, pu_q_eqF, pu_n_lt, pu_n_le, pu_n_eq, pu_p_ltT, pu_p_ltF, pu_p_leT, pu_p_leF, not_true_eq_false, not_false_eq_true, or_false, false_or, or_true, true_or, and_true, true_and, and_false, false_and, ↓reduceIte, pu_b_some]), pu_sc_hd (pu_Nm_src h p vs) (pu_Nm_at m p vs) (by omega), pu_b_some, pu_la_isDigit, pu_b_some]
    by_cases hd1 : pu_isD (pu_hd (S.drop p)) = true
    · rw [if_pos hd1, if_pos hd1]
      have h3 := pu_hd_pos (pu_isD_ne hd1)
      rw [List.length_drop] at h3
      simp only []
      rw [if_neg (by decide), pu_sc_hd (pu_Nm_src h p vs) (pu_Nm_at m p vs) (by omega), pu_b_some, pu_n_lit 1, pu_sc_skip (pu_Nm_at m p vs), pu_b_some, pu_n_add, pu_Nm_up1, ih n _ (k + 1) (p + 1) (by omega) (by omega) (by omega)]
      have e : (S.drop p).tail = S.drop (p + 1) := by rw [← List.drop_one, List.drop_drop]
      rw [e]
      obtain ⟨q1, q2, q3, q4⟩ := pu_spDig_spec f (v * 10 + pu_hd (S.drop p) - 48) (k + 1) (S.drop (p + 1))
      simp only []
      congr 2
      omega
    · rw [if_neg hd1, if_neg hd1]
      simp only [Nat.sub_self, Nat.add_zero]
      rw [if_pos trivial]
theorem pu_nu_one (h : pu_Src m mL S) (vs : Nat → Int32) {i p : Nat} (hi : i < 4) (hp : p ≤ S.length) :
    (pu_spOne (vs i) (S.drop p) = none ∧ ∃ p', f_Nu_takeOne (Int32.ofNat i) (pu_Nm m p vs) mL = some (0, pu_Nm m p' vs, mL)) ∨
    (∃ v p', pu_spOne (vs i) (S.drop p) = some (v, S.drop p') ∧ p ≤ p' ∧ p' ≤ S.length ∧ f_Nu_takeOne (Int32.ofNat i) (pu_Nm m p vs) mL = some (1, pu_Nm m p' (pu_fu vs i v), mL)) := by
  have hS := h.le
  by_cases h1 : pu_hd (S.drop p) = 45
  · have h3 : 0 < (S.drop p).length := pu_hd_pos (by rw [h1]; decide)
    rw [List.length_drop] at h3
    have F : f_Nu_takeOne (Int32.ofNat i) (pu_Nm m p vs) mL = f_Nu_takeOne_b75 (Int32.ofNat i) 1 (pu_spDig 6 0 0 (S.drop (p + 1))).1 (Int32.ofNat (pu_spDig 6 0 0 (S.drop (p + 1))).2.1) (pu_Nm m (p + 1 + ((pu_spDig 6 0 0 (S.drop (p + 1))).2.1 - 0)) vs) mL := by
      unfold f_Nu_takeOne f_Nu_takeOne_b0
      rw [pu_sc_hd (pu_Nm_src h p vs) (pu_Nm_at m p vs) (by omega), pu_b_some, if_neg (by simp [h1])]
      unfold f_Nu_takeOne_b15 f_Nu_takeOne_b25
      rw [if_neg (by decide), pu_n_lit 1, pu_sc_skip (pu_Nm_at m p vs), pu_b_some, pu_Nm_up1]
      exact pu_nu_dig h _ _ vs 6 tm_F _ 0 (p + 1) (by omega) (by decide) (by omega)
    rw [F]
    unfold pu_spOne
    rw [if_pos h1, pu_tl_drop]
    obtain ⟨q1, q2, q3, q4⟩ := pu_spDig_spec 6 0 0 (S.drop (p + 1))
    rw [List.length_drop] at q3
    rw [List.drop_drop] at q4
    generalize pu_spDig 6 0 0 (S.drop (p + 1)) = q at *
    obtain ⟨v, k, r⟩ := q
    simp only [Nat.sub_zero] at *
    unfold f_Nu_takeOne_b75 f_Nu_takeOne_b90 f_Nu_takeOne_b92 f_Nu_takeOne_b114 f_Nu_takeOne_b117
    by_cases hk : 5 < k
    · left
      rw [if_pos (Or.inl hk), if_pos (by simp (disch := omega) only [pu_n_lit, pu_n_add, pu_n_mul, pu_n_sub, pu_n_div, pu_n_nat, pu_q_ltT, pu_q_ltF, pu_q_leT, pu_q_leF, pu_q_eqT, pu_q_eqF, pu_n_lt, pu_n_le, pu_n_eq, pu_p_ltT, pu_p_ltF, pu_p_leT, pu_p_leF, not_true_eq_false, not_false_eq_true, or_false, false_or, or_true, true_or, and_true, true_and, and_false, false_and, ↓reduceIte, pu_b_some])]
      exact ⟨rfl, _, rfl⟩
    · rw [if_neg (c := (5 : Int32) < _) (by simp (disch := omega) only [pu_n_lit, pu_n_add, pu_n_mul, pu_n_sub, pu_n_div, pu_n_nat, pu_q_ltT, pu_q_ltF, pu_q_leT, pu_q_leF, pu_q_eqT, pu_q_eqF, pu_n_lt, pu_n_le, pu_n_eq, pu_p_ltT, pu_p_ltF, pu_p_leT, pu_p_leF, not_true_eq_false, not_false_eq_true, or_false, false_or, or_true, true_or, and_true, true_and, and_false, false_and, ↓reduceIte, pu_b_some])]
      by_cases hk0 : k = 0
      · left
        subst hk0
        exact ⟨by simp, _, rfl⟩
      · right
        refine ⟨-v, p + 1 + k, ?_, by omega, by omega, ?_⟩
        · rw [if_neg (by omega), q4]
        · simp (disch := omega) only [pu_n_lit, pu_n_add, pu_n_mul, pu_n_sub, pu_n_div, pu_n_nat, pu_q_ltT, pu_q_ltF, pu_q_leT, pu_q_leF, pu_q_eqT, pu_q_eqF, pu_n_lt, pu_n_le, pu_n_eq, pu_p_ltT, pu_p_ltF, pu_p_leT, pu_p_leF, not_true_eq_false, not_false_eq_true, or_false, false_or, or_true, true_or, and_true, true_and, and_false, false_and, ↓reduceIte, pu_b_some]
          rw [pu_fo_set (c := 18) rfl rfl hi, pu_b_some, pu_Nm_up18]
  · have F : f_Nu_takeOne (Int32.ofNat i) (pu_Nm m p vs) mL = f_Nu_takeOne_b75 (Int32.ofNat i) 0 (pu_spDig 6 0 0 (S.drop p)).1 (Int32.ofNat (pu_spDig 6 0 0 (S.drop p)).2.1) (pu_Nm m (p + ((pu_spDig 6 0 0 (S.drop p)).2.1 - 0)) vs) mL := by
      unfold f_Nu_takeOne f_Nu_takeOne_b0
      rw [pu_sc_hd (pu_Nm_src h p vs) (pu_Nm_at m p vs) (by omega), pu_b_some, if_pos h1]
      unfold f_Nu_takeOne_b15 f_Nu_takeOne_b25
      rw [if_pos rfl]
      exact pu_nu_dig h _ _ vs 6 tm_F _ 0 p (by omega) (by decide) (by omega)
    rw [F]
    unfold pu_spOne
    rw [if_neg h1]
    obtain ⟨q1, q2, q3, q4⟩ := pu_spDig_spec 6 0 0 (S.drop p)
    rw [List.length_drop] at q3
    rw [List.drop_drop] at q4
    generalize pu_spDig 6 0 0 (S.drop p) = q at *
    obtain ⟨v, k, r⟩ := q
    simp only [Nat.sub_zero] at *
    unfold f_Nu_takeOne_b75 f_Nu_takeOne_b90 f_Nu_takeOne_b92 f_Nu_takeOne_b114 f_Nu_takeOne_b117
    by_cases hk : 5 < k
    · left
      rw [if_pos hk, if_pos (by simp (disch := omega) only [pu_n_lit, pu_n_add, pu_n_mul, pu_n_sub, pu_n_div, pu_n_nat, pu_q_ltT, pu_q_ltF, pu_q_leT, pu_q_leF, pu_q_eqT, pu_q_eqF, pu_n_lt, pu_n_le, pu_n_eq, pu_p_ltT, pu_p_ltF, pu_p_leT, pu_p_leF, not_true_eq_false, not_false_eq_true, or_false, false_or, or_true, true_or, and_true, true_and, and_false, false_and, ↓reduceIte, pu_b_some])]
      exact ⟨rfl, _, rfl⟩
    · rw [if_neg (c := (5 : Int32) < _) (by simp (disch := omega) only [pu_n_lit, pu_n_add, pu_n_mul, pu_n_sub, pu_n_div, pu_n_nat, pu_q_ltT, pu_q_ltF, pu_q_leT, pu_q_leF, pu_q_eqT, pu_q_eqF, pu_n_lt, pu_n_le, pu_n_eq, pu_p_ltT, pu_p_ltF, pu_p_leT, pu_p_leF, not_true_eq_false, not_false_eq_true, or_false, false_or, or_true, true_or, and_true, true_and, and_false, false_and, ↓reduceIte, pu_b_some])]
      by_cases hk0 : k = 0
      · right
        subst hk0
        refine ⟨vs i, p, ?_, by omega, by omega, ?_⟩
        · rw [if_neg (by omega), q4]; rfl
        · have : pu_fu vs i (vs i) = vs := by
            funext b; unfold pu_fu; split
            · next e => rw [e]
            · rfl
          rw [this]; rfl
      · right
        refine ⟨v, p + k, ?_, by omega, by omega, ?_⟩
        · rw [if_neg (by omega), if_neg hk0, q4]
        · simp (disch := omega) only [pu_n_lit, pu_n_add, pu_n_mul, pu_n_sub, pu_n_div, pu_n_nat, pu_q_ltT, pu_q_ltF, pu_q_leT, pu_q_leF, pu_q_eqT, pu_q_eqF, pu_n_lt, pu_n_le, pu_n_eq, pu_p_ltT, pu_p_ltF, pu_p_leT, pu_p_leF, not_true_eq_false, not_false_eq_true, or_false, false_or, or_true, true_or, and_true, true_and, and_false, false_and, ↓reduceIte, pu_b_some]
          rw [pu_fo_set (c := 18) rfl rfl hi, pu_b_some, pu_Nm_up18]
def pu_spNums : Nat → Nat → (Nat → Int32) → List Int32 → Option ((Nat → Int32) × List Int32)
  | 0, _, vs, cs => some (vs, cs)
  | t + 1, i, vs, cs =>
    if 0 < i ∧ pu_hd cs ≠ 44 then some (vs, cs) else
    match pu_spOne (vs i) (if 0 < i then cs.tail else cs) with
    | none => none
    | some (v, r) => pu_spNums t (i + 1) (pu_fu vs i v) r
theorem pu_nu_all (h : pu_Src m mL S) : ∀ (t n i p : Nat) (vs : Nat → Int32), t + i ≤ 4 → t < n → p ≤ S.length →
    (pu_spNums t i vs (S.drop p) = none ∧ ∃ p' vs', f_Nu_takeAll_l2 n (Int32.ofNat (t + i)) (Int32.ofNat i) (pu_Nm m p vs) mL = some (0, pu_Nm m p' vs', mL)) ∨
    (∃ vs' p', pu_spNums t i vs (S.drop p) = some (vs', S.drop p') ∧ p ≤ p' ∧ p' ≤ S.length ∧ f_Nu_takeAll_l2 n (Int32.ofNat (t + i)) (Int32.ofNat i) (pu_Nm m p vs) mL = some (1, pu_Nm m p' vs', mL)) := by
  intro t
  have hS := h.le
  induction t with
  | zero =>
    intro n i p vs ht hn hp
    obtain ⟨n, rfl⟩ : ∃ n', n = n' + 1 := ⟨n - 1, by omega⟩
    right
    refine ⟨vs, p, rfl, by omega, hp, ?_⟩
    unfold f_Nu_takeAll_l2
    simp (disch := omega) only [pu_n_lit, pu_n_add, pu_n_mul, pu_n_sub, pu_n_div, pu_n_nat, pu_q_ltT, pu_q_ltF, pu_q_leT, pu_q_leF, pu_q_eqT, pu_q_eqF, pu_n_lt, pu_n_le, pu_n_eq, pu_p_ltT, pu_p_ltF, pu_p_leT, pu_p_leF, not_true_eq_false, not_false_eq_true, or_false, false_or, or_true, true_or, and_true, true_and, and_false, false_and, ↓reduceIte, pu_b_some]
  | succ t ih =>
    intro n i p vs ht hn hp
    obtain ⟨n, rfl⟩ : ∃ n', n = n' + 1 := ⟨n - 1, by omega⟩
    have fin : ∀ p1, p ≤ p1 → p1 ≤ S.length → ((match pu_spOne (vs i) (S.drop p1) with | none => none | some (v, r) => pu_spNums t (i + 1) (pu_fu vs i v) r) = none ∧ ∃ p' vs', f_Nu_takeAll_b28 (f_Nu_takeAll_l2 n) (Int32.ofNat (t + 1 + i)) (Int32.ofNat i) (pu_Nm m p1 vs) mL = some (0, pu_Nm m p' vs', mL)) ∨ (∃ vs' p', (match pu_spOne (vs i) (S.drop p1) with | none => none | some (v, r) => pu_spNums t (i + 1) (pu_fu vs i v) r) = some (vs', S.drop p') ∧ p ≤ p' ∧ p' ≤ S.length ∧ f_Nu_takeAll_b28 (f_Nu_takeAll_l2 n) (Int32.ofNat (t + 1 + i)) (Int32.ofNat i) (pu_Nm m p1 vs) mL = some (1, pu_Nm m p' vs', mL)) := by
      intro p1 hp0 hp1
      unfold f_Nu_takeAll_b28
      rcases pu_nu_one h vs (i := i) (p := p1) (by omega) hp1 with ⟨a1, p', a2⟩ | ⟨v, p', a1, a2, a3, a4⟩
      · left
        rw [a1, a2]
        exact ⟨rfl, p', vs, rfl⟩
      · rw [a1, a4, pu_b_some]
        simp only []
        rw [if_pos (by decide), pu_n_lit 1, pu_n_add, show t + 1 + i = t + (i + 1) by omega]
        rcases ih n (i + 1) p' (pu_fu vs i v) (by omega) (by omega) a3 with b | ⟨vs', p2, b1, b2, b3, b4⟩
        · exact Or.inl b
        · exact Or.inr ⟨vs', p2, b1, by omega, b3, b4⟩
    by_cases hi : i = 0
    · subst hi
      have F : f_Nu_takeAll_l2 (n + 1) (Int32.ofNat (t + 1 + 0)) (Int32.ofNat 0) (pu_Nm m p vs) mL = f_Nu_takeAll_b28 (f_Nu_takeAll_l2 n) (Int32.ofNat (t + 1 + 0)) (Int32.ofNat 0) (pu_Nm m p vs) mL := by
        rw [f_Nu_takeAll_l2]
        rw [if_neg (by simp (disch := omega) only [pu_n_lit, pu_n_add, pu_n_mul, pu_n_sub, pu_n_div, pu_n_nat, pu_q_ltT, pu_q_ltF, pu_q_leT, pu_q_leF, pu_q_eqT, pu_q_eqF, pu_n_lt, pu_n_le, pu_n_eq, pu_p_ltT, pu_p_ltF, pu_p_leT, pu_p_leF, not_true_eq_false, not_false_eq_true, or_false, false_or, or_true, true_or, and_true, true_and, and_false, false_and, ↓reduceIte, pu_b_some]), if_pos (by decide)]
      rw [F, pu_spNums, if_neg (by omega), if_neg (by omega)]
      exact fin p (Nat.le_refl _) hp
    · by_cases hc : pu_hd (S.drop p) = 44
      · have h3 : 0 < (S.drop p).length := pu_hd_pos (by rw [hc]; decide)
        rw [List.length_drop] at h3
        have F : f_Nu_takeAll_l2 (n + 1) (Int32.ofNat (t + 1 + i)) (Int32.ofNat i) (pu_Nm m p vs) mL = f_Nu_takeAll_b28 (f_Nu_takeAll_l2 n) (Int32.ofNat (t + 1 + i)) (Int32.ofNat i) (pu_Nm m (p + 1) vs) mL := by
          rw [f_Nu_takeAll_l2]
          rw [if_neg (by simp (disch := omega) only [pu_n_lit, pu_n_add, pu_n_mul, pu_n_sub, pu_n_div, pu_n_nat, pu_q_ltT, pu_q_ltF, pu_q_leT, pu_q_leF, pu_q_eqT, pu_q_eqF, pu_n_lt, pu_n_le, pu_n_eq, pu_p_ltT, pu_p_ltF, pu_p_leT, pu_p_leF, not_true_eq_false, not_false_eq_true, or_false, false_or, or_true, true_or, and_true, true_and, and_false, false_and, ↓reduceIte, pu_b_some]), if_neg (c := Int32.ofNat i ≤ 0) (by simp (disch := omega) only [pu_n_lit, pu_n_add, pu_n_mul, pu_n_sub, pu_n_div, pu_n_nat, pu_q_ltT, pu_q_ltF, pu_q_leT, pu_q_leF, pu_q_eqT, pu_q_eqF, pu_n_lt, pu_n_le, pu_n_eq, pu_p_ltT, pu_p_ltF, pu_p_leT, pu_p_leF, not_true_eq_false, not_false_eq_true, or_false, false_or, or_true, true_or, and_true, true_and, and_false, false_and, ↓reduceIte, pu_b_some]), pu_sc_hd (pu_Nm_src h p vs) (pu_Nm_at m p vs) (by omega), pu_b_some, if_pos hc, pu_n_lit 1, pu_sc_skip (pu_Nm_at m p vs), pu_b_some, pu_Nm_up1]
        rw [F, pu_spNums, if_neg (by simp [hc]), if_pos (by omega), pu_tl_drop]
        exact fin (p + 1) (by omega) (by omega)
      · have F : f_Nu_takeAll_l2 (n + 1) (Int32.ofNat (t + 1 + i)) (Int32.ofNat i) (pu_Nm m p vs) mL = some (1, pu_Nm m p vs, mL) := by
          rw [f_Nu_takeAll_l2]
          rw [if_neg (by simp (disch := omega) only [pu_n_lit, pu_n_add, pu_n_mul, pu_n_sub, pu_n_div, pu_n_nat, pu_q_ltT, pu_q_ltF, pu_q_leT, pu_q_leF, pu_q_eqT, pu_q_eqF, pu_n_lt, pu_n_le, pu_n_eq, pu_p_ltT, pu_p_ltF, pu_p_leT, pu_p_leF, not_true_eq_false, not_false_eq_true, or_false, false_or, or_true, true_or, and_true, true_and, and_false, false_and, ↓reduceIte, pu_b_some]), if_neg (c := Int32.ofNat i ≤ 0) (by simp (disch := omega) only [pu_n_lit, pu_n_add, pu_n_mul, pu_n_sub, pu_n_div, pu_n_nat, pu_q_ltT, pu_q_ltF, pu_q_leT, pu_q_leF, pu_q_eqT, pu_q_eqF, pu_n_lt, pu_n_le, pu_n_eq, pu_p_ltT, pu_p_ltF, pu_p_leT, pu_p_leF, not_true_eq_false, not_false_eq_true, or_false, false_or, or_true, true_or, and_true, true_and, and_false, false_and, ↓reduceIte, pu_b_some]), pu_sc_hd (pu_Nm_src h p vs) (pu_Nm_at m p vs) (by omega), pu_b_some, if_neg hc]
        rw [F, pu_spNums, if_pos ⟨by omega, hc⟩]
        exact Or.inr ⟨vs, p, rfl, by omega, hp, rfl⟩
end NUMS
