def pu_Md (m : tm_I) (L : Nat) (z : Int32) (g : Nat → Int32) : tm_I := fun a b => if a = 39 ∧ b = 8 then Int32.ofNat L else if a = 39 ∧ b = 17 then z else if a = 47 then g b else m a b
theorem pu_Md_at (m : tm_I) (L : Nat) (z : Int32) (g : Nat → Int32) : pu_Md m L z g 39 8 = Int32.ofNat L := rfl
theorem pu_Md_17 (m : tm_I) (L : Nat) (z : Int32) (g : Nat → Int32) : pu_Md m L z g 39 17 = z := rfl
theorem pu_Md_47 (m : tm_I) (L : Nat) (z : Int32) (g : Nat → Int32) : pu_Md m L z g 47 = g := rfl
theorem pu_Md_o {m : tm_I} {L : Nat} {z : Int32} {g : Nat → Int32} {a : Nat} (h : a ≠ 39) (h2 : a ≠ 47) : pu_Md m L z g a = m a := by
  funext b; unfold pu_Md; simp [h, h2]
theorem pu_Md_39 {m : tm_I} {L : Nat} {z : Int32} {g : Nat → Int32} {b : Nat} (h : b ≠ 8) (h2 : b ≠ 17) : pu_Md m L z g 39 b = m 39 b := by
  unfold pu_Md; simp [h, h2]
theorem pu_Md_up8 {m : tm_I} {L q : Nat} {z : Int32} {g : Nat → Int32} : tm_up (pu_Md m L z g) 39 8 (Int32.ofNat q) = pu_Md m q z g := by
  funext a b; unfold tm_up pu_Md; split <;> simp_all
theorem pu_Md_up17 {m : tm_I} {L : Nat} {z v : Int32} {g : Nat → Int32} : tm_up (pu_Md m L z g) 39 17 v = pu_Md m L v g := by
  funext a b; unfold tm_up pu_Md
  by_cases h1 : a = 39 ∧ b = 17
  · rw [if_pos h1, if_neg (by omega), if_pos h1]
  · rw [if_neg h1, if_neg h1, if_neg h1]
theorem pu_Md_up47 {m : tm_I} {L : Nat} {z v : Int32} {g : Nat → Int32} {i : Nat} : tm_up (pu_Md m L z g) 47 i v = pu_Md m L z (pu_fu g i v) := by
  funext a b; unfold tm_up pu_Md pu_fu
  by_cases h : a = 47
  · subst h; simp
  · simp [h]
theorem pu_Md_id {m : tm_I} {L : Nat} (h : m 39 8 = Int32.ofNat L) (z : Int32) : tm_up m 39 17 z = pu_Md m L z (m 47) := by
  funext a b; unfold pu_Md tm_up
  by_cases h1 : a = 39 ∧ b = 8
  · rw [if_pos h1, if_neg (by omega), h1.1, h1.2, h]
  · rw [if_neg h1]
    by_cases h2 : a = 39 ∧ b = 17
    · rw [if_pos h2, if_pos h2]
    · rw [if_neg h2, if_neg h2]
      by_cases h3 : a = 47
      · rw [if_pos h3, h3]
      · rw [if_neg h3]
theorem pu_Md_stk {m : tm_I} {P : List Int32} (h : pu_Stk m P) (L : Nat) (z : Int32) (g : Nat → Int32) : pu_Stk (pu_Md m L z g) P := h.fr (pu_Md_o (by decide) (by decide))
def pu_bm (P : List Int32) : Prop := ∀ b ∈ P, b = -1 ∨ ∃ n, n < 256 ∧ b = Int32.ofNat n
theorem pu_bm_hd {P : List Int32} (h : pu_bm P) (q : Nat) : pu_hd (P.drop q) = -1 ∨ ∃ n, n < 256 ∧ pu_hd (P.drop q) = Int32.ofNat n := by
  cases hp : P.drop q with
  | nil => exact Or.inl rfl
  | cons c r => exact h c (List.mem_of_mem_drop (i := q) (by rw [hp]; exact List.mem_cons_self))
theorem pu_hx_nn {x : Int32} (h : x = -1 ∨ ∃ n, n < 256 ∧ x = Int32.ofNat n) : 0 ≤ pu_hx x ↔ pu_hx x ≠ -1 := by
  rcases h with rfl | ⟨n, hn, rfl⟩
  · decide
  · rcases pu_hx_b hn with e | ⟨k, k1, k2⟩
    · rw [e]; decide
    · rw [k2]
      have key : ∀ k : Fin 16, 0 ≤ Int32.ofNat k.1 ↔ Int32.ofNat k.1 ≠ -1 := by decide
      exact key ⟨k, k1⟩
section MD
variable {m : tm_I} {mL : tm_L} {P : List Int32}
theorem pu_mo_data (h : pu_Stk m P) (hb : pu_bm P) : ∀ (t n q : Nat) (acc : List Int32) (g : Nat → Int32), t + acc.length = 201 → acc.length ≤ 200 → t < n → (∀ (i : Nat) (hi : i < acc.length), g i = acc[i]) →
    (pu_spData t acc (P.drop q) = none ∧ ∃ q' z g', f_Mo_takeData_l5 n (pu_Md m (P.length - q) (Int32.ofNat acc.length) g) mL = some (6, pu_Md m (P.length - q') z g', mL)) ∨
    (∃ acc' q' g', pu_spData t acc (P.drop q) = some (acc', P.drop q') ∧ acc'.length ≤ 200 ∧ f_Mo_takeData_l5 n (pu_Md m (P.length - q) (Int32.ofNat acc.length) g) mL = some (0, pu_Md m (P.length - q') (Int32.ofNat acc'.length) g', mL) ∧ ∀ (i : Nat) (hi : i < acc'.length), g' i = acc'[i]) := by
  intro t
  induction t with
  | zero => intro n q acc g h1 h2; omega
  | succ t ih =>
    intro n q acc g ht ha hn hg
    obtain ⟨n, rfl⟩ : ∃ n', n = n' + 1 := ⟨n - 1, by omega⟩
    have pk : ∀ (q : Nat), f_Mo_peek (pu_Md m (P.length - q) (Int32.ofNat acc.length) g) mL = some (pu_hd (P.drop q), pu_Md m (P.length - q) (Int32.ofNat acc.length) g, mL) := fun q => pu_mo_peek (pu_Md_stk h _ _ _) (pu_Md_at _ _ _ _)
    have nx : ∀ (q : Nat), f_Mo_next (pu_Md m (P.length - q) (Int32.ofNat acc.length) g) mL = some (pu_hd (P.drop q), pu_Md m (P.length - (q + 1)) (Int32.ofNat acc.length) g, mL) := fun q => by
      have := pu_mo_next (mL := mL) (pu_Md_stk h (P.length - q) (Int32.ofNat acc.length) g) (pu_Md_at _ _ _ _)
      rw [pu_Md_up8] at this; exact this
    by_cases h1 : pu_hd (P.drop q) = -1 ∨ pu_hd (P.drop q) = 94
    · right
      refine ⟨acc, q, g, by rw [pu_spData, if_pos h1], ha, ?_, hg⟩
      rw [f_Mo_takeData_l5, pk, pu_b_some]
      simp only []
      unfold f_Mo_takeData_b116
      by_cases h2 : pu_hd (P.drop q) = -1
      · rw [if_pos h2]
      · have h3 : pu_hd (P.drop q) = 94 := by rcases h1 with e | e; exact absurd e h2; exact e
        rw [if_neg h2, pk, pu_b_some, if_pos h3]
    · have e1 : (P.drop q)[1]?.getD (-1) = pu_hd (P.drop (q + 1)) := by rw [pu_hd0, List.getElem?_drop, List.getElem?_drop]
      have e2 : (P.drop q)[2]?.getD (-1) = pu_hd (P.drop (q + 2)) := by rw [pu_hd0, List.getElem?_drop, List.getElem?_drop]
      have bt : ∀ (v : Int32) (q2 : Nat), (200 ≤ acc.length → f_Mo_takeData_b80 (f_Mo_takeData_l5 n) v (pu_Md m (P.length - q2) (Int32.ofNat acc.length) g) mL = some (6, pu_Md m (P.length - q2) (Int32.ofNat acc.length) g, mL)) ∧ (¬ 200 ≤ acc.length → f_Mo_takeData_b80 (f_Mo_takeData_l5 n) v (pu_Md m (P.length - q2) (Int32.ofNat acc.length) g) mL = f_Mo_takeData_l5 n (pu_Md m (P.length - q2) (Int32.ofNat (acc ++ [v]).length) (pu_fu g acc.length v)) mL) := by
        intro v q2
        unfold f_Mo_takeData_b80
        rw [pu_Md_17]
        refine ⟨fun q3 => ?_, fun q3 => ?_⟩
        · rw [if_neg (by rw [show acc.length = 200 by omega]; simp)]
        · rw [if_pos (by simp (disch := omega) only [pu_n_lit, pu_n_add, pu_n_mul, pu_n_sub, pu_n_div, pu_n_nat, pu_q_ltT, pu_q_ltF, pu_q_leT, pu_q_leF, pu_q_eqT, pu_q_eqF, pu_n_lt, pu_n_le, pu_n_eq, pu_p_ltT, pu_p_ltF, pu_p_leT, pu_p_leF, not_true_eq_false, not_false_eq_true, or_false, false_or, or_true, true_or, and_true, true_and, and_false, false_and, ↓reduceIte, pu_b_some]), if_pos (by simp (disch := omega) only [pu_n_lit, pu_n_add, pu_n_mul, pu_n_sub, pu_n_div, pu_n_nat, pu_q_ltT, pu_q_ltF, pu_q_leT, pu_q_leF, pu_q_eqT, pu_q_eqF, pu_n_lt, pu_n_le, pu_n_eq, pu_p_ltT, pu_p_ltF, pu_p_leT, pu_p_leF, not_true_eq_false, not_false_eq_true, or_false, false_or, or_true, true_or, and_true, true_and, and_false, false_and, ↓reduceIte, pu_b_some]), pu_n_nat (by omega), pu_Md_up47, pu_Md_17, pu_Md_up17, pu_n_lit 1, pu_n_add]
          simp
      have hg2 : ∀ v, ∀ (i : Nat) (hi : i < (acc ++ [v]).length), pu_fu g acc.length v i = (acc ++ [v])[i] := by
        intro v i hi
        unfold pu_fu
        rw [List.length_append, List.length_singleton] at hi
        by_cases q3 : i = acc.length
        · subst q3; simp
        · rw [if_neg q3, List.getElem_append_left (by omega)]; exact hg i (by omega)
      have fin : ∀ (v : Int32) (q2 : Nat), v ≠ -1 → (if pu_hd (P.drop q) = 95 then pu_esc (P.drop q) else pu_hd (P.drop q)) = v → (P.drop q).drop (if pu_hd (P.drop q) = 95 then 3 else 1) = P.drop q2 → f_Mo_takeData_l5 (n + 1) (pu_Md m (P.length - q) (Int32.ofNat acc.length) g) mL = f_Mo_takeData_b80 (f_Mo_takeData_l5 n) v (pu_Md m (P.length - q2) (Int32.ofNat acc.length) g) mL → (pu_spData (t + 1) acc (P.drop q) = none ∧ ∃ q' z g', f_Mo_takeData_l5 (n + 1) (pu_Md m (P.length - q) (Int32.ofNat acc.length) g) mL = some (6, pu_Md m (P.length - q') z g', mL)) ∨ (∃ acc' q' g', pu_spData (t + 1) acc (P.drop q) = some (acc', P.drop q') ∧ acc'.length ≤ 200 ∧ f_Mo_takeData_l5 (n + 1) (pu_Md m (P.length - q) (Int32.ofNat acc.length) g) mL = some (0, pu_Md m (P.length - q') (Int32.ofNat acc'.length) g', mL) ∧ ∀ (i : Nat) (hi : i < acc'.length), g' i = acc'[i]) := by
        intro v q2 hv he hdr hf
        rw [hf]
        obtain ⟨b1, b2⟩ := bt v q2
        rw [pu_spData, if_neg h1, he, hdr]
        by_cases q3 : 200 ≤ acc.length
        · left
          exact ⟨if_pos (Or.inr q3), q2, _, g, b1 q3⟩
        · rw [if_neg (fun z => z.elim hv q3), b2 q3]
          exact ih n q2 (acc ++ [v]) (pu_fu g acc.length v) (by simp; omega) (by simp; omega) (by omega) (hg2 v)
      have F0 : f_Mo_takeData_l5 (n + 1) (pu_Md m (P.length - q) (Int32.ofNat acc.length) g) mL = if ¬ pu_hd (P.drop q) = (95 : Int32) then f_Mo_takeData_b80 (f_Mo_takeData_l5 n) (pu_hd (P.drop q)) (pu_Md m (P.length - (q + 1)) (Int32.ofNat acc.length) g) mL else if 0 ≤ pu_hx (pu_hd (P.drop (q + 1))) then if 0 ≤ pu_hx (pu_hd (P.drop (q + 2))) then f_Mo_takeData_b80 (f_Mo_takeData_l5 n) (((16 : Int32) * pu_hx (pu_hd (P.drop (q + 1)))) + pu_hx (pu_hd (P.drop (q + 2)))) (pu_Md m (P.length - (q + 3)) (Int32.ofNat acc.length) g) mL else some ((6 : Int32), pu_Md m (P.length - (q + 2)) (Int32.ofNat acc.length) g, mL) else some ((6 : Int32), pu_Md m (P.length - (q + 1)) (Int32.ofNat acc.length) g, mL) := by
        rw [f_Mo_takeData_l5, pk, pu_b_some]
        simp only []
        rw [if_neg (fun z => h1 (Or.inl z)), pk, pu_b_some]
        simp only []
        rw [if_neg (fun z => h1 (Or.inr z)), nx, pu_b_some]
        simp only []
        by_cases h95 : pu_hd (P.drop q) = 95
        · rw [if_neg (fun z => z h95), if_neg (fun z => z h95), pk, pu_b_some]
          simp only []
          rw [pu_mo_hex, pu_b_some]
          simp only []
          by_cases h3 : 0 ≤ pu_hx (pu_hd (P.drop (q + 1)))
          · rw [if_pos h3, if_pos h3, nx, pu_b_some]
            simp only []
            rw [pk, pu_b_some]
            simp only []
            rw [pu_mo_hex, pu_b_some]
            simp only []
            by_cases h4 : 0 ≤ pu_hx (pu_hd (P.drop (q + 2)))
            · rw [if_pos h4, if_pos h4, nx, pu_b_some]
            · rw [if_neg h4, if_neg h4]
          · rw [if_neg h3, if_neg h3]
        · rw [if_pos h95, if_pos h95]
      by_cases h95 : pu_hd (P.drop q) = 95
      · rw [if_neg (fun z => z h95)] at F0
        have n1 := pu_hx_nn (pu_bm_hd hb (q + 1))
        have n2 := pu_hx_nn (pu_bm_hd hb (q + 2))
        have ee : pu_esc (P.drop q) = if pu_hx (pu_hd (P.drop (q + 1))) = -1 ∨ pu_hx (pu_hd (P.drop (q + 2))) = -1 then -1 else pu_hx (pu_hd (P.drop (q + 1))) * 16 + pu_hx (pu_hd (P.drop (q + 2))) := by
          unfold pu_esc; rw [e1, e2]
        by_cases h3 : pu_hx (pu_hd (P.drop (q + 1))) = -1
        · left
          refine ⟨?_, q + 1, Int32.ofNat acc.length, g, ?_⟩
          · rw [pu_spData, if_neg h1, if_pos]
            left; rw [if_pos h95, ee, if_pos (Or.inl h3)]
          · rw [F0, if_neg (fun z => n1.mp z h3)]
        · by_cases h4 : pu_hx (pu_hd (P.drop (q + 2))) = -1
          · left
            refine ⟨?_, q + 2, Int32.ofNat acc.length, g, ?_⟩
            · rw [pu_spData, if_neg h1, if_pos]
              left; rw [if_pos h95, ee, if_pos (Or.inr h4)]
            · rw [F0, if_pos (n1.mpr h3), if_neg (fun z => n2.mp z h4)]
          · rw [if_pos (n1.mpr h3), if_pos (n2.mpr h4), Int32.mul_comm] at F0
            refine fin _ (q + 3) ?_ ?_ ?_ F0
            · -- not -1
              rcases pu_bm_hd hb (q + 1) with e | ⟨a, a1, a2⟩
              · exact absurd (by rw [e]; exact pu_hx_m1) h3
              · rcases pu_bm_hd hb (q + 2) with e | ⟨b, b1, b2⟩
                · exact absurd (by rw [e]; exact pu_hx_m1) h4
                · rw [a2] at h3; rw [b2] at h4
                  rw [a2, b2]
                  rcases pu_hx_b a1 with e | ⟨k1, x1, x2⟩
                  · exact absurd e h3
                  · rcases pu_hx_b b1 with e | ⟨k2, y1, y2⟩
                    · exact absurd e h4
                    · rw [x2, y2, pu_n_lit 16, pu_n_mul, pu_n_add]
                      exact pu_b_ne (by omega)
            · rw [if_pos h95, ee, if_neg (fun z => z.elim h3 h4)]
            · rw [if_pos h95, List.drop_drop]
      · rw [if_pos h95] at F0
        refine fin _ (q + 1) (fun z => h1 (Or.inl z)) ?_ ?_ F0
        · rw [if_neg h95]
        · rw [if_neg h95, List.drop_drop]
theorem pu_mo_form1 (h : pu_Stk m P) {q : Nat} (hq : m 39 8 = Int32.ofNat (P.length - q)) (hq2 : q ≤ P.length) : ∀ (d k n : Nat), d + k + q = P.length → d < n → f_Mo_formSize_l2 n (Int32.ofNat k) m mL = some (pu_oi (pu_spFind (P.drop (q + k)) k), m, mL) := by
  obtain ⟨hl, hp⟩ := h
  intro d
  induction d with
  | zero =>
    intro k n hk hn
    obtain ⟨n, rfl⟩ : ∃ n', n = n' + 1 := ⟨n - 1, by omega⟩
    rw [f_Mo_formSize_l2, hq, if_pos (by simp (disch := omega) only [pu_n_lit, pu_n_add, pu_n_mul, pu_n_sub, pu_n_div, pu_n_nat, pu_q_ltT, pu_q_ltF, pu_q_leT, pu_q_leF, pu_q_eqT, pu_q_eqF, pu_n_lt, pu_n_le, pu_n_eq, pu_p_ltT, pu_p_ltF, pu_p_leT, pu_p_leF, not_true_eq_false, not_false_eq_true, or_false, false_or, or_true, true_or, and_true, true_and, and_false, false_and, ↓reduceIte, pu_b_some]), List.drop_eq_nil_of_le (by omega)]
    rfl
  | succ d ih =>
    intro k n hk hn
    obtain ⟨n, rfl⟩ : ∃ n', n = n' + 1 := ⟨n - 1, by omega⟩
    have hlt : q + k < P.length := by omega
    rw [f_Mo_formSize_l2, hq]
    rw [List.drop_eq_getElem_cons hlt, pu_spFind]
    unfold f_Mo_formSize_b50
    have i1 : f_Mo_formSize_l2 n (Int32.ofNat k + 1) m mL = some (pu_oi (pu_spFind (P.drop (q + (k + 1))) (k + 1)), m, mL) := by
      rw [pu_n_lit 1, pu_n_add]; exact ih (k + 1) n (by omega) (by omega)
    by_cases h1 : P.length - q ≤ k + 1
    · have e0 : P.drop (q + k + 1) = [] := List.drop_eq_nil_of_le (by omega)
      rw [if_pos (by simp (disch := omega) only [pu_n_lit, pu_n_add, pu_n_mul, pu_n_sub, pu_n_div, pu_n_nat, pu_q_ltT, pu_q_ltF, pu_q_leT, pu_q_leF, pu_q_eqT, pu_q_eqF, pu_n_lt, pu_n_le, pu_n_eq, pu_p_ltT, pu_p_ltF, pu_p_leT, pu_p_leF, not_true_eq_false, not_false_eq_true, or_false, false_or, or_true, true_or, and_true, true_and, and_false, false_and, ↓reduceIte, pu_b_some]), e0, if_neg (fun z => absurd z.2 (by decide))]
      rfl
    · have ek : P.length - q - 1 - k = P.length - 1 - (q + k) := by omega
      have ek2 : P.length - q - 2 - k = P.length - 1 - (q + k + 1) := by omega
      have x1 : Int32.ofNat (P.length - q) - 1 - Int32.ofNat k = Int32.ofNat (P.length - q - 1 - k) := by rw [pu_n_lit 1, pu_n_sub (by omega), pu_n_sub (by omega)]
      have x2 : Int32.ofNat (P.length - q) - 2 - Int32.ofNat k = Int32.ofNat (P.length - q - 2 - k) := by rw [pu_n_lit 2, pu_n_sub (by omega), pu_n_sub (by omega)]
      rw [if_neg (by simp (disch := omega) only [pu_n_lit, pu_n_add, pu_n_mul, pu_n_sub, pu_n_div, pu_n_nat, pu_q_ltT, pu_q_ltF, pu_q_leT, pu_q_leF, pu_q_eqT, pu_q_eqF, pu_n_lt, pu_n_le, pu_n_eq, pu_p_ltT, pu_p_ltF, pu_p_leT, pu_p_leF, not_true_eq_false, not_false_eq_true, or_false, false_or, or_true, true_or, and_true, true_and, and_false, false_and, ↓reduceIte, pu_b_some]), x1, x2, if_pos (pu_n_in (by omega) (by omega)), pu_n_nat (by omega), pu_n_nat (by omega), ek, hp (q + k) hlt, ek2, hp (q + k + 1) (by omega), i1]
      have e0 : pu_hd (P.drop (q + k + 1)) = P[q + k + 1] := by rw [List.drop_eq_getElem_cons (show q + k + 1 < P.length by omega)]; rfl
      rw [e0]
      by_cases c1 : P[q + k] = 94
      · rw [if_neg (fun z => z c1), if_pos (c := ¬ (Int32.ofNat (P.length - 1 - (q + k + 1)) < 0 ∨ 5800 ≤ P.length - 1 - (q + k + 1))) (fun z => z.elim (pu_n_nn (by omega)) (fun z => absurd z (by omega)))]
        by_cases c2 : P[q + k + 1] = 90
        · rw [if_neg (fun z => z c2), if_pos ⟨c1, c2⟩]; rfl
        · rw [if_pos c2, if_neg (fun z => c2 z.2)]; rfl
      · rw [if_pos c1, if_neg (fun z => c1 z.1)]; rfl
theorem pu_mo_form (h : pu_Stk m P) {q : Nat} (hq : m 39 8 = Int32.ofNat (P.length - q)) (hq2 : q ≤ P.length) : f_Mo_formSize m mL = some (pu_oi (pu_spFind (P.drop q) 0), m, mL) := by
  have hl := h.1
  exact pu_mo_form1 h hq hq2 (P.length - q) 0 tm_F (by omega) (by unfold tm_F; omega)
end MD
def pu_dB (D : List Int32) (tl nm i : Nat) : Int32 := if D.length - 1 - i < tl then Int32.ofNat (48 + nm / 10 ^ (D.length - 1 - i) % 10) else D[i]?.getD (-1)
theorem pu_l_toInt {a : Int} (h1 : -9223372036854775808 ≤ a) (h2 : a < 9223372036854775808) : (Int64.ofInt a).toInt = a := by
  rw [Int64.toInt_ofInt]
  exact Int.bmod_eq_of_le (by simp only [Int64.size]; omega) (by simp only [Int64.size]; omega)
theorem pu_l_add (a b : Int) : Int64.ofInt a + Int64.ofInt b = Int64.ofInt (a + b) := (Int64.ofInt_add a b).symm
theorem pu_l_mul (a b : Int) : Int64.ofInt a * Int64.ofInt b = Int64.ofInt (a * b) := (Int64.ofInt_mul a b).symm
theorem pu_l_sub (a b : Int) : Int64.ofInt a - Int64.ofInt b = Int64.ofInt (a - b) := (Int64.ofInt_sub a b).symm
theorem pu_l_div {a b : Int} (ha : 0 ≤ a) (ha2 : a < 9223372036854775808) (hb : 0 < b) (hb2 : b < 9223372036854775808) : Int64.ofInt a / Int64.ofInt b = Int64.ofInt (a / b) := by
  have h1 : 0 ≤ a / b := Int.ediv_nonneg ha (by omega)
  have h2 : a / b ≤ a := Int.ediv_le_self b ha
  rw [← Int64.toInt_inj, Int64.toInt_div, pu_l_toInt (by omega) ha2, pu_l_toInt (by omega) hb2, pu_l_toInt (by omega) (by omega), Int.tdiv_eq_ediv_of_nonneg ha]
  exact Int.bmod_eq_of_le (by omega) (by omega)
theorem pu_l_cmp {a : Int} (h1 : -9223372036854775808 ≤ a) (h2 : a < 9223372036854775808) : 0 ≤ lg_cmp (Int64.ofInt a) 0 ↔ 0 ≤ a := by
  unfold lg_cmp
  have e : (0 : Int64).toInt = 0 := rfl
  by_cases q : Int64.ofInt a > 0
  · rw [if_pos q]
    have : (0 : Int64).toInt < (Int64.ofInt a).toInt := Int64.lt_iff_toInt_lt.mp q
    rw [e, pu_l_toInt h1 h2] at this
    exact ⟨fun _ => by omega, fun _ => by decide⟩
  · rw [if_neg q]
    by_cases q2 : Int64.ofInt a = 0
    · rw [if_pos q2]
      have : (Int64.ofInt a).toInt = 0 := by rw [q2]; rfl
      rw [pu_l_toInt h1 h2] at this
      exact ⟨fun _ => by omega, fun _ => by decide⟩
    · rw [if_neg q2]
      have : ¬ (0 : Int64).toInt < (Int64.ofInt a).toInt := fun z => q (Int64.lt_iff_toInt_lt.mpr z)
      rw [e, pu_l_toInt h1 h2] at this
      have n0 : a ≠ 0 := fun z => q2 (by rw [z]; rfl)
      exact ⟨fun z => absurd z (by decide), fun z => by omega⟩
theorem pu_l_of32 (x : Int32) : Int32.toInt64 x = Int64.ofInt x.toInt := by
  rw [← Int64.toInt_inj, Int32.toInt_toInt64]
  have h1 := Int32.le_toInt x
  have h2 := Int32.toInt_lt x
  rw [pu_l_toInt (by omega) (by omega)]
theorem pu_l_to32 {n : Nat} (h : n < 2147483648) : (Int64.ofInt n).toInt32 = Int32.ofNat n := by
  rw [← Int32.toInt_inj, Int64.toInt_toInt32, pu_l_toInt (by omega) (by omega), pu_n_toInt h]
  exact Int.bmod_eq_of_le (by omega) (by omega)
theorem pu_spNum_top (R : List Int32) : ∀ (t b : Nat), pu_spNum R b (t + 1) = pu_spNum R b t + 10 ^ t * pu_dg (R[b + t]?.getD (-1))
  | 0, b => by simp [pu_spNum]
  | t + 1, b => by
    rw [pu_spNum, pu_spNum_top R t (b + 1), pu_spNum, Nat.pow_succ, show b + 1 + t = b + (t + 1) by omega]
    rw [Nat.mul_add, ← Nat.mul_assoc, Nat.mul_comm 10 (10 ^ t)]; omega
def pu_Cy (m : tm_I) (g : Nat → Int32) : tm_I := fun a b => if a = 53 then g b else m a b
theorem pu_Cy_53 (m : tm_I) (g : Nat → Int32) : pu_Cy m g 53 = g := rfl
theorem pu_Cy_o {m : tm_I} {g : Nat → Int32} {a : Nat} (h : a ≠ 53) : pu_Cy m g a = m a := by funext b; unfold pu_Cy; simp [h]
theorem pu_Cy_up {m : tm_I} {g : Nat → Int32} {i : Nat} {v : Int32} : tm_up (pu_Cy m g) 53 i v = pu_Cy m (pu_fu g i v) := by
  funext a b; unfold tm_up pu_Cy pu_fu
  by_cases h : a = 53
  · subst h; simp
  · simp [h]
theorem pu_Cy_id (m : tm_I) : pu_Cy m (m 53) = m := by
  funext a b; unfold pu_Cy; split
  · next q => rw [q]
  · rfl
section CY
variable {m : tm_I} {mL : tm_L} {D : List Int32}
theorem pu_mo_put (x1 x2 : Int32) (u : Int64) {tl : Nat} (hl : D.length ≤ 200) (ht : tl ≤ D.length) (ht9 : tl ≤ 9) {V nm : Nat} (hV : V < 1000000000000) (hc : ∀ k, k < tl → V / 10 ^ k % 10 = nm / 10 ^ k % 10) : ∀ (t k N : Nat) (g : Nat → Int32), t + k = tl → t < N → (∀ i, i < D.length → g i = if D.length - 1 - i < k then Int32.ofNat (48 + nm / 10 ^ (D.length - 1 - i) % 10) else D[i]?.getD (-1)) →
    ∃ g', f_Mo_takeCopy_l180 N x1 x2 (Int32.ofNat D.length) (Int32.ofNat tl) (Int64.ofInt ((V / 10 ^ k : Nat) : Int)) u (Int32.ofNat k) (pu_Cy m g) mL = some (0, pu_Cy m g', mL) ∧ ∀ i, i < D.length → g' i = pu_dB D tl nm i := by
  intro t
  induction t with
  | zero =>
    intro k N g hk hN hg
    obtain ⟨N, rfl⟩ : ∃ n', N = n' + 1 := ⟨N - 1, by omega⟩
    refine ⟨g, ?_, fun i hi => ?_⟩
    · rw [f_Mo_takeCopy_l180, if_pos (by simp (disch := omega) only [pu_n_lit, pu_n_add, pu_n_mul, pu_n_sub, pu_n_div, pu_n_nat, pu_q_ltT, pu_q_ltF, pu_q_leT, pu_q_leF, pu_q_eqT, pu_q_eqF, pu_n_lt, pu_n_le, pu_n_eq, pu_p_ltT, pu_p_ltF, pu_p_leT, pu_p_leF, not_true_eq_false, not_false_eq_true, or_false, false_or, or_true, true_or, and_true, true_and, and_false, false_and, ↓reduceIte, pu_b_some])]
    · rw [hg i hi]; unfold pu_dB; rw [show k = tl by omega]
  | succ t ih =>
    intro k N g hk hN hg
    obtain ⟨N, rfl⟩ : ∃ n', N = n' + 1 := ⟨N - 1, by omega⟩
    have hW : V / 10 ^ k < 1000000000000 := Nat.lt_of_le_of_lt (Nat.div_le_self _ _) hV
    have e10 : (10 : Int64) = Int64.ofInt 10 := rfl
    have ed : Int64.ofInt ((V / 10 ^ k : Nat) : Int) / Int64.ofInt 10 = Int64.ofInt ((V / 10 ^ (k + 1) : Nat) : Int) := by
      rw [Nat.pow_succ, ← Nat.div_div_eq_div_mul]
      generalize V / 10 ^ k = W at hW
      rw [pu_l_div (by omega) (by omega) (by omega) (by omega)]
      congr 1
    have em : (Int64.ofInt ((V / 10 ^ k : Nat) : Int) - Int64.ofInt ((V / 10 ^ (k + 1) : Nat) : Int) * Int64.ofInt 10).toInt32 = Int32.ofNat (V / 10 ^ k % 10) := by
      rw [pu_l_mul, pu_l_sub]
      have : ((V / 10 ^ k : Nat) : Int) - ((V / 10 ^ (k + 1) : Nat) : Int) * 10 = ((V / 10 ^ k % 10 : Nat) : Int) := by
        rw [Nat.pow_succ, ← Nat.div_div_eq_div_mul]; omega
      rw [this, pu_l_to32 (by omega)]
    have ei : Int32.ofNat D.length - 1 - Int32.ofNat k = Int32.ofNat (D.length - 1 - k) := by rw [pu_n_lit 1, pu_n_sub (by omega), pu_n_sub (by omega)]
    rw [f_Mo_takeCopy_l180, if_neg (by simp (disch := omega) only [pu_n_lit, pu_n_add, pu_n_mul, pu_n_sub, pu_n_div, pu_n_nat, pu_q_ltT, pu_q_ltF, pu_q_leT, pu_q_leF, pu_q_eqT, pu_q_eqF, pu_n_lt, pu_n_le, pu_n_eq, pu_p_ltT, pu_p_ltF, pu_p_leT, pu_p_leF, not_true_eq_false, not_false_eq_true, or_false, false_or, or_true, true_or, and_true, true_and, and_false, false_and, ↓reduceIte, pu_b_some]), ei, if_pos (pu_n_in (by omega) (by omega)), pu_n_nat (by omega), e10, ed, em, pu_Cy_up, pu_n_lit 48, pu_n_add, pu_n_lit 1, pu_n_add]
    refine ih (k + 1) N _ (by omega) (by omega) (fun i hi => ?_)
    unfold pu_fu
    by_cases q : i = D.length - 1 - k
    · rw [if_pos q, if_pos (by omega), q, show D.length - 1 - (D.length - 1 - k) = k by omega, hc k (by omega)]
    · rw [if_neg q, hg i hi]
      by_cases q2 : D.length - 1 - i < k
      · rw [if_pos q2, if_pos (by omega)]
      · rw [if_neg q2, if_neg (by omega)]
theorem pu_mo_up (x1 x2 x3 x4 : Int32) (U : Nat) (hU : 1 ≤ U) (hU2 : U ≤ 1000000000) : ∀ (t N : Nat) (V : Int), -(t : Int) * U ≤ V → V < 2000000000 → -2000000000 ≤ V → t < N → ∃ V' : Nat, (V' : Int) % U = V % U ∧ (V' : Int) < 3000000000 ∧ f_Mo_takeCopy_l160 N x1 x2 x3 x4 (Int64.ofInt V) (Int64.ofInt U) m mL = f_Mo_takeCopy_l180 tm_F x1 x2 x3 x4 (Int64.ofInt V') (Int64.ofInt U) 0 m mL := by
  intro t
  induction t with
  | zero =>
    intro N V h1 h2 h3 hN
    obtain ⟨N, rfl⟩ : ∃ n', N = n' + 1 := ⟨N - 1, by omega⟩
    have hV : 0 ≤ V := by simpa using h1
    refine ⟨V.toNat, by rw [Int.toNat_of_nonneg hV], by omega, ?_⟩
    rw [f_Mo_takeCopy_l160, if_pos ((pu_l_cmp (by omega) (by omega)).mpr hV), Int.toNat_of_nonneg hV]
  | succ t ih =>
    intro N V h1 h2 h3 hN
    obtain ⟨N, rfl⟩ : ∃ n', N = n' + 1 := ⟨N - 1, by omega⟩
    by_cases hV : 0 ≤ V
    · refine ⟨V.toNat, by rw [Int.toNat_of_nonneg hV], by omega, ?_⟩
      rw [f_Mo_takeCopy_l160, if_pos ((pu_l_cmp (by omega) (by omega)).mpr hV), Int.toNat_of_nonneg hV]
    · have h1' : -(t : Int) * U ≤ V + U := by
        have : -((t + 1 : Nat) : Int) * U = -(t : Int) * U - U := by
          rw [Int.natCast_add, Int.neg_add, Int.add_mul]; simp; omega
        omega
      obtain ⟨V', v1, v2, v3⟩ := ih N (V + U) h1' (by omega) (by omega) (by omega)
      refine ⟨V', ?_, v2, ?_⟩
      · rw [v1, Int.add_emod_right]
      · rw [f_Mo_takeCopy_l160, if_neg (fun z => hV ((pu_l_cmp (by omega) (by omega)).mp z)), pu_l_add]
        exact v3
theorem pu_dig_eq {V nm tl k : Nat} (hk : k < tl) (h : V % 10 ^ tl = nm % 10 ^ tl) : V / 10 ^ k % 10 = nm / 10 ^ k % 10 := by
  have key : ∀ x : Nat, x / 10 ^ k % 10 = x % 10 ^ tl / 10 ^ k % 10 := by
    intro x
    have e1 : (10 : Nat) ^ tl = 10 ^ k * 10 ^ (tl - k) := by rw [← Nat.pow_add]; congr 1; omega
    obtain ⟨j, hj⟩ : ∃ j, tl - k = j + 1 := ⟨tl - k - 1, by omega⟩
    have e2 : (10 : Nat) ^ (tl - k) = 10 * 10 ^ j := by rw [hj, Nat.pow_succ]; omega
    rw [e1, Nat.mod_mul_right_div_self, e2, Nat.mod_mul_right_mod]
  rw [key V, key nm, h]
theorem pu_mo_cnt (x1 : Int32) {f c : Nat} {sp : Int32} (hf : f ≤ 120) (hc : c ≤ 12) (hl : D.length ≤ 200) (h9 : m 50 (16 * f + 9) = sp) (s1 : -99 ≤ sp.toInt) (s2 : sp.toInt ≤ 99) {g : Nat → Int32} (hg : ∀ i, i < D.length → g i = D[i]?.getD (-1)) (hx1 : x1 = Int32.ofNat f) : ∀ (t k N : Nat), t + k = 9 → t < N → (∀ j, j < k → pu_isD (D.reverse[j]?.getD (-1)) = true) → k ≤ D.length →
    ∃ V : Nat, (V : Int) % ((10 ^ pu_spTail D.reverse t k : Nat) : Int) = ((pu_spNum D.reverse 0 (pu_spTail D.reverse t k) : Int) + sp.toInt * c) % ((10 ^ pu_spTail D.reverse t k : Nat) : Int) ∧ (V : Int) < 3000000000 ∧ f_Mo_takeCopy_l73 N x1 (Int32.ofNat c) (Int32.ofNat D.length) (Int32.ofNat k) (Int64.ofInt (pu_spNum D.reverse 0 k)) (Int64.ofInt ((10 ^ k : Nat) : Int)) (pu_Cy m g) mL = f_Mo_takeCopy_l180 tm_F x1 (Int32.ofNat c) (Int32.ofNat D.length) (Int32.ofNat (pu_spTail D.reverse t k)) (Int64.ofInt V) (Int64.ofInt ((10 ^ pu_spTail D.reverse t k : Nat) : Int)) 0 (pu_Cy m g) mL := by
  subst hx1
  have stop : ∀ k, k ≤ 9 → (∀ j, j < k → pu_isD (D.reverse[j]?.getD (-1)) = true) → ∃ V : Nat, (V : Int) % ((10 ^ k : Nat) : Int) = ((pu_spNum D.reverse 0 k : Int) + sp.toInt * c) % ((10 ^ k : Nat) : Int) ∧ (V : Int) < 3000000000 ∧ f_Mo_takeCopy_b140 (Int32.ofNat f) (Int32.ofNat c) (Int32.ofNat D.length) (Int32.ofNat k) (Int64.ofInt (pu_spNum D.reverse 0 k)) (Int64.ofInt ((10 ^ k : Nat) : Int)) (pu_Cy m g) mL = f_Mo_takeCopy_l180 tm_F (Int32.ofNat f) (Int32.ofNat c) (Int32.ofNat D.length) (Int32.ofNat k) (Int64.ofInt V) (Int64.ofInt ((10 ^ k : Nat) : Int)) 0 (pu_Cy m g) mL := by
    intro k hk pu_hd
    have hp := pu_pow_le9 hk
    have hp1 : 1 ≤ 10 ^ k := Nat.pow_pos (by decide)
    have hlt := pu_spNum_lt D.reverse k 0 (fun j _ hj => pu_hd j (by omega))
    have b1 : sp.toInt * (c : Int) ≤ 99 * 12 := by
      have : sp.toInt * (c : Int) ≤ 99 * (c : Int) := Int.mul_le_mul_of_nonneg_right s2 (by omega)
      omega
    have b2 : -(99 * 12) ≤ sp.toInt * (c : Int) := by
      have : -99 * (c : Int) ≤ sp.toInt * (c : Int) := Int.mul_le_mul_of_nonneg_right s1 (by omega)
      omega
    generalize 10 ^ k = U at *
    have hmul : Int32.toInt64 (sp * Int32.ofNat c) = Int64.ofInt (sp.toInt * c) := by
      rw [pu_l_of32, Int32.toInt_mul, pu_n_toInt (by omega), Int.bmod_eq_of_le (by omega) (by omega)]
    obtain ⟨V', v1, v2, v3⟩ := pu_mo_up (m := pu_Cy m g) (mL := mL) (Int32.ofNat f) (Int32.ofNat c) (Int32.ofNat D.length) (Int32.ofNat k) U hp1 hp 1200 tm_F ((pu_spNum D.reverse 0 k : Int) + sp.toInt * c) (by
      have : (1200 : Int) ≤ 1200 * U := by omega
      have e : -((1200 : Nat) : Int) * U = -(1200 * (U : Int)) := by rw [Int.neg_mul]; rfl
      rw [e]; omega) (by omega) (by omega) (by decide)
    refine ⟨V', v1, v2, ?_⟩
    unfold f_Mo_takeCopy_b140
    have ei : (16 : Int32) * Int32.ofNat f + 9 = Int32.ofNat (16 * f + 9) := by rw [pu_n_lit 16, pu_n_mul, pu_n_lit 9, pu_n_add]
    rw [ei, if_pos (pu_n_in (by omega) (by omega)), pu_n_nat (by omega), pu_Cy_o (by decide), h9, hmul, pu_l_add]
    exact v3
  intro t
  induction t with
  | zero =>
    intro k N hk hN pu_hd hkl
    obtain ⟨N, rfl⟩ : ∃ n', N = n' + 1 := ⟨N - 1, by omega⟩
    rw [pu_spTail]
    obtain ⟨V, v1, v2, v3⟩ := stop k (by omega) pu_hd
    refine ⟨V, v1, v2, ?_⟩
    rw [f_Mo_takeCopy_l73, if_pos (by simp (disch := omega) only [pu_n_lit, pu_n_add, pu_n_mul, pu_n_sub, pu_n_div, pu_n_nat, pu_q_ltT, pu_q_ltF, pu_q_leT, pu_q_leF, pu_q_eqT, pu_q_eqF, pu_n_lt, pu_n_le, pu_n_eq, pu_p_ltT, pu_p_ltF, pu_p_leT, pu_p_leF, not_true_eq_false, not_false_eq_true, or_false, false_or, or_true, true_or, and_true, true_and, and_false, false_and, ↓reduceIte, pu_b_some])]
    exact v3
  | succ t ih =>
    intro k N hk hN pu_hd hkl
    obtain ⟨N, rfl⟩ : ∃ n', N = n' + 1 := ⟨N - 1, by omega⟩
    have FF : f_Mo_takeCopy_l73 (N + 1) (Int32.ofNat f) (Int32.ofNat c) (Int32.ofNat D.length) (Int32.ofNat k) (Int64.ofInt (pu_spNum D.reverse 0 k)) (Int64.ofInt ((10 ^ k : Nat) : Int)) (pu_Cy m g) mL = if pu_isD (D.reverse[k]?.getD (-1)) = true then f_Mo_takeCopy_l73 N (Int32.ofNat f) (Int32.ofNat c) (Int32.ofNat D.length) (Int32.ofNat (k + 1)) (Int64.ofInt (pu_spNum D.reverse 0 (k + 1))) (Int64.ofInt ((10 ^ (k + 1) : Nat) : Int)) (pu_Cy m g) mL else f_Mo_takeCopy_b140 (Int32.ofNat f) (Int32.ofNat c) (Int32.ofNat D.length) (Int32.ofNat k) (Int64.ofInt (pu_spNum D.reverse 0 k)) (Int64.ofInt ((10 ^ k : Nat) : Int)) (pu_Cy m g) mL := by
      by_cases hkD : k < D.length
      · have ei : Int32.ofNat D.length - 1 - Int32.ofNat k = Int32.ofNat (D.length - 1 - k) := by rw [pu_n_lit 1, pu_n_sub (by omega), pu_n_sub (by omega)]
        have er : D.reverse[k]?.getD (-1) = g (D.length - 1 - k) := by
          rw [hg _ (by omega), List.getElem?_reverse hkD]
        rw [f_Mo_takeCopy_l73, if_neg (by simp (disch := omega) only [pu_n_lit, pu_n_add, pu_n_mul, pu_n_sub, pu_n_div, pu_n_nat, pu_q_ltT, pu_q_ltF, pu_q_leT, pu_q_leF, pu_q_eqT, pu_q_eqF, pu_n_lt, pu_n_le, pu_n_eq, pu_p_ltT, pu_p_ltF, pu_p_leT, pu_p_leF, not_true_eq_false, not_false_eq_true, or_false, false_or, or_true, true_or, and_true, true_and, and_false, false_and, ↓reduceIte, pu_b_some]), if_neg (by simp (disch := omega) only [pu_n_lit, pu_n_add, pu_n_mul, pu_n_sub, pu_n_div, pu_n_nat, pu_q_ltT, pu_q_ltF, pu_q_leT, pu_q_leF, pu_q_eqT, pu_q_eqF, pu_n_lt, pu_n_le, pu_n_eq, pu_p_ltT, pu_p_ltF, pu_p_leT, pu_p_leF, not_true_eq_false, not_false_eq_true, or_false, false_or, or_true, true_or, and_true, true_and, and_false, false_and, ↓reduceIte, pu_b_some]), ei, if_pos (pu_n_in (by omega) (by omega)), pu_n_nat (by omega), pu_Cy_53, pu_mo_isDigit, pu_b_some]
        simp only [pu_Cy_53]
        rw [← er]
        cases hq : pu_isD (D.reverse[k]?.getD (-1))
        · rw [if_pos pu_bi_f, if_neg (show ¬ (false = true) by decide)]
        · obtain ⟨q1, q2⟩ := pu_dg_val hq
          rw [if_neg pu_bi_t, if_pos (c := ¬ (Int32.ofNat (D.length - 1 - k) < 0 ∨ 200 ≤ D.length - 1 - k)) (fun z => z.elim (pu_n_nn (by omega)) (fun z => absurd z (by omega))), if_pos (show (true = true) from rfl)]
          have e1 : Int32.toInt64 (D.reverse[k]?.getD (-1) - 48) = Int64.ofInt (pu_dg (D.reverse[k]?.getD (-1))) := by
            generalize hz : D.reverse[k]?.getD (-1) = z at q1 q2
            have : z - 48 = Int32.ofNat (pu_dg z) := by
              conv => lhs; rw [q2]
              rw [pu_n_lit 48, pu_n_sub (by omega)]; congr 1; omega
            rw [this, pu_l_of32, pu_n_toInt (by omega)]
          have e2 : (10 : Int64) * Int64.ofInt ((10 ^ k : Nat) : Int) = Int64.ofInt ((10 ^ (k + 1) : Nat) : Int) := by
            rw [show (10 : Int64) = Int64.ofInt 10 from rfl, pu_l_mul, Nat.pow_succ]; congr 1; omega
          have e3 : Int64.ofInt (pu_spNum D.reverse 0 k) + Int64.ofInt ((10 ^ k : Nat) : Int) * Int64.ofInt (pu_dg (D.reverse[k]?.getD (-1))) = Int64.ofInt (pu_spNum D.reverse 0 (k + 1)) := by
            rw [pu_l_mul, pu_l_add, pu_spNum_top, Nat.zero_add]
            congr 1
          rw [e1, e2, e3, pu_n_lit 1, pu_n_add]
      · have e0 : D.reverse[k]?.getD (-1) = -1 := by rw [List.getElem?_eq_none (by simp; omega)]; rfl
        rw [e0, if_neg (show ¬ pu_isD (-1) = true by decide), f_Mo_takeCopy_l73, if_neg (by simp (disch := omega) only [pu_n_lit, pu_n_add, pu_n_mul, pu_n_sub, pu_n_div, pu_n_nat, pu_q_ltT, pu_q_ltF, pu_q_leT, pu_q_leF, pu_q_eqT, pu_q_eqF, pu_n_lt, pu_n_le, pu_n_eq, pu_p_ltT, pu_p_ltF, pu_p_leT, pu_p_leF, not_true_eq_false, not_false_eq_true, or_false, false_or, or_true, true_or, and_true, true_and, and_false, false_and, ↓reduceIte, pu_b_some]), if_pos (by simp (disch := omega) only [pu_n_lit, pu_n_add, pu_n_mul, pu_n_sub, pu_n_div, pu_n_nat, pu_q_ltT, pu_q_ltF, pu_q_leT, pu_q_leF, pu_q_eqT, pu_q_eqF, pu_n_lt, pu_n_le, pu_n_eq, pu_p_ltT, pu_p_ltF, pu_p_leT, pu_p_leF, not_true_eq_false, not_false_eq_true, or_false, false_or, or_true, true_or, and_true, true_and, and_false, false_and, ↓reduceIte, pu_b_some])]
    rw [FF, pu_spTail]
    by_cases hq : pu_isD (D.reverse[k]?.getD (-1)) = true
    · rw [if_pos hq, if_pos hq]
      have hkD : k < D.length := by
        rcases Nat.lt_or_ge k D.length with z | z
        · exact z
        · rw [List.getElem?_eq_none (by simp; omega)] at hq; exact absurd hq (by decide)
      exact ih (k + 1) N (by omega) (by omega) (fun j hj => by
        by_cases z : j = k
        · rw [z]; exact hq
        · exact pu_hd j (by omega)) (by omega)
    · rw [if_neg hq, if_neg hq]
      exact stop k (by omega) pu_hd
def pu_cnumR (R : pu_Fd) (c : Nat) : Nat := (((pu_spNum R.D.reverse 0 (pu_tailOf R.cnt R.D) : Int) + R.sp.toInt * (c : Int)) % ((10 ^ pu_tailOf R.cnt R.D : Nat) : Int)).toNat
theorem pu_mo_copy0 (x2 : Int32) {f : Nat} (hf : f ≤ 120) (hl : D.length ≤ 200) (h52 : ∀ i, i < D.length → m 52 (200 * f + i) = D[i]?.getD (-1)) : ∀ (t k N : Nat) (g : Nat → Int32), t + k = D.length → t < N → (∀ i, i < k → g i = D[i]?.getD (-1)) → ∃ g', f_Mo_takeCopy_l16 N (Int32.ofNat f) x2 (Int32.ofNat D.length) (Int32.ofNat k) (pu_Cy m g) mL = (if ¬ m 50 (16 * f + 8) = 0 then f_Mo_takeCopy_l73 tm_F (Int32.ofNat f) x2 (Int32.ofNat D.length) 0 0 1 (pu_Cy m g') mL else some (0, pu_Cy m g', mL)) ∧ ∀ i, i < D.length → g' i = D[i]?.getD (-1) := by
  intro t
  induction t with
  | zero =>
    intro k N g hk hN hg
    obtain ⟨N, rfl⟩ : ∃ n', N = n' + 1 := ⟨N - 1, by omega⟩
    refine ⟨g, ?_, fun i hi => hg i (by omega)⟩
    have ei : (16 : Int32) * Int32.ofNat f + 8 = Int32.ofNat (16 * f + 8) := by rw [pu_n_lit 16, pu_n_mul, pu_n_lit 8, pu_n_add]
    rw [f_Mo_takeCopy_l16, if_pos (by simp (disch := omega) only [pu_n_lit, pu_n_add, pu_n_mul, pu_n_sub, pu_n_div, pu_n_nat, pu_q_ltT, pu_q_ltF, pu_q_leT, pu_q_leF, pu_q_eqT, pu_q_eqF, pu_n_lt, pu_n_le, pu_n_eq, pu_p_ltT, pu_p_ltF, pu_p_leT, pu_p_leF, not_true_eq_false, not_false_eq_true, or_false, false_or, or_true, true_or, and_true, true_and, and_false, false_and, ↓reduceIte, pu_b_some]), ei, if_pos (pu_n_in (by omega) (by omega)), pu_n_nat (by omega), pu_Cy_o (by decide)]
  | succ t ih =>
    intro k N g hk hN hg
    obtain ⟨N, rfl⟩ : ∃ n', N = n' + 1 := ⟨N - 1, by omega⟩
    have ei : (200 : Int32) * Int32.ofNat f + Int32.ofNat k = Int32.ofNat (200 * f + k) := by rw [pu_n_lit 200, pu_n_mul, pu_n_add]
    rw [f_Mo_takeCopy_l16, if_neg (by simp (disch := omega) only [pu_n_lit, pu_n_add, pu_n_mul, pu_n_sub, pu_n_div, pu_n_nat, pu_q_ltT, pu_q_ltF, pu_q_leT, pu_q_leF, pu_q_eqT, pu_q_eqF, pu_n_lt, pu_n_le, pu_n_eq, pu_p_ltT, pu_p_ltF, pu_p_leT, pu_p_leF, not_true_eq_false, not_false_eq_true, or_false, false_or, or_true, true_or, and_true, true_and, and_false, false_and, ↓reduceIte, pu_b_some]), ei, if_pos (pu_n_in (by omega) (by omega)), if_pos (pu_n_in (by omega) (by omega)), pu_n_nat (by omega), pu_n_nat (by omega), pu_Cy_up, pu_Cy_o (by decide), h52 k (by omega), pu_n_lit 1, pu_n_add]
    refine ih (k + 1) N _ (by omega) (by omega) (fun i hi => ?_)
    unfold pu_fu
    by_cases q : i = k
    · rw [if_pos q, q]; rfl
    · rw [if_neg q]; exact hg i (by omega)
theorem pu_mo_takeCopy {R : pu_Fd} {f c : Nat} (hf : f ≤ 120) (hc : c ≤ 12) (hl : R.D.length ≤ 200) (h10 : m 50 (16 * f + 10) = Int32.ofNat R.D.length) (h8 : m 50 (16 * f + 8) = pu_bi R.cnt) (h9 : m 50 (16 * f + 9) = R.sp) (s1 : -99 ≤ R.sp.toInt) (s2 : R.sp.toInt ≤ 99) (h52 : ∀ i, i < R.D.length → m 52 (200 * f + i) = R.D[i]?.getD (-1)) :
    ∃ g', f_Mo_takeCopy (Int32.ofNat f) (Int32.ofNat c) m mL = some (0, pu_Cy m g', mL) ∧ ∀ i, i < R.D.length → g' i = pu_dB R.D (pu_tailOf R.cnt R.D) (pu_cnumR R c) i := by
  obtain ⟨g0, e1, e2⟩ := pu_mo_copy0 (m := m) (mL := mL) (D := R.D) (Int32.ofNat c) hf hl h52 R.D.length 0 tm_F (m 53) (by omega) (by unfold tm_F; omega) (fun i hi => absurd hi (Nat.not_lt_zero i))
  rw [pu_Cy_id] at e1
  have F0 : f_Mo_takeCopy (Int32.ofNat f) (Int32.ofNat c) m mL = f_Mo_takeCopy_l16 tm_F (Int32.ofNat f) (Int32.ofNat c) (Int32.ofNat R.D.length) (Int32.ofNat 0) m mL := by
    unfold f_Mo_takeCopy f_Mo_takeCopy_b0
    have ei : (16 : Int32) * Int32.ofNat f + 10 = Int32.ofNat (16 * f + 10) := by rw [pu_n_lit 16, pu_n_mul, pu_n_lit 10, pu_n_add]
    rw [ei, if_pos (pu_n_in (by omega) (by omega)), pu_n_nat (by omega), h10, show Int32.ofNat 0 = (0 : Int32) from rfl]
  rw [F0, e1, h8]
  have tl9 := pu_tailOf_le R.cnt R.D
  cases hcnt : R.cnt
  · rw [if_neg (by simp [pu_bi])]
    refine ⟨g0, rfl, fun i hi => ?_⟩
    rw [e2 i hi]
    unfold pu_dB pu_tailOf; rw [if_neg (by simp)]
  · rw [if_pos pu_bi_t]
    obtain ⟨V, v1, v2, v3⟩ := pu_mo_cnt (m := m) (mL := mL) (D := R.D) (Int32.ofNat f) hf hc hl h9 s1 s2 e2 rfl 9 0 tm_F (by omega) (by decide) (fun j hj => absurd hj (Nat.not_lt_zero j)) (by omega)
    have et : pu_tailOf true R.D = pu_spTail R.D.reverse 9 0 := by unfold pu_tailOf; rw [if_pos rfl]
    rw [show Int64.ofInt ((pu_spNum R.D.reverse 0 0 : Nat) : Int) = (0 : Int64) from rfl, show Int64.ofInt ((10 ^ 0 : Nat) : Int) = (1 : Int64) from rfl, show Int32.ofNat 0 = (0 : Int32) from rfl] at v3
    rw [v3, ← et]
    rw [← et] at v1
    rw [hcnt] at tl9
    have hcn : V % 10 ^ pu_tailOf true R.D = pu_cnumR R c % 10 ^ pu_tailOf true R.D := by
      have e : pu_cnumR R c = (((pu_spNum R.D.reverse 0 (pu_tailOf true R.D) : Int) + R.sp.toInt * (c : Int)) % ((10 ^ pu_tailOf true R.D : Nat) : Int)).toNat := by unfold pu_cnumR; rw [hcnt]
      have hp1 : 1 ≤ 10 ^ pu_tailOf true R.D := Nat.pow_pos (by decide)
      rw [e]
      generalize 10 ^ pu_tailOf true R.D = U at *
      rw [← v1, ← Int.natCast_emod, Int.toNat_natCast, Nat.mod_mod]
    obtain ⟨g', p1, p2⟩ := pu_mo_put (m := m) (mL := mL) (D := R.D) (Int32.ofNat f) (Int32.ofNat c) (Int64.ofInt ((10 ^ pu_tailOf true R.D : Nat) : Int)) (tl := pu_tailOf true R.D) hl (by omega) (by omega) (V := V) (nm := pu_cnumR R c) (by omega) (fun k hk => pu_dig_eq hk hcn) (pu_tailOf true R.D) 0 tm_F g0 (by omega) (by unfold tm_F; omega) (fun i hi => by rw [e2 i hi, if_neg (by omega)])
    refine ⟨g', ?_, p2⟩
    rw [Nat.pow_zero, Nat.div_one, show Int32.ofNat 0 = (0 : Int32) from rfl] at p1
    exact p1
end CY
