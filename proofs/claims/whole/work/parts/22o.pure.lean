def pu_MF (m m' : tm_I) (kp : Bool) (O : Nat) (os : List pu_Od) (bad : Bool) : Prop := (∀ a, a ≠ 39 → a ≠ 53 → a ≠ 55 → a ≠ 56 → m' a = m a) ∧ (∀ b, b ≠ 26 → b ≠ 32 → b ≠ 37 → m' 39 b = m 39 b) ∧ (∀ B, m 39 26 = Int32.ofNat B → m' 39 26 = Int32.ofNat (B + os.length)) ∧ (∀ w, m 39 32 = pu_bi w → m' 39 32 = pu_bi (w || (!os.all pu_nearO || bad))) ∧ (kp = true → m 39 37 = Int32.ofNat O → m' 39 37 = Int32.ofNat (O + os.length) ∧ (∀ b, b < 9 * O → m' 55 b = m 55 b) ∧ (∀ b, b < 200 * O → m' 56 b = m 56 b) ∧ ∀ (i : Nat) (h : i < os.length), pu_ModO m' (O + i) os[i]) ∧ (kp = false → m' 55 = m 55 ∧ m' 56 = m 56 ∧ m' 39 37 = m 39 37)
theorem pu_MF.o {m : tm_I} {m' : tm_I} {kp : Bool} {O : Nat} {os : List pu_Od} {bad : Bool} (h_ : pu_MF m m' kp O os bad) : ∀ a, a ≠ 39 → a ≠ 53 → a ≠ 55 → a ≠ 56 → m' a = m a := h_.1
theorem pu_MF.c39 {m : tm_I} {m' : tm_I} {kp : Bool} {O : Nat} {os : List pu_Od} {bad : Bool} (h_ : pu_MF m m' kp O os bad) : ∀ b, b ≠ 26 → b ≠ 32 → b ≠ 37 → m' 39 b = m 39 b := h_.2.1
theorem pu_MF.made {m : tm_I} {m' : tm_I} {kp : Bool} {O : Nat} {os : List pu_Od} {bad : Bool} (h_ : pu_MF m m' kp O os bad) : ∀ B, m 39 26 = Int32.ofNat B → m' 39 26 = Int32.ofNat (B + os.length) := h_.2.2.1
theorem pu_MF.wr {m : tm_I} {m' : tm_I} {kp : Bool} {O : Nat} {os : List pu_Od} {bad : Bool} (h_ : pu_MF m m' kp O os bad) : ∀ w, m 39 32 = pu_bi w → m' 39 32 = pu_bi (w || (!os.all pu_nearO || bad)) := h_.2.2.2.1
theorem pu_MF.ord {m : tm_I} {m' : tm_I} {kp : Bool} {O : Nat} {os : List pu_Od} {bad : Bool} (h_ : pu_MF m m' kp O os bad) : kp = true → m 39 37 = Int32.ofNat O → m' 39 37 = Int32.ofNat (O + os.length) ∧ (∀ b, b < 9 * O → m' 55 b = m 55 b) ∧ (∀ b, b < 200 * O → m' 56 b = m 56 b) ∧ ∀ (i : Nat) (h : i < os.length), pu_ModO m' (O + i) os[i] := h_.2.2.2.2.1
theorem pu_MF.nok {m : tm_I} {m' : tm_I} {kp : Bool} {O : Nat} {os : List pu_Od} {bad : Bool} (h_ : pu_MF m m' kp O os bad) : kp = false → m' 55 = m 55 ∧ m' 56 = m 56 ∧ m' 39 37 = m 39 37 := h_.2.2.2.2.2
theorem pu_MF.of {m m' : tm_I} {g : Nat → Int32} {kp : Bool} {O : Nat} {os : List pu_Od} (h : pu_GL (pu_Cy m g) m' kp O os) : pu_MF m m' kp O os false := by
  have e39 : pu_Cy m g 39 = m 39 := pu_Cy_o (by decide)
  have e55 : pu_Cy m g 55 = m 55 := pu_Cy_o (by decide)
  have e56 : pu_Cy m g 56 = m 56 := pu_Cy_o (by decide)
  refine ⟨fun a a1 a2 a3 a4 => (h.o a a1 a3 a4).trans (pu_Cy_o a2), fun b b1 b2 b3 => (h.c39 b b1 b2 b3).trans (by rw [e39]), fun B hB => h.made B (by rw [e39]; exact hB), fun w hw => ?_, fun q1 q2 => ?_, fun q => ?_⟩
  · rw [h.wr w (by rw [e39]; exact hw), Bool.or_false]
  · have := h.ord q1 (by rw [e39]; exact q2)
    rw [e55, e56] at this; exact this
  · have := h.nok q
    rw [e55, e56, e39] at this; exact this
def pu_badG (R : pu_Fd) : Bool := if R.lt = 71 then !(pu_near (R.x + R.sh 0) && pu_near (R.y + R.sh 1)) else false
section MKF
variable {m : tm_I} {mL : tm_L} {R : pu_Fd} {c : Nat}
theorem pu_cpm {os : List pu_Od} : (os.map (pu_cpO c)).length = os.length := List.length_map _
set_option maxHeartbeats 4000000 in
theorem pu_mo_makeField {f O : Nat} {kp w : Bool} (hr : pu_RecM m f R) (wf : pu_WFd R) (hf : f ≤ 120) (hl : R.D.length ≤ 200) (s1 : -99 ≤ R.sp.toInt) (s2 : R.sp.toInt ≤ 99) (hc : c ≤ 12) (hk : m 39 33 = pu_bi kp) (hw : m 39 32 = pu_bi w) (hO : kp = true → m 39 37 = Int32.ofNat O ∧ O + (pu_ords R).length ≤ 120) : ∃ m', f_Mo_makeField (Int32.ofNat f) (Int32.ofNat c) m mL = some (0, m', mL) ∧ pu_MF m m' kp O ((pu_ords R).map (pu_cpO c)) (pu_badG R) := by
  obtain ⟨g, cp1, cp2⟩ := pu_mo_takeCopy (m := m) (mL := mL) (R := R) hf hc hl hr.n hr.cn hr.sp s1 s2 hr.D
  have e39 : pu_Cy m g 39 = m 39 := pu_Cy_o (by decide)
  have hr0 : pu_RecM (pu_Cy m g) f R := hr.fr (pu_Cy_o (by decide)) (pu_Cy_o (by decide))
  have M0 : pu_Mk (pu_Cy m g) f R c kp O := ⟨hr0, fun i hi => by rw [pu_Cy_53]; exact cp2 i hi, by rw [e39]; exact hk, ⟨w, by rw [e39]; exact hw⟩, fun q => by rw [e39]; exact (hO q).1⟩
  have y0 : (16 : Int32) * Int32.ofNat f = Int32.ofNat (16 * f) := by rw [pu_n_lit 16, pu_n_mul]
  have i0 : (¬ (Int32.ofNat (16 * f) < 0 ∨ 2000 ≤ 16 * f)) = True := eq_true (fun z => z.elim (pu_n_nn (by omega)) (fun z => absurd z (by omega)))
  have t0 : Int32.toNatClampNeg (Int32.ofNat (16 * f)) = 16 * f := pu_n_nat (by omega)
  have y1 : Int32.ofNat (16 * f) + 1 = Int32.ofNat (16 * f + 1) := by rw [pu_n_lit 1, pu_n_add]
  have i1 : (¬ (Int32.ofNat (16 * f + 1) < 0 ∨ 2000 ≤ 16 * f + 1)) = True := eq_true (fun z => z.elim (pu_n_nn (by omega)) (fun z => absurd z (by omega)))
  have t1 : Int32.toNatClampNeg (Int32.ofNat (16 * f + 1)) = 16 * f + 1 := pu_n_nat (by omega)
  have y2 : Int32.ofNat (16 * f) + 2 = Int32.ofNat (16 * f + 2) := by rw [pu_n_lit 2, pu_n_add]
  have i2 : (¬ (Int32.ofNat (16 * f + 2) < 0 ∨ 2000 ≤ 16 * f + 2)) = True := eq_true (fun z => z.elim (pu_n_nn (by omega)) (fun z => absurd z (by omega)))
  have t2 : Int32.toNatClampNeg (Int32.ofNat (16 * f + 2)) = 16 * f + 2 := pu_n_nat (by omega)
  have y3 : Int32.ofNat (16 * f) + 3 = Int32.ofNat (16 * f + 3) := by rw [pu_n_lit 3, pu_n_add]
  have i3 : (¬ (Int32.ofNat (16 * f + 3) < 0 ∨ 2000 ≤ 16 * f + 3)) = True := eq_true (fun z => z.elim (pu_n_nn (by omega)) (fun z => absurd z (by omega)))
  have t3 : Int32.toNatClampNeg (Int32.ofNat (16 * f + 3)) = 16 * f + 3 := pu_n_nat (by omega)
  have y4 : Int32.ofNat (16 * f) + 4 = Int32.ofNat (16 * f + 4) := by rw [pu_n_lit 4, pu_n_add]
  have i4 : (¬ (Int32.ofNat (16 * f + 4) < 0 ∨ 2000 ≤ 16 * f + 4)) = True := eq_true (fun z => z.elim (pu_n_nn (by omega)) (fun z => absurd z (by omega)))
  have t4 : Int32.toNatClampNeg (Int32.ofNat (16 * f + 4)) = 16 * f + 4 := pu_n_nat (by omega)
  have y5 : Int32.ofNat (16 * f) + 5 = Int32.ofNat (16 * f + 5) := by rw [pu_n_lit 5, pu_n_add]
  have i5 : (¬ (Int32.ofNat (16 * f + 5) < 0 ∨ 2000 ≤ 16 * f + 5)) = True := eq_true (fun z => z.elim (pu_n_nn (by omega)) (fun z => absurd z (by omega)))
  have t5 : Int32.toNatClampNeg (Int32.ofNat (16 * f + 5)) = 16 * f + 5 := pu_n_nat (by omega)
  have y6 : Int32.ofNat (16 * f) + 6 = Int32.ofNat (16 * f + 6) := by rw [pu_n_lit 6, pu_n_add]
  have i6 : (¬ (Int32.ofNat (16 * f + 6) < 0 ∨ 2000 ≤ 16 * f + 6)) = True := eq_true (fun z => z.elim (pu_n_nn (by omega)) (fun z => absurd z (by omega)))
  have t6 : Int32.toNatClampNeg (Int32.ofNat (16 * f + 6)) = 16 * f + 6 := pu_n_nat (by omega)
  have y10 : Int32.ofNat (16 * f) + 10 = Int32.ofNat (16 * f + 10) := by rw [pu_n_lit 10, pu_n_add]
  have i10 : (¬ (Int32.ofNat (16 * f + 10) < 0 ∨ 2000 ≤ 16 * f + 10)) = True := eq_true (fun z => z.elim (pu_n_nn (by omega)) (fun z => absurd z (by omega)))
  have t10 : Int32.toNatClampNeg (Int32.ofNat (16 * f + 10)) = 16 * f + 10 := pu_n_nat (by omega)
  have y11 : Int32.ofNat (16 * f) + 11 = Int32.ofNat (16 * f + 11) := by rw [pu_n_lit 11, pu_n_add]
  have i11 : (¬ (Int32.ofNat (16 * f + 11) < 0 ∨ 2000 ≤ 16 * f + 11)) = True := eq_true (fun z => z.elim (pu_n_nn (by omega)) (fun z => absurd z (by omega)))
  have t11 : Int32.toNatClampNeg (Int32.ofNat (16 * f + 11)) = 16 * f + 11 := pu_n_nat (by omega)
  have y12 : Int32.ofNat (16 * f) + 12 = Int32.ofNat (16 * f + 12) := by rw [pu_n_lit 12, pu_n_add]
  have i12 : (¬ (Int32.ofNat (16 * f + 12) < 0 ∨ 2000 ≤ 16 * f + 12)) = True := eq_true (fun z => z.elim (pu_n_nn (by omega)) (fun z => absurd z (by omega)))
  have t12 : Int32.toNatClampNeg (Int32.ofNat (16 * f + 12)) = 16 * f + 12 := pu_n_nat (by omega)
  have y13 : Int32.ofNat (16 * f) + 13 = Int32.ofNat (16 * f + 13) := by rw [pu_n_lit 13, pu_n_add]
  have i13 : (¬ (Int32.ofNat (16 * f + 13) < 0 ∨ 2000 ≤ 16 * f + 13)) = True := eq_true (fun z => z.elim (pu_n_nn (by omega)) (fun z => absurd z (by omega)))
  have t13 : Int32.toNatClampNeg (Int32.ofNat (16 * f + 13)) = 16 * f + 13 := pu_n_nat (by omega)
  have c50 : pu_Cy m g 50 = m 50 := pu_Cy_o (by decide)
  have hn := hr.n
  have pu_hx := hr.x
  have hy := hr.y
  unfold f_Mo_makeField f_Mo_makeField_b0 f_Mo_makeField_b431
  simp only [y0, y1, y2, y3, y4, y5, y6, y10, y11, y12, y13, i0, i1, i2, i3, i4, i5, i6, i10, i11, i12, i13, t0, t1, t2, t3, t4, t5, t6, t10, t11, t12, t13, ↓reduceIte, cp1, pu_b_some, c50, hn]
  have stepA : ∀ {a b : Int32} (m1 : tm_I), m1 50 = pu_Cy m g 50 → m1 50 = m 50 := fun m1 h => h.trans c50
  have fin : ∀ {o : pu_Od} {m2 : tm_I}, pu_ords R = [o] → pu_badG R = false → pu_GL (pu_Cy m g) m2 kp O [pu_cpO c o] → pu_MF m m2 kp O ((pu_ords R).map (pu_cpO c)) (pu_badG R) := by
    intro o m2 e1 e2 h
    rw [e1, e2]; exact pu_MF.of h
  rcases wf.k with k | k | k | k | k | k | k | k | k
  · -- 84
    have hm : pu_manyL R.lt = 4 := by rw [k]; decide
    have ek : m 50 (16 * f) = 0 := by rw [hr.k, k]; decide
    have a0 := pu_sh_of hr 0 (by omega) (j := 16 * f + 1) (by omega)
    have a1 := pu_sh_of hr 1 (by omega) (j := 16 * f + 2) (by omega)
    have a2 := pu_sh_of hr 2 (by omega) (j := 16 * f + 3) (by omega)
    have a3 := pu_sh_of hr 3 (by omega) (j := 16 * f + 4) (by omega)
    have eb : pu_badG R = false := by unfold pu_badG; rw [if_neg (by rw [k]; decide)]
    have eo : pu_ords R = [pu_mk R 0 (R.sh 3) 0 0 (R.sh 0) (R.sh 1) (R.sh 2) 0 R.D.length] := by unfold pu_ords; simp [k]
    obtain ⟨m1, g1, m2, g2, g3, g4⟩ := pu_mo_give (mL := mL) (O := O) (c := c) hr0 hf hl M0.cp M0.kq (by rw [e39]; exact hw) (fun q => ⟨M0.o q, by have := (hO q).2; rw [eo] at this; simp only [List.length_cons, List.length_nil] at this; omega⟩) 0 (R.sh 3) 0 0 (R.sh 0) (R.sh 1) (R.sh 2) 0 R.D.length (by omega) (by first | (rw [if_neg (by decide)]; omega) | (rw [if_pos rfl]; omega))
    simp only [ek, a0, a1, a2, a3, ↓reduceIte]
    refine ⟨m2, ?_, fin eo eb g4⟩
    rw [show (0 : Int32) = Int32.ofNat 0 from rfl] at *
    rw [g1, pu_b_some]
    simp only [g3, c50, a2]
    rw [g2, pu_b_some]
  · -- 87
    have hm : pu_manyL R.lt = 4 := by rw [k]; decide
    have ek : m 50 (16 * f) = 8 := by rw [hr.k, k]; decide
    have a0 := pu_sh_of hr 0 (by omega) (j := 16 * f + 1) (by omega)
    have a1 := pu_sh_of hr 1 (by omega) (j := 16 * f + 2) (by omega)
    have a2 := pu_sh_of hr 2 (by omega) (j := 16 * f + 3) (by omega)
    have a3 := pu_sh_of hr 3 (by omega) (j := 16 * f + 4) (by omega)
    have eb : pu_badG R = false := by unfold pu_badG; rw [if_neg (by rw [k]; decide)]
    obtain ⟨n, n1, n2, n3⟩ := wf.w k
    have eo : pu_ords R = pu_linesO R 0 (pu_spLines n R.D 202 0) := by
      unfold pu_ords pu_linesOf; rw [if_pos k, n3, pu_n_nat (by omega)]
    obtain ⟨m2, l1, l2⟩ := pu_mo_lines (mL := mL) (c := c) (kp := kp) hf hl k n1 n2 202 0 tm_F 0 O (pu_Cy m g) M0 (by omega) (by omega) (by decide) (fun q => by have := (hO q).2; rw [eo, pu_linesO_len] at this; exact this)
    refine ⟨m2, ?_, ?_⟩
    · simp only [ek, show ((8 : Int32) = 0) = False by decide, show ((8 : Int32) = 1) = False by decide, show ((8 : Int32) = 2) = False by decide, show ((8 : Int32) = 3) = False by decide, show ((8 : Int32) = 7) = False by decide, ↓reduceIte]
      unfold f_Mo_makeLines f_Mo_makeLines_b0
      simp only [y0, y1, y10, i1, i10, t1, t10, ↓reduceIte, c50, hn, a0, n3]
      rw [show (0 : Int32) = Int32.ofNat 0 from rfl]
      rw [l1, pu_b_some]
    · rw [eo, eb]; exact pu_MF.of l2
  · -- 66
    have hm : pu_manyL R.lt = 4 := by rw [k]; decide
    have ek : m 50 (16 * f) = 1 := by rw [hr.k, k]; decide
    have a0 := pu_sh_of hr 0 (by omega) (j := 16 * f + 1) (by omega)
    have a1 := pu_sh_of hr 1 (by omega) (j := 16 * f + 2) (by omega)
    have a2 := pu_sh_of hr 2 (by omega) (j := 16 * f + 3) (by omega)
    have a3 := pu_sh_of hr 3 (by omega) (j := 16 * f + 4) (by omega)
    have eb : pu_badG R = false := by unfold pu_badG; rw [if_neg (by rw [k]; decide)]
    have o1 : pu_mk R 1 (R.sh 2) 0 0 (R.sh 0) (R.sh 1) 0 0 R.D.length = pu_mk R 1 (R.sh 2) 0 0 (R.sh 0) (R.sh 1) 0 0 R.D.length := rfl
    have hOl : kp = true → O < 120 := fun q => by
      have := (hO q).2
      have : 1 ≤ (pu_ords R).length := by unfold pu_ords; simp [k]
      omega
    obtain ⟨m1, g1, m2, g2, g3, g4⟩ := pu_mo_give (mL := mL) (O := O) (c := c) hr0 hf hl M0.cp M0.kq (by rw [e39]; exact hw) (fun q => ⟨M0.o q, hOl q⟩) 1 (R.sh 2) 0 0 (R.sh 0) (R.sh 1) 0 0 R.D.length (by omega) (by rw [if_neg (by decide)]; omega)
    have m250 : m2 50 = m 50 := (g4.o 50 (by decide) (by decide) (by decide)).trans c50
    have M2 := M0.gl g4
    obtain ⟨w2, hw2⟩ := M2.w
    simp only [ek, show ((1 : Int32) = 0) = False by decide, a0, a1, a2, a3, ↓reduceIte]
    by_cases q1 : R.sh 3 = 1
    · have eo : pu_ords R = [pu_mk R 1 (R.sh 2) 0 0 (R.sh 0) (R.sh 1) 0 0 R.D.length, pu_mk R 0 (R.sh 2) 0 (R.sh 1 + 3) (R.tx 0) (R.tx 1) (R.tx 2) 0 R.D.length] := by unfold pu_ords; simp [k, q1]
      have x0 := pu_tx_of hr 0 (by omega) (j := 16 * f + 11) (by omega)
      have x1 := pu_tx_of hr 1 (by omega) (j := 16 * f + 12) (by omega)
      have x2 := pu_tx_of hr 2 (by omega) (j := 16 * f + 13) (by omega)
      obtain ⟨m3, p1, m4, p2, p3, p4⟩ := pu_mo_give (mL := mL) (O := O + 1) (c := c) M2.r hf hl M2.cp M2.kq hw2 (fun q => ⟨M2.o q, by have := (hO q).2; rw [eo] at this; simp only [List.length_cons, List.length_nil] at this; omega⟩) 0 (R.sh 2) 0 (R.sh 1 + 3) (R.tx 0) (R.tx 1) (R.tx 2) 0 R.D.length (by omega) (by rw [if_neg (by decide)]; omega)
      refine ⟨m4, ?_, ?_⟩
      · rw [show (0 : Int32) = Int32.ofNat 0 from rfl] at *
        rw [g1, pu_b_some]
        simp only []
        rw [g2, pu_b_some]
        simp only [m250, a3, q1, not_true_eq_false, ↓reduceIte, a2]
        rw [p1, pu_b_some]
        simp only [p3, m250, x0, x1, x2]
        rw [p2, pu_b_some]
      · rw [eo, eb]
        exact pu_MF.of (g4.trans (b := [pu_cpO c (pu_mk R 0 (R.sh 2) 0 (R.sh 1 + 3) (R.tx 0) (R.tx 1) (R.tx 2) 0 R.D.length)]) p4 (fun o ho => by rw [List.mem_singleton] at ho; subst ho; exact hl))
    · have eo : pu_ords R = [pu_mk R 1 (R.sh 2) 0 0 (R.sh 0) (R.sh 1) 0 0 R.D.length] := by unfold pu_ords; simp [k, q1]
      refine ⟨m2, ?_, fin eo eb g4⟩
      rw [show (0 : Int32) = Int32.ofNat 0 from rfl] at *
      rw [g1, pu_b_some]
      simp only []
      rw [g2, pu_b_some]
      simp only [m250, a3, q1, not_false_eq_true, ↓reduceIte]
  · -- 78
    have hm : pu_manyL R.lt = 3 := by rw [k]; decide
    have ek : m 50 (16 * f) = 2 := by rw [hr.k, k]; decide
    have a0 := pu_sh_of hr 0 (by omega) (j := 16 * f + 1) (by omega)
    have a1 := pu_sh_of hr 1 (by omega) (j := 16 * f + 2) (by omega)
    have a2 := pu_sh_of hr 2 (by omega) (j := 16 * f + 3) (by omega)
    have eb : pu_badG R = false := by unfold pu_badG; rw [if_neg (by rw [k]; decide)]
    have eo : pu_ords R = [pu_mk R 2 (R.sh 2) 0 0 (R.sh 0) (R.sh 1) 0 0 R.D.length] := by unfold pu_ords; simp [k]
    obtain ⟨m1, g1, m2, g2, g3, g4⟩ := pu_mo_give (mL := mL) (O := O) (c := c) hr0 hf hl M0.cp M0.kq (by rw [e39]; exact hw) (fun q => ⟨M0.o q, by have := (hO q).2; rw [eo] at this; simp only [List.length_cons, List.length_nil] at this; omega⟩) 2 (R.sh 2) 0 0 (R.sh 0) (R.sh 1) 0 0 R.D.length (by omega) (by first | (rw [if_neg (by decide)]; omega) | (rw [if_pos rfl]; omega))
    simp only [ek, show ((2 : Int32) = 0) = False by decide, show ((2 : Int32) = 1) = False by decide, a0, a1, a2, ↓reduceIte]
    refine ⟨m2, ?_, fin eo eb g4⟩
    rw [show (0 : Int32) = Int32.ofNat 0 from rfl] at *
    rw [g1, pu_b_some]
    simp only []
    rw [g2, pu_b_some]
  · -- 81
    have hm : pu_manyL R.lt = 4 := by rw [k]; decide
    have ek : m 50 (16 * f) = 3 := by rw [hr.k, k]; decide
    have a0 := pu_sh_of hr 0 (by omega) (j := 16 * f + 1) (by omega)
    have a1 := pu_sh_of hr 1 (by omega) (j := 16 * f + 2) (by omega)
    have a2 := pu_sh_of hr 2 (by omega) (j := 16 * f + 3) (by omega)
    have a3 := pu_sh_of hr 3 (by omega) (j := 16 * f + 4) (by omega)
    have eb : pu_badG R = false := by unfold pu_badG; rw [if_neg (by rw [k]; decide)]
    have eo : pu_ords R = [pu_mk R 3 (R.sh 3) 0 0 (R.sh 0) (R.sh 1) (R.sh 2) 0 R.D.length] := by unfold pu_ords; simp [k]
    obtain ⟨m1, g1, m2, g2, g3, g4⟩ := pu_mo_give (mL := mL) (O := O) (c := c) hr0 hf hl M0.cp M0.kq (by rw [e39]; exact hw) (fun q => ⟨M0.o q, by have := (hO q).2; rw [eo] at this; simp only [List.length_cons, List.length_nil] at this; omega⟩) 3 (R.sh 3) 0 0 (R.sh 0) (R.sh 1) (R.sh 2) 0 R.D.length (by omega) (by first | (rw [if_neg (by decide)]; omega) | (rw [if_pos rfl]; omega))
    simp only [ek, show ((3 : Int32) = 0) = False by decide, show ((3 : Int32) = 1) = False by decide, show ((3 : Int32) = 2) = False by decide, a0, a1, a2, a3, ↓reduceIte]
    refine ⟨m2, ?_, fin eo eb g4⟩
    rw [show (0 : Int32) = Int32.ofNat 0 from rfl] at *
    rw [g1, pu_b_some]
    simp only [g3, c50, a2]
    rw [g2, pu_b_some]
  · -- 70
    have hm : pu_manyL R.lt = 3 := by rw [k]; decide
    have ek : m 50 (16 * f) = 4 := by rw [hr.k, k]; decide
    have a0 := pu_sh_of hr 0 (by omega) (j := 16 * f + 1) (by omega)
    have a1 := pu_sh_of hr 1 (by omega) (j := 16 * f + 2) (by omega)
    have a2 := pu_sh_of hr 2 (by omega) (j := 16 * f + 3) (by omega)
    have eb : pu_badG R = false := by unfold pu_badG; rw [if_neg (by rw [k]; decide)]
    have z3 := wf.z3 (Or.inl k)
    have eo : pu_ords R = [pu_mk R 4 0 0 0 (R.sh 0) (R.sh 1) (R.sh 2) 0 0] := by unfold pu_ords; simp [k, z3]
    obtain ⟨m1, g1, m2, g2, g3, g4⟩ := pu_mo_give (mL := mL) (O := O) (c := c) hr0 hf hl M0.cp M0.kq (by rw [e39]; exact hw) (fun q => ⟨M0.o q, by have := (hO q).2; rw [eo] at this; simp only [List.length_cons, List.length_nil] at this; omega⟩) 4 0 0 0 (R.sh 0) (R.sh 1) (R.sh 2) 0 0 (by omega) (by first | (rw [if_neg (by decide)]; omega) | (rw [if_pos rfl]; omega))
    simp only [ek, show ((4 : Int32) = 0) = False by decide, show ((4 : Int32) = 1) = False by decide, show ((4 : Int32) = 2) = False by decide, show ((4 : Int32) = 3) = False by decide, show ((4 : Int32) = 7) = False by decide, show ((4 : Int32) = 8) = False by decide, a0, a1, a2, ↓reduceIte]
    have w4 : m2 39 32 = pu_bi (w || !([pu_cpO c (pu_mk R 4 0 0 0 (R.sh 0) (R.sh 1) (R.sh 2) 0 0)] : List pu_Od).all pu_nearO) := g4.wr w (by rw [e39]; exact hw)
    generalize hww : (w || !([pu_cpO c (pu_mk R 4 0 0 0 (R.sh 0) (R.sh 1) (R.sh 2) 0 0)] : List pu_Od).all pu_nearO) = w2 at w4
    have m250 : m2 50 = m 50 := (g4.o 50 (by decide) (by decide) (by decide)).trans c50
    unfold f_Mo_makeField_b337 f_Mo_makeField_b423 f_Mo_makeField_b427 f_Mo_makeField_b428 f_Mo_makeField_b431
    simp only [y0, y1, y2, y3, y4, y5, y6, y10, y11, y12, y13, i0, i1, i2, i3, i4, i5, i6, i10, i11, i12, i13, t0, t1, t2, t3, t4, t5, t6, t10, t11, t12, t13, ↓reduceIte, c50, ek]
    rw [show (0 : Int32) = Int32.ofNat 0 from rfl] at *
    rw [g1, pu_b_some]
    simp only [g3, c50, a2, ↓reduceIte]
    rw [g2, pu_b_some]
    simp only [w4]
    have same : tm_up m2 39 32 (pu_bi w2) = m2 := pu_tm_up_same w4
    cases hw3 : w2
    · rw [if_neg (show ¬ ¬ pu_bi false = Int32.ofNat 0 by decide)]
      simp only [m250, ek, show (¬ (4 : Int32) = 6) = True by decide, ↓reduceIte]
      simp only [true_or, ↓reduceIte]
      refine ⟨_, rfl, ?_⟩
      rw [hw3] at same
      rw [show Int32.ofNat 0 = pu_bi false from rfl, same]
      exact fin eo eb g4
    · rw [if_pos (show ¬ pu_bi true = Int32.ofNat 0 by decide)]
      simp only [or_true, ↓reduceIte]
      refine ⟨_, rfl, ?_⟩
      rw [hw3] at same
      rw [show (1 : Int32) = pu_bi true from rfl, same]
      exact fin eo eb g4
  · -- 73
    have hm : pu_manyL R.lt = 3 := by rw [k]; decide
    have ek : m 50 (16 * f) = 5 := by rw [hr.k, k]; decide
    have a0 := pu_sh_of hr 0 (by omega) (j := 16 * f + 1) (by omega)
    have a1 := pu_sh_of hr 1 (by omega) (j := 16 * f + 2) (by omega)
    have a2 := pu_sh_of hr 2 (by omega) (j := 16 * f + 3) (by omega)
    have eb : pu_badG R = false := by unfold pu_badG; rw [if_neg (by rw [k]; decide)]
    have z3 := wf.z3 (Or.inr (Or.inl k))
    have eo : pu_ords R = [pu_mk R 5 0 0 0 (R.sh 0) (R.sh 1) (R.sh 2) 0 0] := by unfold pu_ords; simp [k, z3]
    obtain ⟨m1, g1, m2, g2, g3, g4⟩ := pu_mo_give (mL := mL) (O := O) (c := c) hr0 hf hl M0.cp M0.kq (by rw [e39]; exact hw) (fun q => ⟨M0.o q, by have := (hO q).2; rw [eo] at this; simp only [List.length_cons, List.length_nil] at this; omega⟩) 5 0 0 0 (R.sh 0) (R.sh 1) (R.sh 2) 0 0 (by omega) (by first | (rw [if_neg (by decide)]; omega) | (rw [if_pos rfl]; omega))
    simp only [ek, show ((5 : Int32) = 0) = False by decide, show ((5 : Int32) = 1) = False by decide, show ((5 : Int32) = 2) = False by decide, show ((5 : Int32) = 3) = False by decide, show ((5 : Int32) = 7) = False by decide, show ((5 : Int32) = 8) = False by decide, a0, a1, a2, ↓reduceIte]
    have w4 : m2 39 32 = pu_bi (w || !([pu_cpO c (pu_mk R 5 0 0 0 (R.sh 0) (R.sh 1) (R.sh 2) 0 0)] : List pu_Od).all pu_nearO) := g4.wr w (by rw [e39]; exact hw)
    generalize hww : (w || !([pu_cpO c (pu_mk R 5 0 0 0 (R.sh 0) (R.sh 1) (R.sh 2) 0 0)] : List pu_Od).all pu_nearO) = w2 at w4
    have m250 : m2 50 = m 50 := (g4.o 50 (by decide) (by decide) (by decide)).trans c50
    unfold f_Mo_makeField_b337 f_Mo_makeField_b423 f_Mo_makeField_b427 f_Mo_makeField_b428 f_Mo_makeField_b431
    simp only [y0, y1, y2, y3, y4, y5, y6, y10, y11, y12, y13, i0, i1, i2, i3, i4, i5, i6, i10, i11, i12, i13, t0, t1, t2, t3, t4, t5, t6, t10, t11, t12, t13, ↓reduceIte, c50, ek]
    rw [show (0 : Int32) = Int32.ofNat 0 from rfl] at *
    rw [g1, pu_b_some]
    simp only [g3, c50, a2, ↓reduceIte]
    rw [g2, pu_b_some]
    simp only [w4]
    have same : tm_up m2 39 32 (pu_bi w2) = m2 := pu_tm_up_same w4
    cases hw3 : w2
    · rw [if_neg (show ¬ ¬ pu_bi false = Int32.ofNat 0 by decide)]
      simp only [m250, ek, show (¬ (5 : Int32) = 6) = True by decide, ↓reduceIte]
      simp only [true_or, ↓reduceIte]
      refine ⟨_, rfl, ?_⟩
      rw [hw3] at same
      rw [show Int32.ofNat 0 = pu_bi false from rfl, same]
      exact fin eo eb g4
    · rw [if_pos (show ¬ pu_bi true = Int32.ofNat 0 by decide)]
      simp only [or_true, ↓reduceIte]
      refine ⟨_, rfl, ?_⟩
      rw [hw3] at same
      rw [show (1 : Int32) = pu_bi true from rfl, same]
      exact fin eo eb g4
  · -- 71
    have hm : pu_manyL R.lt = 3 := by rw [k]; decide
    have ek : m 50 (16 * f) = 6 := by rw [hr.k, k]; decide
    have a0 := pu_sh_of hr 0 (by omega) (j := 16 * f + 1) (by omega)
    have a1 := pu_sh_of hr 1 (by omega) (j := 16 * f + 2) (by omega)
    have a2 := pu_sh_of hr 2 (by omega) (j := 16 * f + 3) (by omega)
    have z3 := wf.z3 (Or.inr (Or.inr (Or.inl k)))
    have eo : pu_ords R = [pu_mk R 6 0 0 0 (R.sh 0) (R.sh 1) (R.sh 2) 0 0] := by unfold pu_ords; simp [k, z3]
    obtain ⟨m1, g1, m2, g2, g3, g4⟩ := pu_mo_give (mL := mL) (O := O) (c := c) hr0 hf hl M0.cp M0.kq (by rw [e39]; exact hw) (fun q => ⟨M0.o q, by have := (hO q).2; rw [eo] at this; simp only [List.length_cons, List.length_nil] at this; omega⟩) 6 0 0 0 (R.sh 0) (R.sh 1) (R.sh 2) 0 0 (by omega) (by first | (rw [if_neg (by decide)]; omega) | (rw [if_pos rfl]; omega))
    simp only [ek, show ((6 : Int32) = 0) = False by decide, show ((6 : Int32) = 1) = False by decide, show ((6 : Int32) = 2) = False by decide, show ((6 : Int32) = 3) = False by decide, show ((6 : Int32) = 7) = False by decide, show ((6 : Int32) = 8) = False by decide, a0, a1, a2, ↓reduceIte]
    have w4 : m2 39 32 = pu_bi (w || !([pu_cpO c (pu_mk R 6 0 0 0 (R.sh 0) (R.sh 1) (R.sh 2) 0 0)] : List pu_Od).all pu_nearO) := g4.wr w (by rw [e39]; exact hw)
    generalize hww : (w || !([pu_cpO c (pu_mk R 6 0 0 0 (R.sh 0) (R.sh 1) (R.sh 2) 0 0)] : List pu_Od).all pu_nearO) = w2 at w4
    have m250 : m2 50 = m 50 := (g4.o 50 (by decide) (by decide) (by decide)).trans c50
    unfold f_Mo_makeField_b337 f_Mo_makeField_b423 f_Mo_makeField_b427 f_Mo_makeField_b428 f_Mo_makeField_b431
    simp only [y0, y1, y2, y3, y4, y5, y6, y10, y11, y12, y13, i0, i1, i2, i3, i4, i5, i6, i10, i11, i12, i13, t0, t1, t2, t3, t4, t5, t6, t10, t11, t12, t13, ↓reduceIte, c50, ek]
    rw [show (0 : Int32) = Int32.ofNat 0 from rfl] at *
    rw [g1, pu_b_some]
    simp only [g3, c50, a2, ↓reduceIte]
    rw [g2, pu_b_some]
    simp only [w4]
    have bz : Int32.ofNat 0 = (0 : Int32) := rfl
    have fin2 : ∀ w3 : Bool, w3 = (w2 || pu_badG R) → pu_MF m (tm_up m2 39 32 (pu_bi w3)) kp O ((pu_ords R).map (pu_cpO c)) (pu_badG R) := by
      intro w3 hw3
      rw [eo]
      have G := pu_MF.of g4
      refine ⟨fun a a1 a2 a3 a4 => by rw [pu_tm_up_c a1]; exact G.o a a1 a2 a3 a4, fun b b1 b2 b3 => by rw [tm_up_k b2]; exact G.c39 b b1 b2 b3, fun B hB => by rw [tm_up_k (by decide)]; exact G.made B hB, fun w' hw' => ?_, fun q1 q2 => ?_, fun q => ?_⟩
      · have : w' = w := by
          rw [hw] at hw'; revert hw'; cases w <;> cases w' <;> simp [pu_bi]
        rw [tm_up_eq, hw3, ← hww, this, Bool.or_assoc]; rfl
      · have := G.ord q1 q2
        rw [tm_up_k (by decide)]
        refine ⟨this.1, fun b hb => by rw [tm_up_o (by decide)]; exact this.2.1 b hb, fun b hb => by rw [tm_up_o (by decide)]; exact this.2.2.1 b hb, fun i hi => ⟨fun j hj => by rw [tm_up_o (by decide)]; exact (this.2.2.2 i hi).row j hj, fun j hj => by rw [tm_up_o (by decide)]; exact (this.2.2.2 i hi).dat j hj⟩⟩
      · have := G.nok q
        rw [pu_tm_up_c (by decide), pu_tm_up_c (by decide), tm_up_k (by decide)]; exact this
    have eb : pu_badG R = !(pu_near (R.x + R.sh 0) && pu_near (R.y + R.sh 1)) := by unfold pu_badG; rw [if_pos k]
    simp only [m250, ek, pu_hx, hy, ↓reduceIte, not_true_eq_false, bz, or_true, true_or]
    cases hw3 : w2
    · rw [if_neg (show ¬ ¬ pu_bi false = 0 by decide), pu_mo_far, pu_b_some]
      simp only [m250, hy]
      cases hnx : pu_near (R.x + R.sh 0)
      · rw [if_pos (show ¬ (pu_bi !false) = 0 by decide)]
        exact ⟨_, rfl, fin2 true (by rw [hw3, eb, hnx]; rfl)⟩
      · rw [if_neg (show ¬ ¬ (pu_bi !true) = 0 by decide), pu_mo_far, pu_b_some]
        cases hny : pu_near (R.y + R.sh 1)
        · rw [if_neg (show ¬ (pu_bi !false) = 0 by decide)]
          exact ⟨_, rfl, fin2 true (by rw [hw3, eb, hnx, hny]; rfl)⟩
        · rw [if_pos (show (pu_bi !true) = 0 by decide)]
          exact ⟨_, rfl, fin2 false (by rw [hw3, eb, hnx, hny]; rfl)⟩
    · rw [if_pos pu_bi_t]
      exact ⟨_, rfl, fin2 true (by rw [hw3]; rfl)⟩
  · -- 80
    have hm : pu_manyL R.lt = 1 := by rw [k]; decide
    have ek : m 50 (16 * f) = 7 := by rw [hr.k, k]; decide
    have a0 := pu_sh_of hr 0 (by omega) (j := 16 * f + 1) (by omega)
    have eb : pu_badG R = false := by unfold pu_badG; rw [if_neg (by rw [k]; decide)]
    obtain ⟨z1, z2⟩ := wf.z1 k
    have z3 := wf.z3 (Or.inr (Or.inr (Or.inr k)))
    have eo : pu_ords R = [pu_mk R 7 0 0 0 (R.sh 0) 0 0 0 (R.D.length / 2)] := by unfold pu_ords; simp [k, z1, z2, z3]
    obtain ⟨m1, g1, m2, g2, g3, g4⟩ := pu_mo_give (mL := mL) (O := O) (c := c) hr0 hf hl M0.cp M0.kq (by rw [e39]; exact hw) (fun q => ⟨M0.o q, by have := (hO q).2; rw [eo] at this; simp only [List.length_cons, List.length_nil] at this; omega⟩) 7 0 0 0 (R.sh 0) 0 0 0 (R.D.length / 2) (by omega) (by first | (rw [if_neg (by decide)]; omega) | (rw [if_pos rfl]; omega))
    simp only [ek, show ((7 : Int32) = 0) = False by decide, show ((7 : Int32) = 1) = False by decide, show ((7 : Int32) = 2) = False by decide, show ((7 : Int32) = 3) = False by decide, a0, ↓reduceIte]
    have e2 : Int32.ofNat R.D.length / 2 = Int32.ofNat (R.D.length / 2) := by rw [pu_n_lit 2, pu_n_div (by omega) (by omega)]
    refine ⟨m2, ?_, fin eo eb g4⟩
    rw [e2]
    rw [show (0 : Int32) = Int32.ofNat 0 from rfl] at *
    rw [g1, pu_b_some]
    simp only []
    rw [g2, pu_b_some]
end MKF
def pu_NF (m : tm_I) (k : Nat) : tm_I := fun a b => if a = 49 ∧ b < k then 0 else m a b
section NFs
variable {m : tm_I} {mL : tm_L}
theorem pu_mo_new1 : ∀ (t k N : Nat), t + k = 16 → t < N → f_Mo_newField_l2 N (Int32.ofNat k) (pu_NF m k) mL = some (0, tm_up (pu_NF m 16) 49 0 (-1), mL) := by
  intro t
  induction t with
  | zero =>
    intro k N hk hN
    obtain ⟨N, rfl⟩ : ∃ n', N = n' + 1 := ⟨N - 1, by omega⟩
    have : k = 16 := by omega
    subst this
    rw [f_Mo_newField_l2, if_pos (by simp (disch := omega) only [pu_n_lit, pu_n_add, pu_n_mul, pu_n_sub, pu_n_div, pu_n_nat, pu_q_ltT, pu_q_ltF, pu_q_leT, pu_q_leF, pu_q_eqT, pu_q_eqF, pu_n_lt, pu_n_le, pu_n_eq, pu_p_ltT, pu_p_ltF, pu_p_leT, pu_p_leF, not_true_eq_false, not_false_eq_true, or_false, false_or, or_true, true_or, and_true, true_and, and_false, false_and, ↓reduceIte, pu_b_some]), if_pos (by decide)]
    rfl
  | succ t ih =>
    intro k N hk hN
    obtain ⟨N, rfl⟩ : ∃ n', N = n' + 1 := ⟨N - 1, by omega⟩
    have e : tm_up (pu_NF m k) 49 k 0 = pu_NF m (k + 1) := by
      funext a b; unfold tm_up pu_NF
      by_cases h : a = 49 ∧ b = k
      · rw [if_pos h, if_pos (by omega)]
      · rw [if_neg h]
        by_cases h2 : a = 49 ∧ b < k
        · rw [if_pos h2, if_pos (by omega)]
        · rw [if_neg h2, if_neg (by omega)]
    rw [f_Mo_newField_l2, if_neg (by simp (disch := omega) only [pu_n_lit, pu_n_add, pu_n_mul, pu_n_sub, pu_n_div, pu_n_nat, pu_q_ltT, pu_q_ltF, pu_q_leT, pu_q_leF, pu_q_eqT, pu_q_eqF, pu_n_lt, pu_n_le, pu_n_eq, pu_p_ltT, pu_p_ltF, pu_p_leT, pu_p_leF, not_true_eq_false, not_false_eq_true, or_false, false_or, or_true, true_or, and_true, true_and, and_false, false_and, ↓reduceIte, pu_b_some]), if_pos (pu_n_in (by omega) (by omega)), pu_n_nat (by omega), e, pu_n_lit 1, pu_n_add]
    exact ih (k + 1) N (by omega) (by omega)
theorem pu_mo_new : ∃ m', f_Mo_newField m mL = some (0, m', mL) ∧ (∀ a, a ≠ 49 → m' a = m a) ∧ m' 49 0 = -1 ∧ (∀ b, 0 < b → b < 16 → m' 49 b = 0) := by
  refine ⟨tm_up (pu_NF m 16) 49 0 (-1), ?_, fun a ha => ?_, tm_up_eq _ _ _ _, fun b h1 h2 => ?_⟩
  · have := pu_mo_new1 (m := m) (mL := mL) 16 0 tm_F (by omega) (by decide)
    have e : pu_NF m 0 = m := by funext a b; unfold pu_NF; rw [if_neg (by omega)]
    rw [e, show Int32.ofNat 0 = (0 : Int32) from rfl] at this
    exact this
  · rw [pu_tm_up_c ha]; funext b; unfold pu_NF; rw [if_neg (fun q => ha q.1)]
  · rw [tm_up_k (by omega)]; unfold pu_NF; rw [if_pos ⟨rfl, h2⟩]
def pu_Rg (m : tm_I) (o base : Nat) (g : Nat → Int32) (k : Nat) : tm_I := fun a b => if a = o ∧ base ≤ b ∧ b < base + k then g (b - base) else m a b
theorem pu_Rg_0 {o base : Nat} {g : Nat → Int32} : pu_Rg m o base g 0 = m := by funext a b; unfold pu_Rg; rw [if_neg (by omega)]
theorem pu_Rg_o {o base k a : Nat} {g : Nat → Int32} (h : a ≠ o) : pu_Rg m o base g k a = m a := by funext b; unfold pu_Rg; rw [if_neg (fun q => h q.1)]
theorem pu_Rg_in {o base k j : Nat} {g : Nat → Int32} (h : j < k) : pu_Rg m o base g k o (base + j) = g j := by unfold pu_Rg; rw [if_pos (by omega)]; congr 1; omega
theorem pu_Rg_out {o base k b : Nat} {g : Nat → Int32} (h : b < base ∨ base + k ≤ b) : pu_Rg m o base g k o b = m o b := by unfold pu_Rg; rw [if_neg (by omega)]
theorem pu_Rg_s {o base k : Nat} {g : Nat → Int32} : tm_up (pu_Rg m o base g k) o (base + k) (g k) = pu_Rg m o base g (k + 1) := by
  funext a b; unfold tm_up pu_Rg
  by_cases h1 : a = o ∧ b = base + k
  · rw [if_pos h1, if_pos (by omega), h1.2]; congr 1; omega
  · rw [if_neg h1]
    by_cases h2 : a = o ∧ base ≤ b ∧ b < base + k
    · rw [if_pos h2, if_pos (by omega)]
    · rw [if_neg h2, if_neg (by omega)]
theorem pu_mo_lay3 {F : Nat} (hF : F ≤ 120) (h25 : m 39 25 = Int32.ofNat F) : ∀ (t k N : Nat), t + k = 200 → t < N → f_Mo_lay_l100 N (Int32.ofNat k) (pu_Rg m 52 (200 * F) (m 51) k) mL = some (0, pu_Rg m 52 (200 * F) (m 51) 200, mL) := by
  intro t
  induction t with
  | zero =>
    intro k N hk hN
    obtain ⟨N, rfl⟩ : ∃ n', N = n' + 1 := ⟨N - 1, by omega⟩
    have : k = 200 := by omega
    subst this
    rw [f_Mo_lay_l100, if_pos (by simp (disch := omega) only [pu_n_lit, pu_n_add, pu_n_mul, pu_n_sub, pu_n_div, pu_n_nat, pu_q_ltT, pu_q_ltF, pu_q_leT, pu_q_leF, pu_q_eqT, pu_q_eqF, pu_n_lt, pu_n_le, pu_n_eq, pu_p_ltT, pu_p_ltF, pu_p_leT, pu_p_leF, not_true_eq_false, not_false_eq_true, or_false, false_or, or_true, true_or, and_true, true_and, and_false, false_and, ↓reduceIte, pu_b_some])]
  | succ t ih =>
    intro k N hk hN
    obtain ⟨N, rfl⟩ : ∃ n', N = n' + 1 := ⟨N - 1, by omega⟩
    have e1 : (200 : Int32) * Int32.ofNat F + Int32.ofNat k = Int32.ofNat (200 * F + k) := by rw [pu_n_lit 200, pu_n_mul, pu_n_add]
    rw [f_Mo_lay_l100, if_neg (by simp (disch := omega) only [pu_n_lit, pu_n_add, pu_n_mul, pu_n_sub, pu_n_div, pu_n_nat, pu_q_ltT, pu_q_ltF, pu_q_leT, pu_q_leF, pu_q_eqT, pu_q_eqF, pu_n_lt, pu_n_le, pu_n_eq, pu_p_ltT, pu_p_ltF, pu_p_leT, pu_p_leF, not_true_eq_false, not_false_eq_true, or_false, false_or, or_true, true_or, and_true, true_and, and_false, false_and, ↓reduceIte, pu_b_some]), if_pos (pu_n_in (by omega) (by omega)), pu_Rg_o (show 39 ≠ 52 by decide), h25, e1, if_pos (pu_n_in (by omega) (by omega)), pu_n_nat (by omega), pu_n_nat (by omega), pu_Rg_o (show 51 ≠ 52 by decide), pu_Rg_s, pu_n_lit 1, pu_n_add]
    exact ih (k + 1) N (by omega) (by omega)
theorem pu_mo_lay2 {F : Nat} (hF : F ≤ 120) (h25 : m 39 25 = Int32.ofNat F) : ∀ (t k N : Nat), t + k = 16 → t < N → f_Mo_lay_l66 N (Int32.ofNat k) (pu_Rg m 50 (16 * F) (m 49) k) mL = f_Mo_lay_l100 tm_F 0 (pu_Rg m 50 (16 * F) (m 49) 16) mL := by
  intro t
  induction t with
  | zero =>
    intro k N hk hN
    obtain ⟨N, rfl⟩ : ∃ n', N = n' + 1 := ⟨N - 1, by omega⟩
    have : k = 16 := by omega
    subst this
    rw [f_Mo_lay_l66, if_pos (by simp (disch := omega) only [pu_n_lit, pu_n_add, pu_n_mul, pu_n_sub, pu_n_div, pu_n_nat, pu_q_ltT, pu_q_ltF, pu_q_leT, pu_q_leF, pu_q_eqT, pu_q_eqF, pu_n_lt, pu_n_le, pu_n_eq, pu_p_ltT, pu_p_ltF, pu_p_leT, pu_p_leF, not_true_eq_false, not_false_eq_true, or_false, false_or, or_true, true_or, and_true, true_and, and_false, false_and, ↓reduceIte, pu_b_some])]
  | succ t ih =>
    intro k N hk hN
    obtain ⟨N, rfl⟩ : ∃ n', N = n' + 1 := ⟨N - 1, by omega⟩
    have e1 : (16 : Int32) * Int32.ofNat F + Int32.ofNat k = Int32.ofNat (16 * F + k) := by rw [pu_n_lit 16, pu_n_mul, pu_n_add]
    rw [f_Mo_lay_l66, if_neg (by simp (disch := omega) only [pu_n_lit, pu_n_add, pu_n_mul, pu_n_sub, pu_n_div, pu_n_nat, pu_q_ltT, pu_q_ltF, pu_q_leT, pu_q_leF, pu_q_eqT, pu_q_eqF, pu_n_lt, pu_n_le, pu_n_eq, pu_p_ltT, pu_p_ltF, pu_p_leT, pu_p_leF, not_true_eq_false, not_false_eq_true, or_false, false_or, or_true, true_or, and_true, true_and, and_false, false_and, ↓reduceIte, pu_b_some]), if_pos (pu_n_in (by omega) (by omega)), pu_Rg_o (show 39 ≠ 50 by decide), h25, e1, if_pos (pu_n_in (by omega) (by omega)), pu_n_nat (by omega), pu_n_nat (by omega), pu_Rg_o (show 49 ≠ 50 by decide), pu_Rg_s, pu_n_lit 1, pu_n_add]
    exact ih (k + 1) N (by omega) (by omega)
theorem pu_mo_lay1 : ∀ (t k N : Nat), t + k = 4 → t < N → f_Mo_lay_l38 N (Int32.ofNat k) (pu_Rg m 49 11 (m 48) k) mL = f_Mo_lay_l66 tm_F 0 (pu_Rg m 49 11 (m 48) 4) mL := by
  intro t
  induction t with
  | zero =>
    intro k N hk hN
    obtain ⟨N, rfl⟩ : ∃ n', N = n' + 1 := ⟨N - 1, by omega⟩
    have : k = 4 := by omega
    subst this
    rw [f_Mo_lay_l38, if_pos (by simp (disch := omega) only [pu_n_lit, pu_n_add, pu_n_mul, pu_n_sub, pu_n_div, pu_n_nat, pu_q_ltT, pu_q_ltF, pu_q_leT, pu_q_leF, pu_q_eqT, pu_q_eqF, pu_n_lt, pu_n_le, pu_n_eq, pu_p_ltT, pu_p_ltF, pu_p_leT, pu_p_leF, not_true_eq_false, not_false_eq_true, or_false, false_or, or_true, true_or, and_true, true_and, and_false, false_and, ↓reduceIte, pu_b_some])]
  | succ t ih =>
    intro k N hk hN
    obtain ⟨N, rfl⟩ : ∃ n', N = n' + 1 := ⟨N - 1, by omega⟩
    have e1 : (11 : Int32) + Int32.ofNat k = Int32.ofNat (11 + k) := by rw [pu_n_lit 11, pu_n_add]
    rw [f_Mo_lay_l38, if_neg (by simp (disch := omega) only [pu_n_lit, pu_n_add, pu_n_mul, pu_n_sub, pu_n_div, pu_n_nat, pu_q_ltT, pu_q_ltF, pu_q_leT, pu_q_leF, pu_q_eqT, pu_q_eqF, pu_n_lt, pu_n_le, pu_n_eq, pu_p_ltT, pu_p_ltF, pu_p_leT, pu_p_leF, not_true_eq_false, not_false_eq_true, or_false, false_or, or_true, true_or, and_true, true_and, and_false, false_and, ↓reduceIte, pu_b_some]), if_pos (pu_n_in (by omega) (by omega)), e1, if_pos (pu_n_in (by omega) (by omega)), pu_n_nat (by omega), pu_n_nat (by omega), pu_Rg_o (show 48 ≠ 49 by decide), pu_Rg_s, pu_n_lit 1, pu_n_add]
    exact ih (k + 1) N (by omega) (by omega)
def pu_FldM (s : pu_Sp) (m : tm_I) : Prop := (m 49 0 = pu_kd s.lt) ∧ (s.lt ≠ -1 → ∀ i, i < pu_manyL s.lt → m 49 (1 + i) = s.sh i) ∧ (m 49 5 = s.fx) ∧ (m 49 6 = s.fy) ∧ (m 49 7 = pu_wy s.t) ∧ (m 49 8 = pu_bi s.cnt) ∧ (m 49 9 = s.sp) ∧ (m 49 10 = Int32.ofNat s.D.length) ∧ (∀ i, i < s.D.length → m 51 i = s.D[i]?.getD (-1))
theorem pu_FldM.k {s : pu_Sp} {m : tm_I} (h_ : pu_FldM s m) : m 49 0 = pu_kd s.lt := h_.1
theorem pu_FldM.sh {s : pu_Sp} {m : tm_I} (h_ : pu_FldM s m) : s.lt ≠ -1 → ∀ i, i < pu_manyL s.lt → m 49 (1 + i) = s.sh i := h_.2.1
theorem pu_FldM.x {s : pu_Sp} {m : tm_I} (h_ : pu_FldM s m) : m 49 5 = s.fx := h_.2.2.1
theorem pu_FldM.y {s : pu_Sp} {m : tm_I} (h_ : pu_FldM s m) : m 49 6 = s.fy := h_.2.2.2.1
theorem pu_FldM.t {s : pu_Sp} {m : tm_I} (h_ : pu_FldM s m) : m 49 7 = pu_wy s.t := h_.2.2.2.2.1
theorem pu_FldM.cn {s : pu_Sp} {m : tm_I} (h_ : pu_FldM s m) : m 49 8 = pu_bi s.cnt := h_.2.2.2.2.2.1
theorem pu_FldM.sp {s : pu_Sp} {m : tm_I} (h_ : pu_FldM s m) : m 49 9 = s.sp := h_.2.2.2.2.2.2.1
theorem pu_FldM.n {s : pu_Sp} {m : tm_I} (h_ : pu_FldM s m) : m 49 10 = Int32.ofNat s.D.length := h_.2.2.2.2.2.2.2.1
theorem pu_FldM.D {s : pu_Sp} {m : tm_I} (h_ : pu_FldM s m) : ∀ i, i < s.D.length → m 51 i = s.D[i]?.getD (-1) := h_.2.2.2.2.2.2.2.2
def pu_LabM (s : pu_Sp) (m : tm_I) : Prop := (m 39 19 = s.w) ∧ (m 39 20 = s.h) ∧ (m 39 21 = Int32.ofNat s.cp) ∧ (m 39 22 = s.hx) ∧ (m 39 23 = s.hy) ∧ (∀ i, i < 4 → m 48 i = s.tx i) ∧ (m 39 25 = Int32.ofNat s.fs.length) ∧ (m 39 26 = Int32.ofNat (pu_opens s).length) ∧ (∀ (f : Nat) (hf : f < s.fs.length), pu_RecM m f s.fs[f])
theorem pu_LabM.w {s : pu_Sp} {m : tm_I} (h_ : pu_LabM s m) : m 39 19 = s.w := h_.1
theorem pu_LabM.h {s : pu_Sp} {m : tm_I} (h_ : pu_LabM s m) : m 39 20 = s.h := h_.2.1
theorem pu_LabM.cp {s : pu_Sp} {m : tm_I} (h_ : pu_LabM s m) : m 39 21 = Int32.ofNat s.cp := h_.2.2.1
theorem pu_LabM.hx {s : pu_Sp} {m : tm_I} (h_ : pu_LabM s m) : m 39 22 = s.hx := h_.2.2.2.1
theorem pu_LabM.hy {s : pu_Sp} {m : tm_I} (h_ : pu_LabM s m) : m 39 23 = s.hy := h_.2.2.2.2.1
theorem pu_LabM.tx {s : pu_Sp} {m : tm_I} (h_ : pu_LabM s m) : ∀ i, i < 4 → m 48 i = s.tx i := h_.2.2.2.2.2.1
theorem pu_LabM.nf {s : pu_Sp} {m : tm_I} (h_ : pu_LabM s m) : m 39 25 = Int32.ofNat s.fs.length := h_.2.2.2.2.2.2.1
theorem pu_LabM.md {s : pu_Sp} {m : tm_I} (h_ : pu_LabM s m) : m 39 26 = Int32.ofNat (pu_opens s).length := h_.2.2.2.2.2.2.2.1
theorem pu_LabM.fs {s : pu_Sp} {m : tm_I} (h_ : pu_LabM s m) : ∀ (f : Nat) (hf : f < s.fs.length), pu_RecM m f s.fs[f] := h_.2.2.2.2.2.2.2.2
theorem pu_mo_lay {s : pu_Sp} (L : pu_LabM s m) (Fd0 : pu_FldM s m) (hk : s.lt ≠ -1) (hm : pu_manyL s.lt ≤ 4) (hF : s.fs.length ≤ 120) (hD : s.D.length ≤ 200) (hfs : ∀ R ∈ s.fs, pu_manyL R.lt ≤ 4 ∧ R.D.length ≤ 200) : ∃ m', f_Mo_lay m mL = some (0, m', mL) ∧ (∀ a, a ≠ 49 → a ≠ 50 → a ≠ 52 → m' a = m a) ∧ pu_RecM m' s.fs.length (pu_recOf s) ∧ (∀ (f : Nat) (hf : f < s.fs.length), pu_RecM m' f s.fs[f]) ∧ m' 49 0 = m 49 0 := by
  generalize hma : tm_up (tm_up m 49 5 (m 49 5 + m 39 22)) 49 6 (m 49 6 + m 39 23) = ma
  have ea : ∀ a, a ≠ 49 → ma a = m a := fun a ha => by rw [← hma, pu_tm_up_c ha, pu_tm_up_c ha]
  have e49 : ∀ b, b ≠ 5 → b ≠ 6 → ma 49 b = m 49 b := fun b h1 h2 => by rw [← hma, tm_up_k h2, tm_up_k h1]
  have e5 : ma 49 5 = m 49 5 + m 39 22 := by rw [← hma, tm_up_k (by decide), tm_up_eq]
  have e6 : ma 49 6 = m 49 6 + m 39 23 := by rw [← hma, tm_up_eq]
  generalize hmb : pu_Rg ma 49 11 (ma 48) 4 = mb
  generalize hmc : pu_Rg mb 50 (16 * s.fs.length) (mb 49) 16 = mc
  generalize hmd : pu_Rg mc 52 (200 * s.fs.length) (mc 51) 200 = md
  have b25 : mb 39 25 = Int32.ofNat s.fs.length := by rw [← hmb, pu_Rg_o (by decide), ea 39 (by decide)]; exact L.nf
  have c25 : mc 39 25 = Int32.ofNat s.fs.length := by rw [← hmc, pu_Rg_o (by decide)]; exact b25
  have l1 := pu_mo_lay1 (m := ma) (mL := mL) 4 0 tm_F (by omega) (by decide)
  have l2 := pu_mo_lay2 (m := mb) (mL := mL) hF b25 16 0 tm_F (by omega) (by decide)
  have l3 := pu_mo_lay3 (m := mc) (mL := mL) hF c25 200 0 tm_F (by omega) (by decide)
  rw [pu_Rg_0, hmb, show Int32.ofNat 0 = (0 : Int32) from rfl] at l1
  rw [pu_Rg_0, hmc, show Int32.ofNat 0 = (0 : Int32) from rfl] at l2
  rw [pu_Rg_0, hmd, show Int32.ofNat 0 = (0 : Int32) from rfl] at l3
  have F0 : f_Mo_lay m mL = f_Mo_lay_l38 tm_F 0 ma mL := by
    unfold f_Mo_lay f_Mo_lay_b0
    rw [if_pos (by decide), if_pos (by decide), if_pos (by decide), if_pos (by decide)]
    rw [show Int32.toNatClampNeg (5 : Int32) = 5 from rfl, show Int32.toNatClampNeg (6 : Int32) = 6 from rfl, tm_up_k (show 6 ≠ 5 by decide), tm_up_o (show 39 ≠ 49 by decide), hma]
  have b49 : ∀ b, b < 11 → mb 49 b = ma 49 b := fun b hb => by rw [← hmb, pu_Rg_out (by omega)]
  have b49t : ∀ i, i < 4 → mb 49 (11 + i) = m 48 i := fun i hi => by rw [← hmb, pu_Rg_in hi, ea 48 (by decide)]
  have d50 : ∀ j, j < 16 → md 50 (16 * s.fs.length + j) = mb 49 j := fun j hj => by rw [← hmd, pu_Rg_o (by decide), ← hmc, pu_Rg_in hj]
  have d52 : ∀ j, j < 200 → md 52 (200 * s.fs.length + j) = m 51 j := fun j hj => by
    rw [← hmd, pu_Rg_in hj, ← hmc, pu_Rg_o (by decide), ← hmb, pu_Rg_o (by decide), ea 51 (by decide)]
  refine ⟨md, ?_, fun a a1 a2 a3 => ?_, ⟨?_, fun i hi => ?_, ?_, ?_, ?_, ?_, ?_, ?_, fun i hi => ?_, fun i hi => ?_⟩, fun f hf => ?_, ?_⟩
  · rw [F0, l1, l2, l3]
  · rw [← hmd, pu_Rg_o a3, ← hmc, pu_Rg_o a2, ← hmb, pu_Rg_o a1, ea a a1]
  · have := d50 0 (by omega)
    rw [Nat.add_zero] at this
    rw [this, b49 0 (by omega), e49 0 (by decide) (by decide)]; exact Fd0.k
  · have hi : i < pu_manyL s.lt := hi
    rw [show 16 * s.fs.length + 1 + i = 16 * s.fs.length + (1 + i) by omega, d50 (1 + i) (by omega), b49 _ (by omega), e49 _ (by omega) (by omega)]
    exact Fd0.sh hk i hi
  · rw [d50 5 (by omega), b49 5 (by omega), e5, Fd0.x, L.hx]; exact Int32.add_comm _ _
  · rw [d50 6 (by omega), b49 6 (by omega), e6, Fd0.y, L.hy]; exact Int32.add_comm _ _
  · rw [d50 7 (by omega), b49 7 (by omega), e49 7 (by decide) (by decide)]; exact Fd0.t
  · rw [d50 8 (by omega), b49 8 (by omega), e49 8 (by decide) (by decide)]; exact Fd0.cn
  · rw [d50 9 (by omega), b49 9 (by omega), e49 9 (by decide) (by decide)]; exact Fd0.sp
  · rw [d50 10 (by omega), b49 10 (by omega), e49 10 (by decide) (by decide)]; exact Fd0.n
  · rw [show 16 * s.fs.length + 11 + i = 16 * s.fs.length + (11 + i) by omega, d50 (11 + i) (by omega), b49t i hi]; exact L.tx i hi
  · have hi : i < s.D.length := hi
    rw [d52 i (by omega)]; exact Fd0.D i hi
  · have R := L.fs f hf
    have x50 : ∀ b, b < 16 * s.fs.length → md 50 b = m 50 b := fun b hb => by rw [← hmd, pu_Rg_o (by decide), ← hmc, pu_Rg_out (by omega), ← hmb, pu_Rg_o (by decide), ea 50 (by decide)]
    have x52 : ∀ b, b < 200 * s.fs.length → md 52 b = m 52 b := fun b hb => by rw [← hmd, pu_Rg_out (by omega), ← hmc, pu_Rg_o (by decide), ← hmb, pu_Rg_o (by decide), ea 52 (by decide)]
    obtain ⟨q1, q2⟩ := hfs _ (List.getElem_mem hf)
    exact ⟨by rw [x50 _ (by omega)]; exact R.k, fun i hi => by rw [x50 _ (by omega)]; exact R.sh i hi, by rw [x50 _ (by omega)]; exact R.x, by rw [x50 _ (by omega)]; exact R.y, by rw [x50 _ (by omega)]; exact R.w, by rw [x50 _ (by omega)]; exact R.cn, by rw [x50 _ (by omega)]; exact R.sp, by rw [x50 _ (by omega)]; exact R.n, fun i hi => by rw [x50 _ (by omega)]; exact R.tx i hi, fun i hi => by rw [x52 _ (by omega)]; exact R.D i hi⟩
  · rw [← hmd, pu_Rg_o (by decide), ← hmc, pu_Rg_o (by decide), b49 0 (by omega), e49 0 (by decide) (by decide)]
end NFs
