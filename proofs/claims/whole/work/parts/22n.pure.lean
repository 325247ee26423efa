def pu_kd (l : Int32) : Int32 := if l = 84 then 0 else if l = 66 then 1 else if l = 78 then 2 else if l = 81 then 3 else if l = 70 then 4 else if l = 73 then 5 else if l = 71 then 6 else if l = 80 then 7 else if l = 87 then 8 else -1
def pu_RecM (m : tm_I) (f : Nat) (R : pu_Fd) : Prop := (m 50 (16 * f) = pu_kd R.lt) ∧ (∀ i, i < pu_manyL R.lt → m 50 (16 * f + 1 + i) = R.sh i) ∧ (m 50 (16 * f + 5) = R.x) ∧ (m 50 (16 * f + 6) = R.y) ∧ (m 50 (16 * f + 7) = pu_wy R.t) ∧ (m 50 (16 * f + 8) = pu_bi R.cnt) ∧ (m 50 (16 * f + 9) = R.sp) ∧ (m 50 (16 * f + 10) = Int32.ofNat R.D.length) ∧ (∀ i, i < 4 → m 50 (16 * f + 11 + i) = R.tx i) ∧ (∀ i, i < R.D.length → m 52 (200 * f + i) = R.D[i]?.getD (-1))
theorem pu_RecM.k {m : tm_I} {f : Nat} {R : pu_Fd} (h_ : pu_RecM m f R) : m 50 (16 * f) = pu_kd R.lt := h_.1
theorem pu_RecM.sh {m : tm_I} {f : Nat} {R : pu_Fd} (h_ : pu_RecM m f R) : ∀ i, i < pu_manyL R.lt → m 50 (16 * f + 1 + i) = R.sh i := h_.2.1
theorem pu_RecM.x {m : tm_I} {f : Nat} {R : pu_Fd} (h_ : pu_RecM m f R) : m 50 (16 * f + 5) = R.x := h_.2.2.1
theorem pu_RecM.y {m : tm_I} {f : Nat} {R : pu_Fd} (h_ : pu_RecM m f R) : m 50 (16 * f + 6) = R.y := h_.2.2.2.1
theorem pu_RecM.w {m : tm_I} {f : Nat} {R : pu_Fd} (h_ : pu_RecM m f R) : m 50 (16 * f + 7) = pu_wy R.t := h_.2.2.2.2.1
theorem pu_RecM.cn {m : tm_I} {f : Nat} {R : pu_Fd} (h_ : pu_RecM m f R) : m 50 (16 * f + 8) = pu_bi R.cnt := h_.2.2.2.2.2.1
theorem pu_RecM.sp {m : tm_I} {f : Nat} {R : pu_Fd} (h_ : pu_RecM m f R) : m 50 (16 * f + 9) = R.sp := h_.2.2.2.2.2.2.1
theorem pu_RecM.n {m : tm_I} {f : Nat} {R : pu_Fd} (h_ : pu_RecM m f R) : m 50 (16 * f + 10) = Int32.ofNat R.D.length := h_.2.2.2.2.2.2.2.1
theorem pu_RecM.tx {m : tm_I} {f : Nat} {R : pu_Fd} (h_ : pu_RecM m f R) : ∀ i, i < 4 → m 50 (16 * f + 11 + i) = R.tx i := h_.2.2.2.2.2.2.2.2.1
theorem pu_RecM.D {m : tm_I} {f : Nat} {R : pu_Fd} (h_ : pu_RecM m f R) : ∀ i, i < R.D.length → m 52 (200 * f + i) = R.D[i]?.getD (-1) := h_.2.2.2.2.2.2.2.2.2
theorem pu_RecM.fr {m m' : tm_I} {f : Nat} {R : pu_Fd} (h : pu_RecM m f R) (e50 : m' 50 = m 50) (e52 : m' 52 = m 52) : pu_RecM m' f R :=
  ⟨by rw [e50]; exact h.k, by rw [e50]; exact h.sh, by rw [e50]; exact h.x, by rw [e50]; exact h.y, by rw [e50]; exact h.w, by rw [e50]; exact h.cn, by rw [e50]; exact h.sp, by rw [e50]; exact h.n, by rw [e50]; exact h.tx, by rw [e52]; exact h.D⟩
def pu_mrow (o : pu_Od) : Nat → Int32 := fun j => match j with
  | 0 => o.kd | 1 => o.x | 2 => o.y | 3 => o.r | 4 => o.wy | 5 => o.a | 6 => o.b | 7 => o.c | _ => Int32.ofNat o.sz
def pu_obyte (o : pu_Od) (i : Nat) : Int32 := if o.kd = 7 then pu_hx (pu_dB o.D o.tl o.nm (2 * i)) * 16 + pu_hx (pu_dB o.D o.tl o.nm (2 * i + 1)) else pu_dB o.D o.tl o.nm (o.st + i)
def pu_ModO (m : tm_I) (K : Nat) (o : pu_Od) : Prop := (∀ j, j < 9 → m 55 (9 * K + j) = pu_mrow o j) ∧ (∀ i, i < o.sz → m 56 (200 * K + i) = pu_obyte o i)
theorem pu_ModO.row {m : tm_I} {K : Nat} {o : pu_Od} (h_ : pu_ModO m K o) : ∀ j, j < 9 → m 55 (9 * K + j) = pu_mrow o j := h_.1
theorem pu_ModO.dat {m : tm_I} {K : Nat} {o : pu_Od} (h_ : pu_ModO m K o) : ∀ i, i < o.sz → m 56 (200 * K + i) = pu_obyte o i := h_.2
def pu_GL (m m' : tm_I) (kp : Bool) (O : Nat) (os : List pu_Od) : Prop := (∀ a, a ≠ 39 → a ≠ 55 → a ≠ 56 → m' a = m a) ∧ (∀ b, b ≠ 26 → b ≠ 32 → b ≠ 37 → m' 39 b = m 39 b) ∧ (∀ B, m 39 26 = Int32.ofNat B → m' 39 26 = Int32.ofNat (B + os.length)) ∧ (∀ w, m 39 32 = pu_bi w → m' 39 32 = pu_bi (w || !os.all pu_nearO)) ∧ (kp = true → m 39 37 = Int32.ofNat O → m' 39 37 = Int32.ofNat (O + os.length) ∧ (∀ b, b < 9 * O → m' 55 b = m 55 b) ∧ (∀ b, b < 200 * O → m' 56 b = m 56 b) ∧ ∀ (i : Nat) (h : i < os.length), pu_ModO m' (O + i) os[i]) ∧ (kp = false → m' 55 = m 55 ∧ m' 56 = m 56 ∧ m' 39 37 = m 39 37)
theorem pu_GL.o {m : tm_I} {m' : tm_I} {kp : Bool} {O : Nat} {os : List pu_Od} (h_ : pu_GL m m' kp O os) : ∀ a, a ≠ 39 → a ≠ 55 → a ≠ 56 → m' a = m a := h_.1
theorem pu_GL.c39 {m : tm_I} {m' : tm_I} {kp : Bool} {O : Nat} {os : List pu_Od} (h_ : pu_GL m m' kp O os) : ∀ b, b ≠ 26 → b ≠ 32 → b ≠ 37 → m' 39 b = m 39 b := h_.2.1
theorem pu_GL.made {m : tm_I} {m' : tm_I} {kp : Bool} {O : Nat} {os : List pu_Od} (h_ : pu_GL m m' kp O os) : ∀ B, m 39 26 = Int32.ofNat B → m' 39 26 = Int32.ofNat (B + os.length) := h_.2.2.1
theorem pu_GL.wr {m : tm_I} {m' : tm_I} {kp : Bool} {O : Nat} {os : List pu_Od} (h_ : pu_GL m m' kp O os) : ∀ w, m 39 32 = pu_bi w → m' 39 32 = pu_bi (w || !os.all pu_nearO) := h_.2.2.2.1
theorem pu_GL.ord {m : tm_I} {m' : tm_I} {kp : Bool} {O : Nat} {os : List pu_Od} (h_ : pu_GL m m' kp O os) : kp = true → m 39 37 = Int32.ofNat O → m' 39 37 = Int32.ofNat (O + os.length) ∧ (∀ b, b < 9 * O → m' 55 b = m 55 b) ∧ (∀ b, b < 200 * O → m' 56 b = m 56 b) ∧ ∀ (i : Nat) (h : i < os.length), pu_ModO m' (O + i) os[i] := h_.2.2.2.2.1
theorem pu_GL.nok {m : tm_I} {m' : tm_I} {kp : Bool} {O : Nat} {os : List pu_Od} (h_ : pu_GL m m' kp O os) : kp = false → m' 55 = m 55 ∧ m' 56 = m 56 ∧ m' 39 37 = m 39 37 := h_.2.2.2.2.2
theorem pu_GL.nil {m : tm_I} {kp : Bool} {O : Nat} : pu_GL m m kp O [] :=
  ⟨fun _ _ _ _ => rfl, fun _ _ _ _ => rfl, fun _ h => h, fun w h => by rw [h]; simp, fun _ h => ⟨h, fun _ _ => rfl, fun _ _ => rfl, fun i hi => absurd hi (Nat.not_lt_zero i)⟩, fun _ => ⟨rfl, rfl, rfl⟩⟩
theorem pu_GL.trans {m m1 m2 : tm_I} {kp : Bool} {O : Nat} {a b : List pu_Od} (h1 : pu_GL m m1 kp O a) (h2 : pu_GL m1 m2 kp (O + a.length) b) (hsz : ∀ o ∈ a, o.sz ≤ 200) : pu_GL m m2 kp O (a ++ b) := by
  refine ⟨fun x q1 q2 q3 => (h2.o x q1 q2 q3).trans (h1.o x q1 q2 q3), fun x q1 q2 q3 => (h2.c39 x q1 q2 q3).trans (h1.c39 x q1 q2 q3), fun B hB => ?_, fun w hw => ?_, fun hk hO => ?_, fun hk => ?_⟩
  · rw [h2.made _ (h1.made B hB), List.length_append, Nat.add_assoc]
  · rw [h2.wr _ (h1.wr w hw), List.all_append]
    congr 1
    cases w <;> cases a.all pu_nearO <;> cases b.all pu_nearO <;> rfl
  · obtain ⟨x1, x2, x3, x4⟩ := h1.ord hk hO
    obtain ⟨y1, y2, y3, y4⟩ := h2.ord hk x1
    refine ⟨by rw [y1, List.length_append, Nat.add_assoc], fun b hb => (y2 b (by omega)).trans (x2 b hb), fun b hb => (y3 b (by omega)).trans (x3 b hb), fun i hi => ?_⟩
    rw [List.length_append] at hi
    by_cases q : i < a.length
    · rw [List.getElem_append_left q]
      have z := x4 i q
      refine ⟨fun j hj => by rw [y2 _ (by omega)]; exact z.row j hj, fun j hj => ?_⟩
      have := hsz _ (List.getElem_mem q)
      rw [y3 _ (by omega)]; exact z.dat j hj
    · rw [List.getElem_append_right (by omega)]
      have := y4 (i - a.length) (by omega)
      rw [show O + a.length + (i - a.length) = O + i by omega] at this
      exact this
  · obtain ⟨x1, x2, x3⟩ := h1.nok hk
    obtain ⟨y1, y2, y3⟩ := h2.nok hk
    exact ⟨y1.trans x1, y2.trans x2, y3.trans x3⟩
section GIVE
variable {m : tm_I} {mL : tm_L} {R : pu_Fd}
theorem pu_mo_far (x : Int32) : f_Mo_isFar x m mL = some (pu_bi (!pu_near x), m, mL) := by
  unfold f_Mo_isFar f_Mo_isFar_b0 f_Mo_isFar_b14 f_Mo_isFar_b19 pu_near pu_bi
  by_cases h1 : x < -4096
  · have : ¬ (-4096 : Int32) ≤ x := pu_i_nle h1
    simp [h1, this]
  · have h1' : (-4096 : Int32) ≤ x := pu_i_nlt h1
    by_cases h2 : x ≤ 4096
    · simp [h1, h2, h1']
    · simp [h1, h2]
theorem pu_mo_stX (x i j r : Int32) : f_Mo_stepX x i j r m mL = some (x + pu_stX r i j, m, mL) := by
  unfold f_Mo_stepX f_Mo_stepX_b0 f_Mo_stepX_b35 pu_stX
  by_cases h0 : r = 0
  · simp [h0]
  · by_cases h1 : r = 1
    · simp [h1, Int32.sub_eq_add_neg]
    · by_cases h2 : r = 2
      · simp [h2, Int32.sub_eq_add_neg]
      · simp [h0, h1, h2]
theorem pu_mo_stY (x i j r : Int32) : f_Mo_stepY x i j r m mL = some (x + pu_stY r i j, m, mL) := by
  unfold f_Mo_stepY f_Mo_stepY_b0 f_Mo_stepY_b35 pu_stY
  by_cases h0 : r = 0
  · simp [h0]
  · by_cases h1 : r = 1
    · simp [h1]
    · by_cases h2 : r = 2
      · simp [h2, Int32.sub_eq_add_neg]
      · simp [h0, h1, h2, Int32.sub_eq_add_neg]
end GIVE
def pu_W9 (m : tm_I) (K : Nat) (r : Nat → Int32) : tm_I := tm_up (tm_up (tm_up (tm_up (tm_up (tm_up (tm_up (tm_up (tm_up m 55 (9 * K) (r 0)) 55 (9 * K + 1) (r 1)) 55 (9 * K + 2) (r 2)) 55 (9 * K + 3) (r 3)) 55 (9 * K + 4) (r 4)) 55 (9 * K + 5) (r 5)) 55 (9 * K + 6) (r 6)) 55 (9 * K + 7) (r 7)) 55 (9 * K + 8) (r 8)
theorem pu_W9_o {m : tm_I} {K : Nat} {r : Nat → Int32} {a : Nat} (h : a ≠ 55) : pu_W9 m K r a = m a := by
  funext b; unfold pu_W9; simp only [tm_up_o h]
theorem pu_W9_k {m : tm_I} {K : Nat} {r : Nat → Int32} {b : Nat} (h : b < 9 * K) : pu_W9 m K r 55 b = m 55 b := by
  unfold pu_W9
  rw [tm_up_k (by omega), tm_up_k (by omega), tm_up_k (by omega), tm_up_k (by omega), tm_up_k (by omega), tm_up_k (by omega), tm_up_k (by omega), tm_up_k (by omega), tm_up_k (by omega)]
theorem pu_W9_in {m : tm_I} {K : Nat} {r : Nat → Int32} {j : Nat} (h : j < 9) : pu_W9 m K r 55 (9 * K + j) = r j := by
  unfold pu_W9 tm_up
  have : j = 0 ∨ j = 1 ∨ j = 2 ∨ j = 3 ∨ j = 4 ∨ j = 5 ∨ j = 6 ∨ j = 7 ∨ j = 8 := by omega
  rcases this with rfl | rfl | rfl | rfl | rfl | rfl | rfl | rfl | rfl <;> simp
def pu_r9 (k x y r w a b c s : Int32) : Nat → Int32 := fun j => match j with
  | 0 => k | 1 => x | 2 => y | 3 => r | 4 => w | 5 => a | 6 => b | 7 => c | _ => s
def pu_Dt (m : tm_I) (O : Nat) (B : Nat → Int32) (k : Nat) : tm_I := fun a b => if a = 56 ∧ 200 * O ≤ b ∧ b < 200 * O + k then B (b - 200 * O) else m a b
theorem pu_Dt_0 {m : tm_I} {O : Nat} {B : Nat → Int32} : pu_Dt m O B 0 = m := by
  funext a b; unfold pu_Dt; rw [if_neg (by omega)]
theorem pu_Dt_o {m : tm_I} {O k : Nat} {B : Nat → Int32} {a : Nat} (h : a ≠ 56) : pu_Dt m O B k a = m a := by
  funext b; unfold pu_Dt; rw [if_neg (fun q => h q.1)]
theorem pu_Dt_s {m : tm_I} {O k : Nat} {B : Nat → Int32} : tm_up (pu_Dt m O B k) 56 (200 * O + k) (B k) = pu_Dt m O B (k + 1) := by
  funext a b
  unfold tm_up pu_Dt
  by_cases h1 : a = 56 ∧ b = 200 * O + k
  · rw [if_pos h1, if_pos (by omega), h1.2]; congr 1; omega
  · rw [if_neg h1]
    by_cases h2 : a = 56 ∧ 200 * O ≤ b ∧ b < 200 * O + k
    · rw [if_pos h2, if_pos (by omega)]
    · rw [if_neg h2, if_neg (by omega)]
section GV
variable {m : tm_I} {mL : tm_L}
theorem pu_mo_gdat {D : List Int32} {tl nm st sz O : Nat} {k0 : Int32} (hD : D.length ≤ 200) (h53 : ∀ i, i < D.length → m 53 i = pu_dB D tl nm i) (hO : m 39 37 = Int32.ofNat O) (hO2 : O < 120) (hsz : sz ≤ 200) (hfit : if k0 = 7 then 2 * sz ≤ D.length else st + sz ≤ D.length) (x1 x3 x4 x5 x8 x9 x10 : Int32) (B : Nat → Int32) (hB : ∀ i, i < sz → B i = if k0 = 7 then pu_hx (pu_dB D tl nm (2 * i)) * 16 + pu_hx (pu_dB D tl nm (2 * i + 1)) else pu_dB D tl nm (st + i)) : ∀ (t k N : Nat), t + k = sz → t < N → f_Mo_give_l210 N x1 k0 x3 x4 x5 (Int32.ofNat st) (Int32.ofNat sz) x8 x9 x10 (Int32.ofNat k) (pu_Dt m O B k) mL = some (0, tm_up (pu_Dt m O B sz) 39 37 (Int32.ofNat (O + 1)), mL) := by
  have c39 : ∀ k, pu_Dt m O B k 39 37 = Int32.ofNat O := fun k => by rw [pu_Dt_o (by decide)]; exact hO
  have c53 : ∀ k, pu_Dt m O B k 53 = m 53 := fun k => pu_Dt_o (by decide)
  intro t
  induction t with
  | zero =>
    intro k N hk hN
    obtain ⟨N, rfl⟩ : ∃ n', N = n' + 1 := ⟨N - 1, by omega⟩
    have : k = sz := by omega
    subst this
    rw [f_Mo_give_l210, if_pos (by simp (disch := omega) only [pu_n_lit, pu_n_add, pu_n_mul, pu_n_sub, pu_n_div, pu_n_nat, pu_q_ltT, pu_q_ltF, pu_q_leT, pu_q_leF, pu_q_eqT, pu_q_eqF, pu_n_lt, pu_n_le, pu_n_eq, pu_p_ltT, pu_p_ltF, pu_p_leT, pu_p_leF, not_true_eq_false, not_false_eq_true, or_false, false_or, or_true, true_or, and_true, true_and, and_false, false_and, ↓reduceIte, pu_b_some]), c39, pu_n_lit 1, pu_n_add]
  | succ t ih =>
    intro k N hk hN
    obtain ⟨N, rfl⟩ : ∃ n', N = n' + 1 := ⟨N - 1, by omega⟩
    have ea : (200 : Int32) * Int32.ofNat O + Int32.ofNat k = Int32.ofNat (200 * O + k) := by rw [pu_n_lit 200, pu_n_mul, pu_n_add]
    rw [f_Mo_give_l210, if_neg (by simp (disch := omega) only [pu_n_lit, pu_n_add, pu_n_mul, pu_n_sub, pu_n_div, pu_n_nat, pu_q_ltT, pu_q_ltF, pu_q_leT, pu_q_leF, pu_q_eqT, pu_q_eqF, pu_n_lt, pu_n_le, pu_n_eq, pu_p_ltT, pu_p_ltF, pu_p_leT, pu_p_leF, not_true_eq_false, not_false_eq_true, or_false, false_or, or_true, true_or, and_true, true_and, and_false, false_and, ↓reduceIte, pu_b_some]), c39, ea]
    unfold f_Mo_give_b281
    by_cases h7 : k0 = 7
    · rw [if_pos h7] at hfit
      have e2 : (2 : Int32) * Int32.ofNat k = Int32.ofNat (2 * k) := by rw [pu_n_lit 2, pu_n_mul]
      have e3 : (2 : Int32) * Int32.ofNat k + 1 = Int32.ofNat (2 * k + 1) := by rw [pu_n_lit 2, pu_n_mul, pu_n_lit 1, pu_n_add]
      rw [if_neg (fun z => z h7), e3, e2, if_pos (pu_n_in (by omega) (by omega)), pu_n_nat (by omega), pu_mo_hex, pu_b_some]
      simp only []
      rw [if_pos (pu_n_in (by omega) (by omega)), pu_n_nat (by omega), pu_mo_hex, pu_b_some]
      simp only []
      rw [if_pos (pu_n_in (by omega) (by omega)), pu_n_nat (by omega), c53, h53 _ (by omega), h53 _ (by omega), Int32.mul_comm 16]
      have := hB k (by omega)
      rw [if_pos h7] at this
      rw [← this, pu_Dt_s, pu_n_lit 1, pu_n_add]
      exact ih (k + 1) N (by omega) (by omega)
    · rw [if_neg h7] at hfit
      have e2 : Int32.ofNat st + Int32.ofNat k = Int32.ofNat (st + k) := pu_n_add _ _
      rw [if_pos h7, e2, if_pos (pu_n_in (by omega) (by omega)), if_pos (pu_n_in (by omega) (by omega)), pu_n_nat (by omega), pu_n_nat (by omega), c53, h53 _ (by omega)]
      have := hB k (by omega)
      rw [if_neg h7] at this
      rw [← this, pu_Dt_s, pu_n_lit 1, pu_n_add]
      exact ih (k + 1) N (by omega) (by omega)
set_option maxHeartbeats 2000000 in
theorem pu_mo_give {R : pu_Fd} {f O c : Nat} {kp w : Bool} (h : pu_RecM m f R) (hf : f ≤ 120) (hD : R.D.length ≤ 200) (h53 : ∀ i, i < R.D.length → m 53 i = pu_dB R.D (pu_tailOf R.cnt R.D) (pu_cnumR R c) i) (hk : m 39 33 = pu_bi kp) (hw : m 39 32 = pu_bi w) (hO : kp = true → m 39 37 = Int32.ofNat O ∧ O < 120) (k0 r i j a b cc : Int32) (st sz : Nat) (hsz : sz ≤ 200) (hfit : if k0 = 7 then 2 * sz ≤ R.D.length else st + sz ≤ R.D.length) :
    ∃ m1, f_Mo_give (Int32.ofNat f) k0 r i j (Int32.ofNat st) (Int32.ofNat sz) m mL = some (0, m1, mL) ∧ ∃ m2, f_Mo_have a b cc m1 mL = some (0, m2, mL) ∧ m1 50 = m 50 ∧ pu_GL m m2 kp O [pu_cpO c (pu_mk R k0 r i j a b cc st sz)] := by
  have e5 : (16 : Int32) * Int32.ofNat f + 5 = Int32.ofNat (16 * f + 5) := by rw [pu_n_lit 16, pu_n_mul, pu_n_lit 5, pu_n_add]
  have e6 : (16 : Int32) * Int32.ofNat f + 6 = Int32.ofNat (16 * f + 6) := by rw [pu_n_lit 16, pu_n_mul, pu_n_lit 6, pu_n_add]
  have e7 : (16 : Int32) * Int32.ofNat f + 7 = Int32.ofNat (16 * f + 7) := by rw [pu_n_lit 16, pu_n_mul, pu_n_lit 7, pu_n_add]
  generalize hx0 : R.x + pu_stX r i j = X
  generalize hy0 : R.y + pu_stY r i j = Y
  have hnr : pu_nearO (pu_cpO c (pu_mk R k0 r i j a b cc st sz)) = (pu_near X && pu_near Y) := by
    show (pu_near (R.x + pu_stX r i j) && pu_near (R.y + pu_stY r i j)) = _
    rw [hx0, hy0]
  have F0 : f_Mo_give (Int32.ofNat f) k0 r i j (Int32.ofNat st) (Int32.ofNat sz) m mL = f_Mo_give_b72 (Int32.ofNat f) k0 r i j (Int32.ofNat st) (Int32.ofNat sz) X Y (pu_bi (w || !(pu_near X && pu_near Y))) m mL := by
    unfold f_Mo_give f_Mo_give_b0 f_Mo_give_b67
    rw [e5, if_pos (pu_n_in (by omega) (by omega)), pu_n_nat (by omega), h.x, pu_mo_stX, pu_b_some, hx0]
    simp only []
    rw [e6, if_pos (pu_n_in (by omega) (by omega)), pu_n_nat (by omega), h.y, pu_mo_stY, pu_b_some, hy0]
    simp only []
    rw [hw]
    cases w
    · rw [if_neg (by simp [pu_bi]), pu_mo_far, pu_b_some]
      simp only []
      cases pu_near X
      · rw [if_pos (show ¬ (pu_bi !false) = 0 by decide)]; rfl
      · rw [if_neg (by simp [pu_bi]), pu_mo_far, pu_b_some]
        simp only []
        cases pu_near Y
        · rw [if_neg (by simp [pu_bi])]; rfl
        · rw [if_pos (by simp [pu_bi])]; rfl
    · rw [if_pos pu_bi_t]; rfl
  rw [F0]
  generalize hw2 : (w || !(pu_near X && pu_near Y)) = w2
  have wfin : ∀ (m' : tm_I), m' 39 32 = pu_bi w2 → ∀ w', m 39 32 = pu_bi w' → m' 39 32 = pu_bi (w' || !([pu_cpO c (pu_mk R k0 r i j a b cc st sz)] : List pu_Od).all pu_nearO) := by
    intro m' hm' w' hw'
    have : w' = w := by
      rw [hw] at hw'; revert hw'; cases w <;> cases w' <;> simp [pu_bi]
    rw [hm', this, List.all_cons, List.all_nil, Bool.and_true, hnr, hw2]
  unfold f_Mo_give_b72
  rw [if_pos (pu_bi_ok _)]
  cases kp
  · -- not kept
    have k33 : tm_up (tm_up m 39 32 (pu_bi w2)) 39 26 (tm_up m 39 32 (pu_bi w2) 39 26 + 1) 39 33 = 0 := by
      rw [tm_up_k (by decide), tm_up_k (by decide), hk]; rfl
    rw [k33, if_neg (by simp)]
    refine ⟨_, rfl, tm_up (tm_up m 39 32 (pu_bi w2)) 39 26 (tm_up m 39 32 (pu_bi w2) 39 26 + 1), ?_, ?_, ⟨fun a q1 _ _ => ?_, fun b q1 q2 _ => ?_, fun B hB => ?_, wfin _ (by rw [tm_up_k (by decide), tm_up_eq]), fun q => ?_, fun _ => ⟨?_, ?_, ?_⟩⟩⟩
    · unfold f_Mo_have f_Mo_have_b0 f_Mo_have_b52
      rw [k33, if_pos rfl]
    · rw [pu_tm_up_c (by decide), pu_tm_up_c (by decide)]
    · rw [pu_tm_up_c q1, pu_tm_up_c q1]
    · rw [tm_up_k q1, tm_up_k q2]
    · rw [tm_up_eq, tm_up_k (by decide), hB, pu_n_lit 1, pu_n_add]; rfl
    · cases q
    · rw [pu_tm_up_c (by decide), pu_tm_up_c (by decide)]
    · rw [pu_tm_up_c (by decide), pu_tm_up_c (by decide)]
    · rw [tm_up_k (by decide), tm_up_k (by decide)]
  · -- kept
    obtain ⟨hO1, hO2⟩ := hO rfl
    have k33 : tm_up (tm_up m 39 32 (pu_bi w2)) 39 26 (tm_up m 39 32 (pu_bi w2) 39 26 + 1) 39 33 = 1 := by
      rw [tm_up_k (by decide), tm_up_k (by decide), hk]; rfl
    have k37 : tm_up (tm_up m 39 32 (pu_bi w2)) 39 26 (tm_up m 39 32 (pu_bi w2) 39 26 + 1) 39 37 = Int32.ofNat O := by
      rw [tm_up_k (by decide), tm_up_k (by decide), hO1]
    have k50 : tm_up (tm_up m 39 32 (pu_bi w2)) 39 26 (tm_up m 39 32 (pu_bi w2) 39 26 + 1) 50 = m 50 := by
      rw [pu_tm_up_c (by decide), pu_tm_up_c (by decide)]
    have k53 : tm_up (tm_up m 39 32 (pu_bi w2)) 39 26 (tm_up m 39 32 (pu_bi w2) 39 26 + 1) 53 = m 53 := by
      rw [pu_tm_up_c (by decide), pu_tm_up_c (by decide)]
    have k26 : ∀ B, m 39 26 = Int32.ofNat B → tm_up (tm_up m 39 32 (pu_bi w2)) 39 26 (tm_up m 39 32 (pu_bi w2) 39 26 + 1) 39 26 = Int32.ofNat (B + 1) := fun B hB => by
      rw [tm_up_eq, tm_up_k (by decide), hB, pu_n_lit 1, pu_n_add]
    have k32 : tm_up (tm_up m 39 32 (pu_bi w2)) 39 26 (tm_up m 39 32 (pu_bi w2) 39 26 + 1) 39 32 = pu_bi w2 := by
      rw [tm_up_k (by decide), tm_up_eq]
    have kb : ∀ b, b ≠ 26 → b ≠ 32 → tm_up (tm_up m 39 32 (pu_bi w2)) 39 26 (tm_up m 39 32 (pu_bi w2) 39 26 + 1) 39 b = m 39 b := fun b q1 q2 => by rw [tm_up_k q1, tm_up_k q2]
    have ka : ∀ a, a ≠ 39 → tm_up (tm_up m 39 32 (pu_bi w2)) 39 26 (tm_up m 39 32 (pu_bi w2) 39 26 + 1) a = m a := fun a q => by rw [pu_tm_up_c q, pu_tm_up_c q]
    rw [k33, if_pos (by decide)]
    generalize tm_up (tm_up m 39 32 (pu_bi w2)) 39 26 (tm_up m 39 32 (pu_bi w2) 39 26 + 1) = m0 at *
    have e79 : m0 50 (16 * f + 7) = pu_wy R.t := by rw [k50]; exact h.w
    generalize hB : (fun q => if k0 = 7 then pu_hx (pu_dB R.D (pu_tailOf R.cnt R.D) (pu_cnumR R c) (2 * q)) * 16 + pu_hx (pu_dB R.D (pu_tailOf R.cnt R.D) (pu_cnumR R c) (2 * q + 1)) else pu_dB R.D (pu_tailOf R.cnt R.D) (pu_cnumR R c) (st + q)) = Bf
    have gd := pu_mo_gdat (m := pu_W9 m0 O (pu_r9 k0 X Y r (pu_wy R.t) 0 0 0 (Int32.ofNat sz))) (mL := mL) (D := R.D) (tl := pu_tailOf R.cnt R.D) (nm := pu_cnumR R c) (st := st) (sz := sz) (O := O) (k0 := k0) hD (fun i hi => by rw [pu_W9_o (by decide), k53]; exact h53 i hi) (by rw [pu_W9_o (by decide)]; exact k37) hO2 hsz hfit (Int32.ofNat f) r i j X Y (Int32.ofNat (9 * O)) Bf (fun q hq => by rw [← hB]) sz 0 tm_F (by omega) (by unfold tm_F; omega)
    rw [pu_Dt_0] at gd
    have F1 : ∀ (z : Option (Int32 × tm_I × tm_L)), (if ¬((9 : Int32) * m0 39 37 < 0 ∨ 1080 ≤ Int32.toNatClampNeg ((9 : Int32) * m0 39 37)) then z else none) = z := by
      intro z
      rw [k37, pu_n_lit 9, pu_n_mul, if_pos (pu_n_in (by omega) (by omega))]
    refine ⟨tm_up (pu_Dt (pu_W9 m0 O (pu_r9 k0 X Y r (pu_wy R.t) 0 0 0 (Int32.ofNat sz))) O Bf sz) 39 37 (Int32.ofNat (O + 1)), ?_, ?_⟩
    · rw [F1]
      have gd' : f_Mo_give_l210 tm_F (Int32.ofNat f) k0 r i j (Int32.ofNat st) (Int32.ofNat sz) X Y (Int32.ofNat (9 * O)) (Int32.ofNat 0) (pu_W9 m0 O (pu_r9 k0 X Y r (pu_wy R.t) 0 0 0 (Int32.ofNat sz))) mL = _ := gd
      rw [← gd']
      simp (disch := omega) only [pu_n_lit, pu_n_add, pu_n_mul, pu_n_sub, pu_n_div, pu_n_nat, pu_q_ltT, pu_q_ltF, pu_q_leT, pu_q_leF, pu_q_eqT, pu_q_eqF, pu_n_lt, pu_n_le, pu_n_eq, pu_p_ltT, pu_p_ltF, pu_p_leT, pu_p_leF, not_true_eq_false, not_false_eq_true, or_false, false_or, or_true, true_or, and_true, true_and, and_false, false_and, ↓reduceIte, pu_b_some, k37, tm_up_o, e79]
      rfl
    · generalize hm1 : tm_up (pu_Dt (pu_W9 m0 O (pu_r9 k0 X Y r (pu_wy R.t) 0 0 0 (Int32.ofNat sz))) O Bf sz) 39 37 (Int32.ofNat (O + 1)) = m1
      have q37 : m1 39 37 = Int32.ofNat (O + 1) := by rw [← hm1, tm_up_eq]
      have q33 : m1 39 33 = 1 := by rw [← hm1, tm_up_k (by decide), pu_Dt_o (by decide), pu_W9_o (by decide)]; exact k33
      have q39 : ∀ b, b ≠ 37 → m1 39 b = m0 39 b := fun b hb => by rw [← hm1, tm_up_k hb, pu_Dt_o (by decide), pu_W9_o (by decide)]
      have qa : ∀ a, a ≠ 39 → a ≠ 55 → a ≠ 56 → m1 a = m0 a := fun a a1 a2 a3 => by rw [← hm1, pu_tm_up_c a1, pu_Dt_o a3, pu_W9_o a2]
      have q55 : m1 55 = pu_W9 m0 O (pu_r9 k0 X Y r (pu_wy R.t) 0 0 0 (Int32.ofNat sz)) 55 := by rw [← hm1, pu_tm_up_c (by decide), pu_Dt_o (by decide)]
      have q56 : m1 56 = pu_Dt (pu_W9 m0 O (pu_r9 k0 X Y r (pu_wy R.t) 0 0 0 (Int32.ofNat sz))) O Bf sz 56 := by rw [← hm1, pu_tm_up_c (by decide)]
      refine ⟨tm_up (tm_up (tm_up m1 55 (9 * O + 5) a) 55 (9 * O + 6) b) 55 (9 * O + 7) cc, ?_, by rw [qa 50 (by decide) (by decide) (by decide), k50], ⟨fun x a1 a2 a3 => ?_, fun x b1 b2 b3 => ?_, fun B hB2 => ?_, wfin _ ?_, fun _ _ => ⟨?_, fun x pu_hx => ?_, fun x pu_hx => ?_, fun i2 hi2 => ?_⟩, fun q => by cases q⟩⟩
      · unfold f_Mo_have f_Mo_have_b0 f_Mo_have_b52
        have x4 : (9 : Int32) * Int32.ofNat (O + 1) - 4 = Int32.ofNat (9 * O + 5) := by rw [pu_n_lit 9, pu_n_mul, pu_n_lit 4, pu_n_sub (by omega)]; congr 1
        have x3 : (9 : Int32) * Int32.ofNat (O + 1) - 3 = Int32.ofNat (9 * O + 6) := by rw [pu_n_lit 9, pu_n_mul, pu_n_lit 3, pu_n_sub (by omega)]; congr 1
        have x2 : (9 : Int32) * Int32.ofNat (O + 1) - 2 = Int32.ofNat (9 * O + 7) := by rw [pu_n_lit 9, pu_n_mul, pu_n_lit 2, pu_n_sub (by omega)]; congr 1
        rw [q33, if_neg (by decide)]
        simp only [tm_up_o (show 39 ≠ 55 by decide), q37, x4, x3, x2]
        rw [if_pos (pu_n_in (by omega) (by omega)), if_pos (pu_n_in (by omega) (by omega)), if_pos (pu_n_in (by omega) (by omega)), pu_n_nat (by omega), pu_n_nat (by omega), pu_n_nat (by omega)]
      · rw [pu_tm_up_c a2, pu_tm_up_c a2, pu_tm_up_c a2, qa x a1 a2 a3, ka x a1]
      · rw [tm_up_o (by decide), tm_up_o (by decide), tm_up_o (by decide), q39 x b3, kb x b1 b2]
      · rw [tm_up_o (by decide), tm_up_o (by decide), tm_up_o (by decide), q39 26 (by decide), k26 B hB2]; rfl
      · rw [tm_up_o (by decide), tm_up_o (by decide), tm_up_o (by decide), q39 32 (by decide), k32]
      · rw [tm_up_o (by decide), tm_up_o (by decide), tm_up_o (by decide), q37]; rfl
      · rw [tm_up_k (by omega), tm_up_k (by omega), tm_up_k (by omega), q55, pu_W9_k pu_hx, ka 55 (by decide)]
      · rw [tm_up_o (by decide), tm_up_o (by decide), tm_up_o (by decide), q56]
        unfold pu_Dt
        rw [if_neg (by omega), pu_W9_o (by decide), ka 56 (by decide)]
      · have : i2 = 0 := by simp at hi2; exact hi2
        subst this
        rw [show O + 0 = O from rfl]
        refine ⟨fun q hq => ?_, fun q hq => ?_⟩
        · show tm_up (tm_up (tm_up m1 55 (9 * O + 5) a) 55 (9 * O + 6) b) 55 (9 * O + 7) cc 55 (9 * O + q) = pu_mrow (pu_cpO c (pu_mk R k0 r i j a b cc st sz)) q
          have : q = 0 ∨ q = 1 ∨ q = 2 ∨ q = 3 ∨ q = 4 ∨ q = 5 ∨ q = 6 ∨ q = 7 ∨ q = 8 := by omega
          rcases this with rfl | rfl | rfl | rfl | rfl | rfl | rfl | rfl | rfl
          · rw [tm_up_k (by omega), tm_up_k (by omega), tm_up_k (by omega), q55, pu_W9_in (by decide)]; rfl
          · rw [tm_up_k (by omega), tm_up_k (by omega), tm_up_k (by omega), q55, pu_W9_in (by decide)]; exact hx0.symm
          · rw [tm_up_k (by omega), tm_up_k (by omega), tm_up_k (by omega), q55, pu_W9_in (by decide)]; exact hy0.symm
          · rw [tm_up_k (by omega), tm_up_k (by omega), tm_up_k (by omega), q55, pu_W9_in (by decide)]; rfl
          · rw [tm_up_k (by omega), tm_up_k (by omega), tm_up_k (by omega), q55, pu_W9_in (by decide)]; rfl
          · rw [tm_up_k (by omega), tm_up_k (by omega), tm_up_eq]; rfl
          · rw [tm_up_k (by omega), tm_up_eq]; rfl
          · rw [tm_up_eq]; rfl
          · rw [tm_up_k (by omega), tm_up_k (by omega), tm_up_k (by omega), q55, pu_W9_in (by decide)]; rfl
        · have hq : q < sz := hq
          show tm_up (tm_up (tm_up m1 55 (9 * O + 5) a) 55 (9 * O + 6) b) 55 (9 * O + 7) cc 56 (200 * O + q) = pu_obyte (pu_cpO c (pu_mk R k0 r i j a b cc st sz)) q
          rw [tm_up_o (by decide), tm_up_o (by decide), tm_up_o (by decide), q56]
          unfold pu_Dt
          rw [if_pos ⟨rfl, by omega, by omega⟩, show 200 * O + q - 200 * O = q by omega, ← hB]
          rfl
end GV
theorem pu_dB_eq {cnt : Bool} {D : List Int32} {nm i : Nat} (hi : i < D.length) {v : Int32} (hv : v = 10 ∨ v = 32) : pu_dB D (pu_tailOf cnt D) nm i = v ↔ D[i]?.getD (-1) = v := by
  unfold pu_dB
  by_cases q : D.length - 1 - i < pu_tailOf cnt D
  · rw [if_pos q]
    have pu_hd := pu_tailOf_dig cnt D (D.length - 1 - i) q
    rw [List.getElem?_reverse (by omega), show D.length - 1 - (D.length - 1 - i) = i by omega] at pu_hd
    obtain ⟨d1, d2⟩ := pu_dg_val pu_hd
    constructor
    · intro e
      exfalso
      rcases hv with rfl | rfl
      · rw [pu_n_lit 10, pu_n_eq (by omega) (by omega)] at e; omega
      · rw [pu_n_lit 32, pu_n_eq (by omega) (by omega)] at e; omega
    · intro e
      exfalso
      rw [d2] at e
      rcases hv with rfl | rfl
      · rw [pu_n_lit 10, pu_n_eq (by omega) (by omega)] at e; omega
      · rw [pu_n_lit 32, pu_n_eq (by omega) (by omega)] at e; omega
  · rw [if_neg q]
section LN
variable {mL : tm_L} {R : pu_Fd} {c : Nat}
def pu_Mk (m : tm_I) (f : Nat) (R : pu_Fd) (c : Nat) (kp : Bool) (O : Nat) : Prop := (pu_RecM m f R) ∧ (∀ i, i < R.D.length → m 53 i = pu_dB R.D (pu_tailOf R.cnt R.D) (pu_cnumR R c) i) ∧ (m 39 33 = pu_bi kp) ∧ (∃ w, m 39 32 = pu_bi w) ∧ (kp = true → m 39 37 = Int32.ofNat O)
theorem pu_Mk.r {m : tm_I} {f : Nat} {R : pu_Fd} {c : Nat} {kp : Bool} {O : Nat} (h_ : pu_Mk m f R c kp O) : pu_RecM m f R := h_.1
theorem pu_Mk.cp {m : tm_I} {f : Nat} {R : pu_Fd} {c : Nat} {kp : Bool} {O : Nat} (h_ : pu_Mk m f R c kp O) : ∀ i, i < R.D.length → m 53 i = pu_dB R.D (pu_tailOf R.cnt R.D) (pu_cnumR R c) i := h_.2.1
theorem pu_Mk.kq {m : tm_I} {f : Nat} {R : pu_Fd} {c : Nat} {kp : Bool} {O : Nat} (h_ : pu_Mk m f R c kp O) : m 39 33 = pu_bi kp := h_.2.2.1
theorem pu_Mk.w {m : tm_I} {f : Nat} {R : pu_Fd} {c : Nat} {kp : Bool} {O : Nat} (h_ : pu_Mk m f R c kp O) : ∃ w, m 39 32 = pu_bi w := h_.2.2.2.1
theorem pu_Mk.o {m : tm_I} {f : Nat} {R : pu_Fd} {c : Nat} {kp : Bool} {O : Nat} (h_ : pu_Mk m f R c kp O) : kp = true → m 39 37 = Int32.ofNat O := h_.2.2.2.2
theorem pu_Mk.gl {m m' : tm_I} {f O : Nat} {kp : Bool} {os : List pu_Od} (h : pu_Mk m f R c kp O) (g : pu_GL m m' kp O os) : pu_Mk m' f R c kp (O + os.length) := by
  obtain ⟨w, hw⟩ := h.w
  refine ⟨h.r.fr (g.o 50 (by decide) (by decide) (by decide)) (g.o 52 (by decide) (by decide) (by decide)), ?_, ?_, ⟨_, g.wr w hw⟩, fun q => (g.ord q (h.o q)).1⟩
  · rw [g.o 53 (by decide) (by decide) (by decide)]; exact h.cp
  · rw [g.c39 33 (by decide) (by decide) (by decide)]; exact h.kq
theorem pu_mo_pe1 {m : tm_I} {f O : Nat} {kp : Bool} (h : pu_Mk m f R c kp O) (hl : R.D.length ≤ 200) (x1 : Int32) : ∀ (t k N : Nat), t + k = R.D.length → t < N → f_Mo_pieceEnd_l2 N x1 (Int32.ofNat R.D.length) (Int32.ofNat k) m mL = some (Int32.ofNat (pu_spPe R.D t k), m, mL) := by
  intro t
  induction t with
  | zero =>
    intro k N hk hN
    obtain ⟨N, rfl⟩ : ∃ n', N = n' + 1 := ⟨N - 1, by omega⟩
    rw [f_Mo_pieceEnd_l2, if_pos (by simp (disch := omega) only [pu_n_lit, pu_n_add, pu_n_mul, pu_n_sub, pu_n_div, pu_n_nat, pu_q_ltT, pu_q_ltF, pu_q_leT, pu_q_leF, pu_q_eqT, pu_q_eqF, pu_n_lt, pu_n_le, pu_n_eq, pu_p_ltT, pu_p_ltF, pu_p_leT, pu_p_leF, not_true_eq_false, not_false_eq_true, or_false, false_or, or_true, true_or, and_true, true_and, and_false, false_and, ↓reduceIte, pu_b_some])]; rfl
  | succ t ih =>
    intro k N hk hN
    obtain ⟨N, rfl⟩ : ∃ n', N = n' + 1 := ⟨N - 1, by omega⟩
    rw [f_Mo_pieceEnd_l2, if_neg (by simp (disch := omega) only [pu_n_lit, pu_n_add, pu_n_mul, pu_n_sub, pu_n_div, pu_n_nat, pu_q_ltT, pu_q_ltF, pu_q_leT, pu_q_leF, pu_q_eqT, pu_q_eqF, pu_n_lt, pu_n_le, pu_n_eq, pu_p_ltT, pu_p_ltF, pu_p_leT, pu_p_leF, not_true_eq_false, not_false_eq_true, or_false, false_or, or_true, true_or, and_true, true_and, and_false, false_and, ↓reduceIte, pu_b_some]), if_pos (pu_n_in (by omega) (by omega)), pu_n_nat (by omega), h.cp k (by omega), pu_spPe]
    have e := pu_dB_eq (cnt := R.cnt) (D := R.D) (nm := pu_cnumR R c) (i := k) (by omega) (v := 10) (Or.inl rfl)
    by_cases q : R.D[k]?.getD (-1) = 10
    · rw [if_pos (e.mpr q), if_pos q]; rfl
    · rw [if_neg (fun z => q (e.mp z)), if_neg q, pu_n_lit 1, pu_n_add]
      exact ih (k + 1) N (by omega) (by omega)
theorem pu_mo_lb1 {m : tm_I} {f O n from_ : Nat} {kp : Bool} (h : pu_Mk m f R c kp O) (hl : R.D.length ≤ 200) (r34 : Int32 → Int32 → Int32 → Int32 → Int32 → Int32 → tm_I → tm_L → Option (Int32 × tm_I × tm_L)) (x1 x2 x4 x6 x7 x9 : Int32) : ∀ (j N : Nat), from_ + j ≤ R.D.length → j < N → f_Mo_makeLines_l73 r34 N x1 x2 (Int32.ofNat n) x4 (Int32.ofNat from_) x6 x7 (Int32.ofNat (from_ + j) - 1) x9 m mL = match pu_spLb R.D from_ j with
    | some b => f_Mo_makeLines_b121 r34 x1 x2 (Int32.ofNat n) x4 (Int32.ofNat from_) x6 x7 (Int32.ofNat b) (Int32.ofNat (b + 1)) m mL
    | none => f_Mo_makeLines_b121 r34 x1 x2 (Int32.ofNat n) x4 (Int32.ofNat from_) x6 x7 (Int32.ofNat (from_ + n)) (Int32.ofNat (from_ + n)) m mL := by
  intro j
  induction j with
  | zero =>
    intro N hk hN
    obtain ⟨N, rfl⟩ : ∃ n', N = n' + 1 := ⟨N - 1, by omega⟩
    have hlt : Int32.ofNat (from_ + 0) - 1 < Int32.ofNat from_ := by
      rw [Int32.lt_iff_toInt_lt, Int32.toInt_sub, Nat.add_zero, pu_n_toInt (by omega), show (1 : Int32).toInt = 1 from rfl, Int.bmod_eq_of_le (by omega) (by omega)]; omega
    rw [f_Mo_makeLines_l73, if_pos hlt]
    unfold f_Mo_makeLines_b98
    rw [if_neg (pu_i_nle hlt), pu_spLb, pu_n_add]
  | succ j ih =>
    intro N hk hN
    obtain ⟨N, rfl⟩ : ∃ n', N = n' + 1 := ⟨N - 1, by omega⟩
    have e : Int32.ofNat (from_ + (j + 1)) - 1 = Int32.ofNat (from_ + j) := by rw [pu_n_lit 1, pu_n_sub (by omega)]; rfl
    rw [f_Mo_makeLines_l73, e, if_neg (by simp (disch := omega) only [pu_n_lit, pu_n_add, pu_n_mul, pu_n_sub, pu_n_div, pu_n_nat, pu_q_ltT, pu_q_ltF, pu_q_leT, pu_q_leF, pu_q_eqT, pu_q_eqF, pu_n_lt, pu_n_le, pu_n_eq, pu_p_ltT, pu_p_ltF, pu_p_leT, pu_p_leF, not_true_eq_false, not_false_eq_true, or_false, false_or, or_true, true_or, and_true, true_and, and_false, false_and, ↓reduceIte, pu_b_some]), if_pos (pu_n_in (by omega) (by omega)), pu_n_nat (by omega), h.cp _ (by omega), pu_spLb]
    have e2 := pu_dB_eq (cnt := R.cnt) (D := R.D) (nm := pu_cnumR R c) (i := from_ + j) (by omega) (v := 32) (Or.inr rfl)
    by_cases q : R.D[from_ + j]?.getD (-1) = 32
    · rw [if_pos (e2.mpr q), if_pos q]
      unfold f_Mo_makeLines_b98
      rw [if_pos (by simp (disch := omega) only [pu_n_lit, pu_n_add, pu_n_mul, pu_n_sub, pu_n_div, pu_n_nat, pu_q_ltT, pu_q_ltF, pu_q_leT, pu_q_leF, pu_q_eqT, pu_q_eqF, pu_n_lt, pu_n_le, pu_n_eq, pu_p_ltT, pu_p_ltF, pu_p_leT, pu_p_leF, not_true_eq_false, not_false_eq_true, or_false, false_or, or_true, true_or, and_true, true_and, and_false, false_and, ↓reduceIte, pu_b_some]), pu_n_lit 1, pu_n_add]
    · rw [if_neg (fun z => q (e2.mp z)), if_neg q]
      have e3 : Int32.ofNat (from_ + j) + -1 = Int32.ofNat (from_ + j) - 1 := by rw [Int32.sub_eq_add_neg]
      rw [e3]
      exact ih N (by omega) (by omega)
theorem pu_tx_of {m : tm_I} {f : Nat} (h : pu_RecM m f R) (i : Nat) (hi : i < 4) {j : Nat} (hj : j = 16 * f + 11 + i) : m 50 j = R.tx i := by rw [hj]; exact h.tx i hi
theorem pu_sh_of {m : tm_I} {f : Nat} (h : pu_RecM m f R) (i : Nat) (hi : i < pu_manyL R.lt) {j : Nat} (hj : j = 16 * f + 1 + i) : m 50 j = R.sh i := by rw [hj]; exact h.sh i hi
set_option maxHeartbeats 1000000 in
theorem pu_mo_giveLine {m : tm_I} {f O : Nat} {kp : Bool} (h : pu_Mk m f R c kp O) (hf : f ≤ 120) (hl : R.D.length ≤ 200) (h87 : R.lt = 87) (hO : kp = true → O < 120) {k st sz : Nat} (hfit : st + sz ≤ R.D.length) : ∃ m', f_Mo_giveLine (Int32.ofNat f) (Int32.ofNat k) (Int32.ofNat st) (Int32.ofNat sz) m mL = some (0, m', mL) ∧ pu_GL m m' kp O [pu_cpO c (pu_lineO R k (st, sz))] := by
  have hm : pu_manyL R.lt = 4 := by rw [h87]; decide
  obtain ⟨w, hw⟩ := h.w
  obtain ⟨m1, g1, m2, g2, g3, g4⟩ := pu_mo_give (mL := mL) (O := O) (c := c) h.r hf hl h.cp h.kq hw (fun q => ⟨h.o q, hO q⟩) 0 (R.tx 3) (R.sh 3 * pu_cb (R.sh 2) (R.sh 0 - Int32.ofNat sz)) (Int32.ofNat k * R.sh 1) (R.tx 0) (R.tx 1) (R.tx 2) st sz (by omega) (by rw [if_neg (by decide)]; exact hfit)
  refine ⟨m2, ?_, g4⟩
  have a1 := pu_sh_of h.r 0 (by omega) (j := 16 * f + 1) (by omega)
  have a2 := pu_sh_of h.r 1 (by omega) (j := 16 * f + 2) (by omega)
  have a3 := pu_sh_of h.r 2 (by omega) (j := 16 * f + 3) (by omega)
  have a4 := pu_sh_of h.r 3 (by omega) (j := 16 * f + 4) (by omega)
  have t0 := pu_tx_of h.r 0 (by omega) (j := 16 * f + 11) (by omega)
  have t1 := pu_tx_of h.r 1 (by omega) (j := 16 * f + 12) (by omega)
  have t2 := pu_tx_of h.r 2 (by omega) (j := 16 * f + 13) (by omega)
  have t3 := pu_tx_of h.r 3 (by omega) (j := 16 * f + 14) (by omega)
  have B : f_Mo_giveLine_b78 (Int32.ofNat f) (Int32.ofNat k) (Int32.ofNat st) (Int32.ofNat sz) (Int32.ofNat (16 * f)) (R.sh 0 - Int32.ofNat sz) (R.sh 3 * pu_cb (R.sh 2) (R.sh 0 - Int32.ofNat sz)) m mL = some (0, m2, mL) := by
    unfold f_Mo_giveLine_b78
    have z14 : Int32.ofNat (16 * f) + 14 = Int32.ofNat (16 * f + 14) := by rw [pu_n_lit 14, pu_n_add]
    have z2 : Int32.ofNat (16 * f) + 2 = Int32.ofNat (16 * f + 2) := by rw [pu_n_lit 2, pu_n_add]
    have z11 : Int32.ofNat (16 * f) + 11 = Int32.ofNat (16 * f + 11) := by rw [pu_n_lit 11, pu_n_add]
    have z12 : Int32.ofNat (16 * f) + 12 = Int32.ofNat (16 * f + 12) := by rw [pu_n_lit 12, pu_n_add]
    have z13 : Int32.ofNat (16 * f) + 13 = Int32.ofNat (16 * f + 13) := by rw [pu_n_lit 13, pu_n_add]
    rw [z14, z2, z11, z12, z13, if_pos (pu_n_in (by omega) (by omega)), if_pos (pu_n_in (by omega) (by omega)), pu_n_nat (by omega), pu_n_nat (by omega), t3, a2, g1, pu_b_some]
    simp only []
    rw [if_pos (pu_n_in (by omega) (by omega)), if_pos (pu_n_in (by omega) (by omega)), if_pos (pu_n_in (by omega) (by omega)), pu_n_nat (by omega), pu_n_nat (by omega), pu_n_nat (by omega), g3, t0, t1, t2, g2, pu_b_some]
  unfold f_Mo_giveLine f_Mo_giveLine_b0
  have y1 : (16 : Int32) * Int32.ofNat f + 1 = Int32.ofNat (16 * f + 1) := by rw [pu_n_lit 16, pu_n_mul, pu_n_lit 1, pu_n_add]
  have y3 : (16 : Int32) * Int32.ofNat f + 3 = Int32.ofNat (16 * f + 3) := by rw [pu_n_lit 16, pu_n_mul, pu_n_lit 3, pu_n_add]
  have y4 : (16 : Int32) * Int32.ofNat f + 4 = Int32.ofNat (16 * f + 4) := by rw [pu_n_lit 16, pu_n_mul, pu_n_lit 4, pu_n_add]
  have y0 : (16 : Int32) * Int32.ofNat f = Int32.ofNat (16 * f) := by rw [pu_n_lit 16, pu_n_mul]
  rw [y1, y3, y4, y0, if_pos (pu_n_in (by omega) (by omega)), if_pos (pu_n_in (by omega) (by omega)), pu_n_nat (by omega), pu_n_nat (by omega), pu_n_nat (by omega), a3, a1, a4]
  unfold pu_cb at B
  by_cases q0 : R.sh 2 = 0
  · rw [if_neg (fun z => z q0)]
    rw [if_pos q0, Int32.mul_zero] at B
    exact B
  · rw [if_pos q0, if_pos (c := ¬ (Int32.ofNat (16 * f + 3) < 0 ∨ 2000 ≤ 16 * f + 3)) (fun z => z.elim (pu_n_nn (by omega)) (fun z => absurd z (by omega)))]
    rw [if_neg q0] at B
    by_cases q1 : R.sh 2 = 1
    · rw [if_neg (fun z => z q1), if_pos (c := ¬ (Int32.ofNat (16 * f + 4) < 0 ∨ 2000 ≤ 16 * f + 4)) (fun z => z.elim (pu_n_nn (by omega)) (fun z => absurd z (by omega)))]
      rw [if_pos q1] at B
      exact B
    · rw [if_pos q1, if_pos (c := ¬ (Int32.ofNat (16 * f + 4) < 0 ∨ 2000 ≤ 16 * f + 4)) (fun z => z.elim (pu_n_nn (by omega)) (fun z => absurd z (by omega)))]
      rw [if_neg q1] at B
      exact B
theorem pu_mo_lines {f n : Nat} {kp : Bool} (hf : f ≤ 120) (hl : R.D.length ≤ 200) (h87 : R.lt = 87) (hn : 1 ≤ n) (hn2 : n ≤ 99) : ∀ (F k N from_ O : Nat) (m : tm_I), pu_Mk m f R c kp O → from_ ≤ R.D.length → R.D.length + 1 ≤ F + from_ → F + 1 < N → (kp = true → O + (pu_spLines n R.D F from_).length ≤ 120) →
    ∃ m', f_Mo_makeLines_l34 N (Int32.ofNat f) (Int32.ofNat R.D.length) (Int32.ofNat n) (Int32.ofNat k) (Int32.ofNat from_) 1 m mL = some (0, m', mL) ∧ pu_GL m m' kp O ((pu_linesO R k (pu_spLines n R.D F from_)).map (pu_cpO c)) := by
  intro F
  induction F with
  | zero => intro k N from_ O m h hfr hF hN hO; omega
  | succ F ih =>
    intro k N from_ O m h hfr hF hN hO
    obtain ⟨N, rfl⟩ : ∃ n', N = n' + 1 := ⟨N - 1, by omega⟩
    have hle := pu_spLine_le hn hfr
    have hpe := pu_spPe_le R.D (R.D.length - from_) from_
    have pe : f_Mo_pieceEnd (Int32.ofNat from_) (Int32.ofNat R.D.length) m mL = some (Int32.ofNat (pu_spPe R.D (R.D.length - from_) from_), m, mL) := pu_mo_pe1 h hl _ (R.D.length - from_) from_ tm_F (by omega) (by unfold tm_F; omega)
    have L1 : pu_spLines n R.D (F + 1) from_ = (from_, (pu_spLine n R.D from_).1 - from_) :: (if (pu_spLine n R.D from_).2 ≤ R.D.length then pu_spLines n R.D F (pu_spLine n R.D from_).2 else []) := rfl
    have F0 : f_Mo_makeLines_l34 (N + 1) (Int32.ofNat f) (Int32.ofNat R.D.length) (Int32.ofNat n) (Int32.ofNat k) (Int32.ofNat from_) 1 m mL = f_Mo_makeLines_b121 (f_Mo_makeLines_l34 N) (Int32.ofNat f) (Int32.ofNat R.D.length) (Int32.ofNat n) (Int32.ofNat k) (Int32.ofNat from_) 1 (Int32.ofNat (pu_spPe R.D (R.D.length - from_) from_)) (Int32.ofNat (pu_spLine n R.D from_).1) (Int32.ofNat (pu_spLine n R.D from_).2) m mL := by
      rw [f_Mo_makeLines_l34, if_neg (by decide), pe, pu_b_some]
      simp only []
      rw [pu_n_sub (by omega)]
      unfold pu_spLine
      by_cases q : n < pu_spPe R.D (R.D.length - from_) from_ - from_
      · rw [if_neg (by simp (disch := omega) only [pu_n_lit, pu_n_add, pu_n_mul, pu_n_sub, pu_n_div, pu_n_nat, pu_q_ltT, pu_q_ltF, pu_q_leT, pu_q_leF, pu_q_eqT, pu_q_eqF, pu_n_lt, pu_n_le, pu_n_eq, pu_p_ltT, pu_p_ltF, pu_p_leT, pu_p_leF, not_true_eq_false, not_false_eq_true, or_false, false_or, or_true, true_or, and_true, true_and, and_false, false_and, ↓reduceIte, pu_b_some]), if_pos q]
        have lb := pu_mo_lb1 (mL := mL) (n := n) (from_ := from_) h hl (f_Mo_makeLines_l34 N) (Int32.ofNat f) (Int32.ofNat R.D.length) (Int32.ofNat k) 1 (Int32.ofNat (pu_spPe R.D (R.D.length - from_) from_)) (Int32.ofNat (pu_spPe R.D (R.D.length - from_) from_) + 1) (n + 1) tm_F (by omega) (by unfold tm_F; omega)
        rw [show Int32.ofNat (from_ + (n + 1)) - 1 = Int32.ofNat from_ + Int32.ofNat n by rw [pu_n_lit 1, pu_n_sub (by omega), pu_n_add]; rfl] at lb
        rw [lb]
        cases pu_spLb R.D from_ (n + 1) <;> rfl
      · rw [if_pos (by simp (disch := omega) only [pu_n_lit, pu_n_add, pu_n_mul, pu_n_sub, pu_n_div, pu_n_nat, pu_q_ltT, pu_q_ltF, pu_q_leT, pu_q_leF, pu_q_eqT, pu_q_eqF, pu_n_lt, pu_n_le, pu_n_eq, pu_p_ltT, pu_p_ltF, pu_p_leT, pu_p_leF, not_true_eq_false, not_false_eq_true, or_false, false_or, or_true, true_or, and_true, true_and, and_false, false_and, ↓reduceIte, pu_b_some]), if_neg q, pu_n_lit 1, pu_n_add]
    rw [F0]
    have szp : 1 ≤ (pu_spLines n R.D (F + 1) from_).length := by rw [L1]; simp
    obtain ⟨m1, g1, g2⟩ := pu_mo_giveLine (mL := mL) (k := k) (st := from_) (sz := (pu_spLine n R.D from_).1 - from_) h hf hl h87 (fun q => by have := hO q; omega) (by omega)
    have h1 : pu_Mk m1 f R c kp (O + 1) := h.gl g2
    unfold f_Mo_makeLines_b121 f_Mo_makeLines_b149
    rw [pu_n_sub (by omega), g1, pu_b_some]
    simp only []
    by_cases q : (pu_spLine n R.D from_).2 ≤ R.D.length
    · rw [if_neg (by simp (disch := omega) only [pu_n_lit, pu_n_add, pu_n_mul, pu_n_sub, pu_n_div, pu_n_nat, pu_q_ltT, pu_q_ltF, pu_q_leT, pu_q_leF, pu_q_eqT, pu_q_eqF, pu_n_lt, pu_n_le, pu_n_eq, pu_p_ltT, pu_p_ltF, pu_p_leT, pu_p_leF, not_true_eq_false, not_false_eq_true, or_false, false_or, or_true, true_or, and_true, true_and, and_false, false_and, ↓reduceIte, pu_b_some]), pu_n_lit 1, pu_n_add]
      have L2 : pu_spLines n R.D (F + 1) from_ = (from_, (pu_spLine n R.D from_).1 - from_) :: pu_spLines n R.D F (pu_spLine n R.D from_).2 := by rw [L1, if_pos q]
      obtain ⟨m', e1, e2⟩ := ih (k + 1) N (pu_spLine n R.D from_).2 (O + 1) m1 h1 q (by omega) (by omega) (fun z => by have := hO z; rw [L2, List.length_cons] at this; omega)
      refine ⟨m', e1, ?_⟩
      rw [L2, pu_linesO, List.map_cons]
      exact g2.trans (b := (pu_linesO R (k + 1) (pu_spLines n R.D F (pu_spLine n R.D from_).2)).map (pu_cpO c)) e2 (fun o ho => by
        rw [List.mem_singleton] at ho; subst ho
        show (pu_spLine n R.D from_).1 - from_ ≤ 200
        omega)
    · rw [if_pos (by simp (disch := omega) only [pu_n_lit, pu_n_add, pu_n_mul, pu_n_sub, pu_n_div, pu_n_nat, pu_q_ltT, pu_q_ltF, pu_q_leT, pu_q_leF, pu_q_eqT, pu_q_eqF, pu_n_lt, pu_n_le, pu_n_eq, pu_p_ltT, pu_p_ltF, pu_p_leT, pu_p_leF, not_true_eq_false, not_false_eq_true, or_false, false_or, or_true, true_or, and_true, true_and, and_false, false_and, ↓reduceIte, pu_b_some])]
      have L2 : pu_spLines n R.D (F + 1) from_ = [(from_, (pu_spLine n R.D from_).1 - from_)] := by rw [L1, if_neg q]
      obtain ⟨N', rfl⟩ : ∃ n', N = n' + 1 := ⟨N - 1, by omega⟩
      refine ⟨m1, ?_, ?_⟩
      · rw [f_Mo_makeLines_l34, if_pos rfl]
      · rw [L2]; exact g2
end LN
