section RD0
variable {F V : Nat → List Int32} {T : List Int32} {m : tm_I} {mL : tm_L}
def pu_s0 (F V : Nat → List Int32) (T : List Int32) : pu_Sp := ⟨0, fun _ => T, 0, 0, F, V, false, 0, 0, 0, 0, 0, pu_vz, -1, 0, 0, false, false, 0, [], pu_vz, [], [], []⟩
theorem pu_s0_ws : pu_WS (pu_s0 F V T) := ⟨fun q => (by cases q), fun q => (by cases q), fun q => (by cases q), fun q => (by cases q), fun q => (by cases q), fun q => (by cases q), fun R hR => absurd hR List.not_mem_nil, fun _ => rfl, Nat.zero_le 120, Nat.zero_le 4, fun q => absurd q (Nat.not_lt_zero _), Nat.zero_le 120, Nat.zero_le 12, fun o ho => absurd ho List.not_mem_nil⟩
theorem pu_s0_wb (hT : pu_byteL T) (hF : ∀ k, pu_byteL (F k) ∧ (F k).length ≤ 400) (hV : ∀ k, pu_byteL (V k) ∧ (V k).length ≤ 200) : pu_WB (pu_s0 F V T) := ⟨fun _ _ => hT, hF, hV⟩
theorem pu_s0_lb : pu_LB (pu_s0 F V T) T := ⟨Nat.le_refl _, fun j h1 h2 => absurd (Nat.lt_of_lt_of_le h1 h2) (Nat.not_lt_zero _), fun _ ho => absurd ho List.not_mem_nil, fun _ ho => absurd ho List.not_mem_nil⟩
theorem pu_tm_FS : ∃ N, tm_F = N + 1 ∧ 99990 < N := ⟨99999, rfl, by decide⟩
theorem pu_la_read0 (h : pu_Keep F V T m mL) (hT : pu_byteL T) (hF : ∀ k, pu_byteL (F k) ∧ (F k).length ≤ 400) (hV : ∀ k, pu_byteL (V k) ∧ (V k).length ≤ 200) : ∃ res, pu_run T 4001 (pu_s0 F V T) = some res ∧ pu_RdC (f_La_read m mL) T m res := by
  generalize hm1 : tm_up (tm_up (tm_up (tm_up (tm_up (tm_up (tm_up (tm_up (tm_up (tm_up m 1 4 0) 1 6 0) 20 3 0) 20 4 0) 20 5 0) 20 6 0) 19 5 0) 0 5 0) 0 6 0) 0 7 (-1) = m1
  have F0 : f_La_read m mL = f_La_read_l8 tm_F 1 (Int32.ofNat 0) m1 mL := by
    unfold f_La_read f_La_read_b0 f_La_begin f_La_begin_b0 f_Sc_rewind f_Sc_rewind_b0 f_Pr_begin f_Pr_begin_b0 f_Sh_clear f_Sh_clear_b0
    rw [pu_b_some, pu_b_some, pu_b_some, pu_b_some]
    simp only []
    rw [hm1]; rfl
  have o1 : ∀ a, a ≠ 0 → a ≠ 1 → a ≠ 19 → a ≠ 20 → m1 a = m a := fun a h0 h1 h2 h3 => by rw [← hm1, pu_tm_up_c h0, pu_tm_up_c h0, pu_tm_up_c h0, pu_tm_up_c h2, pu_tm_up_c h3, pu_tm_up_c h3, pu_tm_up_c h3, pu_tm_up_c h3, pu_tm_up_c h1, pu_tm_up_c h1]
  have e1 : m1 1 4 = 0 := by rw [← hm1]; simp [tm_up]
  have e2 : m1 1 6 = 0 := by rw [← hm1]; simp [tm_up]
  have e3 : m1 20 3 = 0 := by rw [← hm1]; simp [tm_up]
  have e4 : m1 20 4 = 0 := by rw [← hm1]; simp [tm_up]
  have e5 : m1 20 5 = 0 := by rw [← hm1]; simp [tm_up]
  have e6 : m1 20 6 = 0 := by rw [← hm1]; simp [tm_up]
  have e7 : m1 19 5 = 0 := by rw [← hm1]; simp [tm_up]
  have e8 : m1 0 5 = 0 := by rw [← hm1]; simp [tm_up]
  have e9 : m1 0 6 = 0 := by rw [← hm1]; simp [tm_up]
  have e10 : m1 0 7 = -1 := by rw [← hm1]; simp [tm_up]
  have K1 : pu_Keep F V T m1 mL := h.fr (fun a ha => o1 a (by unfold pu_kpc at ha; omega) (by unfold pu_kpc at ha; omega) (by unfold pu_kpc at ha; omega) (by unfold pu_kpc at ha; omega)) (fun _ _ => rfl)
  have R0 : pu_RC (pu_s0 F V T) T m1 mL (fun _ => 0) (fun _ => 0) := by
    refine ⟨K1, ⟨Nat.zero_le 4, e1, e2, fun q => absurd q (Nat.not_lt_zero _), fun q => absurd q (Nat.not_lt_zero _), fun j q => absurd q (Nat.not_lt_zero _), fun j _ q => absurd q (Nat.not_lt_zero _), fun j hj => ?_, fun j h1 h2 => absurd (Nat.lt_of_lt_of_le h1 h2) (Nat.not_lt_zero _)⟩, e8, e7, ⟨e3, e4, e5, ⟨0, e6, Nat.zero_le _, fun i hi => absurd hi (Nat.not_lt_zero _), fun i hi => absurd hi (Nat.not_lt_zero _)⟩, fun k hk => absurd hk (Nat.not_lt_zero _)⟩, fun q => by cases q⟩
    have hj : j = 0 := Nat.le_zero.mp hj
    subst hj
    exact ⟨rfl, Nat.zero_le _⟩
  obtain ⟨res, r1, r2⟩ := pu_la_run 4001 (pu_s0 F V T) m1 mL (fun _ => 0) (fun _ => 0) 0 tm_F R0 pu_s0_ws (pu_s0_wb hT hF hV) (show 0 < 2000 by decide) (show 2 * (2000 - 0) + 0 + 1 ≤ 4001 by decide) (by decide) (by decide) e9 e10
  refine ⟨res, r1, ?_⟩
  rw [F0]
  obtain ⟨m', mL', t1, t2, t3⟩ := r2
  exact ⟨m', mL', t1, fun a ha => (t2 a ha).trans (o1 a (by omega) (by omega) (by omega) (by omega)), t3⟩
theorem pu_mo_lay17 (hT : T.length ≤ 4096) : ∀ (i N : Nat) (m : tm_I), i ≤ T.length → i < N → m 39 8 = Int32.ofNat (T.length - i) → pu_Stk m (T.drop i) → (∀ j, j < T.length → m 40 j = T[j]?.getD (-1)) →
    ∃ m', f_Mo_read_l17 N (Int32.ofNat i - 1) m mL = f_Mo_read_l79 tm_F 1 (tm_up (tm_up (tm_up (tm_up (tm_up m' 39 9 0) 39 11 0) 39 18 0) 39 35 0) 39 37 0) mL ∧ m' 39 8 = Int32.ofNat T.length ∧ pu_Stk m' T ∧ (∀ a, a ≠ 39 → a ≠ 45 → m' a = m a) ∧ (∀ b, b ≠ 8 → m' 39 b = m 39 b) := by
  intro i
  induction i with
  | zero =>
    intro N m hi hN h8 hs ht
    obtain ⟨N, rfl⟩ : ∃ n', N = n' + 1 := ⟨N - 1, by omega⟩
    refine ⟨m, ?_, h8, hs, fun _ _ _ => rfl, fun _ _ => rfl⟩
    rw [f_Mo_read_l17, if_pos (show Int32.ofNat 0 - 1 < 0 by decide)]
  | succ i ih =>
    intro N m hi hN h8 hs ht
    obtain ⟨N, rfl⟩ : ∃ n', N = n' + 1 := ⟨N - 1, by omega⟩
    have e1 : Int32.ofNat (i + 1) - 1 = Int32.ofNat i := by rw [pu_n_lit 1, pu_n_sub (by omega)]; rfl
    have ei : m 40 i = T[i]?.getD (-1) := ht i (by omega)
    generalize hm1 : tm_up (tm_up m 45 (T.length - (i + 1)) (T[i]?.getD (-1))) 39 8 (Int32.ofNat (T.length - i)) = m1
    obtain ⟨m', a1, a2, a3, a4, a5⟩ := ih N m1 (by omega) (by omega) (by rw [← hm1, tm_up_eq]) (by
      refine ⟨by rw [List.length_drop]; omega, fun k hk => ?_⟩
      rw [List.length_drop] at hk ⊢
      rw [← hm1, tm_up_o (by decide)]
      cases k with
      | zero =>
        rw [show T.length - i - 1 - 0 = T.length - (i + 1) by omega, tm_up_eq, List.getElem_drop, List.getElem?_eq_getElem (by omega)]; rfl
      | succ k =>
        have := hs.2 k (by rw [List.length_drop]; omega)
        simp only [List.length_drop, List.getElem_drop] at this
        rw [tm_up_k (by omega), List.getElem_drop, show T.length - i - 1 - (k + 1) = T.length - (i + 1) - 1 - k by omega, this]
        congr 1; omega) (fun j hj => by rw [← hm1, tm_up_o (by decide), tm_up_o (by decide)]; exact ht j hj)
    refine ⟨m', ?_, a2, a3, fun a q1 q2 => (a4 a q1 q2).trans (by rw [← hm1, pu_tm_up_c q1, pu_tm_up_c q2]), fun b q => (a5 b q).trans (by rw [← hm1, tm_up_k q, tm_up_o (by decide)])⟩
    rw [← a1, e1, f_Mo_read_l17, if_neg (pu_n_nn (by omega)), if_pos (pu_n_in (by omega) (by omega)), h8, if_pos (pu_n_in (by omega) (by omega)), pu_n_nat (by omega), pu_n_nat (by omega), ei, tm_up_o (show 39 ≠ 45 by decide), h8]
    rw [show Int32.ofNat (T.length - (i + 1)) + 1 = Int32.ofNat (T.length - i) by rw [pu_n_lit 1, pu_n_add]; congr 1; omega, hm1]
    rw [show Int32.ofNat i + (-1) = Int32.ofNat i - 1 by rw [Int32.sub_eq_add_neg]]
theorem pu_mo_read0 (h : pu_KM F V T m) (hT : pu_byteL T) (hF : ∀ k, pu_byteL (F k) ∧ (F k).length ≤ 400) (hV : ∀ k, pu_byteL (V k) ∧ (V k).length ≤ 200) {res : (Int32 × Int32) × pu_Sp} (hr : pu_run T 4001 (pu_s0 F V T) = some res) : pu_RdM (f_Mo_read m mL) T m mL res ∧ pu_WS res.2 ∧ pu_LB res.2 T ∧ pu_WB res.2 := by
  generalize hm0 : tm_up (tm_up m 39 0 0) 39 8 0 = m0
  have o0 : ∀ a, a ≠ 39 → m0 a = m a := fun a ha => by rw [← hm0, pu_tm_up_c ha, pu_tm_up_c ha]
  have c0 : ∀ b, b ≠ 0 → b ≠ 8 → m0 39 b = m 39 b := fun b h1 h2 => by rw [← hm0, tm_up_k h2, tm_up_k h1]
  obtain ⟨m1, a1, a2, a3, a4, a5⟩ := pu_mo_lay17 (mL := mL) h.tl T.length tm_F m0 (Nat.le_refl _) (by have := h.tl; unfold tm_F; omega) (by rw [Nat.sub_self, ← hm0, tm_up_eq]; rfl) (by rw [List.drop_length]; exact ⟨Nat.zero_le _, fun k hk => absurd hk (Nat.not_lt_zero _)⟩) (fun j hj => by rw [o0 40 (by decide)]; exact h.tx j hj)
  generalize hm2 : tm_up (tm_up (tm_up (tm_up (tm_up m1 39 9 0) 39 11 0) 39 18 0) 39 35 0) 39 37 0 = m2 at a1
  have o2 : ∀ a, a ≠ 39 → m2 a = m1 a := fun a ha => by rw [← hm2, pu_tm_up_c ha, pu_tm_up_c ha, pu_tm_up_c ha, pu_tm_up_c ha, pu_tm_up_c ha]
  have A : ∀ {a}, a ≠ 39 → a ≠ 45 → m2 a = m a := fun {a} h1 h2 => (o2 a h1).trans ((a4 a h1 h2).trans (o0 a h1))
  have e2 : m2 39 2 = m 39 2 := by rw [← hm2, tm_up_k (by decide), tm_up_k (by decide), tm_up_k (by decide), tm_up_k (by decide), tm_up_k (by decide), a5 2 (by decide), c0 2 (by decide) (by decide)]
  have e8 : m2 39 8 = Int32.ofNat T.length := by rw [← hm2, tm_up_k (by decide), tm_up_k (by decide), tm_up_k (by decide), tm_up_k (by decide), tm_up_k (by decide)]; exact a2
  have F0 : f_Mo_read m mL = f_Mo_read_l79 tm_F 1 m2 mL := by
    unfold f_Mo_read f_Mo_read_b0
    rw [hm0, c0 2 (by decide) (by decide), h.tn, a1]
  have R0 : pu_RM (pu_s0 F V T) T m2 := by
    refine ⟨h.fr e2 (A (by decide) (by decide)) (A (by decide) (by decide)) (A (by decide) (by decide)) (A (by decide) (by decide)) (A (by decide) (by decide)), a3.fr (o2 45 (by decide)), e8, ?_, fun q => absurd q (Nat.not_lt_zero _), ?_, ?_, ?_, ?_, fun k hk => absurd hk (Nat.not_lt_zero _), fun k hk => absurd hk (Nat.not_lt_zero _), fun q => absurd rfl q, fun q => by cases q⟩
    · show m2 39 9 = 0
      rw [← hm2]; simp [tm_up]
    · show m2 39 11 = 0
      rw [← hm2]; simp [tm_up]
    · show m2 39 18 = 0
      rw [← hm2]; simp [tm_up]
    · show m2 39 35 = 0
      rw [← hm2]; simp [tm_up]
    · show m2 39 37 = 0
      rw [← hm2]; simp [tm_up]
  obtain ⟨N, hN, hN2⟩ := pu_tm_FS
  have hl := h.tl
  obtain ⟨i1, i2⟩ := pu_mo_run (mL := mL) 4001 (pu_s0 F V T) m2 tm_F N res hr R0 pu_s0_ws (pu_s0_wb hT hF hV) pu_s0_lb (show 0 < 2000 by decide) (by omega) (by show T.length < tm_F; omega)
  refine ⟨?_, i2⟩
  have F1 : f_Mo_read_l79 tm_F 1 m2 mL = (f_Mo_step_l0 tm_F m2 mL).bind fun v1 => f_Mo_read_l79 N v1.1 v1.2.1 v1.2.2 := by
    have : f_Mo_read_l79 (N + 1) 1 m2 mL = (f_Mo_step_l0 tm_F m2 mL).bind fun v1 => f_Mo_read_l79 N v1.1 v1.2.1 v1.2.2 := by
      rw [f_Mo_read_l79, if_neg (show ¬ (1 : Int32) = 0 by decide)]
    rw [← hN] at this; exact this
  rw [F0, F1]
  exact i1.base (fun a ha => A (by omega) (by omega))
end RD0
theorem pu_gS {x k : Int64} {j : Nat} (hj : j < 8) (hk : k = Int64.ofNat (8 * j)) : Int64.toInt32 ((x >>> (k &&& 63)) &&& 255) = pu_gb x j := by
  subst hk
  have h2 : ∀ j : Fin 8, ((Int64.ofNat (8 * j.1)) &&& 63).toBitVec.smod 64 = BitVec.ofNat 64 (8 * j.1) := by decide
  have h3 : ∀ j : Fin 8, (BitVec.ofNat 64 (8 * j.1)).toNat = 8 * j.1 := by decide
  have h255 : ∀ i, (255#64).getLsbD i = decide (i < 8) := by
    intro i
    by_cases hi : i < 64
    · have : ∀ i : Fin 64, (255#64).getLsbD i.1 = decide (i.1 < 8) := by decide
      exact this ⟨i, hi⟩
    · rw [BitVec.getLsbD_of_ge _ _ (by omega)]; simp; omega
  apply Int32.toBitVec_inj.mp
  have e1 : (Int64.toInt32 ((x >>> (Int64.ofNat (8 * j) &&& 63)) &&& 255)).toBitVec = ((x.toBitVec.sshiftRight (8 * j)) &&& 255#64).setWidth 32 := by
    rw [Int64.toBitVec_toInt32, BitVec.signExtend_eq_setWidth_of_le _ (by decide), Int64.toBitVec_and, Int64.toBitVec_shiftRight, h2 ⟨j, hj⟩]
    rw [BitVec.sshiftRight', h3 ⟨j, hj⟩]; rfl
  rw [e1]
  unfold pu_gb
  rw [Int32.toBitVec_ofBitVec]
  apply BitVec.eq_of_getLsbD_eq
  intro i hi
  simp only [BitVec.getLsbD_setWidth, BitVec.getLsbD_and, h255, BitVec.getLsbD_sshiftRight, BitVec.getLsbD_ushiftRight]
  by_cases h8 : i < 8
  · have q1 : 8 * j + i < 64 := by omega
    have q2 : i < 64 := by omega
    simp [h8, q1, hi]; omega
  · simp [h8]
def pu_IvB (F V : Nat → List Int32) (T : List Int32) (ls : List pu_Lb) (os : List pu_Od) (m : tm_I) (mL : tm_L) : Prop := (pu_Keep F V T m mL) ∧ (pu_KM F V T m) ∧ (pu_byteL T) ∧ (∀ k, pu_byteL (F k) ∧ (F k).length ≤ 400) ∧ (∀ k, pu_byteL (V k) ∧ (V k).length ≤ 200) ∧ (m 0 6 = m 39 13) ∧ (m 0 7 = m 39 14) ∧ (m 20 3 = Int32.ofNat ls.length) ∧ (m 39 35 = Int32.ofNat ls.length) ∧ (ls.length ≤ 12) ∧ (m 20 4 = Int32.ofNat os.length) ∧ (m 39 37 = Int32.ofNat os.length) ∧ (os.length ≤ 120) ∧ (pu_CLb m ls) ∧ (∀ (k : Nat) (h : k < ls.length), ∀ j, j < 4 → m 54 (4 * k + j) = pu_lb4 ls[k] j) ∧ (∃ Fc, pu_CN Fc m mL 0 os) ∧ (∀ (K : Nat) (h : K < os.length), pu_ModO m K os[K]) ∧ (∀ o ∈ os, pu_WO o) ∧ (∀ o ∈ os, o.sz ≤ 200) ∧ (∀ o ∈ os, pu_OKo o)
theorem pu_IvB.kp {F : Nat → List Int32} {V : Nat → List Int32} {T : List Int32} {ls : List pu_Lb} {os : List pu_Od} {m : tm_I} {mL : tm_L} (h_ : pu_IvB F V T ls os m mL) : pu_Keep F V T m mL := h_.1
theorem pu_IvB.km {F : Nat → List Int32} {V : Nat → List Int32} {T : List Int32} {ls : List pu_Lb} {os : List pu_Od} {m : tm_I} {mL : tm_L} (h_ : pu_IvB F V T ls os m mL) : pu_KM F V T m := h_.2.1
theorem pu_IvB.bT {F : Nat → List Int32} {V : Nat → List Int32} {T : List Int32} {ls : List pu_Lb} {os : List pu_Od} {m : tm_I} {mL : tm_L} (h_ : pu_IvB F V T ls os m mL) : pu_byteL T := h_.2.2.1
theorem pu_IvB.bF {F : Nat → List Int32} {V : Nat → List Int32} {T : List Int32} {ls : List pu_Lb} {os : List pu_Od} {m : tm_I} {mL : tm_L} (h_ : pu_IvB F V T ls os m mL) : ∀ k, pu_byteL (F k) ∧ (F k).length ≤ 400 := h_.2.2.2.1
theorem pu_IvB.bV {F : Nat → List Int32} {V : Nat → List Int32} {T : List Int32} {ls : List pu_Lb} {os : List pu_Od} {m : tm_I} {mL : tm_L} (h_ : pu_IvB F V T ls os m mL) : ∀ k, pu_byteL (V k) ∧ (V k).length ≤ 200 := h_.2.2.2.2.1
theorem pu_IvB.fa {F : Nat → List Int32} {V : Nat → List Int32} {T : List Int32} {ls : List pu_Lb} {os : List pu_Od} {m : tm_I} {mL : tm_L} (h_ : pu_IvB F V T ls os m mL) : m 0 6 = m 39 13 := h_.2.2.2.2.2.1
theorem pu_IvB.pl {F : Nat → List Int32} {V : Nat → List Int32} {T : List Int32} {ls : List pu_Lb} {os : List pu_Od} {m : tm_I} {mL : tm_L} (h_ : pu_IvB F V T ls os m mL) : m 0 7 = m 39 14 := h_.2.2.2.2.2.2.1
theorem pu_IvB.l3 {F : Nat → List Int32} {V : Nat → List Int32} {T : List Int32} {ls : List pu_Lb} {os : List pu_Od} {m : tm_I} {mL : tm_L} (h_ : pu_IvB F V T ls os m mL) : m 20 3 = Int32.ofNat ls.length := h_.2.2.2.2.2.2.2.1
theorem pu_IvB.l35 {F : Nat → List Int32} {V : Nat → List Int32} {T : List Int32} {ls : List pu_Lb} {os : List pu_Od} {m : tm_I} {mL : tm_L} (h_ : pu_IvB F V T ls os m mL) : m 39 35 = Int32.ofNat ls.length := h_.2.2.2.2.2.2.2.2.1
theorem pu_IvB.ll {F : Nat → List Int32} {V : Nat → List Int32} {T : List Int32} {ls : List pu_Lb} {os : List pu_Od} {m : tm_I} {mL : tm_L} (h_ : pu_IvB F V T ls os m mL) : ls.length ≤ 12 := h_.2.2.2.2.2.2.2.2.2.1
theorem pu_IvB.o4 {F : Nat → List Int32} {V : Nat → List Int32} {T : List Int32} {ls : List pu_Lb} {os : List pu_Od} {m : tm_I} {mL : tm_L} (h_ : pu_IvB F V T ls os m mL) : m 20 4 = Int32.ofNat os.length := h_.2.2.2.2.2.2.2.2.2.2.1
theorem pu_IvB.o37 {F : Nat → List Int32} {V : Nat → List Int32} {T : List Int32} {ls : List pu_Lb} {os : List pu_Od} {m : tm_I} {mL : tm_L} (h_ : pu_IvB F V T ls os m mL) : m 39 37 = Int32.ofNat os.length := h_.2.2.2.2.2.2.2.2.2.2.2.1
theorem pu_IvB.ol {F : Nat → List Int32} {V : Nat → List Int32} {T : List Int32} {ls : List pu_Lb} {os : List pu_Od} {m : tm_I} {mL : tm_L} (h_ : pu_IvB F V T ls os m mL) : os.length ≤ 120 := h_.2.2.2.2.2.2.2.2.2.2.2.2.1
theorem pu_IvB.lc {F : Nat → List Int32} {V : Nat → List Int32} {T : List Int32} {ls : List pu_Lb} {os : List pu_Od} {m : tm_I} {mL : tm_L} (h_ : pu_IvB F V T ls os m mL) : pu_CLb m ls := h_.2.2.2.2.2.2.2.2.2.2.2.2.2.1
theorem pu_IvB.lm {F : Nat → List Int32} {V : Nat → List Int32} {T : List Int32} {ls : List pu_Lb} {os : List pu_Od} {m : tm_I} {mL : tm_L} (h_ : pu_IvB F V T ls os m mL) : ∀ (k : Nat) (h : k < ls.length), ∀ j, j < 4 → m 54 (4 * k + j) = pu_lb4 ls[k] j := h_.2.2.2.2.2.2.2.2.2.2.2.2.2.2.1
theorem pu_IvB.oc {F : Nat → List Int32} {V : Nat → List Int32} {T : List Int32} {ls : List pu_Lb} {os : List pu_Od} {m : tm_I} {mL : tm_L} (h_ : pu_IvB F V T ls os m mL) : ∃ Fc, pu_CN Fc m mL 0 os := h_.2.2.2.2.2.2.2.2.2.2.2.2.2.2.2.1
theorem pu_IvB.om {F : Nat → List Int32} {V : Nat → List Int32} {T : List Int32} {ls : List pu_Lb} {os : List pu_Od} {m : tm_I} {mL : tm_L} (h_ : pu_IvB F V T ls os m mL) : ∀ (K : Nat) (h : K < os.length), pu_ModO m K os[K] := h_.2.2.2.2.2.2.2.2.2.2.2.2.2.2.2.2.1
theorem pu_IvB.wo {F : Nat → List Int32} {V : Nat → List Int32} {T : List Int32} {ls : List pu_Lb} {os : List pu_Od} {m : tm_I} {mL : tm_L} (h_ : pu_IvB F V T ls os m mL) : ∀ o ∈ os, pu_WO o := h_.2.2.2.2.2.2.2.2.2.2.2.2.2.2.2.2.2.1
theorem pu_IvB.sz {F : Nat → List Int32} {V : Nat → List Int32} {T : List Int32} {ls : List pu_Lb} {os : List pu_Od} {m : tm_I} {mL : tm_L} (h_ : pu_IvB F V T ls os m mL) : ∀ o ∈ os, o.sz ≤ 200 := h_.2.2.2.2.2.2.2.2.2.2.2.2.2.2.2.2.2.2.1
theorem pu_IvB.ok {F : Nat → List Int32} {V : Nat → List Int32} {T : List Int32} {ls : List pu_Lb} {os : List pu_Od} {m : tm_I} {mL : tm_L} (h_ : pu_IvB F V T ls os m mL) : ∀ o ∈ os, pu_OKo o := h_.2.2.2.2.2.2.2.2.2.2.2.2.2.2.2.2.2.2.2
def pu_IvA (m : tm_I) (mL : tm_L) : Prop := ∃ F V T ls os, pu_IvB F V T ls os m mL
section INV
variable {F V : Nat → List Int32} {T : List Int32} {ls : List pu_Lb} {os : List pu_Od} {m m' : tm_I} {mL mL' : tm_L}
theorem pu_IvB.fr (h : pu_IvB F V T ls os m mL) (q : ∀ a, a ≠ 39 → m' a = m a) (q2 : ∀ b, b ≠ 0 → m' 39 b = m 39 b) (q3 : ∀ e, e ≠ 57 → mL' e = mL e) : pu_IvB F V T ls os m' mL' := by
  have A : ∀ {a}, a ≠ 39 → m' a = m a := fun {a} ha => q a ha
  have B : ∀ {b}, b ≠ 0 → m' 39 b = m 39 b := fun {b} hb => q2 b hb
  refine ⟨h.kp.fr (fun a ha => A (by unfold pu_kpc at ha; omega)) (fun e he => q3 e (by omega)), h.km.fr (B (by decide)) (A (by decide)) (A (by decide)) (A (by decide)) (A (by decide)) (A (by decide)), h.bT, h.bF, h.bV, ?_, ?_, ?_, (B (by decide)).trans h.l35, h.ll, ?_, (B (by decide)).trans h.o37, h.ol, fun k hk j hj => ?_, ?_, ?_, fun K hK => ⟨?_, ?_⟩, h.wo, h.sz, h.ok⟩
  · rw [A (a := 0) (by decide), B (by decide)]; exact h.fa
  · rw [A (a := 0) (by decide), B (by decide)]; exact h.pl
  · rw [A (a := 20) (by decide)]; exact h.l3
  · rw [A (a := 20) (by decide)]; exact h.o4
  · rw [A (a := 21) (by decide)]; exact h.lc k hk j hj
  · rw [A (a := 54) (by decide)]; exact h.lm
  · obtain ⟨Fc, hF⟩ := h.oc
    exact ⟨Fc, hF.fr (A (by decide)) (A (by decide)) (q3 25 (by decide))⟩
  · rw [A (a := 55) (by decide)]; exact (h.om K hK).row
  · rw [A (a := 56) (by decide)]; exact (h.om K hK).dat
theorem pu_IvB.f0 (h : pu_IvB F V T ls os m mL) (v : Int32) : pu_IvB F V T ls os (tm_up m 39 0 v) mL := h.fr (fun a ha => pu_tm_up_c ha) (fun b hb => tm_up_k hb) (fun _ _ => rfl)
theorem pu_IvB.f57 (h : pu_IvB F V T ls os m mL) (x : Int64) : pu_IvB F V T ls os m (tm_up mL 57 0 x) := h.fr (fun _ _ => rfl) (fun _ _ => rfl) (fun e he => pu_tm_up_c he)
theorem pu_Row.other {sz sz' : Nat → Int32} {lg : Nat → Int64} {w r : Nat} {D : List Int32} (h : pu_Row sz lg w r D) (e : sz' r = sz r) : pu_Row sz' lg w r D := ⟨e.trans h.len, h.byt⟩
theorem pu_IvB.text {T' : List Int32} (h : pu_IvB F V T ls os m mL) (hT' : T'.length ≤ 4096) (bT' : pu_byteL T') (r : pu_Row (m' 3) (mL' 4) 512 0 T') (t1 : m' 39 2 = Int32.ofNat T'.length) (t2 : ∀ i, i < T'.length → m' 40 i = T'[i]?.getD (-1)) (q : ∀ a, a ≠ 3 → a ≠ 39 → a ≠ 40 → m' a = m a) (q2 : ∀ b, b ≠ 0 → b ≠ 2 → m' 39 b = m 39 b) (q3 : ∀ e, e ≠ 4 → e ≠ 57 → mL' e = mL e) : pu_IvB F V T' ls os m' mL' := by
  have A : ∀ {a}, a ≠ 3 → a ≠ 39 → a ≠ 40 → m' a = m a := fun {a} h1 h2 h3 => q a h1 h2 h3
  have B : ∀ {b}, b ≠ 0 → b ≠ 2 → m' 39 b = m 39 b := fun {b} h1 h2 => q2 b h1 h2
  have k := h.kp
  refine ⟨⟨?_, ?_, ?_, ?_, ?_, ?_, ?_, ?_, ?_, ?_, ?_, ?_, r, hT', ?_, ?_⟩, ⟨t1, hT', t2, ?_, ?_, ?_, ?_⟩, bT', h.bF, h.bV, ?_, ?_, ?_, (B (by decide) (by decide)).trans h.l35, h.ll, ?_, (B (by decide) (by decide)).trans h.o37, h.ol, fun k hk j hj => ?_, ?_, ?_, fun K hK => ⟨?_, ?_⟩, h.wo, h.sz, h.ok⟩
  · rw [A (a := 2) (by decide) (by decide) (by decide)]; exact k.a0
  · rw [A (a := 2) (by decide) (by decide) (by decide)]; exact k.a1
  · rw [A (a := 5) (by decide) (by decide) (by decide)]; exact k.b0
  · rw [A (a := 5) (by decide) (by decide) (by decide)]; exact k.b1
  · rw [A (a := 10) (by decide) (by decide) (by decide)]; exact k.c0
  · rw [A (a := 10) (by decide) (by decide) (by decide)]; exact k.c1
  · rw [A (a := 13) (by decide) (by decide) (by decide)]; exact k.d0
  · rw [A (a := 13) (by decide) (by decide) (by decide)]; exact k.d1
  · rw [A (a := 23) (by decide) (by decide) (by decide)]; exact k.e0
  · rw [A (a := 23) (by decide) (by decide) (by decide)]; exact k.e1
  · rw [A (a := 27) (by decide) (by decide) (by decide)]; exact k.f0
  · rw [A (a := 27) (by decide) (by decide) (by decide)]; exact k.f1
  · rw [A (a := 6) (by decide) (by decide) (by decide), q3 7 (by decide) (by decide)]; exact k.fm
  · rw [A (a := 11) (by decide) (by decide) (by decide), q3 12 (by decide) (by decide)]; exact k.vr
  · rw [A (a := 42) (by decide) (by decide) (by decide)]; exact h.km.fn
  · rw [A (a := 41) (by decide) (by decide) (by decide)]; exact h.km.fx
  · rw [A (a := 44) (by decide) (by decide) (by decide)]; exact h.km.vn
  · rw [A (a := 43) (by decide) (by decide) (by decide)]; exact h.km.vx
  · rw [A (a := 0) (by decide) (by decide) (by decide), B (by decide) (by decide)]; exact h.fa
  · rw [A (a := 0) (by decide) (by decide) (by decide), B (by decide) (by decide)]; exact h.pl
  · rw [A (a := 20) (by decide) (by decide) (by decide)]; exact h.l3
  · rw [A (a := 20) (by decide) (by decide) (by decide)]; exact h.o4
  · rw [A (a := 21) (by decide) (by decide) (by decide)]; exact h.lc k hk j hj
  · rw [A (a := 54) (by decide) (by decide) (by decide)]; exact h.lm
  · obtain ⟨Fc, hF⟩ := h.oc
    exact ⟨Fc, hF.fr (A (by decide) (by decide) (by decide)) (A (by decide) (by decide) (by decide)) (q3 25 (by decide) (by decide))⟩
  · rw [A (a := 55) (by decide) (by decide) (by decide)]; exact (h.om K hK).row
  · rw [A (a := 56) (by decide) (by decide) (by decide)]; exact (h.om K hK).dat
theorem pu_iv_wipe (h : pu_IvA m mL) : ∃ r1 r2, f_La_wipe m mL = some r1 ∧ f_Mo_wipe r1.2.1 r1.2.2 = some r2 ∧ r1.1 = r2.1 ∧ pu_IvA r2.2.1 r2.2.2 := by
  obtain ⟨F, V, T, ls, os, h⟩ := h
  have s1 := pu_ro_size (o := 2) (c := 3) (R := 1) (r := 0) (mI := m) (mL := mL) rfl rfl (by decide) (by decide)
  have s2 := pu_ro_clear (o := 2) (c := 3) (R := 1) (r := 0) (mI := m) (mL := mL) rfl rfl (by decide) (by decide)
  rw [show Int32.ofNat 0 = (0 : Int32) from rfl] at s1 s2
  have F1 : f_La_wipe m mL = some (m 3 0, tm_up m 3 0 0, mL) := by
    unfold f_La_wipe f_La_wipe_b0
    rw [s1, pu_b_some]
    simp only []
    rw [s2, pu_b_some]
  refine ⟨_, _, F1, rfl, ?_, F, V, [], ls, os, ?_⟩
  · show m 3 0 = tm_up (tm_up m 3 0 0) 39 0 0 39 2
    rw [tm_up_k (by decide), tm_up_o (by decide), h.km.tn]
    exact h.kp.tx.len
  · refine h.text (Nat.zero_le _) (fun b hb => absurd hb List.not_mem_nil) (pu_Row.empty ?_) ?_ (fun i hi => absurd hi (Nat.not_lt_zero _)) (fun a h1 h2 h3 => ?_) (fun b h1 h2 => ?_) (fun _ _ _ => rfl)
    · show tm_up (tm_up (tm_up m 3 0 0) 39 0 0) 39 2 0 3 0 = 0
      simp [tm_up]
    · show tm_up (tm_up (tm_up m 3 0 0) 39 0 0) 39 2 0 39 2 = 0
      simp [tm_up]
    · show tm_up (tm_up (tm_up m 3 0 0) 39 0 0) 39 2 0 a = m a
      rw [pu_tm_up_c h2, pu_tm_up_c h2, pu_tm_up_c h1]
    · show tm_up (tm_up (tm_up m 3 0 0) 39 0 0) 39 2 0 39 b = m 39 b
      rw [tm_up_k h2, tm_up_k h1, tm_up_o (by decide)]
theorem pu_iv_fault (h : pu_IvA m mL) : ∃ r1 r2, f_La_fault m mL = some r1 ∧ f_Mo_fault r1.2.1 r1.2.2 = some r2 ∧ r1.1 = r2.1 ∧ pu_IvA r2.2.1 r2.2.2 := by
  obtain ⟨F, V, T, ls, os, h⟩ := h
  refine ⟨_, _, rfl, rfl, ?_, F, V, T, ls, os, h.f0 0⟩
  show m 0 6 = tm_up m 39 0 0 39 13
  rw [tm_up_k (by decide)]; exact h.fa
theorem pu_iv_place (h : pu_IvA m mL) : ∃ r1 r2, f_La_place m mL = some r1 ∧ f_Mo_place r1.2.1 r1.2.2 = some r2 ∧ r1.1 = r2.1 ∧ pu_IvA r2.2.1 r2.2.2 := by
  obtain ⟨F, V, T, ls, os, h⟩ := h
  refine ⟨_, _, rfl, rfl, ?_, F, V, T, ls, os, h.f0 0⟩
  show m 0 7 = tm_up m 39 0 0 39 14
  rw [tm_up_k (by decide)]; exact h.pl
theorem pu_iv_read (h : pu_IvA m mL) : ∃ r1 r2, f_La_read m mL = some r1 ∧ f_Mo_read r1.2.1 r1.2.2 = some r2 ∧ r1.1 = r2.1 ∧ pu_IvA r2.2.1 r2.2.2 := by
  obtain ⟨F, V, T, ls, os, h⟩ := h
  obtain ⟨res, e1, m1, mL1, a1, a2, a3, a4, a5, a6⟩ := pu_la_read0 h.kp h.bT h.bF h.bV
  have km1 : pu_KM F V T m1 := h.km.fr (by rw [a2 39 (by decide)]) (a2 40 (by decide)) (a2 41 (by decide)) (a2 42 (by decide)) (a2 43 (by decide)) (a2 44 (by decide))
  obtain ⟨⟨m2, b1, b2, b3, b4, b5, b6⟩, w, lb, wb⟩ := pu_mo_read0 (mL := mL1) km1 h.bT h.bF h.bV e1
  refine ⟨_, _, a1, b1, rfl, res.2.F, res.2.V, T, ?_⟩
  have K2 : pu_Keep res.2.F res.2.V T m2 mL1 := a3.fr (fun a ha => b2 a (by unfold pu_kpc at ha; omega)) (fun _ _ => rfl)
  have fa : m2 0 6 = m2 39 13 := by rw [b2 0 (by decide), a4, b4]
  have pl : m2 0 7 = m2 39 14 := by rw [b2 0 (by decide), a5, b5]
  by_cases q : res.1.1 = 0
  · rw [if_pos q] at a6 b6
    obtain ⟨c1, c2, ⟨Fc, c3⟩, c4⟩ := a6
    obtain ⟨d1, d2, d3, d4⟩ := b6
    refine ⟨res.2.ls, res.2.os, K2, b3, h.bT, wb.F, wb.V, fa, pl, ?_, d1, w.ls, ?_, d2, w.os, fun k hk j hj => ?_, d3, ⟨Fc, c3.fr (b2 22 (by decide)) (b2 24 (by decide)) rfl⟩, d4, w.wo, lb.sz, lb.ok⟩
    · show m2 20 3 = _
      rw [b2 20 (by decide)]; exact c1
    · show m2 20 4 = _
      rw [b2 20 (by decide)]; exact c2
    · show m2 21 (k * 4 + j) = _
      rw [b2 21 (by decide)]; exact c4 k hk j hj
  · rw [if_neg q] at a6 b6
    refine ⟨[], [], K2, b3, h.bT, wb.F, wb.V, fa, pl, ?_, b6.1, Nat.zero_le _, ?_, b6.2, Nat.zero_le _, fun k hk => absurd hk (Nat.not_lt_zero _), fun k hk => absurd hk (Nat.not_lt_zero _), ⟨0, fun k hk => absurd hk (Nat.not_lt_zero _)⟩, fun k hk => absurd hk (Nat.not_lt_zero _), fun o ho => absurd ho List.not_mem_nil, fun o ho => absurd ho List.not_mem_nil, fun o ho => absurd ho List.not_mem_nil⟩
    · show m2 20 3 = 0
      rw [b2 20 (by decide)]; exact a6.1
    · show m2 20 4 = 0
      rw [b2 20 (by decide)]; exact a6.2
end INV
