def pu_MOut (r : Option (Int32 × tm_I × tm_L)) (T : List Int32) (m : tm_I) (mL : tm_L) (s' : pu_Sp) : Prop := ∃ m', r = some (0, m', mL) ∧ pu_RM s' T m' ∧ (∀ a, a < 39 → m' a = m a) ∧ m' 39 13 = m 39 13 ∧ m' 39 12 = m 39 12
def pu_labB (b : Nat) : Prop := b = 19 ∨ b = 20 ∨ b = 21 ∨ b = 22 ∨ b = 23 ∨ b = 25 ∨ b = 26
theorem pu_RM.upd {s s' : pu_Sp} {T : List Int32} {m m' : tm_I} (h : pu_RM s T m) (q : ∀ a, a ≠ 39 → a ≠ 48 → a ≠ 49 → a ≠ 51 → m' a = m a) (q2 : ∀ b, ¬ pu_labB b → m' 39 b = m 39 b) (h1 : s'.d = s.d) (h2 : s'.lv = s.lv) (h3 : s'.outer = s.outer) (h4 : s'.F = s.F) (h5 : s'.V = s.V) (h6 : s'.cmds = s.cmds) (h7 : s'.opn = s.opn) (h8 : s'.os = s.os) (h9 : s'.ls = s.ls) (h10 : s'.fs = s.fs) (lab : s.opn = true → pu_LabM s' m' ∧ pu_FldM s' m') : pu_RM s' T m' := by
  have B : ∀ {b}, ¬ pu_labB b → m' 39 b = m 39 b := fun hb => q2 _ hb
  have A : ∀ {a}, a ≠ 39 → a ≠ 48 → a ≠ 49 → a ≠ 51 → m' a = m a := fun {a} a1 a2 a3 a4 => q a a1 a2 a3 a4
  have n8 : m' 39 8 = m 39 8 := B (by unfold pu_labB; omega)
  refine ⟨?_, ?_, ?_, ?_, ?_, ?_, ?_, ?_, ?_, ?_, ?_, by rw [B (b := 32) (by unfold pu_labB; omega), h10]; exact h.w32, fun ho => lab (by rw [← h7]; exact ho)⟩
  · rw [h4, h5]; exact h.k.fr (B (by unfold pu_labB; omega)) (A (by decide) (by decide) (by decide) (by decide)) (A (by decide) (by decide) (by decide) (by decide)) (A (by decide) (by decide) (by decide) (by decide)) (A (by decide) (by decide) (by decide) (by decide)) (A (by decide) (by decide) (by decide) (by decide))
  · rw [h1, h2]; exact h.st.fr (A (by decide) (by decide) (by decide) (by decide))
  · rw [h1, h2, n8]; exact h.l8
  · rw [h1, B (by unfold pu_labB; omega)]; exact h.dep
  · rw [h1, h3, B (by unfold pu_labB; omega)]; exact h.out
  · rw [h6, B (by unfold pu_labB; omega)]; exact h.cm
  · rw [h7, B (by unfold pu_labB; omega)]; exact h.op
  · rw [h9, B (by unfold pu_labB; omega)]; exact h.n35
  · rw [h8, B (by unfold pu_labB; omega)]; exact h.n37
  · rw [h9, A (a := 54) (by decide) (by decide) (by decide) (by decide)]; exact h.lb
  · rw [h8]
    intro K hK
    have z := h.od K hK
    exact ⟨by rw [A (a := 55) (by decide) (by decide) (by decide) (by decide)]; exact z.row, by rw [A (a := 56) (by decide) (by decide) (by decide) (by decide)]; exact z.dat⟩
theorem pu_MOut.lab {s s' : pu_Sp} {T cs : List Int32} {m m' : tm_I} {mL : tm_L} {r : Option (Int32 × tm_I × tm_L)} (h : pu_RM (pu_onL s cs) T m) (e : r = some (0, m', mL)) (q : ∀ a, a ≠ 39 → a ≠ 48 → a ≠ 49 → a ≠ 51 → m' a = m a) (q2 : ∀ b, ¬ pu_labB b → m' 39 b = m 39 b) (h1 : s'.d = s.d) (h2 : s'.lv = pu_fl s.lv s.d cs) (h3 : s'.outer = s.outer) (h4 : s'.F = s.F) (h5 : s'.V = s.V) (h6 : s'.cmds = s.cmds) (h7 : s'.opn = s.opn) (h8 : s'.os = s.os) (h9 : s'.ls = s.ls) (h10 : s'.fs = s.fs) (lab : s.opn = true → pu_LabM s' m' ∧ pu_FldM s' m') : pu_MOut r T m mL s' :=
  ⟨m', e, h.upd q q2 h1 h2 h3 h4 h5 h6 h7 h8 h9 h10 lab, fun a ha => q a (by omega) (by omega) (by omega) (by omega), q2 13 (by unfold pu_labB; omega), q2 12 (by unfold pu_labB; omega)⟩
theorem pu_LabM.fr {s s' : pu_Sp} {m m' : tm_I} (h : pu_LabM s m) (e39 : m' 39 = m 39) (e48 : m' 48 = m 48) (e50 : m' 50 = m 50) (e52 : m' 52 = m 52) (h1 : s'.w = s.w) (h2 : s'.h = s.h) (h3 : s'.cp = s.cp) (h4 : s'.hx = s.hx) (h5 : s'.hy = s.hy) (h6 : s'.tx = s.tx) (h7 : s'.fs = s.fs) : pu_LabM s' m' := by
  have eo : pu_opens s' = pu_opens s := by unfold pu_opens; rw [h7]
  refine ⟨by rw [e39, h1]; exact h.w, by rw [e39, h2]; exact h.h, by rw [e39, h3]; exact h.cp, by rw [e39, h4]; exact h.hx, by rw [e39, h5]; exact h.hy, by rw [e48, h6]; exact h.tx, by rw [e39, h7]; exact h.nf, by rw [e39, eo]; exact h.md, ?_⟩
  rw [h7]
  exact fun f hf => (h.fs f hf).fr e50 e52
theorem pu_FldM.fr {s s' : pu_Sp} {m m' : tm_I} (h : pu_FldM s m) (e49 : m' 49 = m 49) (e51 : m' 51 = m 51) (h1 : s'.lt = s.lt) (h2 : s'.sh = s.sh) (h3 : s'.fx = s.fx) (h4 : s'.fy = s.fy) (h5 : s'.t = s.t) (h6 : s'.cnt = s.cnt) (h7 : s'.sp = s.sp) (h8 : s'.D = s.D) : pu_FldM s' m' :=
  ⟨by rw [e49, h1]; exact h.k, by rw [e49, h1, h2]; exact h.sh, by rw [e49, h3]; exact h.x, by rw [e49, h4]; exact h.y, by rw [e49, h5]; exact h.t, by rw [e49, h6]; exact h.cn, by rw [e49, h7]; exact h.sp, by rw [e49, h8]; exact h.n, by rw [e51, h8]; exact h.D⟩
section MOB
variable {s : pu_Sp} {cs dd T : List Int32} {m : tm_I} {mL : tm_L} {vs : Nat → Int32}
theorem pu_tn0 : Int32.toNatClampNeg (0 : Int32) = 0 := rfl
theorem pu_tn1 : Int32.toNatClampNeg (1 : Int32) = 1 := rfl
theorem pu_mob_set {l : Int32} (h1 : l ≠ 59) (h2 : l ≠ 69) (h3 : l ≠ 75) (h4 : l ≠ 76) (h5 : l ≠ 83) (h6 : l ≠ 85) (h7 : l ≠ 86) (h8 : l ≠ 88) : f_Mo_obey l m mL = (f_Mo_set l m mL).bind fun v1 => some (0, v1.2.1, v1.2.2) := by
  unfold f_Mo_obey f_Mo_obey_b0
  rw [if_neg h1, if_neg h2, if_neg h3, if_neg h4, if_neg h5, if_neg h6, if_neg h7, if_neg h8]
  rfl
theorem pu_mob_H (h : pu_RM (pu_onL s cs) T m) (hv : pu_agn 2 (m 46) vs) (ho : s.opn = true) : pu_MOut (f_Mo_obey 72 m mL) T m mL (pu_Sp.mk_ (pu_onL s cs).d (pu_onL s cs).lv (pu_onL s cs).outer (pu_onL s cs).cmds (pu_onL s cs).F (pu_onL s cs).V (pu_onL s cs).opn (pu_onL s cs).w (pu_onL s cs).h (vs 0) (vs 1) (pu_onL s cs).cp (pu_onL s cs).tx (pu_onL s cs).lt (pu_onL s cs).fx (pu_onL s cs).fy (pu_onL s cs).t (pu_onL s cs).cnt (pu_onL s cs).sp (pu_onL s cs).D (pu_onL s cs).sh (pu_onL s cs).fs (pu_onL s cs).os (pu_onL s cs).ls) := by
  have e : f_Mo_obey 72 m mL = some (0, tm_up (tm_up m 39 22 (vs 0)) 39 23 (vs 1), mL) := by
    rw [pu_mob_set (by decide) (by decide) (by decide) (by decide) (by decide) (by decide) (by decide) (by decide)]
    unfold f_Mo_set f_Mo_set_b0 f_Mo_set_b205
    rw [if_neg (by decide), if_pos (by decide), if_pos (by decide), pu_tn0, pu_tn1, tm_up_o (by decide), hv 0 (by decide), hv 1 (by decide), pu_b_some]
  obtain ⟨L, F0⟩ := h.lab ho
  refine pu_MOut.lab h e (fun a a1 _ _ _ => by rw [pu_tm_up_c a1, pu_tm_up_c a1]) (fun b hb => by rw [tm_up_k (by unfold pu_labB at hb; omega), tm_up_k (by unfold pu_labB at hb; omega)]) rfl rfl rfl rfl rfl rfl rfl rfl rfl rfl (fun _ => ⟨?_, F0.fr (by rw [pu_tm_up_c (by decide), pu_tm_up_c (by decide)]) (by rw [pu_tm_up_c (by decide), pu_tm_up_c (by decide)]) rfl rfl rfl rfl rfl rfl rfl rfl⟩)
  exact ⟨by simpa [tm_up] using L.w, by simpa [tm_up] using L.h, by simpa [tm_up] using L.cp, by simp [tm_up], by simp [tm_up], by rw [pu_tm_up_c (by decide), pu_tm_up_c (by decide)]; exact L.tx, by simpa [tm_up] using L.nf, by rw [tm_up_k (by decide), tm_up_k (by decide)]; exact L.md, fun f hf => (L.fs f hf).fr (by rw [pu_tm_up_c (by decide), pu_tm_up_c (by decide)]) (by rw [pu_tm_up_c (by decide), pu_tm_up_c (by decide)])⟩
theorem pu_mob_C (h : pu_RM (pu_onL s cs) T m) (hv : pu_agn 1 (m 46) vs) (n : pu_NumOK 67 vs) (ho : s.opn = true) : pu_MOut (f_Mo_obey 67 m mL) T m mL (pu_Sp.mk_ (pu_onL s cs).d (pu_onL s cs).lv (pu_onL s cs).outer (pu_onL s cs).cmds (pu_onL s cs).F (pu_onL s cs).V (pu_onL s cs).opn (pu_onL s cs).w (pu_onL s cs).h (pu_onL s cs).hx (pu_onL s cs).hy ((vs 0).toNatClampNeg) (pu_onL s cs).tx (pu_onL s cs).lt (pu_onL s cs).fx (pu_onL s cs).fy (pu_onL s cs).t (pu_onL s cs).cnt (pu_onL s cs).sp (pu_onL s cs).D (pu_onL s cs).sh (pu_onL s cs).fs (pu_onL s cs).os (pu_onL s cs).ls) := by
  obtain ⟨k, k1, k2, k3⟩ := n.c rfl
  have ek : (vs 0).toNatClampNeg = k := by rw [k3, pu_n_nat (by omega)]
  have e : f_Mo_obey 67 m mL = some (0, tm_up m 39 21 (vs 0), mL) := by
    rw [pu_mob_set (by decide) (by decide) (by decide) (by decide) (by decide) (by decide) (by decide) (by decide)]
    unfold f_Mo_set f_Mo_set_b0 f_Mo_set_b205
    rw [if_pos (by decide), if_neg (by decide), if_pos (by decide), pu_tn0, hv 0 (by decide), pu_b_some]
  obtain ⟨L, F0⟩ := h.lab ho
  refine pu_MOut.lab h e (fun a a1 _ _ _ => pu_tm_up_c a1) (fun b hb => tm_up_k (by unfold pu_labB at hb; omega)) rfl rfl rfl rfl rfl rfl rfl rfl rfl rfl (fun _ => ⟨?_, F0.fr (pu_tm_up_c (by decide)) (pu_tm_up_c (by decide)) rfl rfl rfl rfl rfl rfl rfl rfl⟩)
  exact ⟨by simpa [tm_up] using L.w, by simpa [tm_up] using L.h, by rw [tm_up_eq]; show vs 0 = Int32.ofNat (vs 0).toNatClampNeg; rw [ek, k3], by simpa [tm_up] using L.hx, by simpa [tm_up] using L.hy, by rw [pu_tm_up_c (by decide)]; exact L.tx, by simpa [tm_up] using L.nf, by rw [tm_up_k (by decide)]; exact L.md, fun f hf => (L.fs f hf).fr (pu_tm_up_c (by decide)) (pu_tm_up_c (by decide))⟩
theorem pu_mob_O (h : pu_RM (pu_onL s cs) T m) (hv : pu_agn 2 (m 46) vs) (ho : s.opn = true) : pu_MOut (f_Mo_obey 79 m mL) T m mL (pu_Sp.mk_ (pu_onL s cs).d (pu_onL s cs).lv (pu_onL s cs).outer (pu_onL s cs).cmds (pu_onL s cs).F (pu_onL s cs).V (pu_onL s cs).opn (pu_onL s cs).w (pu_onL s cs).h (pu_onL s cs).hx (pu_onL s cs).hy (pu_onL s cs).cp (pu_onL s cs).tx (pu_onL s cs).lt (vs 0) (vs 1) (pu_onL s cs).t (pu_onL s cs).cnt (pu_onL s cs).sp (pu_onL s cs).D (pu_onL s cs).sh (pu_onL s cs).fs (pu_onL s cs).os (pu_onL s cs).ls) := by
  have e : f_Mo_obey 79 m mL = some (0, tm_up (tm_up m 49 5 (vs 0)) 49 6 (vs 1), mL) := by
    rw [pu_mob_set (by decide) (by decide) (by decide) (by decide) (by decide) (by decide) (by decide) (by decide)]
    unfold f_Mo_set f_Mo_set_b0 f_Mo_set_b205
    rw [if_pos (by decide), if_pos (by decide), if_neg (by decide), if_pos (by decide), if_pos (by decide), if_pos (by decide), if_pos (by decide), pu_tn0, pu_tn1, tm_up_o (by decide), hv 0 (by decide), hv 1 (by decide), pu_b_some]
    rfl
  obtain ⟨L, F0⟩ := h.lab ho
  refine pu_MOut.lab h e (fun a _ _ a1 _ => by rw [pu_tm_up_c a1, pu_tm_up_c a1]) (fun b hb => by rw [tm_up_o (by decide), tm_up_o (by decide)]) rfl rfl rfl rfl rfl rfl rfl rfl rfl rfl (fun _ => ⟨L.fr (by rw [pu_tm_up_c (by decide), pu_tm_up_c (by decide)]) (by rw [pu_tm_up_c (by decide), pu_tm_up_c (by decide)]) (by rw [pu_tm_up_c (by decide), pu_tm_up_c (by decide)]) (by rw [pu_tm_up_c (by decide), pu_tm_up_c (by decide)]) rfl rfl rfl rfl rfl rfl rfl, ?_⟩)
  exact ⟨by simpa [tm_up] using F0.k, fun q i hi => by
    have : pu_manyL s.lt ≤ 4 := by
      have hi : i < pu_manyL s.lt := hi
      unfold pu_manyL; have := pu_sv_len (pu_rgi_lt s.lt); omega
    have hi : i < pu_manyL s.lt := hi
    rw [tm_up_k (by omega), tm_up_k (by omega)]; exact F0.sh q i hi, by simp [tm_up], by simp [tm_up], by simpa [tm_up] using F0.t, by simpa [tm_up] using F0.cn, by simpa [tm_up] using F0.sp, by simpa [tm_up] using F0.n, by rw [pu_tm_up_c (by decide), pu_tm_up_c (by decide)]; exact F0.D⟩
theorem pu_many4 (l : Int32) : pu_manyL l ≤ 4 := by unfold pu_manyL; have := pu_sv_len (pu_rgi_lt l); omega
theorem pu_mob_R (h : pu_RM (pu_onL s cs) T m) (ho : s.opn = true) : pu_MOut (f_Mo_obey 82 m mL) T m mL (pu_Sp.mk_ (pu_onL s cs).d (pu_onL s cs).lv (pu_onL s cs).outer (pu_onL s cs).cmds (pu_onL s cs).F (pu_onL s cs).V (pu_onL s cs).opn (pu_onL s cs).w (pu_onL s cs).h (pu_onL s cs).hx (pu_onL s cs).hy (pu_onL s cs).cp (pu_onL s cs).tx (pu_onL s cs).lt (pu_onL s cs).fx (pu_onL s cs).fy (true) (pu_onL s cs).cnt (pu_onL s cs).sp (pu_onL s cs).D (pu_onL s cs).sh (pu_onL s cs).fs (pu_onL s cs).os (pu_onL s cs).ls) := by
  have e : f_Mo_obey 82 m mL = some (0, tm_up m 49 7 2, mL) := by
    rw [pu_mob_set (by decide) (by decide) (by decide) (by decide) (by decide) (by decide) (by decide) (by decide)]
    unfold f_Mo_set f_Mo_set_b0 f_Mo_set_b205
    rw [if_pos (by decide), if_pos (by decide), if_pos (by decide), if_neg (by decide), if_pos (by decide), pu_b_some]
    rfl
  obtain ⟨L, F0⟩ := h.lab ho
  refine pu_MOut.lab h e (fun a _ _ a1 _ => pu_tm_up_c a1) (fun b hb => tm_up_o (by decide)) rfl rfl rfl rfl rfl rfl rfl rfl rfl rfl (fun _ => ⟨L.fr (pu_tm_up_c (by decide)) (pu_tm_up_c (by decide)) (pu_tm_up_c (by decide)) (pu_tm_up_c (by decide)) rfl rfl rfl rfl rfl rfl rfl, ?_⟩)
  exact ⟨by simpa [tm_up] using F0.k, fun q i hi => by
    have := pu_many4 s.lt
    have hi : i < pu_manyL s.lt := hi
    rw [tm_up_k (by omega)]; exact F0.sh q i hi, by simpa [tm_up] using F0.x, by simpa [tm_up] using F0.y, by simp [tm_up, pu_wy], by simpa [tm_up] using F0.cn, by simpa [tm_up] using F0.sp, by simpa [tm_up] using F0.n, by rw [pu_tm_up_c (by decide)]; exact F0.D⟩
theorem pu_mob_N (h : pu_RM (pu_onL s cs) T m) (hv : pu_agn 1 (m 46) vs) (ho : s.opn = true) : pu_MOut (f_Mo_obey 35 m mL) T m mL (pu_Sp.mk_ (pu_onL s cs).d (pu_onL s cs).lv (pu_onL s cs).outer (pu_onL s cs).cmds (pu_onL s cs).F (pu_onL s cs).V (pu_onL s cs).opn (pu_onL s cs).w (pu_onL s cs).h (pu_onL s cs).hx (pu_onL s cs).hy (pu_onL s cs).cp (pu_onL s cs).tx (pu_onL s cs).lt (pu_onL s cs).fx (pu_onL s cs).fy (pu_onL s cs).t (true) (vs 0) (pu_onL s cs).D (pu_onL s cs).sh (pu_onL s cs).fs (pu_onL s cs).os (pu_onL s cs).ls) := by
  have e : f_Mo_obey 35 m mL = some (0, tm_up (tm_up m 49 8 1) 49 9 (vs 0), mL) := by
    rw [pu_mob_set (by decide) (by decide) (by decide) (by decide) (by decide) (by decide) (by decide) (by decide)]
    unfold f_Mo_set f_Mo_set_b0 f_Mo_set_b205
    rw [if_pos (by decide), if_pos (by decide), if_pos (by decide), if_pos (by decide), if_neg (by decide), if_pos (by decide), if_pos (by decide), if_pos (by decide), pu_tn0, tm_up_o (by decide), hv 0 (by decide), pu_b_some]
    rfl
  obtain ⟨L, F0⟩ := h.lab ho
  refine pu_MOut.lab h e (fun a _ _ a1 _ => by rw [pu_tm_up_c a1, pu_tm_up_c a1]) (fun b hb => by rw [tm_up_o (by decide), tm_up_o (by decide)]) rfl rfl rfl rfl rfl rfl rfl rfl rfl rfl (fun _ => ⟨L.fr (by rw [pu_tm_up_c (by decide), pu_tm_up_c (by decide)]) (by rw [pu_tm_up_c (by decide), pu_tm_up_c (by decide)]) (by rw [pu_tm_up_c (by decide), pu_tm_up_c (by decide)]) (by rw [pu_tm_up_c (by decide), pu_tm_up_c (by decide)]) rfl rfl rfl rfl rfl rfl rfl, ?_⟩)
  exact ⟨by simpa [tm_up] using F0.k, fun q i hi => by
    have := pu_many4 s.lt
    have hi : i < pu_manyL s.lt := hi
    rw [tm_up_k (by omega), tm_up_k (by omega)]; exact F0.sh q i hi, by simpa [tm_up] using F0.x, by simpa [tm_up] using F0.y, by simpa [tm_up] using F0.t, by simp [tm_up, pu_bi], by simp [tm_up], by simpa [tm_up] using F0.n, by rw [pu_tm_up_c (by decide), pu_tm_up_c (by decide)]; exact F0.D⟩
theorem pu_mo_kindOf {l : Int32} (h : pu_kindL l) : f_Mo_kindOf l m mL = some (pu_kd l, m, mL) := by
  rcases h with rfl | rfl | rfl | rfl | rfl | rfl | rfl | rfl | rfl <;> rfl
theorem pu_set_D : ∀ (t k N : Nat), t + k = 4 → t < N → f_Mo_set_l131 N 68 (Int32.ofNat k) (pu_Rg m 48 0 (m 46) k) mL = some (0, pu_Rg m 48 0 (m 46) 4, mL) := by
  intro t
  induction t with
  | zero =>
    intro k N hk hN
    obtain ⟨N, rfl⟩ : ∃ n', N = n' + 1 := ⟨N - 1, by omega⟩
    have : k = 4 := by omega
    subst this
    rw [f_Mo_set_l131, pu_mo_numbers (l := 68) (by unfold pu_numL; decide), pu_b_some, if_pos (show Int32.ofNat (pu_manyL 68) ≤ Int32.ofNat 4 by decide), if_neg (by decide), if_pos (by decide)]
    unfold f_Mo_set_b204 f_Mo_set_b205
    rw [if_pos (by decide), pu_tn0, pu_tm_up_same rfl]
  | succ t ih =>
    intro k N hk hN
    obtain ⟨N, rfl⟩ : ∃ n', N = n' + 1 := ⟨N - 1, by omega⟩
    have hm : pu_manyL 68 = 4 := by decide
    rw [f_Mo_set_l131, pu_mo_numbers (l := 68) (by unfold pu_numL; decide), pu_b_some, hm, if_neg (by simp (disch := omega) only [pu_n_lit, pu_n_add, pu_n_mul, pu_n_sub, pu_n_div, pu_n_nat, pu_q_ltT, pu_q_ltF, pu_q_leT, pu_q_leF, pu_q_eqT, pu_q_eqF, pu_n_lt, pu_n_le, pu_n_eq, pu_p_ltT, pu_p_ltF, pu_p_leT, pu_p_leF, not_true_eq_false, not_false_eq_true, or_false, false_or, or_true, true_or, and_true, true_and, and_false, false_and, ↓reduceIte, pu_b_some]), if_neg (by decide), if_pos (pu_n_in (by omega) (by omega)), if_pos (pu_n_in (by omega) (by omega)), pu_n_nat (by omega)]
    unfold f_Mo_set_b174
    have e := pu_Rg_s (m := m) (o := 48) (base := 0) (k := k) (g := m 46)
    rw [Nat.zero_add] at e
    simp only []
    rw [pu_Rg_o (show 46 ≠ 48 by decide), e, pu_n_lit 1, pu_n_add]
    exact ih (k + 1) N (by omega) (by omega)
theorem pu_mob_D (h : pu_RM (pu_onL s cs) T m) (hv : pu_agn 4 (m 46) vs) (ho : s.opn = true) : pu_MOut (f_Mo_obey 68 m mL) T m mL (pu_Sp.mk_ (pu_onL s cs).d (pu_onL s cs).lv (pu_onL s cs).outer (pu_onL s cs).cmds (pu_onL s cs).F (pu_onL s cs).V (pu_onL s cs).opn (pu_onL s cs).w (pu_onL s cs).h (pu_onL s cs).hx (pu_onL s cs).hy (pu_onL s cs).cp (vs) (pu_onL s cs).lt (pu_onL s cs).fx (pu_onL s cs).fy (pu_onL s cs).t (pu_onL s cs).cnt (pu_onL s cs).sp (pu_onL s cs).D (pu_onL s cs).sh (pu_onL s cs).fs (pu_onL s cs).os (pu_onL s cs).ls) := by
  have e : f_Mo_obey 68 m mL = some (0, pu_Rg m 48 0 (m 46) 4, mL) := by
    rw [pu_mob_set (by decide) (by decide) (by decide) (by decide) (by decide) (by decide) (by decide) (by decide)]
    unfold f_Mo_set f_Mo_set_b0
    have := pu_set_D (m := m) (mL := mL) 4 0 tm_F (by omega) (by decide)
    rw [pu_Rg_0, show Int32.ofNat 0 = (0 : Int32) from rfl] at this
    rw [if_pos (by decide), if_pos (by decide), if_pos (by decide), if_pos (by decide), if_pos (by decide), this, pu_b_some]
  obtain ⟨L, F0⟩ := h.lab ho
  refine pu_MOut.lab h e (fun a _ a1 _ _ => pu_Rg_o a1) (fun b hb => by rw [pu_Rg_o (by decide)]) rfl rfl rfl rfl rfl rfl rfl rfl rfl rfl (fun _ => ⟨?_, F0.fr (pu_Rg_o (by decide)) (pu_Rg_o (by decide)) rfl rfl rfl rfl rfl rfl rfl rfl⟩)
  have e39 : pu_Rg m 48 0 (m 46) 4 39 = m 39 := pu_Rg_o (by decide)
  exact ⟨by rw [e39]; exact L.w, by rw [e39]; exact L.h, by rw [e39]; exact L.cp, by rw [e39]; exact L.hx, by rw [e39]; exact L.hy, fun i hi => by
    have := pu_Rg_in (m := m) (o := 48) (base := 0) (g := m 46) hi
    rw [Nat.zero_add] at this
    rw [this]; exact hv i hi, by rw [e39]; exact L.nf, by rw [e39]; exact L.md, fun f hf => (L.fs f hf).fr (pu_Rg_o (by decide)) (pu_Rg_o (by decide))⟩
theorem pu_set_K {l : Int32} (hl : pu_kindL l) (hn : pu_numL l) (h68 : l ≠ 68) : ∀ (t k N : Nat), t + k = pu_manyL l → t < N → f_Mo_set_l131 N l (Int32.ofNat k) (pu_Rg m 49 1 (m 46) k) mL = some (0, tm_up (pu_Rg m 49 1 (m 46) (pu_manyL l)) 49 0 (pu_kd l), mL) := by
  have hm4 := pu_many4 l
  intro t
  induction t with
  | zero =>
    intro k N hk hN
    obtain ⟨N, rfl⟩ : ∃ n', N = n' + 1 := ⟨N - 1, by omega⟩
    have : k = pu_manyL l := by omega
    subst this
    rw [f_Mo_set_l131, pu_mo_numbers hn, pu_b_some, if_pos (by simp (disch := omega) only [pu_n_lit, pu_n_add, pu_n_mul, pu_n_sub, pu_n_div, pu_n_nat, pu_q_ltT, pu_q_ltF, pu_q_leT, pu_q_leF, pu_q_eqT, pu_q_eqF, pu_n_lt, pu_n_le, pu_n_eq, pu_p_ltT, pu_p_ltF, pu_p_leT, pu_p_leF, not_true_eq_false, not_false_eq_true, or_false, false_or, or_true, true_or, and_true, true_and, and_false, false_and, ↓reduceIte, pu_b_some]), if_pos h68]
    simp only []
    rw [pu_mo_kindOf hl, pu_b_some]
    unfold f_Mo_set_b204 f_Mo_set_b205
    rw [if_pos (by decide), pu_tn0]
  | succ t ih =>
    intro k N hk hN
    obtain ⟨N, rfl⟩ : ∃ n', N = n' + 1 := ⟨N - 1, by omega⟩
    have e1 : (1 : Int32) + Int32.ofNat k = Int32.ofNat (1 + k) := by rw [pu_n_lit 1, pu_n_add]
    rw [f_Mo_set_l131, pu_mo_numbers hn, pu_b_some, if_neg (by simp (disch := omega) only [pu_n_lit, pu_n_add, pu_n_mul, pu_n_sub, pu_n_div, pu_n_nat, pu_q_ltT, pu_q_ltF, pu_q_leT, pu_q_leF, pu_q_eqT, pu_q_eqF, pu_n_lt, pu_n_le, pu_n_eq, pu_p_ltT, pu_p_ltF, pu_p_leT, pu_p_leF, not_true_eq_false, not_false_eq_true, or_false, false_or, or_true, true_or, and_true, true_and, and_false, false_and, ↓reduceIte, pu_b_some]), if_pos h68, if_pos (pu_n_in (by omega) (by omega)), e1, if_pos (pu_n_in (by omega) (by omega)), pu_n_nat (by omega), pu_n_nat (by omega)]
    unfold f_Mo_set_b174
    simp only []
    rw [pu_Rg_o (show 46 ≠ 49 by decide), pu_Rg_s, pu_n_lit 1, pu_n_add]
    exact ih (k + 1) N (by omega) (by omega)
theorem pu_mob_kind {l : Int32} (hk : pu_kindL l) (h : pu_RM (pu_onL s cs) T m) (hv : pu_agn (pu_manyL l) (m 46) vs) (ho : s.opn = true) : pu_MOut (f_Mo_obey l m mL) T m mL (pu_Sp.mk_ (pu_onL s cs).d (pu_onL s cs).lv (pu_onL s cs).outer (pu_onL s cs).cmds (pu_onL s cs).F (pu_onL s cs).V (pu_onL s cs).opn (pu_onL s cs).w (pu_onL s cs).h (pu_onL s cs).hx (pu_onL s cs).hy (pu_onL s cs).cp (pu_onL s cs).tx (l) (pu_onL s cs).fx (pu_onL s cs).fy (pu_onL s cs).t (pu_onL s cs).cnt (pu_onL s cs).sp (pu_onL s cs).D (vs) (pu_onL s cs).fs (pu_onL s cs).os (pu_onL s cs).ls) := by
  have hm4 := pu_many4 l
  have ne : l ≠ 59 ∧ l ≠ 69 ∧ l ≠ 75 ∧ l ≠ 76 ∧ l ≠ 83 ∧ l ≠ 85 ∧ l ≠ 86 ∧ l ≠ 88 ∧ l ≠ 35 ∧ l ≠ 67 ∧ l ≠ 68 ∧ l ≠ 72 ∧ l ≠ 79 ∧ l ≠ 82 := by
    rcases hk with rfl | rfl | rfl | rfl | rfl | rfl | rfl | rfl | rfl <;> decide
  obtain ⟨n1, n2, n3, n4, n5, n6, n7, n8, n9, n10, n11, n12, n13, n14⟩ := ne
  have hn : pu_numL l := by unfold pu_numL; rcases hk with rfl | rfl | rfl | rfl | rfl | rfl | rfl | rfl | rfl <;> decide
  have e : f_Mo_obey l m mL = some (0, tm_up (pu_Rg m 49 1 (m 46) (pu_manyL l)) 49 0 (pu_kd l), mL) := by
    rw [pu_mob_set n1 n2 n3 n4 n5 n6 n7 n8]
    unfold f_Mo_set f_Mo_set_b0
    have := pu_set_K (m := m) (mL := mL) hk hn n11 (pu_manyL l) 0 tm_F (by omega) (by unfold tm_F; omega)
    rw [pu_Rg_0, show Int32.ofNat 0 = (0 : Int32) from rfl] at this
    rw [if_pos n12, if_pos n10, if_pos n13, if_pos n14, if_pos n9, this, pu_b_some]
  obtain ⟨L, F0⟩ := h.lab ho
  have o1 : ∀ a, a ≠ 49 → tm_up (pu_Rg m 49 1 (m 46) (pu_manyL l)) 49 0 (pu_kd l) a = m a := fun a ha => by rw [pu_tm_up_c ha, pu_Rg_o ha]
  have o2 : ∀ b, 5 ≤ b → tm_up (pu_Rg m 49 1 (m 46) (pu_manyL l)) 49 0 (pu_kd l) 49 b = m 49 b := fun b hb => by rw [tm_up_k (by omega), pu_Rg_out (by omega)]
  refine pu_MOut.lab h e (fun a _ _ a1 _ => o1 a a1) (fun b hb => by rw [o1 39 (by decide)]) rfl rfl rfl rfl rfl rfl rfl rfl rfl rfl (fun _ => ⟨L.fr (o1 39 (by decide)) (o1 48 (by decide)) (o1 50 (by decide)) (o1 52 (by decide)) rfl rfl rfl rfl rfl rfl rfl, ?_⟩)
  exact ⟨tm_up_eq _ _ _ _, fun _ i hi => by rw [tm_up_k (by omega), pu_Rg_in hi]; exact hv i hi, by rw [o2 5 (by omega)]; exact F0.x, by rw [o2 6 (by omega)]; exact F0.y, by rw [o2 7 (by omega)]; exact F0.t, by rw [o2 8 (by omega)]; exact F0.cn, by rw [o2 9 (by omega)]; exact F0.sp, by rw [o2 10 (by omega)]; exact F0.n, by rw [o1 51 (by decide)]; exact F0.D⟩
end MOB
section MOB2
variable {s : pu_Sp} {cs dd T : List Int32} {m : tm_I} {mL : tm_L} {vs : Nat → Int32}
theorem pu_sd_X {g : Nat → Int32} : ∀ (t k N : Nat) (x2 : Int32), t + k = 200 → t < N → f_Mo_storeData_l54 N 88 x2 (Int32.ofNat k) (pu_Rg m 51 0 (m 47) k) mL = some (0, pu_Rg m 51 0 (m 47) 200, mL) := by
  intro t
  induction t with
  | zero =>
    intro k N x2 hk hN
    obtain ⟨N, rfl⟩ : ∃ n', N = n' + 1 := ⟨N - 1, by omega⟩
    have : k = 200 := by omega
    subst this
    rw [f_Mo_storeData_l54, if_pos (by simp (disch := omega) only [pu_n_lit, pu_n_add, pu_n_mul, pu_n_sub, pu_n_div, pu_n_nat, pu_q_ltT, pu_q_ltF, pu_q_leT, pu_q_leF, pu_q_eqT, pu_q_eqF, pu_n_lt, pu_n_le, pu_n_eq, pu_p_ltT, pu_p_ltF, pu_p_leT, pu_p_leF, not_true_eq_false, not_false_eq_true, or_false, false_or, or_true, true_or, and_true, true_and, and_false, false_and, ↓reduceIte, pu_b_some])]
  | succ t ih =>
    intro k N x2 hk hN
    obtain ⟨N, rfl⟩ : ∃ n', N = n' + 1 := ⟨N - 1, by omega⟩
    rw [f_Mo_storeData_l54, if_neg (by simp (disch := omega) only [pu_n_lit, pu_n_add, pu_n_mul, pu_n_sub, pu_n_div, pu_n_nat, pu_q_ltT, pu_q_ltF, pu_q_leT, pu_q_leF, pu_q_eqT, pu_q_eqF, pu_n_lt, pu_n_le, pu_n_eq, pu_p_ltT, pu_p_ltF, pu_p_leT, pu_p_leF, not_true_eq_false, not_false_eq_true, or_false, false_or, or_true, true_or, and_true, true_and, and_false, false_and, ↓reduceIte, pu_b_some]), if_pos (by decide), if_neg (by decide), if_pos (pu_n_in (by omega) (by omega))]
    unfold f_Mo_storeData_b120 f_Mo_storeData_b121
    have e := pu_Rg_s (m := m) (o := 51) (base := 0) (k := k) (g := m 47)
    rw [Nat.zero_add] at e
    rw [if_pos (pu_n_in (by omega) (by omega)), pu_n_nat (by omega), pu_Rg_o (show 47 ≠ 51 by decide), e, pu_n_lit 1, pu_n_add]
    exact ih (k + 1) N x2 (by omega) (by omega)
theorem pu_sd_V {v : Nat} (hv : v < 10) : ∀ (t k N : Nat), t + k = 200 → t < N → f_Mo_storeData_l54 N 86 (Int32.ofNat v) (Int32.ofNat k) (pu_Rg m 51 0 (fun i => m 43 (200 * v + i)) k) mL = some (0, pu_Rg m 51 0 (fun i => m 43 (200 * v + i)) 200, mL) := by
  intro t
  induction t with
  | zero =>
    intro k N hk hN
    obtain ⟨N, rfl⟩ : ∃ n', N = n' + 1 := ⟨N - 1, by omega⟩
    have : k = 200 := by omega
    subst this
    rw [f_Mo_storeData_l54, if_pos (by simp (disch := omega) only [pu_n_lit, pu_n_add, pu_n_mul, pu_n_sub, pu_n_div, pu_n_nat, pu_q_ltT, pu_q_ltF, pu_q_leT, pu_q_leF, pu_q_eqT, pu_q_eqF, pu_n_lt, pu_n_le, pu_n_eq, pu_p_ltT, pu_p_ltF, pu_p_leT, pu_p_leF, not_true_eq_false, not_false_eq_true, or_false, false_or, or_true, true_or, and_true, true_and, and_false, false_and, ↓reduceIte, pu_b_some])]
  | succ t ih =>
    intro k N hk hN
    obtain ⟨N, rfl⟩ : ∃ n', N = n' + 1 := ⟨N - 1, by omega⟩
    have e1 : (200 : Int32) * Int32.ofNat v + Int32.ofNat k = Int32.ofNat (200 * v + k) := by rw [pu_n_lit 200, pu_n_mul, pu_n_add]
    rw [f_Mo_storeData_l54, if_neg (by simp (disch := omega) only [pu_n_lit, pu_n_add, pu_n_mul, pu_n_sub, pu_n_div, pu_n_nat, pu_q_ltT, pu_q_ltF, pu_q_leT, pu_q_leF, pu_q_eqT, pu_q_eqF, pu_n_lt, pu_n_le, pu_n_eq, pu_p_ltT, pu_p_ltF, pu_p_leT, pu_p_leF, not_true_eq_false, not_false_eq_true, or_false, false_or, or_true, true_or, and_true, true_and, and_false, false_and, ↓reduceIte, pu_b_some]), if_pos (by decide), if_pos (by decide), e1, if_pos (pu_n_in (by omega) (by omega))]
    unfold f_Mo_storeData_b120 f_Mo_storeData_b121
    have e := pu_Rg_s (m := m) (o := 51) (base := 0) (k := k) (g := fun i => m 43 (200 * v + i))
    rw [Nat.zero_add] at e
    rw [if_pos (pu_n_in (by omega) (by omega)), pu_n_nat (by omega), pu_n_nat (by omega), pu_Rg_o (show 43 ≠ 51 by decide), e, pu_n_lit 1, pu_n_add]
    exact ih (k + 1) N (by omega) (by omega)
theorem pu_sd_K {v : Nat} (hv : v < 10) : ∀ (t k N : Nat), t + k = 200 → t < N → f_Mo_storeData_l54 N 75 (Int32.ofNat v) (Int32.ofNat k) (pu_Rg m 43 (200 * v) (m 47) k) mL = some (0, pu_Rg m 43 (200 * v) (m 47) 200, mL) := by
  intro t
  induction t with
  | zero =>
    intro k N hk hN
    obtain ⟨N, rfl⟩ : ∃ n', N = n' + 1 := ⟨N - 1, by omega⟩
    have : k = 200 := by omega
    subst this
    rw [f_Mo_storeData_l54, if_pos (by simp (disch := omega) only [pu_n_lit, pu_n_add, pu_n_mul, pu_n_sub, pu_n_div, pu_n_nat, pu_q_ltT, pu_q_ltF, pu_q_leT, pu_q_leF, pu_q_eqT, pu_q_eqF, pu_n_lt, pu_n_le, pu_n_eq, pu_p_ltT, pu_p_ltF, pu_p_leT, pu_p_leF, not_true_eq_false, not_false_eq_true, or_false, false_or, or_true, true_or, and_true, true_and, and_false, false_and, ↓reduceIte, pu_b_some])]
  | succ t ih =>
    intro k N hk hN
    obtain ⟨N, rfl⟩ : ∃ n', N = n' + 1 := ⟨N - 1, by omega⟩
    have e1 : (200 : Int32) * Int32.ofNat v + Int32.ofNat k = Int32.ofNat (200 * v + k) := by rw [pu_n_lit 200, pu_n_mul, pu_n_add]
    rw [f_Mo_storeData_l54, if_neg (by simp (disch := omega) only [pu_n_lit, pu_n_add, pu_n_mul, pu_n_sub, pu_n_div, pu_n_nat, pu_q_ltT, pu_q_ltF, pu_q_leT, pu_q_leF, pu_q_eqT, pu_q_eqF, pu_n_lt, pu_n_le, pu_n_eq, pu_p_ltT, pu_p_ltF, pu_p_leT, pu_p_leF, not_true_eq_false, not_false_eq_true, or_false, false_or, or_true, true_or, and_true, true_and, and_false, false_and, ↓reduceIte, pu_b_some]), if_neg (by decide), if_pos (pu_n_in (by omega) (by omega)), e1, if_pos (pu_n_in (by omega) (by omega)), pu_n_nat (by omega), pu_n_nat (by omega)]
    unfold f_Mo_storeData_b121
    rw [pu_Rg_o (show 47 ≠ 43 by decide), pu_Rg_s, pu_n_lit 1, pu_n_add]
    exact ih (k + 1) N (by omega) (by omega)
theorem pu_mob_X (h : pu_RM (pu_onL s cs) T m) (ho : s.opn = true) (h17 : m 39 17 = Int32.ofNat dd.length) (h47 : ∀ i, i < dd.length → m 47 i = dd[i]?.getD (-1)) (hl : dd.length ≤ 200) : pu_MOut (f_Mo_obey 88 m mL) T m mL (pu_Sp.mk_ (pu_onL s cs).d (pu_onL s cs).lv (pu_onL s cs).outer (pu_onL s cs).cmds (pu_onL s cs).F (pu_onL s cs).V (pu_onL s cs).opn (pu_onL s cs).w (pu_onL s cs).h (pu_onL s cs).hx (pu_onL s cs).hy (pu_onL s cs).cp (pu_onL s cs).tx (pu_onL s cs).lt (pu_onL s cs).fx (pu_onL s cs).fy (pu_onL s cs).t (pu_onL s cs).cnt (pu_onL s cs).sp (dd) (pu_onL s cs).sh (pu_onL s cs).fs (pu_onL s cs).os (pu_onL s cs).ls) := by
  generalize hm1 : tm_up m 49 10 (Int32.ofNat dd.length) = m1
  have e : f_Mo_obey 88 m mL = some (0, pu_Rg m1 51 0 (m1 47) 200, mL) := by
    unfold f_Mo_obey f_Mo_obey_b0 f_Mo_obey_b143 f_Mo_obey_b207 f_Mo_storeData f_Mo_storeData_b0 f_Mo_storeData_b51 f_Mo_storeData_b52
    have := pu_sd_X (m := m1) (mL := mL) (g := m 47) 200 0 tm_F (m 46 0) (by omega) (by decide)
    rw [pu_Rg_0, show Int32.ofNat 0 = (0 : Int32) from rfl] at this
    rw [if_neg (by decide), if_neg (by decide), if_neg (by decide), if_neg (by decide), if_neg (by decide), if_neg (by decide), if_neg (by decide), if_pos rfl, if_pos (by decide), if_pos (by decide), if_neg (by decide), if_pos (by decide), h17, pu_tn0, show Int32.toNatClampNeg (10 : Int32) = 10 from rfl, hm1, this, pu_b_some]
  obtain ⟨L, F0⟩ := h.lab ho
  have o1 : ∀ a, a ≠ 49 → a ≠ 51 → pu_Rg m1 51 0 (m1 47) 200 a = m a := fun a a1 a2 => by rw [pu_Rg_o a2, ← hm1, pu_tm_up_c a1]
  have o49 : ∀ b, b ≠ 10 → pu_Rg m1 51 0 (m1 47) 200 49 b = m 49 b := fun b hb => by rw [pu_Rg_o (by decide), ← hm1, tm_up_k hb]
  refine pu_MOut.lab h e (fun a _ _ a1 a2 => o1 a a1 a2) (fun b hb => by rw [o1 39 (by decide) (by decide)]) rfl rfl rfl rfl rfl rfl rfl rfl rfl rfl (fun _ => ⟨L.fr (o1 39 (by decide) (by decide)) (o1 48 (by decide) (by decide)) (o1 50 (by decide) (by decide)) (o1 52 (by decide) (by decide)) rfl rfl rfl rfl rfl rfl rfl, ?_⟩)
  exact ⟨by rw [o49 0 (by decide)]; exact F0.k, fun q i hi => by
    have := pu_many4 s.lt
    have hi : i < pu_manyL s.lt := hi
    rw [o49 _ (by omega)]; exact F0.sh q i hi, by rw [o49 5 (by decide)]; exact F0.x, by rw [o49 6 (by decide)]; exact F0.y, by rw [o49 7 (by decide)]; exact F0.t, by rw [o49 8 (by decide)]; exact F0.cn, by rw [o49 9 (by decide)]; exact F0.sp, by rw [pu_Rg_o (by decide), ← hm1, tm_up_eq], fun i hi => by
    have hi : i < dd.length := hi
    have := pu_Rg_in (m := m1) (o := 51) (base := 0) (k := 200) (j := i) (g := m1 47) (by omega)
    rw [Nat.zero_add] at this
    rw [this, ← hm1, tm_up_o (by decide)]; exact h47 i hi⟩
theorem pu_mob_V (h : pu_RM (pu_onL s cs) T m) (hv : pu_agn 1 (m 46) vs) (n : pu_NumOK 86 vs) (ho : s.opn = true) : pu_MOut (f_Mo_obey 86 m mL) T m mL (pu_Sp.mk_ (pu_onL s cs).d (pu_onL s cs).lv (pu_onL s cs).outer (pu_onL s cs).cmds (pu_onL s cs).F (pu_onL s cs).V (pu_onL s cs).opn (pu_onL s cs).w (pu_onL s cs).h (pu_onL s cs).hx (pu_onL s cs).hy (pu_onL s cs).cp (pu_onL s cs).tx (pu_onL s cs).lt (pu_onL s cs).fx (pu_onL s cs).fy (pu_onL s cs).t (pu_onL s cs).cnt (pu_onL s cs).sp (s.V (vs 0).toNatClampNeg) (pu_onL s cs).sh (pu_onL s cs).fs (pu_onL s cs).os (pu_onL s cs).ls) := by
  obtain ⟨k, k1, k2⟩ := n.v (Or.inr rfl)
  have ek : (vs 0).toNatClampNeg = k := by rw [k2, pu_n_nat (by omega)]
  obtain ⟨v1, v2⟩ := h.k.vn k k1
  have v1 : m 44 k = Int32.ofNat (s.V k).length := v1
  have v2 : (s.V k).length ≤ 200 := v2
  have v3 : ∀ i, i < (s.V k).length → m 43 (200 * k + i) = (s.V k)[i]?.getD (-1) := h.k.vx k k1
  rw [ek]
  generalize hm1 : tm_up m 49 10 (Int32.ofNat (s.V k).length) = m1
  have e : f_Mo_obey 86 m mL = some (0, pu_Rg m1 51 0 (fun i => m1 43 (200 * k + i)) 200, mL) := by
    unfold f_Mo_obey f_Mo_obey_b0 f_Mo_obey_b143 f_Mo_obey_b207 f_Mo_storeData f_Mo_storeData_b0 f_Mo_storeData_b51 f_Mo_storeData_b52
    have := pu_sd_V (m := m1) (mL := mL) k1 200 0 tm_F (by omega) (by decide)
    rw [pu_Rg_0, show Int32.ofNat 0 = (0 : Int32) from rfl] at this
    rw [if_neg (by decide), if_neg (by decide), if_neg (by decide), if_neg (by decide), if_neg (by decide), if_neg (by decide), if_pos rfl, if_pos (by decide), if_pos (by decide), if_pos (by decide), pu_tn0, hv 0 (by decide), k2, if_pos (pu_n_in (by omega) (by omega)), pu_n_nat (by omega), if_pos (by decide), v1, show Int32.toNatClampNeg (10 : Int32) = 10 from rfl, hm1, this, pu_b_some]
  obtain ⟨L, F0⟩ := h.lab ho
  have o1 : ∀ a, a ≠ 49 → a ≠ 51 → pu_Rg m1 51 0 (fun i => m1 43 (200 * k + i)) 200 a = m a := fun a a1 a2 => by rw [pu_Rg_o a2, ← hm1, pu_tm_up_c a1]
  have o49 : ∀ b, b ≠ 10 → pu_Rg m1 51 0 (fun i => m1 43 (200 * k + i)) 200 49 b = m 49 b := fun b hb => by rw [pu_Rg_o (by decide), ← hm1, tm_up_k hb]
  refine pu_MOut.lab h e (fun a _ _ a1 a2 => o1 a a1 a2) (fun b hb => by rw [o1 39 (by decide) (by decide)]) rfl rfl rfl rfl rfl rfl rfl rfl rfl rfl (fun _ => ⟨L.fr (o1 39 (by decide) (by decide)) (o1 48 (by decide) (by decide)) (o1 50 (by decide) (by decide)) (o1 52 (by decide) (by decide)) rfl rfl rfl rfl rfl rfl rfl, ?_⟩)
  exact ⟨by rw [o49 0 (by decide)]; exact F0.k, fun q i hi => by
    have := pu_many4 s.lt
    have hi : i < pu_manyL s.lt := hi
    rw [o49 _ (by omega)]; exact F0.sh q i hi, by rw [o49 5 (by decide)]; exact F0.x, by rw [o49 6 (by decide)]; exact F0.y, by rw [o49 7 (by decide)]; exact F0.t, by rw [o49 8 (by decide)]; exact F0.cn, by rw [o49 9 (by decide)]; exact F0.sp, by rw [pu_Rg_o (by decide), ← hm1, tm_up_eq], fun i hi => by
    have hi : i < (s.V k).length := hi
    have := pu_Rg_in (m := m1) (o := 51) (base := 0) (k := 200) (j := i) (g := fun i => m1 43 (200 * k + i)) (by omega)
    rw [Nat.zero_add] at this
    rw [this, ← hm1, tm_up_o (by decide)]; exact v3 i hi⟩
theorem pu_mob_K (h : pu_RM (pu_onL s cs) T m) (hv : pu_agn 1 (m 46) vs) (n : pu_NumOK 75 vs) (h17 : m 39 17 = Int32.ofNat dd.length) (h47 : ∀ i, i < dd.length → m 47 i = dd[i]?.getD (-1)) (hl : dd.length ≤ 200) : pu_MOut (f_Mo_obey 75 m mL) T m mL (pu_Sp.mk_ (pu_onL s cs).d (pu_onL s cs).lv (pu_onL s cs).outer (pu_onL s cs).cmds (pu_onL s cs).F (pu_fl s.V (vs 0).toNatClampNeg dd) (pu_onL s cs).opn (pu_onL s cs).w (pu_onL s cs).h (pu_onL s cs).hx (pu_onL s cs).hy (pu_onL s cs).cp (pu_onL s cs).tx (pu_onL s cs).lt (pu_onL s cs).fx (pu_onL s cs).fy (pu_onL s cs).t (pu_onL s cs).cnt (pu_onL s cs).sp (pu_onL s cs).D (pu_onL s cs).sh (pu_onL s cs).fs (pu_onL s cs).os (pu_onL s cs).ls) := by
  obtain ⟨k, k1, k2⟩ := n.v (Or.inl rfl)
  have ek : (vs 0).toNatClampNeg = k := by rw [k2, pu_n_nat (by omega)]
  rw [ek]
  generalize hm1 : tm_up m 44 k (Int32.ofNat dd.length) = m1
  have e : f_Mo_obey 75 m mL = some (0, pu_Rg m1 43 (200 * k) (m1 47) 200, mL) := by
    unfold f_Mo_obey f_Mo_obey_b0 f_Mo_obey_b143 f_Mo_obey_b207 f_Mo_storeData f_Mo_storeData_b0 f_Mo_storeData_b52
    have := pu_sd_K (m := m1) (mL := mL) k1 200 0 tm_F (by omega) (by decide)
    rw [pu_Rg_0, show Int32.ofNat 0 = (0 : Int32) from rfl] at this
    rw [if_neg (by decide), if_neg (by decide), if_pos rfl, if_pos (by decide), if_neg (by decide), pu_tn0, hv 0 (by decide), k2, if_pos (pu_n_in (by omega) (by omega)), pu_n_nat (by omega), h17, hm1, this, pu_b_some]
  have o1 : ∀ a, a ≠ 43 → a ≠ 44 → pu_Rg m1 43 (200 * k) (m1 47) 200 a = m a := fun a a1 a2 => by rw [pu_Rg_o a1, ← hm1, pu_tm_up_c a2]
  have e39 : pu_Rg m1 43 (200 * k) (m1 47) 200 39 = m 39 := o1 39 (by decide) (by decide)
  refine ⟨_, e, ⟨⟨by rw [e39]; exact h.k.tn, h.k.tl, by rw [o1 40 (by decide) (by decide)]; exact h.k.tx, by rw [o1 42 (by decide) (by decide)]; exact h.k.fn, by rw [o1 41 (by decide) (by decide)]; exact h.k.fx, fun i hi => ?_, fun i hi j hj => ?_⟩, h.st.fr (o1 45 (by decide) (by decide)), by rw [e39]; exact h.l8, by rw [e39]; exact h.dep, by rw [e39]; exact h.out, by rw [e39]; exact h.cm, by rw [e39]; exact h.op, by rw [e39]; exact h.n35, by rw [e39]; exact h.n37, by rw [o1 54 (by decide) (by decide)]; exact h.lb, fun K hK => ⟨by rw [o1 55 (by decide) (by decide)]; exact (h.od K hK).row, by rw [o1 56 (by decide) (by decide)]; exact (h.od K hK).dat⟩, by rw [e39]; exact h.w32, fun ho => ⟨pu_LabM.fr (s := pu_onL s cs) (h.lab ho).1 e39 (o1 48 (by decide) (by decide)) (o1 50 (by decide) (by decide)) (o1 52 (by decide) (by decide)) rfl rfl rfl rfl rfl rfl rfl, pu_FldM.fr (s := pu_onL s cs) (h.lab ho).2 (o1 49 (by decide) (by decide)) (o1 51 (by decide) (by decide)) rfl rfl rfl rfl rfl rfl rfl rfl⟩⟩, fun a ha => o1 a (by omega) (by omega), by rw [e39], by rw [e39]⟩
  · show pu_Rg m1 43 (200 * k) (m1 47) 200 44 i = Int32.ofNat (pu_fl s.V k dd i).length ∧ (pu_fl s.V k dd i).length ≤ 200
    rw [pu_Rg_o (by decide), ← hm1]
    unfold pu_fl
    by_cases q : i = k
    · subst q; rw [if_pos rfl, tm_up_eq]; exact ⟨rfl, hl⟩
    · rw [if_neg q, tm_up_k q]; exact h.k.vn i hi
  · have hj : j < (pu_fl s.V k dd i).length := hj
    show pu_Rg m1 43 (200 * k) (m1 47) 200 43 (200 * i + j) = (pu_fl s.V k dd i)[j]?.getD (-1)
    unfold pu_fl at hj ⊢
    by_cases q : i = k
    · subst q
      rw [if_pos rfl] at hj ⊢
      rw [pu_Rg_in (by omega), ← hm1, tm_up_o (by decide)]; exact h47 j hj
    · rw [if_neg q] at hj ⊢
      have := (h.k.vn i hi).2
      have this : (s.V i).length ≤ 200 := this
      rw [pu_Rg_out (by omega), ← hm1, tm_up_o (by decide)]; exact h.k.vx i hi j hj
end MOB2
