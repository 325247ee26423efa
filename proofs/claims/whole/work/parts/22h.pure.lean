def pu_NumOK (l : Int32) (vs : Nat → Int32) : Prop := (l = 83 ∨ l = 85 → ∃ k, k < 8 ∧ vs 0 = Int32.ofNat k) ∧ (l = 75 ∨ l = 86 → ∃ k, k < 10 ∧ vs 0 = Int32.ofNat k) ∧ (l = 67 → ∃ n, 1 ≤ n ∧ n ≤ 12 ∧ vs 0 = Int32.ofNat n) ∧ (l = 35 → -99 ≤ (vs 0).toInt ∧ (vs 0).toInt ≤ 99) ∧ (l = 87 → ∃ n, 1 ≤ n ∧ n ≤ 99 ∧ vs 0 = Int32.ofNat n) ∧ (l = 80 → ∃ n, 1 ≤ n ∧ n ≤ 1024 ∧ vs 0 = Int32.ofNat n) ∧ (l = 70 ∨ l = 73 ∨ l = 71 ∨ l = 80 → vs 3 = 0) ∧ (l = 80 → vs 1 = 0 ∧ vs 2 = 0)
theorem pu_NumOK.f {l : Int32} {vs : Nat → Int32} (h_ : pu_NumOK l vs) : l = 83 ∨ l = 85 → ∃ k, k < 8 ∧ vs 0 = Int32.ofNat k := h_.1
theorem pu_NumOK.v {l : Int32} {vs : Nat → Int32} (h_ : pu_NumOK l vs) : l = 75 ∨ l = 86 → ∃ k, k < 10 ∧ vs 0 = Int32.ofNat k := h_.2.1
theorem pu_NumOK.c {l : Int32} {vs : Nat → Int32} (h_ : pu_NumOK l vs) : l = 67 → ∃ n, 1 ≤ n ∧ n ≤ 12 ∧ vs 0 = Int32.ofNat n := h_.2.2.1
theorem pu_NumOK.n {l : Int32} {vs : Nat → Int32} (h_ : pu_NumOK l vs) : l = 35 → -99 ≤ (vs 0).toInt ∧ (vs 0).toInt ≤ 99 := h_.2.2.2.1
theorem pu_NumOK.w {l : Int32} {vs : Nat → Int32} (h_ : pu_NumOK l vs) : l = 87 → ∃ n, 1 ≤ n ∧ n ≤ 99 ∧ vs 0 = Int32.ofNat n := h_.2.2.2.2.1
theorem pu_NumOK.p {l : Int32} {vs : Nat → Int32} (h_ : pu_NumOK l vs) : l = 80 → ∃ n, 1 ≤ n ∧ n ≤ 1024 ∧ vs 0 = Int32.ofNat n := h_.2.2.2.2.2.1
theorem pu_NumOK.z3 {l : Int32} {vs : Nat → Int32} (h_ : pu_NumOK l vs) : l = 70 ∨ l = 73 ∨ l = 71 ∨ l = 80 → vs 3 = 0 := h_.2.2.2.2.2.2.1
theorem pu_NumOK.z1 {l : Int32} {vs : Nat → Int32} (h_ : pu_NumOK l vs) : l = 80 → vs 1 = 0 ∧ vs 2 = 0 := h_.2.2.2.2.2.2.2
def pu_byteL (D : List Int32) : Prop := ∀ b ∈ D, ∃ n, n < 256 ∧ b = Int32.ofNat n
def pu_FdOK (R : pu_Fd) : Prop := (pu_WFd R) ∧ (pu_fitF R = true) ∧ (pu_okF R = true) ∧ (R.D.length ≤ 200) ∧ (pu_byteL R.D) ∧ (-99 ≤ R.sp.toInt) ∧ (R.sp.toInt ≤ 99)
theorem pu_FdOK.w {R : pu_Fd} (h_ : pu_FdOK R) : pu_WFd R := h_.1
theorem pu_FdOK.fit {R : pu_Fd} (h_ : pu_FdOK R) : pu_fitF R = true := h_.2.1
theorem pu_FdOK.ok {R : pu_Fd} (h_ : pu_FdOK R) : pu_okF R = true := h_.2.2.1
theorem pu_FdOK.len {R : pu_Fd} (h_ : pu_FdOK R) : R.D.length ≤ 200 := h_.2.2.2.1
theorem pu_FdOK.byt {R : pu_Fd} (h_ : pu_FdOK R) : pu_byteL R.D := h_.2.2.2.2.1
theorem pu_FdOK.s1 {R : pu_Fd} (h_ : pu_FdOK R) : -99 ≤ R.sp.toInt := h_.2.2.2.2.2.1
theorem pu_FdOK.s2 {R : pu_Fd} (h_ : pu_FdOK R) : R.sp.toInt ≤ 99 := h_.2.2.2.2.2.2
def pu_WS (s : pu_Sp) : Prop := (s.opn = true → 1 ≤ s.cp ∧ s.cp ≤ 12) ∧ (s.opn = true → s.lt ≠ -1 → pu_WFd (pu_recOf s)) ∧ (s.opn = true → -99 ≤ s.sp.toInt) ∧ (s.opn = true → s.sp.toInt ≤ 99) ∧ (s.opn = true → s.D.length ≤ 200) ∧ (s.opn = true → pu_byteL s.D) ∧ (∀ R ∈ s.fs, pu_FdOK R) ∧ (s.opn = false → s.fs = []) ∧ ((pu_opens s).length ≤ 120) ∧ (s.d ≤ 4) ∧ (0 < s.d → s.opn = true) ∧ (s.os.length ≤ 120) ∧ (s.ls.length ≤ 12) ∧ (∀ o ∈ s.os, pu_WO o)
theorem pu_WS.cp {s : pu_Sp} (h_ : pu_WS s) : s.opn = true → 1 ≤ s.cp ∧ s.cp ≤ 12 := h_.1
theorem pu_WS.k {s : pu_Sp} (h_ : pu_WS s) : s.opn = true → s.lt ≠ -1 → pu_WFd (pu_recOf s) := h_.2.1
theorem pu_WS.s1 {s : pu_Sp} (h_ : pu_WS s) : s.opn = true → -99 ≤ s.sp.toInt := h_.2.2.1
theorem pu_WS.s2 {s : pu_Sp} (h_ : pu_WS s) : s.opn = true → s.sp.toInt ≤ 99 := h_.2.2.2.1
theorem pu_WS.dl {s : pu_Sp} (h_ : pu_WS s) : s.opn = true → s.D.length ≤ 200 := h_.2.2.2.2.1
theorem pu_WS.db {s : pu_Sp} (h_ : pu_WS s) : s.opn = true → pu_byteL s.D := h_.2.2.2.2.2.1
theorem pu_WS.fs {s : pu_Sp} (h_ : pu_WS s) : ∀ R ∈ s.fs, pu_FdOK R := h_.2.2.2.2.2.2.1
theorem pu_WS.no {s : pu_Sp} (h_ : pu_WS s) : s.opn = false → s.fs = [] := h_.2.2.2.2.2.2.2.1
theorem pu_WS.n {s : pu_Sp} (h_ : pu_WS s) : (pu_opens s).length ≤ 120 := h_.2.2.2.2.2.2.2.2.1
theorem pu_WS.d4 {s : pu_Sp} (h_ : pu_WS s) : s.d ≤ 4 := h_.2.2.2.2.2.2.2.2.2.1
theorem pu_WS.do_ {s : pu_Sp} (h_ : pu_WS s) : 0 < s.d → s.opn = true := h_.2.2.2.2.2.2.2.2.2.2.1
theorem pu_WS.os {s : pu_Sp} (h_ : pu_WS s) : s.os.length ≤ 120 := h_.2.2.2.2.2.2.2.2.2.2.2.1
theorem pu_WS.ls {s : pu_Sp} (h_ : pu_WS s) : s.ls.length ≤ 12 := h_.2.2.2.2.2.2.2.2.2.2.2.2.1
theorem pu_WS.wo {s : pu_Sp} (h_ : pu_WS s) : ∀ o ∈ s.os, pu_WO o := h_.2.2.2.2.2.2.2.2.2.2.2.2.2
def pu_Out (r : Option (Int32 × tm_I × tm_L)) (s : pu_Sp) (T : List Int32) (m : tm_I) (res : Int32 ⊕ pu_Sp) : Prop :=
  ∃ c m' mL', r = some (c, m', mL') ∧ (∀ a, 39 ≤ a → m' a = m a) ∧ m' 0 = m 0 ∧
    match res with
    | .inl c' => c = c' ∧ c ≠ 0 ∧ pu_Keep s.F s.V T m' mL'
    | .inr s' => if 2000 ≤ s.cmds then (c = 0 ∨ c = 10) ∧ pu_Keep s.F s.V T m' mL' else c = 0 ∧ ∃ po fo, pu_RC s' T m' mL' po fo
theorem pu_RC.upd {s s' : pu_Sp} {T : List Int32} {m m' : tm_I} {mL mL' : tm_L} {po fo : Nat → Nat} (h : pu_RC s T m mL po fo) (q : ∀ a, a ≠ 19 → a ≠ 26 → a ≠ 28 → a ≠ 31 → a ≠ 33 → m' a = m a) (q2 : ∀ e, e ≠ 29 → mL' e = mL e) (h1 : s'.d = s.d) (h2 : s'.lv = s.lv) (h3 : s'.outer = s.outer) (h4 : s'.F = s.F) (h5 : s'.V = s.V) (h6 : s'.cmds = s.cmds) (h7 : s'.opn = s.opn) (h8 : s'.os = s.os) (h9 : s'.ls = s.ls) (h10 : s'.fs = s.fs) (op : m' 19 5 = m 19 5) (lab : s.opn = true → pu_RLab s' m' mL') : pu_RC s' T m' mL' po fo := by
  have D : ∀ {a}, a ≠ 19 → a ≠ 26 → a ≠ 28 → a ≠ 31 → a ≠ 33 → m' a = m a := fun {a} a1 a2 a3 a4 a5 => q a a1 a2 a3 a4 a5
  refine ⟨?_, ?_, ?_, ?_, ?_, fun ho => lab (by rw [← h7]; exact ho)⟩
  · rw [h4, h5]; exact h.k.fr (fun a ha => q a (by unfold pu_kpc at ha; omega) (by unfold pu_kpc at ha; omega) (by unfold pu_kpc at ha; omega) (by unfold pu_kpc at ha; omega) (by unfold pu_kpc at ha; omega)) (fun e he => q2 e (by omega))
  · rw [h1, h2, h3, h4]; exact h.scr.fr (D (by decide) (by decide) (by decide) (by decide) (by decide)) (D (by decide) (by decide) (by decide) (by decide) (by decide)) (D (by decide) (by decide) (by decide) (by decide) (by decide))
  · rw [h6, D (a := 0) (by decide) (by decide) (by decide) (by decide) (by decide)]; exact h.cm
  · rw [h7, op]; exact h.op
  · unfold pu_opens; rw [h8, h9, h10]
    exact h.res.fr (D (by decide) (by decide) (by decide) (by decide) (by decide)) (D (by decide) (by decide) (by decide) (by decide) (by decide)) (D (by decide) (by decide) (by decide) (by decide) (by decide)) (D (by decide) (by decide) (by decide) (by decide) (by decide)) (q2 25 (by decide))
theorem pu_Out.lab {s s' : pu_Sp} {cs T : List Int32} {m m' : tm_I} {mL mL' : tm_L} {po fo : Nat → Nat} {r : Option (Int32 × tm_I × tm_L)} (h : pu_RC (pu_onL s cs) T m mL po fo) (e : r = some (0, m', mL')) (q : ∀ a, a ≠ 19 → a ≠ 26 → a ≠ 28 → a ≠ 31 → a ≠ 33 → m' a = m a) (q2 : ∀ e, e ≠ 29 → mL' e = mL e) (h1 : s'.d = s.d) (h2 : s'.lv = pu_fl s.lv s.d cs) (h3 : s'.outer = s.outer) (h4 : s'.F = s.F) (h5 : s'.V = s.V) (h6 : s'.cmds = s.cmds) (h7 : s'.opn = s.opn) (h8 : s'.os = s.os) (h9 : s'.ls = s.ls) (h10 : s'.fs = s.fs) (op : m' 19 5 = m 19 5) (lab : s.opn = true → pu_RLab s' m' mL') : pu_Out r s T m (.inr s') := by
  have R := h.upd q q2 h1 h2 h3 h4 h5 h6 h7 h8 h9 h10 op lab
  refine ⟨0, m', mL', e, fun a ha => q a (by omega) (by omega) (by omega) (by omega) (by omega), by rw [q 0 (by decide) (by decide) (by decide) (by decide) (by decide)], ?_⟩
  show (if 2000 ≤ s.cmds then ((0 : Int32) = 0 ∨ (0 : Int32) = 10) ∧ pu_Keep s.F s.V T m' mL' else (0 : Int32) = 0 ∧ ∃ po fo, pu_RC s' T m' mL' po fo)
  split
  · refine ⟨Or.inl rfl, ?_⟩
    have := R.k; rw [h4, h5] at this; exact this
  · exact ⟨rfl, po, fo, R⟩
section OBEY
variable {s : pu_Sp} {cs dd T : List Int32} {m : tm_I} {mL : tm_L} {po fo : Nat → Nat} {vs : Nat → Int32} {at_ : Int32}
theorem pu_fg17 {i : Nat} (hi : i < 4) : f_Fo_get 17 (Int32.ofNat i) m mL = some (m 18 i, m, mL) := pu_fo_get rfl rfl hi
theorem pu_g17 (q18 : pu_ag4 (m 18) vs) : f_Fo_get 17 0 m mL = some (vs 0, m, mL) := by
  rw [← q18 0 (by decide)]; exact pu_fg17 (i := 0) (by decide)
theorem pu_ob_X (h : pu_RC (pu_onL s cs) T m mL po fo) (q18 : pu_ag4 (m 18) vs) (ho : s.opn = true) (hr : pu_Row (m 14) (mL 15) 25 0 dd) (hl : dd.length ≤ 200) : pu_Out (f_La_obey 88 at_ m mL) s T m (.inr (pu_Sp.mk_ (pu_onL s cs).d (pu_onL s cs).lv (pu_onL s cs).outer (pu_onL s cs).cmds (pu_onL s cs).F (pu_onL s cs).V (pu_onL s cs).opn (pu_onL s cs).w (pu_onL s cs).h (pu_onL s cs).hx (pu_onL s cs).hy (pu_onL s cs).cp (pu_onL s cs).tx (pu_onL s cs).lt (pu_onL s cs).fx (pu_onL s cs).fy (pu_onL s cs).t (pu_onL s cs).cnt (pu_onL s cs).sp (dd) (pu_onL s cs).sh (pu_onL s cs).fs (pu_onL s cs).os (pu_onL s cs).ls)) := by
  have e : f_La_obey 88 at_ m mL = some (0, tm_up m 28 0 (Int32.ofNat dd.length), tm_cpy mL 15 29 (0 * 25) (0 * 25) ((dd.length + 7) / 8)) := by
    unfold f_La_obey f_La_obey_b0
    rw [pu_g17 q18, pu_b_some]
    simp only [show ((88 : Int32) = 59) = False by decide, show ((88 : Int32) = 69) = False by decide, show ((88 : Int32) = 75) = False by decide, show ((88 : Int32) = 76) = False by decide, show ((88 : Int32) = 83) = False by decide, show ((88 : Int32) = 85) = False by decide, show ((88 : Int32) = 86) = False by decide, if_false, if_true]
    rw [pu_co_27_13 hl hr h.k.f0 h.k.f1 h.k.d1, pu_b_some]
  have L := h.lab ho
  refine pu_Out.lab h e (fun a _ _ a3 _ _ => pu_tm_up_c a3) (fun e he => pu_tm_cpy_ne he) rfl rfl rfl rfl rfl rfl rfl rfl rfl rfl (tm_up_o (by decide)) (fun _ => ?_)
  unfold pu_RLab at *
  rw [pu_tm_up_c (show 19 ≠ 28 by decide), pu_tm_up_c (show 26 ≠ 28 by decide), pu_tm_up_c (show 31 ≠ 28 by decide), pu_tm_up_c (show 33 ≠ 28 by decide)]
  obtain ⟨l1, l2, l3, l4, l5, l6, l7, l8, l9, l10, l11, l12, l13, l14⟩ := L
  exact ⟨l1, l2, l3, l4, l5, l6, l7, l8, l9, l10, l11, l12, hr.cpy (tm_up_eq _ _ _ _), l14⟩
theorem pu_ob_V (h : pu_RC (pu_onL s cs) T m mL po fo) (q18 : pu_ag4 (m 18) vs) (n : pu_NumOK 86 vs) (ho : s.opn = true) : pu_Out (f_La_obey 86 at_ m mL) s T m (.inr (pu_Sp.mk_ (pu_onL s cs).d (pu_onL s cs).lv (pu_onL s cs).outer (pu_onL s cs).cmds (pu_onL s cs).F (pu_onL s cs).V (pu_onL s cs).opn (pu_onL s cs).w (pu_onL s cs).h (pu_onL s cs).hx (pu_onL s cs).hy (pu_onL s cs).cp (pu_onL s cs).tx (pu_onL s cs).lt (pu_onL s cs).fx (pu_onL s cs).fy (pu_onL s cs).t (pu_onL s cs).cnt (pu_onL s cs).sp (s.V (vs 0).toNatClampNeg) (pu_onL s cs).sh (pu_onL s cs).fs (pu_onL s cs).os (pu_onL s cs).ls)) := by
  obtain ⟨k, k1, k2⟩ := n.v (Or.inr rfl)
  obtain ⟨v1, v2⟩ := h.k.vr k k1
  have v1 : pu_Row (m 11) (mL 12) 25 k (s.V k) := v1
  have v2 : (s.V k).length ≤ 200 := v2
  have ek : (vs 0).toNatClampNeg = k := by rw [k2, pu_n_nat (by omega)]
  have e : f_La_obey 86 at_ m mL = some (0, tm_up m 28 0 (Int32.ofNat (s.V k).length), tm_cpy mL 12 29 (k * 25) (0 * 25) (((s.V k).length + 7) / 8)) := by
    unfold f_La_obey f_La_obey_b0
    rw [pu_g17 q18, pu_b_some]
    simp only [show ((86 : Int32) = 59) = False by decide, show ((86 : Int32) = 69) = False by decide, show ((86 : Int32) = 75) = False by decide, show ((86 : Int32) = 76) = False by decide, show ((86 : Int32) = 83) = False by decide, show ((86 : Int32) = 85) = False by decide, if_false, if_true]
    rw [k2, pu_co_27_10 v2 k1 v1 h.k.f0 h.k.f1 h.k.c1, pu_b_some]
  have L := h.lab ho
  rw [ek]
  refine pu_Out.lab h e (fun a _ _ a3 _ _ => pu_tm_up_c a3) (fun e he => pu_tm_cpy_ne he) rfl rfl rfl rfl rfl rfl rfl rfl rfl rfl (tm_up_o (by decide)) (fun _ => ?_)
  unfold pu_RLab at *
  rw [pu_tm_up_c (show 19 ≠ 28 by decide), pu_tm_up_c (show 26 ≠ 28 by decide), pu_tm_up_c (show 31 ≠ 28 by decide), pu_tm_up_c (show 33 ≠ 28 by decide)]
  obtain ⟨l1, l2, l3, l4, l5, l6, l7, l8, l9, l10, l11, l12, l13, l14⟩ := L
  exact ⟨l1, l2, l3, l4, l5, l6, l7, l8, l9, l10, l11, l12, v1.cpy (tm_up_eq _ _ _ _), l14⟩
theorem pu_ob_set (l : Int32) (q18 : pu_ag4 (m 18) vs) (h1 : l ≠ 59) (h2 : l ≠ 69) (h3 : l ≠ 75) (h4 : l ≠ 76) (h5 : l ≠ 83) (h6 : l ≠ 85) (h7 : l ≠ 86) (h8 : l ≠ 88) : f_La_obey l at_ m mL = (f_Pr_settle l m mL).bind fun v1 => some (0, v1.2.1, v1.2.2) := by
  unfold f_La_obey f_La_obey_b0
  rw [pu_g17 q18, pu_b_some]
  simp only []
  rw [if_neg h1, if_neg h2, if_neg h3, if_neg h4, if_neg h5, if_neg h6, if_neg h7, if_neg h8]
  rfl
theorem pu_ob_H (h : pu_RC (pu_onL s cs) T m mL po fo) (q18 : pu_ag4 (m 18) vs) (ho : s.opn = true) : pu_Out (f_La_obey 72 at_ m mL) s T m (.inr (pu_Sp.mk_ (pu_onL s cs).d (pu_onL s cs).lv (pu_onL s cs).outer (pu_onL s cs).cmds (pu_onL s cs).F (pu_onL s cs).V (pu_onL s cs).opn (pu_onL s cs).w (pu_onL s cs).h (vs 0) (vs 1) (pu_onL s cs).cp (pu_onL s cs).tx (pu_onL s cs).lt (pu_onL s cs).fx (pu_onL s cs).fy (pu_onL s cs).t (pu_onL s cs).cnt (pu_onL s cs).sp (pu_onL s cs).D (pu_onL s cs).sh (pu_onL s cs).fs (pu_onL s cs).os (pu_onL s cs).ls)) := by
  have e : f_La_obey 72 at_ m mL = some (0, tm_up (tm_up m 19 8 (vs 0)) 19 9 (vs 1), mL) := by
    rw [pu_ob_set 72 q18 (by decide) (by decide) (by decide) (by decide) (by decide) (by decide) (by decide) (by decide)]
    have g1 : f_Fo_get 17 1 (tm_up m 19 8 (vs 0)) mL = some (vs 1, tm_up m 19 8 (vs 0), mL) := by
      have := pu_fg17 (m := tm_up m 19 8 (vs 0)) (mL := mL) (i := 1) (by decide)
      rw [tm_up_o (by decide), q18 1 (by decide)] at this; exact this
    unfold f_Pr_settle f_Pr_settle_b0
    simp only [show ((72 : Int32) = 35) = False by decide, show ((72 : Int32) = 67) = False by decide, show ((72 : Int32) = 68) = False by decide, if_false, if_true]
    rw [pu_g17 q18, pu_b_some]
    simp only []
    rw [g1, pu_b_some, pu_b_some]
  have L := h.lab ho
  refine pu_Out.lab h e (fun a a1 _ _ _ _ => by rw [pu_tm_up_c a1, pu_tm_up_c a1]) (fun e he => rfl) rfl rfl rfl rfl rfl rfl rfl rfl rfl rfl (by rw [tm_up_k (by decide), tm_up_k (by decide)]) (fun _ => ?_)
  unfold pu_RLab at *
  have e26 : tm_up (tm_up m 19 8 (vs 0)) 19 9 (vs 1) 26 = m 26 := by rw [pu_tm_up_c (by decide), pu_tm_up_c (by decide)]
  have e28 : tm_up (tm_up m 19 8 (vs 0)) 19 9 (vs 1) 28 = m 28 := by rw [pu_tm_up_c (by decide), pu_tm_up_c (by decide)]
  have e31 : tm_up (tm_up m 19 8 (vs 0)) 19 9 (vs 1) 31 = m 31 := by rw [pu_tm_up_c (by decide), pu_tm_up_c (by decide)]
  have e33 : tm_up (tm_up m 19 8 (vs 0)) 19 9 (vs 1) 33 = m 33 := by rw [pu_tm_up_c (by decide), pu_tm_up_c (by decide)]
  rw [e26, e28, e31, e33]
  obtain ⟨l1, l2, l3, l4, l5, l6, l7, l8, l9, l10, l11, l12, l13, l14⟩ := L
  exact ⟨by simpa [tm_up] using l1, by simpa [tm_up] using l2, by simp [tm_up], by simp [tm_up], by simpa [tm_up] using l5, l6, l7, l8, l9, l10, l11, l12, l13, l14⟩
theorem pu_ob_C (h : pu_RC (pu_onL s cs) T m mL po fo) (q18 : pu_ag4 (m 18) vs) (n : pu_NumOK 67 vs) (ho : s.opn = true) : pu_Out (f_La_obey 67 at_ m mL) s T m (.inr (pu_Sp.mk_ (pu_onL s cs).d (pu_onL s cs).lv (pu_onL s cs).outer (pu_onL s cs).cmds (pu_onL s cs).F (pu_onL s cs).V (pu_onL s cs).opn (pu_onL s cs).w (pu_onL s cs).h (pu_onL s cs).hx (pu_onL s cs).hy ((vs 0).toNatClampNeg) (pu_onL s cs).tx (pu_onL s cs).lt (pu_onL s cs).fx (pu_onL s cs).fy (pu_onL s cs).t (pu_onL s cs).cnt (pu_onL s cs).sp (pu_onL s cs).D (pu_onL s cs).sh (pu_onL s cs).fs (pu_onL s cs).os (pu_onL s cs).ls)) := by
  obtain ⟨k, k1, k2, k3⟩ := n.c rfl
  have ek : (vs 0).toNatClampNeg = k := by rw [k3, pu_n_nat (by omega)]
  have e : f_La_obey 67 at_ m mL = some (0, tm_up m 19 10 (vs 0), mL) := by
    rw [pu_ob_set 67 q18 (by decide) (by decide) (by decide) (by decide) (by decide) (by decide) (by decide) (by decide)]
    unfold f_Pr_settle f_Pr_settle_b0
    simp only [show ((67 : Int32) = 35) = False by decide, if_false, if_true]
    rw [pu_g17 q18, pu_b_some, pu_b_some]
  have L := h.lab ho
  refine pu_Out.lab h e (fun a a1 _ _ _ _ => pu_tm_up_c a1) (fun e he => rfl) rfl rfl rfl rfl rfl rfl rfl rfl rfl rfl (tm_up_k (by decide)) (fun _ => ?_)
  unfold pu_RLab at *
  rw [pu_tm_up_c (show 26 ≠ 19 by decide), pu_tm_up_c (show 28 ≠ 19 by decide), pu_tm_up_c (show 31 ≠ 19 by decide), pu_tm_up_c (show 33 ≠ 19 by decide)]
  obtain ⟨l1, l2, l3, l4, l5, l6, l7, l8, l9, l10, l11, l12, l13, l14⟩ := L
  exact ⟨by simpa [tm_up] using l1, by simpa [tm_up] using l2, by simpa [tm_up] using l3, by simpa [tm_up] using l4, by rw [tm_up_eq, ek, k3], l6, l7, l8, l9, l10, l11, l12, l13, l14⟩
theorem pu_ob_O (h : pu_RC (pu_onL s cs) T m mL po fo) (q18 : pu_ag4 (m 18) vs) (ho : s.opn = true) : pu_Out (f_La_obey 79 at_ m mL) s T m (.inr (pu_Sp.mk_ (pu_onL s cs).d (pu_onL s cs).lv (pu_onL s cs).outer (pu_onL s cs).cmds (pu_onL s cs).F (pu_onL s cs).V (pu_onL s cs).opn (pu_onL s cs).w (pu_onL s cs).h (pu_onL s cs).hx (pu_onL s cs).hy (pu_onL s cs).cp (pu_onL s cs).tx (pu_onL s cs).lt (vs 0) (vs 1) (pu_onL s cs).t (pu_onL s cs).cnt (pu_onL s cs).sp (pu_onL s cs).D (pu_onL s cs).sh (pu_onL s cs).fs (pu_onL s cs).os (pu_onL s cs).ls)) := by
  have e : f_La_obey 79 at_ m mL = some (0, tm_up (tm_up m 26 3 (vs 0)) 26 4 (vs 1), mL) := by
    rw [pu_ob_set 79 q18 (by decide) (by decide) (by decide) (by decide) (by decide) (by decide) (by decide) (by decide)]
    have g1 : f_Fo_get 17 1 (tm_up m 26 3 (vs 0)) mL = some (vs 1, tm_up m 26 3 (vs 0), mL) := by
      have := pu_fg17 (m := tm_up m 26 3 (vs 0)) (mL := mL) (i := 1) (by decide)
      rw [tm_up_o (by decide), q18 1 (by decide)] at this; exact this
    unfold f_Pr_settle f_Pr_settle_b0
    simp only [show ((79 : Int32) = 35) = False by decide, show ((79 : Int32) = 67) = False by decide, show ((79 : Int32) = 68) = False by decide, show ((79 : Int32) = 72) = False by decide, if_false, if_true]
    rw [pu_g17 q18, pu_b_some]
    simp only []
    rw [g1, pu_b_some, pu_b_some]
  have L := h.lab ho
  refine pu_Out.lab h e (fun a _ a1 _ _ _ => by rw [pu_tm_up_c a1, pu_tm_up_c a1]) (fun e he => rfl) rfl rfl rfl rfl rfl rfl rfl rfl rfl rfl (by rw [tm_up_o (by decide), tm_up_o (by decide)]) (fun _ => ?_)
  unfold pu_RLab at *
  have e19 : tm_up (tm_up m 26 3 (vs 0)) 26 4 (vs 1) 19 = m 19 := by rw [pu_tm_up_c (by decide), pu_tm_up_c (by decide)]
  have e28 : tm_up (tm_up m 26 3 (vs 0)) 26 4 (vs 1) 28 = m 28 := by rw [pu_tm_up_c (by decide), pu_tm_up_c (by decide)]
  have e31 : tm_up (tm_up m 26 3 (vs 0)) 26 4 (vs 1) 31 = m 31 := by rw [pu_tm_up_c (by decide), pu_tm_up_c (by decide)]
  have e33 : tm_up (tm_up m 26 3 (vs 0)) 26 4 (vs 1) 33 = m 33 := by rw [pu_tm_up_c (by decide), pu_tm_up_c (by decide)]
  rw [e19, e28, e31, e33]
  obtain ⟨l1, l2, l3, l4, l5, l6, l7, l8, l9, l10, l11, l12, l13, l14⟩ := L
  exact ⟨l1, l2, l3, l4, l5, l6, by simpa [tm_up] using l7, by simp [tm_up], by simp [tm_up], by simpa [tm_up] using l10, by simpa [tm_up] using l11, by simpa [tm_up] using l12, l13, l14⟩
theorem pu_ob_R (h : pu_RC (pu_onL s cs) T m mL po fo) (q18 : pu_ag4 (m 18) vs) (ho : s.opn = true) : pu_Out (f_La_obey 82 at_ m mL) s T m (.inr (pu_Sp.mk_ (pu_onL s cs).d (pu_onL s cs).lv (pu_onL s cs).outer (pu_onL s cs).cmds (pu_onL s cs).F (pu_onL s cs).V (pu_onL s cs).opn (pu_onL s cs).w (pu_onL s cs).h (pu_onL s cs).hx (pu_onL s cs).hy (pu_onL s cs).cp (pu_onL s cs).tx (pu_onL s cs).lt (pu_onL s cs).fx (pu_onL s cs).fy (true) (pu_onL s cs).cnt (pu_onL s cs).sp (pu_onL s cs).D (pu_onL s cs).sh (pu_onL s cs).fs (pu_onL s cs).os (pu_onL s cs).ls)) := by
  have e : f_La_obey 82 at_ m mL = some (0, tm_up m 26 5 1, mL) := by
    rw [pu_ob_set 82 q18 (by decide) (by decide) (by decide) (by decide) (by decide) (by decide) (by decide) (by decide)]
    unfold f_Pr_settle f_Pr_settle_b0
    simp only [show ((82 : Int32) = 35) = False by decide, show ((82 : Int32) = 67) = False by decide, show ((82 : Int32) = 68) = False by decide, show ((82 : Int32) = 72) = False by decide, show ((82 : Int32) = 79) = False by decide, if_false, if_true]
    rw [pu_b_some]
  have L := h.lab ho
  refine pu_Out.lab h e (fun a _ a1 _ _ _ => pu_tm_up_c a1) (fun e he => rfl) rfl rfl rfl rfl rfl rfl rfl rfl rfl rfl (tm_up_o (by decide)) (fun _ => ?_)
  unfold pu_RLab at *
  rw [pu_tm_up_c (show 19 ≠ 26 by decide), pu_tm_up_c (show 28 ≠ 26 by decide), pu_tm_up_c (show 31 ≠ 26 by decide), pu_tm_up_c (show 33 ≠ 26 by decide)]
  obtain ⟨l1, l2, l3, l4, l5, l6, l7, l8, l9, l10, l11, l12, l13, l14⟩ := L
  exact ⟨l1, l2, l3, l4, l5, l6, by simpa [tm_up] using l7, by simpa [tm_up] using l8, by simpa [tm_up] using l9, by simp [tm_up, pu_bi], by simpa [tm_up] using l11, by simpa [tm_up] using l12, l13, l14⟩
theorem pu_ob_N (h : pu_RC (pu_onL s cs) T m mL po fo) (q18 : pu_ag4 (m 18) vs) (ho : s.opn = true) : pu_Out (f_La_obey 35 at_ m mL) s T m (.inr (pu_Sp.mk_ (pu_onL s cs).d (pu_onL s cs).lv (pu_onL s cs).outer (pu_onL s cs).cmds (pu_onL s cs).F (pu_onL s cs).V (pu_onL s cs).opn (pu_onL s cs).w (pu_onL s cs).h (pu_onL s cs).hx (pu_onL s cs).hy (pu_onL s cs).cp (pu_onL s cs).tx (pu_onL s cs).lt (pu_onL s cs).fx (pu_onL s cs).fy (pu_onL s cs).t (true) (vs 0) (pu_onL s cs).D (pu_onL s cs).sh (pu_onL s cs).fs (pu_onL s cs).os (pu_onL s cs).ls)) := by
  have e : f_La_obey 35 at_ m mL = some (0, tm_up (tm_up m 26 6 1) 26 7 (vs 0), mL) := by
    rw [pu_ob_set 35 q18 (by decide) (by decide) (by decide) (by decide) (by decide) (by decide) (by decide) (by decide)]
    have g1 : f_Fo_get 17 0 (tm_up m 26 6 1) mL = some (vs 0, tm_up m 26 6 1, mL) := by
      have := pu_fg17 (m := tm_up m 26 6 1) (mL := mL) (i := 0) (by decide)
      rw [tm_up_o (by decide), q18 0 (by decide)] at this; exact this
    unfold f_Pr_settle f_Pr_settle_b0
    simp only [if_true]
    rw [g1, pu_b_some, pu_b_some]
  have L := h.lab ho
  refine pu_Out.lab h e (fun a _ a1 _ _ _ => by rw [pu_tm_up_c a1, pu_tm_up_c a1]) (fun e he => rfl) rfl rfl rfl rfl rfl rfl rfl rfl rfl rfl (by rw [tm_up_o (by decide), tm_up_o (by decide)]) (fun _ => ?_)
  unfold pu_RLab at *
  have e19 : tm_up (tm_up m 26 6 1) 26 7 (vs 0) 19 = m 19 := by rw [pu_tm_up_c (by decide), pu_tm_up_c (by decide)]
  have e28 : tm_up (tm_up m 26 6 1) 26 7 (vs 0) 28 = m 28 := by rw [pu_tm_up_c (by decide), pu_tm_up_c (by decide)]
  have e31 : tm_up (tm_up m 26 6 1) 26 7 (vs 0) 31 = m 31 := by rw [pu_tm_up_c (by decide), pu_tm_up_c (by decide)]
  have e33 : tm_up (tm_up m 26 6 1) 26 7 (vs 0) 33 = m 33 := by rw [pu_tm_up_c (by decide), pu_tm_up_c (by decide)]
  rw [e19, e28, e31, e33]
  obtain ⟨l1, l2, l3, l4, l5, l6, l7, l8, l9, l10, l11, l12, l13, l14⟩ := L
  exact ⟨l1, l2, l3, l4, l5, l6, by simpa [tm_up] using l7, by simpa [tm_up] using l8, by simpa [tm_up] using l9, by simpa [tm_up] using l10, by simp [tm_up, pu_bi], by simp [tm_up], l13, l14⟩
theorem pu_cp4 (c : Nat) {m : tm_I} (h18 : c ≠ 18) : tm_up (tm_up (tm_up (tm_up m c 0 (m 18 0)) c 1 (m 18 1)) c 2 (m 18 2)) c 3 (m 18 3) 18 = m 18 ∧ (∀ a, a ≠ c → tm_up (tm_up (tm_up (tm_up m c 0 (m 18 0)) c 1 (m 18 1)) c 2 (m 18 2)) c 3 (m 18 3) a = m a) ∧ (∀ i, i < 4 → tm_up (tm_up (tm_up (tm_up m c 0 (m 18 0)) c 1 (m 18 1)) c 2 (m 18 2)) c 3 (m 18 3) c i = m 18 i) := by
  refine ⟨?_, fun a ha => ?_, fun i hi => ?_⟩
  · rw [pu_tm_up_c (fun q => h18 q.symm), pu_tm_up_c (fun q => h18 q.symm), pu_tm_up_c (fun q => h18 q.symm), pu_tm_up_c (fun q => h18 q.symm)]
  · rw [pu_tm_up_c ha, pu_tm_up_c ha, pu_tm_up_c ha, pu_tm_up_c ha]
  · have : i = 0 ∨ i = 1 ∨ i = 2 ∨ i = 3 := by omega
    rcases this with rfl | rfl | rfl | rfl <;> simp [tm_up]
theorem pu_fo_copy_x17 {o c : Nat} (f : tm_I → tm_L → Option (Int32 × tm_I × tm_L)) (hf : f = fun mI mL => (f_Fo_get 17 (0 : Int32) mI mL).bind fun v1 => (f_Fo_get 17 (1 : Int32) v1.2.1 v1.2.2).bind fun v2 => (f_Fo_get 17 (2 : Int32) v2.2.1 v2.2.2).bind fun v3 => (f_Fo_get 17 (3 : Int32) v3.2.1 v3.2.2).bind fun v4 => (f_Fo_setAll o v1.1 v2.1 v3.1 v4.1 v4.2.1 v4.2.2).bind fun v5 => some (0, v5.2.1, v5.2.2)) (h : rr o 0 = c) (hc : tm_len c = 4) : f m mL = some (0, tm_up (tm_up (tm_up (tm_up m c 0 (m 18 0)) c 1 (m 18 1)) c 2 (m 18 2)) c 3 (m 18 3), mL) := by
  subst hf
  have g0 : f_Fo_get 17 0 m mL = some (m 18 0, m, mL) := pu_fg17 (i := 0) (by decide)
  have g1 : f_Fo_get 17 1 m mL = some (m 18 1, m, mL) := pu_fg17 (i := 1) (by decide)
  have g2 : f_Fo_get 17 2 m mL = some (m 18 2, m, mL) := pu_fg17 (i := 2) (by decide)
  have g3 : f_Fo_get 17 3 m mL = some (m 18 3, m, mL) := pu_fg17 (i := 3) (by decide)
  simp only [g0, g1, g2, g3, pu_b_some, pu_fo_setAll h hc]
theorem pu_ob_D (h : pu_RC (pu_onL s cs) T m mL po fo) (q18 : pu_ag4 (m 18) vs) (ho : s.opn = true) : pu_Out (f_La_obey 68 at_ m mL) s T m (.inr (pu_Sp.mk_ (pu_onL s cs).d (pu_onL s cs).lv (pu_onL s cs).outer (pu_onL s cs).cmds (pu_onL s cs).F (pu_onL s cs).V (pu_onL s cs).opn (pu_onL s cs).w (pu_onL s cs).h (pu_onL s cs).hx (pu_onL s cs).hy (pu_onL s cs).cp (vs) (pu_onL s cs).lt (pu_onL s cs).fx (pu_onL s cs).fy (pu_onL s cs).t (pu_onL s cs).cnt (pu_onL s cs).sp (pu_onL s cs).D (pu_onL s cs).sh (pu_onL s cs).fs (pu_onL s cs).os (pu_onL s cs).ls)) := by
  obtain ⟨c1, c2, c3⟩ := pu_cp4 33 (m := m) (by decide)
  have e : f_La_obey 68 at_ m mL = some (0, tm_up (tm_up (tm_up (tm_up m 33 0 (m 18 0)) 33 1 (m 18 1)) 33 2 (m 18 2)) 33 3 (m 18 3), mL) := by
    rw [pu_ob_set 68 q18 (by decide) (by decide) (by decide) (by decide) (by decide) (by decide) (by decide) (by decide)]
    unfold f_Pr_settle f_Pr_settle_b0
    simp only [show ((68 : Int32) = 35) = False by decide, show ((68 : Int32) = 67) = False by decide, if_false, if_true]
    rw [pu_fo_copy_x17 (o := 32) (c := 33) f_Fo_copy_32_17 rfl rfl rfl, pu_b_some, pu_b_some]
  generalize tm_up (tm_up (tm_up (tm_up m 33 0 (m 18 0)) 33 1 (m 18 1)) 33 2 (m 18 2)) 33 3 (m 18 3) = m' at *
  have L := h.lab ho
  refine pu_Out.lab h e (fun a _ _ _ _ a1 => c2 a a1) (fun e he => rfl) rfl rfl rfl rfl rfl rfl rfl rfl rfl rfl (by rw [c2 19 (by decide)]) (fun _ => ?_)
  unfold pu_RLab at *
  rw [c2 19 (by decide), c2 26 (by decide), c2 28 (by decide), c2 31 (by decide)]
  obtain ⟨l1, l2, l3, l4, l5, l6, l7, l8, l9, l10, l11, l12, l13, l14⟩ := L
  exact ⟨l1, l2, l3, l4, l5, fun i hi => (c3 i hi).trans (q18 i hi), l7, l8, l9, l10, l11, l12, l13, l14⟩
theorem pu_ob_kind {l : Int32} (hk : pu_kindL l) (h : pu_RC (pu_onL s cs) T m mL po fo) (q18 : pu_ag4 (m 18) vs) (ho : s.opn = true) : pu_Out (f_La_obey l at_ m mL) s T m (.inr (pu_Sp.mk_ (pu_onL s cs).d (pu_onL s cs).lv (pu_onL s cs).outer (pu_onL s cs).cmds (pu_onL s cs).F (pu_onL s cs).V (pu_onL s cs).opn (pu_onL s cs).w (pu_onL s cs).h (pu_onL s cs).hx (pu_onL s cs).hy (pu_onL s cs).cp (pu_onL s cs).tx (l) (pu_onL s cs).fx (pu_onL s cs).fy (pu_onL s cs).t (pu_onL s cs).cnt (pu_onL s cs).sp (pu_onL s cs).D (vs) (pu_onL s cs).fs (pu_onL s cs).os (pu_onL s cs).ls)) := by
  obtain ⟨c1, c2, c3⟩ := pu_cp4 31 (m := tm_up m 26 2 l) (by decide)
  have ne : l ≠ 59 ∧ l ≠ 69 ∧ l ≠ 75 ∧ l ≠ 76 ∧ l ≠ 83 ∧ l ≠ 85 ∧ l ≠ 86 ∧ l ≠ 88 ∧ l ≠ 35 ∧ l ≠ 67 ∧ l ≠ 68 ∧ l ≠ 72 ∧ l ≠ 79 ∧ l ≠ 82 := by
    rcases hk with rfl | rfl | rfl | rfl | rfl | rfl | rfl | rfl | rfl <;> decide
  obtain ⟨n1, n2, n3, n4, n5, n6, n7, n8, n9, n10, n11, n12, n13, n14⟩ := ne
  have e : ∃ m', f_La_obey l at_ m mL = some (0, m', mL) ∧ (∀ a, a ≠ 31 → m' a = tm_up m 26 2 l a) ∧ (∀ i, i < 4 → m' 31 i = tm_up m 26 2 l 18 i) := by
    refine ⟨_, ?_, c2, c3⟩
    rw [pu_ob_set l q18 n1 n2 n3 n4 n5 n6 n7 n8]
    unfold f_Pr_settle f_Pr_settle_b0
    rw [if_neg n9, if_neg n10, if_neg n11, if_neg n12, if_neg n13, if_neg n14]
    rw [pu_fo_copy_x17 (o := 30) (c := 31) f_Fo_copy_30_17 rfl rfl rfl, pu_b_some, pu_b_some]
  obtain ⟨m', e1, e2, e3⟩ := e
  have L := h.lab ho
  refine pu_Out.lab h e1 (fun a _ a1 _ a2 _ => by rw [e2 a a2, pu_tm_up_c a1]) (fun e he => rfl) rfl rfl rfl rfl rfl rfl rfl rfl rfl rfl (by rw [e2 19 (by decide), tm_up_o (by decide)]) (fun _ => ?_)
  unfold pu_RLab at *
  rw [e2 19 (by decide), e2 26 (by decide), e2 28 (by decide), e2 33 (by decide), pu_tm_up_c (show 19 ≠ 26 by decide), pu_tm_up_c (show 28 ≠ 26 by decide), pu_tm_up_c (show 33 ≠ 26 by decide)]
  obtain ⟨l1, l2, l3, l4, l5, l6, l7, l8, l9, l10, l11, l12, l13, l14⟩ := L
  exact ⟨l1, l2, l3, l4, l5, l6, by simp [tm_up], by simpa [tm_up] using l8, by simpa [tm_up] using l9, by simpa [tm_up] using l10, by simpa [tm_up] using l11, by simpa [tm_up] using l12, l13, fun _ i hi => by rw [e3 i hi, tm_up_o (by decide), q18 i hi]⟩
end OBEY
section OBEY2
variable {s : pu_Sp} {cs dd T : List Int32} {m : tm_I} {mL : tm_L} {po fo : Nat → Nat} {vs : Nat → Int32} {at_ : Int32}
theorem pu_bi_t : ¬ pu_bi true = 0 := by decide
theorem pu_bi_f : pu_bi false = 0 := by decide
theorem pu_la_last {c : Nat} (h : m 0 5 = Int32.ofNat c) (hc : c < 1000000) : f_La_isLastCommand m mL = some (pu_bi (decide (2000 ≤ c)), m, mL) := by
  unfold f_La_isLastCommand f_La_isLastCommand_b0 f_La_isLastCommand_b15
  rw [h]
  by_cases q : 2000 ≤ c
  · rw [if_neg (by simp (disch := omega) only [pu_n_lit, pu_n_add, pu_n_mul, pu_n_sub, pu_n_div, pu_n_nat, pu_q_ltT, pu_q_ltF, pu_q_leT, pu_q_leF, pu_q_eqT, pu_q_eqF, pu_n_lt, pu_n_le, pu_n_eq, pu_p_ltT, pu_p_ltF, pu_p_leT, pu_p_leF, not_true_eq_false, not_false_eq_true, or_false, false_or, or_true, true_or, and_true, true_and, and_false, false_and, ↓reduceIte, pu_b_some]), decide_eq_true q]; rfl
  · rw [if_pos (by simp (disch := omega) only [pu_n_lit, pu_n_add, pu_n_mul, pu_n_sub, pu_n_div, pu_n_nat, pu_q_ltT, pu_q_ltF, pu_q_leT, pu_q_leF, pu_q_eqT, pu_q_eqF, pu_n_lt, pu_n_le, pu_n_eq, pu_p_ltT, pu_p_ltF, pu_p_leT, pu_p_leF, not_true_eq_false, not_false_eq_true, or_false, false_or, or_true, true_or, and_true, true_and, and_false, false_and, ↓reduceIte, pu_b_some]), decide_eq_false q]; rfl
theorem pu_ob_K (h : pu_RC (pu_onL s cs) T m mL po fo) (hc : s.cmds < 1000000) (q18 : pu_ag4 (m 18) vs) (n : pu_NumOK 75 vs) (hr : pu_Row (m 14) (mL 15) 25 0 dd) (hl : dd.length ≤ 200) : pu_Out (f_La_obey 75 at_ m mL) s T m (.inr (pu_Sp.mk_ (pu_onL s cs).d (pu_onL s cs).lv (pu_onL s cs).outer (pu_onL s cs).cmds (pu_onL s cs).F (pu_fl s.V (vs 0).toNatClampNeg dd) (pu_onL s cs).opn (pu_onL s cs).w (pu_onL s cs).h (pu_onL s cs).hx (pu_onL s cs).hy (pu_onL s cs).cp (pu_onL s cs).tx (pu_onL s cs).lt (pu_onL s cs).fx (pu_onL s cs).fy (pu_onL s cs).t (pu_onL s cs).cnt (pu_onL s cs).sp (pu_onL s cs).D (pu_onL s cs).sh (pu_onL s cs).fs (pu_onL s cs).os (pu_onL s cs).ls)) := by
  obtain ⟨k, k1, k2⟩ := n.v (Or.inl rfl)
  have ek : (vs 0).toNatClampNeg = k := by rw [k2, pu_n_nat (by omega)]
  have cm : m 0 5 = Int32.ofNat s.cmds := h.cm
  have e0 : f_La_obey 75 at_ m mL = (f_La_storeVariable (vs 0) m mL).bind fun v6 => some (v6.1, v6.2.1, v6.2.2) := by
    unfold f_La_obey f_La_obey_b0
    rw [pu_g17 q18, pu_b_some]
    simp only [show ((75 : Int32) = 59) = False by decide, show ((75 : Int32) = 69) = False by decide, if_false, if_true]
  have e1 : f_La_storeVariable (vs 0) m mL = if 2000 ≤ s.cmds then some (10, m, mL) else some (0, tm_up m 11 k (Int32.ofNat dd.length), tm_cpy mL 15 12 (0 * 25) (k * 25) ((dd.length + 7) / 8)) := by
    unfold f_La_storeVariable f_La_storeVariable_b0
    rw [pu_la_last cm hc, pu_b_some]
    by_cases q : 2000 ≤ s.cmds
    · rw [if_pos q, decide_eq_true q, if_neg pu_bi_t]
    · rw [if_neg q, decide_eq_false q, if_pos pu_bi_f, k2, pu_co_10_13 hl hr k1 h.k.c0 h.k.c1 h.k.d1, pu_b_some]
  rw [e0, e1, ek]
  by_cases q : 2000 ≤ s.cmds
  · rw [if_pos q, pu_b_some]
    refine ⟨10, m, mL, rfl, fun _ _ => rfl, rfl, ?_⟩
    show (if 2000 ≤ s.cmds then ((10 : Int32) = 0 ∨ (10 : Int32) = 10) ∧ pu_Keep s.F s.V T m mL else _)
    rw [if_pos q]; exact ⟨Or.inr rfl, h.k⟩
  · rw [if_neg q, pu_b_some]
    refine ⟨0, tm_up m 11 k (Int32.ofNat dd.length), tm_cpy mL 15 12 (0 * 25) (k * 25) ((dd.length + 7) / 8), rfl, fun a ha => pu_tm_up_c (by omega), pu_tm_up_c (by decide), ?_⟩
    show (if 2000 ≤ s.cmds then _ else (0 : Int32) = 0 ∧ ∃ po fo, pu_RC _ T _ _ po fo)
    rw [if_neg q]
    refine ⟨rfl, po, fo, ?_⟩
    have hk := h.k
    have q2 : ∀ e, e ≠ 12 → tm_cpy mL 15 12 (0 * 25) (k * 25) ((dd.length + 7) / 8) e = mL e := fun e he => pu_tm_cpy_ne he
    refine ⟨⟨?_, ?_, ?_, ?_, ?_, ?_, ?_, ?_, ?_, ?_, ?_, ?_, ?_, hk.tl, ?_, fun i hi => ?_⟩, h.scr.fr (pu_tm_up_c (by decide)) (pu_tm_up_c (by decide)) (pu_tm_up_c (by decide)), ?_, ?_, h.res.fr (pu_tm_up_c (by decide)) (pu_tm_up_c (by decide)) (pu_tm_up_c (by decide)) (pu_tm_up_c (by decide)) (q2 25 (by decide)), fun ho => pu_RLab.fr (s := pu_onL s cs) (h.lab ho) (pu_tm_up_c (by decide)) (pu_tm_up_c (by decide)) (pu_tm_up_c (by decide)) (pu_tm_up_c (by decide)) (pu_tm_up_c (by decide)) (q2 29 (by decide))⟩
    · rw [tm_up_o (by decide)]; exact hk.a0
    · rw [tm_up_o (by decide)]; exact hk.a1
    · rw [tm_up_o (by decide)]; exact hk.b0
    · rw [tm_up_o (by decide)]; exact hk.b1
    · rw [tm_up_o (by decide)]; exact hk.c0
    · rw [tm_up_o (by decide)]; exact hk.c1
    · rw [tm_up_o (by decide)]; exact hk.d0
    · rw [tm_up_o (by decide)]; exact hk.d1
    · rw [tm_up_o (by decide)]; exact hk.e0
    · rw [tm_up_o (by decide)]; exact hk.e1
    · rw [tm_up_o (by decide)]; exact hk.f0
    · rw [tm_up_o (by decide)]; exact hk.f1
    · rw [pu_tm_up_c (by decide), q2 4 (by decide)]; exact hk.tx
    · intro j hj
      rw [pu_tm_up_c (by decide), q2 7 (by decide)]; exact hk.fm j hj
    · show pu_Row _ _ 25 i (pu_fl s.V k dd i) ∧ (pu_fl s.V k dd i).length ≤ 200
      unfold pu_fl
      by_cases e : i = k
      · subst e; rw [if_pos rfl]; exact ⟨hr.cpy (tm_up_eq _ _ _ _), hl⟩
      · rw [if_neg e]
        obtain ⟨v1, v2⟩ := hk.vr i hi
        exact ⟨pu_Row.cpy_o v1 v2 (tm_up_k e) e (by omega), v2⟩
    · rw [tm_up_o (by decide)]; exact h.cm
    · rw [tm_up_o (by decide)]; exact h.op
theorem pu_ob_S (h : pu_RC (pu_onL s cs) T m mL po fo) (w : pu_WS s) (hop : s.opn = false) (hc : s.cmds < 1000000) (q18 : pu_ag4 (m 18) vs) (n : pu_NumOK 83 vs) : pu_Out (f_La_obey 83 at_ m mL) s T m (match pu_spFind cs 0 with | none => .inl 7 | some k => if 400 < k then .inl 7 else .inr (pu_Sp.mk_ s.d (pu_fl s.lv s.d (cs.drop (k + 2))) s.outer s.cmds (pu_fl s.F (vs 0).toNatClampNeg (cs.take k)) s.V s.opn s.w s.h s.hx s.hy s.cp s.tx s.lt s.fx s.fy s.t s.cnt s.sp s.D s.sh s.fs s.os s.ls)) := by
  obtain ⟨k, k1, k2⟩ := n.f (Or.inl rfl)
  have ek : (vs 0).toNatClampNeg = k := by rw [k2, pu_n_nat (by omega)]
  have cm : m 0 5 = Int32.ofNat s.cmds := h.cm
  have pu_hd0 : s.d = 0 := by
    rcases Nat.eq_zero_or_pos s.d with q | q
    · exact q
    · rw [w.do_ q] at hop; cases hop
  have hsrc := h.src
  have eS : pu_srcL (pu_onL s cs).F T fo (pu_onL s cs).d = T := by
    show pu_srcL s.F T fo s.d = T
    unfold pu_srcL; rw [if_pos pu_hd0]
  rw [eS] at hsrc
  have hat : m 1 6 = Int32.ofNat (po 0) := by
    have : m 1 6 = Int32.ofNat (po s.d) := h.scr.at_
    rw [pu_hd0] at this; exact this
  have hlv : cs = T.drop (po 0) ∧ po 0 ≤ T.length := by
    have := h.scr.lv 0 (by show 0 ≤ s.d; omega)
    have e1 : (pu_onL s cs).lv 0 = cs := by
      show pu_fl s.lv s.d cs 0 = cs
      unfold pu_fl; rw [if_pos pu_hd0.symm]
    rw [e1] at this
    exact this
  obtain ⟨hcs, hpo⟩ := hlv
  have tl := h.k.tl
  have e0 : f_La_obey 83 at_ m mL = (f_La_storeForm (vs 0) m mL).bind fun v6 => some (v6.1, v6.2.1, v6.2.2) := by
    unfold f_La_obey f_La_obey_b0
    rw [pu_g17 q18, pu_b_some]
    simp only [show ((83 : Int32) = 59) = False by decide, show ((83 : Int32) = 69) = False by decide, show ((83 : Int32) = 75) = False by decide, show ((83 : Int32) = 76) = False by decide, if_false, if_true]
  have e1 : f_La_storeForm (vs 0) m mL = match pu_spFind cs 0 with | none => some (7, m, mL) | some z => if 400 < z then some (7, m, mL) else if 2000 ≤ s.cmds then some (10, m, mL) else (f_Sc_keepForm (Int32.ofNat k) (Int32.ofNat z) m mL).bind fun v3 => some (0, v3.2.1, v3.2.2) := by
    have hf := pu_sc_form hsrc hat hpo
    rw [← hcs] at hf
    cases hz : pu_spFind cs 0 with
    | none =>
      have hf : f_Sc_formSize m mL = some (-1, m, mL) := by rw [hf, hz]; rfl
      unfold f_La_storeForm f_La_storeForm_b0
      rw [hf, pu_b_some, if_pos rfl]; rfl
    | some z =>
      have hf : f_Sc_formSize m mL = some (Int32.ofNat z, m, mL) := by rw [hf, hz]; rfl
      have zl := pu_spFind_lt cs 0 z hz
      have hcl : cs.length ≤ 4096 := by rw [hcs, List.length_drop]; omega
      have zne : ¬ Int32.ofNat z = -1 := by
        intro q
        rw [← Int32.toInt_inj, pu_n_toInt (by omega)] at q
        rw [show (-1 : Int32).toInt = -1 from rfl] at q; omega
      unfold f_La_storeForm f_La_storeForm_b0
      rw [hf, pu_b_some, if_neg zne]
      simp only []
      by_cases z4 : 400 < z
      · rw [if_neg (c := Int32.ofNat z ≤ 400) (by simp (disch := omega) only [pu_n_lit, pu_n_add, pu_n_mul, pu_n_sub, pu_n_div, pu_n_nat, pu_q_ltT, pu_q_ltF, pu_q_leT, pu_q_leF, pu_q_eqT, pu_q_eqF, pu_n_lt, pu_n_le, pu_n_eq, pu_p_ltT, pu_p_ltF, pu_p_leT, pu_p_leF, not_true_eq_false, not_false_eq_true, or_false, false_or, or_true, true_or, and_true, true_and, and_false, false_and, ↓reduceIte, pu_b_some]), if_pos z4]; rfl
      · rw [if_pos (c := Int32.ofNat z ≤ 400) (by simp (disch := omega) only [pu_n_lit, pu_n_add, pu_n_mul, pu_n_sub, pu_n_div, pu_n_nat, pu_q_ltT, pu_q_ltF, pu_q_leT, pu_q_leF, pu_q_eqT, pu_q_eqF, pu_n_lt, pu_n_le, pu_n_eq, pu_p_ltT, pu_p_ltF, pu_p_leT, pu_p_leF, not_true_eq_false, not_false_eq_true, or_false, false_or, or_true, true_or, and_true, true_and, and_false, false_and, ↓reduceIte, pu_b_some]), if_neg z4, pu_la_last cm hc, pu_b_some]
        by_cases q : 2000 ≤ s.cmds
        · rw [if_pos q, decide_eq_true q, if_neg pu_bi_t]
        · rw [if_neg q, decide_eq_false q, if_pos pu_bi_f, k2]
  rw [e0, e1, ek]
  cases hz : pu_spFind cs 0 with
  | none => exact ⟨7, m, mL, rfl, fun _ _ => rfl, rfl, rfl, by decide, h.k⟩
  | some z =>
    have zl := pu_spFind_lt cs 0 z hz
    have hcl : cs.length ≤ 4096 := by rw [hcs, List.length_drop]; omega
    have hcl2 : cs.length = T.length - po 0 := by rw [hcs, List.length_drop]
    simp only []
    by_cases z4 : 400 < z
    · rw [if_pos z4, if_pos z4]; exact ⟨7, m, mL, rfl, fun _ _ => rfl, rfl, rfl, by decide, h.k⟩
    · rw [if_neg z4, if_neg z4]
      by_cases q : 2000 ≤ s.cmds
      · rw [if_pos q, pu_b_some]
        refine ⟨10, m, mL, rfl, fun _ _ => rfl, rfl, ?_⟩
        show (if 2000 ≤ s.cmds then ((10 : Int32) = 0 ∨ (10 : Int32) = 10) ∧ pu_Keep s.F s.V T m mL else _)
        rw [if_pos q]; exact ⟨Or.inr rfl, h.k⟩
      · rw [if_neg q]
        have hk := h.k
        have d14 : m 1 4 = 0 := by
          have : m 1 4 = Int32.ofNat s.d := h.scr.dep
          rw [this, pu_hd0]; rfl
        obtain ⟨mL', y1, y2, y3, y4⟩ := pu_sc_keep (m := m) (mL := mL) (T := T) (p := po 0) (k := k) (sz := z) d14 hk.a1 tl hat k1 hk.b0 hk.b1 (by omega) (by omega) hk.tx
        rw [y1, pu_b_some, pu_b_some]
        refine ⟨0, tm_up (tm_up m 6 k (Int32.ofNat z)) 1 6 (Int32.ofNat (po 0 + (z + 2))), mL', rfl, fun a ha => by rw [pu_tm_up_c (by omega), pu_tm_up_c (by omega)], by rw [pu_tm_up_c (by decide), pu_tm_up_c (by decide)], ?_⟩
        show (if 2000 ≤ s.cmds then _ else (0 : Int32) = 0 ∧ ∃ po fo, pu_RC _ T _ _ po fo)
        rw [if_neg q]
        have c6 : tm_up (tm_up m 6 k (Int32.ofNat z)) 1 6 (Int32.ofNat (po 0 + (z + 2))) 6 = tm_up m 6 k (Int32.ofNat z) 6 := pu_tm_up_c (by decide)
        have co : ∀ a, a ≠ 1 → a ≠ 6 → tm_up (tm_up m 6 k (Int32.ofNat z)) 1 6 (Int32.ofNat (po 0 + (z + 2))) a = m a := fun a h1 h2 => by rw [pu_tm_up_c h1, pu_tm_up_c h2]
        have c1 : ∀ b, b ≠ 6 → tm_up (tm_up m 6 k (Int32.ofNat z)) 1 6 (Int32.ofNat (po 0 + (z + 2))) 1 b = m 1 b := fun b hb => by rw [tm_up_k hb, tm_up_o (by decide)]
        have c16 : tm_up (tm_up m 6 k (Int32.ofNat z)) 1 6 (Int32.ofNat (po 0 + (z + 2))) 1 6 = Int32.ofNat (po 0 + (z + 2)) := tm_up_eq _ _ _ _
        generalize tm_up (tm_up m 6 k (Int32.ofNat z)) 1 6 (Int32.ofNat (po 0 + (z + 2))) = m' at *
        refine ⟨rfl, fun j => if j = 0 then po 0 + (z + 2) else po j, fo, ⟨?_, ?_, ?_, ?_, ?_, ?_, ?_, ?_, ?_, ?_, ?_, ?_, ?_, tl, fun i hi => ?_, ?_⟩, ⟨h.scr.d4, ?_, ?_, fun q => ?_, fun q => ?_, fun j hj => ?_, fun j _ hj => ?_, fun j hj => ?_, fun j h0 hj => ?_⟩, ?_, ?_, h.res.fr (co 20 (by decide) (by decide)) (co 21 (by decide) (by decide)) (co 22 (by decide) (by decide)) (co 24 (by decide) (by decide)) (y2 25 (by decide)), fun ho => pu_RLab.fr (s := pu_onL s cs) (h.lab ho) (co 19 (by decide) (by decide)) (co 26 (by decide) (by decide)) (co 28 (by decide) (by decide)) (co 31 (by decide) (by decide)) (co 33 (by decide) (by decide)) (y2 29 (by decide))⟩
        · rw [co 2 (by decide) (by decide)]; exact hk.a0
        · rw [co 2 (by decide) (by decide)]; exact hk.a1
        · rw [co 5 (by decide) (by decide)]; exact hk.b0
        · rw [co 5 (by decide) (by decide)]; exact hk.b1
        · rw [co 10 (by decide) (by decide)]; exact hk.c0
        · rw [co 10 (by decide) (by decide)]; exact hk.c1
        · rw [co 13 (by decide) (by decide)]; exact hk.d0
        · rw [co 13 (by decide) (by decide)]; exact hk.d1
        · rw [co 23 (by decide) (by decide)]; exact hk.e0
        · rw [co 23 (by decide) (by decide)]; exact hk.e1
        · rw [co 27 (by decide) (by decide)]; exact hk.f0
        · rw [co 27 (by decide) (by decide)]; exact hk.f1
        · rw [co 3 (by decide) (by decide), y2 4 (by decide)]; exact hk.tx
        · show pu_Row _ _ 50 i (pu_fl s.F k (cs.take z) i) ∧ (pu_fl s.F k (cs.take z) i).length ≤ 400
          unfold pu_fl
          rw [c6]
          by_cases e : i = k
          · subst e; rw [if_pos rfl, hcs]; exact ⟨y3, by rw [List.length_take]; omega⟩
          · rw [if_neg e]
            obtain ⟨v1, v2⟩ := hk.fm i hi
            have := y4 i (s.F i) e v2 v1
            exact ⟨⟨by rw [tm_up_k e]; exact this.len, this.byt⟩, v2⟩
        · rw [co 11 (by decide) (by decide), y2 12 (by decide)]; exact hk.vr
        · rw [c1 4 (by decide)]; exact h.scr.dep
        · show m' 1 6 = Int32.ofNat (if s.d = 0 then po 0 + (z + 2) else po s.d)
          rw [if_pos pu_hd0]; exact c16
        · have q : 0 < s.d := q
          omega
        · have q : 0 < s.d := q
          omega
        · have hj : j < s.d := hj
          omega
        · have hj : j < s.d := hj
          omega
        · have hj : j ≤ s.d := hj
          have : j = 0 := by omega
          subst this
          show pu_fl s.lv s.d (cs.drop (z + 2)) 0 = (T.drop (if (0 : Nat) = 0 then po 0 + (z + 2) else po 0)) ∧ (if (0 : Nat) = 0 then po 0 + (z + 2) else po 0) ≤ T.length
          unfold pu_fl
          rw [if_pos pu_hd0.symm, if_pos rfl, hcs, List.drop_drop]
          exact ⟨rfl, by omega⟩
        · have hj : j ≤ s.d := hj
          omega
        · rw [co 0 (by decide) (by decide)]; exact h.cm
        · rw [co 19 (by decide) (by decide)]; exact h.op
end OBEY2
