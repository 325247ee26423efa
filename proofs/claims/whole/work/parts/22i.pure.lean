section OBEY3
variable {s : pu_Sp} {cs dd T : List Int32} {m : tm_I} {mL : tm_L} {po fo : Nat → Nat} {vs : Nat → Int32} {at_ : Int32}
theorem pu_ob_U (h : pu_RC (pu_onL s cs) T m mL po fo) (w : pu_WS s) (ho : s.opn = true) (q18 : pu_ag4 (m 18) vs) (n : pu_NumOK 85 vs) : pu_Out (f_La_obey 85 at_ m mL) s T m (if s.F (vs 0).toNatClampNeg = [] ∨ 4 ≤ s.d then .inl 9 else .inr (pu_Sp.mk_ (s.d + 1) (pu_fl (pu_fl s.lv s.d cs) (s.d + 1) (s.F (vs 0).toNatClampNeg)) (at_) s.cmds s.F s.V s.opn s.w s.h s.hx s.hy s.cp s.tx s.lt s.fx s.fy s.t s.cnt s.sp s.D s.sh s.fs s.os s.ls)) := by
  obtain ⟨k, k1, k2⟩ := n.f (Or.inr rfl)
  have ek : (vs 0).toNatClampNeg = k := by rw [k2, pu_n_nat (by omega)]
  have d4 : s.d ≤ 4 := h.scr.d4
  have dep : m 1 4 = Int32.ofNat s.d := h.scr.dep
  have hat : m 1 6 = Int32.ofNat (po s.d) := h.scr.at_
  obtain ⟨v1, v2⟩ := h.k.fm k k1
  have v1 : pu_Row (m 6) (mL 7) 50 k (s.F k) := v1
  have v2 : (s.F k).length ≤ 400 := v2
  have sz : f_Ro_size 5 (Int32.ofNat k) m mL = some (Int32.ofNat (s.F k).length, m, mL) := by
    rw [pu_ro_size (c := 6) (R := 8) rfl rfl k1 (by omega), v1.len]
  have e0 : f_La_obey 85 at_ m mL = (f_Sc_enter (vs 0) at_ m mL).bind fun v9 => if v9.1 = 0 then some (9, v9.2.1, v9.2.2) else some (0, v9.2.1, v9.2.2) := by
    unfold f_La_obey f_La_obey_b0
    rw [pu_g17 q18, pu_b_some]
    simp only [show ((85 : Int32) = 59) = False by decide, show ((85 : Int32) = 69) = False by decide, show ((85 : Int32) = 75) = False by decide, show ((85 : Int32) = 76) = False by decide, show ((85 : Int32) = 83) = False by decide, if_false, if_true]
    rfl
  rw [e0, ek]
  by_cases q : s.F k = [] ∨ 4 ≤ s.d
  · have e1 : f_Sc_enter (vs 0) at_ m mL = some (0, m, mL) := by
      unfold f_Sc_enter f_Sc_enter_b0 f_Sc_enter_b26
      rw [k2, sz, pu_b_some]
      simp only []
      by_cases q1 : s.F k = []
      · rw [q1, if_pos (by rfl)]
      · have q2 : 4 ≤ s.d := by rcases q with q | q; exact absurd q q1; exact q
        have q3 : (s.F k).length ≠ 0 := by simpa using q1
        rw [if_neg (by rw [pu_n_zero, pu_n_eq (by omega) (by omega)]; exact q3), dep, if_neg (pu_n_nn (by omega)), if_neg (by simp (disch := omega) only [pu_n_lit, pu_n_add, pu_n_mul, pu_n_sub, pu_n_div, pu_n_nat, pu_q_ltT, pu_q_ltF, pu_q_leT, pu_q_leF, pu_q_eqT, pu_q_eqF, pu_n_lt, pu_n_le, pu_n_eq, pu_p_ltT, pu_p_ltF, pu_p_leT, pu_p_leF, not_true_eq_false, not_false_eq_true, or_false, false_or, or_true, true_or, and_true, true_and, and_false, false_and, ↓reduceIte, pu_b_some])]
    rw [e1, pu_b_some, if_pos q, if_pos rfl]
    exact ⟨9, m, mL, rfl, fun _ _ => rfl, rfl, rfl, by decide, h.k⟩
  · have q1 : s.F k ≠ [] := fun e => q (Or.inl e)
    have q2 : s.d < 4 := by
      rcases Nat.lt_or_ge s.d 4 with e | e
      · exact e
      · exact absurd (Or.inr e) q
    have q3 : (s.F k).length ≠ 0 := by simpa using q1
    have e1 : f_Sc_enter (vs 0) at_ m mL = some (1, tm_up (tm_up (tm_up (tm_up (tm_up (tm_up m 8 s.d (m 1 5)) 9 s.d (Int32.ofNat (po s.d))) 1 4 (Int32.ofNat (s.d + 1))) 1 5 (Int32.ofNat k)) 1 6 0) 1 7 at_, mL) := by
      unfold f_Sc_enter f_Sc_enter_b0
      rw [k2, sz, pu_b_some]
      simp only []
      rw [if_neg (by rw [pu_n_zero, pu_n_eq (by omega) (by omega)]; exact q3)]
      simp (disch := omega) only [pu_n_lit, pu_n_add, pu_n_mul, pu_n_sub, pu_n_div, pu_n_nat, pu_q_ltT, pu_q_ltF, pu_q_leT, pu_q_leF, pu_q_eqT, pu_q_eqF, pu_n_lt, pu_n_le, pu_n_eq, pu_p_ltT, pu_p_ltF, pu_p_leT, pu_p_leF, not_true_eq_false, not_false_eq_true, or_false, false_or, or_true, true_or, and_true, true_and, and_false, false_and, ↓reduceIte, pu_b_some, dep, tm_up_o, hat]
    rw [e1, pu_b_some, if_neg q, if_neg (show ¬ (1 : Int32) = 0 by decide)]
    generalize hm' : tm_up (tm_up (tm_up (tm_up (tm_up (tm_up m 8 s.d (m 1 5)) 9 s.d (Int32.ofNat (po s.d))) 1 4 (Int32.ofNat (s.d + 1))) 1 5 (Int32.ofNat k)) 1 6 0) 1 7 at_ = m'
    have co : ∀ a, a ≠ 1 → a ≠ 8 → a ≠ 9 → m' a = m a := fun a a1 a2 a3 => by rw [← hm', pu_tm_up_c a1, pu_tm_up_c a1, pu_tm_up_c a1, pu_tm_up_c a1, pu_tm_up_c a3, pu_tm_up_c a2]
    refine ⟨0, m', mL, rfl, fun a ha => co a (by omega) (by omega) (by omega), by rw [co 0 (by decide) (by decide) (by decide)], ?_⟩
    have K : pu_Keep s.F s.V T m' mL := h.k.fr (fun a ha => co a (by unfold pu_kpc at ha; omega) (by unfold pu_kpc at ha; omega) (by unfold pu_kpc at ha; omega)) (fun _ _ => rfl)
    show (if 2000 ≤ s.cmds then ((0 : Int32) = 0 ∨ (0 : Int32) = 10) ∧ pu_Keep s.F s.V T m' mL else (0 : Int32) = 0 ∧ ∃ po fo, pu_RC _ T m' mL po fo)
    split
    · exact ⟨Or.inl rfl, K⟩
    · refine ⟨rfl, fun j => if j = s.d + 1 then 0 else po j, fun j => if j = s.d + 1 then k else fo j, K, ⟨by show s.d + 1 ≤ 4; omega, ?_, ?_, fun _ => ?_, fun _ => ?_, fun j hj => ?_, fun j h0 hj => ?_, fun j hj => ?_, fun j h0 hj => ?_⟩, ?_, ?_, h.res.fr (co 20 (by decide) (by decide) (by decide)) (co 21 (by decide) (by decide) (by decide)) (co 22 (by decide) (by decide) (by decide)) (co 24 (by decide) (by decide) (by decide)) rfl, fun ho => pu_RLab.fr (s := pu_onL s cs) (h.lab ho) (co 19 (by decide) (by decide) (by decide)) (co 26 (by decide) (by decide) (by decide)) (co 28 (by decide) (by decide) (by decide)) (co 31 (by decide) (by decide) (by decide)) (co 33 (by decide) (by decide) (by decide)) rfl⟩
      · show m' 1 4 = Int32.ofNat (s.d + 1)
        rw [← hm']; simp [tm_up]
      · show m' 1 6 = Int32.ofNat (if s.d + 1 = s.d + 1 then 0 else po (s.d + 1))
        rw [← hm', if_pos rfl]; simp [tm_up]
      · show m' 1 5 = Int32.ofNat (if s.d + 1 = s.d + 1 then k else fo (s.d + 1))
        rw [← hm', if_pos rfl]; simp [tm_up]
      · show m' 1 7 = at_
        rw [← hm']; simp [tm_up]
      · have hj : j < s.d + 1 := hj
        show m' 9 j = Int32.ofNat (if j = s.d + 1 then 0 else po j)
        rw [if_neg (by omega), ← hm', tm_up_o (by decide), tm_up_o (by decide), tm_up_o (by decide), tm_up_o (by decide)]
        by_cases e : j = s.d
        · rw [e, tm_up_eq]
        · rw [tm_up_k e, tm_up_o (by decide)]; exact h.scr.s9 j (by show j < s.d; omega)
      · have hj : j < s.d + 1 := hj
        show m' 8 j = Int32.ofNat (if j = s.d + 1 then k else fo j)
        rw [if_neg (by omega), ← hm', tm_up_o (by decide), tm_up_o (by decide), tm_up_o (by decide), tm_up_o (by decide), tm_up_o (by decide)]
        by_cases e : j = s.d
        · rw [e, tm_up_eq]
          exact h.scr.frm (by show 0 < s.d; omega)
        · rw [tm_up_k e]; exact h.scr.s8 j h0 (by show j < s.d; omega)
      · have hj : j ≤ s.d + 1 := hj
        show pu_fl (pu_fl s.lv s.d cs) (s.d + 1) (s.F k) j = (pu_srcL s.F T (fun j => if j = s.d + 1 then k else fo j) j).drop (if j = s.d + 1 then 0 else po j) ∧ (if j = s.d + 1 then 0 else po j) ≤ (pu_srcL s.F T (fun j => if j = s.d + 1 then k else fo j) j).length
        by_cases e : j = s.d + 1
        · subst e
          unfold pu_srcL pu_fl
          rw [if_pos rfl, if_pos rfl, if_neg (by omega)]
          simp
        · have e2 : pu_srcL s.F T (fun j => if j = s.d + 1 then k else fo j) j = pu_srcL s.F T fo j := by
            unfold pu_srcL; simp only [if_neg e]
          rw [e2, if_neg e]
          have := h.scr.lv j (by show j ≤ s.d; omega)
          have e3 : pu_fl (pu_fl s.lv s.d cs) (s.d + 1) (s.F k) j = pu_fl s.lv s.d cs j := by
            show (if j = s.d + 1 then s.F k else pu_fl s.lv s.d cs j) = _
            rw [if_neg e]
          rw [e3]; exact this
      · have hj : j ≤ s.d + 1 := hj
        show (if j = s.d + 1 then k else fo j) < 8
        by_cases e : j = s.d + 1
        · rw [if_pos e]; exact k1
        · rw [if_neg e]; exact h.scr.f8 j h0 (by show j ≤ s.d; omega)
      · rw [co 0 (by decide) (by decide) (by decide)]; exact h.cm
      · rw [co 19 (by decide) (by decide) (by decide)]; exact h.op
theorem pu_ob_L (h : pu_RC (pu_onL s cs) T m mL po fo) (w : pu_WS s) (hop : s.opn = false) (q18 : pu_ag4 (m 18) vs) : pu_Out (f_La_obey 76 at_ m mL) s T m (.inr (pu_newF (pu_Sp.mk_ (pu_onL s cs).d (pu_onL s cs).lv (pu_onL s cs).outer (pu_onL s cs).cmds (pu_onL s cs).F (pu_onL s cs).V (true) (vs 0) (vs 1) (0) (0) (1) (pu_fu4 pu_vz 0 1 1 0) (pu_onL s cs).lt (pu_onL s cs).fx (pu_onL s cs).fy (pu_onL s cs).t (pu_onL s cs).cnt (pu_onL s cs).sp (pu_onL s cs).D (pu_onL s cs).sh ([]) (pu_onL s cs).os (pu_onL s cs).ls))) := by
  have g0 : f_Fo_get 17 0 (tm_up m 19 5 1) mL = some (vs 0, tm_up m 19 5 1, mL) := by
    have := pu_fg17 (m := tm_up m 19 5 1) (mL := mL) (i := 0) (by decide)
    rw [tm_up_o (by decide), q18 0 (by decide)] at this; exact this
  have g1 : f_Fo_get 17 1 (tm_up (tm_up m 19 5 1) 19 6 (vs 0)) mL = some (vs 1, tm_up (tm_up m 19 5 1) 19 6 (vs 0), mL) := by
    have := pu_fg17 (m := tm_up (tm_up m 19 5 1) 19 6 (vs 0)) (mL := mL) (i := 1) (by decide)
    rw [tm_up_o (by decide), tm_up_o (by decide), q18 1 (by decide)] at this; exact this
  have e0 : ∃ m', f_La_obey 76 at_ m mL = some (0, m', mL) ∧ m' = pu_FB (tm_up (tm_up (tm_up (tm_up (tm_up (tm_up (tm_up (tm_up (tm_up (tm_up m 19 5 1) 19 6 (vs 0)) 19 7 (vs 1)) 19 8 0) 19 9 0) 19 10 1) 33 0 0) 33 1 1) 33 2 1) 33 3 0) := by
    refine ⟨_, ?_, rfl⟩
    unfold f_La_obey f_La_obey_b0
    rw [pu_g17 q18, pu_b_some]
    simp only [show ((76 : Int32) = 59) = False by decide, show ((76 : Int32) = 69) = False by decide, show ((76 : Int32) = 75) = False by decide, if_false, if_true]
    unfold f_Pr_openLabel f_Pr_openLabel_b0
    rw [g0, pu_b_some]
    simp only []
    rw [g1, pu_b_some]
    simp only []
    rw [pu_fo_setAll (c := 33) rfl rfl, pu_b_some]
    simp only []
    rw [pu_fi_begin, pu_b_some, pu_b_some]
  obtain ⟨m', e1, e2⟩ := e0
  have ops : pu_opens (pu_onL s cs) = [] := by unfold pu_opens; show s.fs.flatMap pu_ords = []; rw [w.no hop]; rfl
  have co : ∀ a, a ≠ 19 → a ≠ 26 → a ≠ 28 → a ≠ 33 → m' a = m a := fun a a1 a2 a3 a4 => by
    rw [e2, pu_FB_o a2 a3, pu_tm_up_c a4, pu_tm_up_c a4, pu_tm_up_c a4, pu_tm_up_c a4, pu_tm_up_c a1, pu_tm_up_c a1, pu_tm_up_c a1, pu_tm_up_c a1, pu_tm_up_c a1, pu_tm_up_c a1]
  have K : pu_Keep s.F s.V T m' mL := h.k.fr (fun a ha => co a (by unfold pu_kpc at ha; omega) (by unfold pu_kpc at ha; omega) (by unfold pu_kpc at ha; omega) (by unfold pu_kpc at ha; omega)) (fun _ _ => rfl)
  refine ⟨0, m', mL, e1, fun a ha => co a (by omega) (by omega) (by omega) (by omega), by rw [co 0 (by decide) (by decide) (by decide) (by decide)], ?_⟩
  show (if 2000 ≤ s.cmds then ((0 : Int32) = 0 ∨ (0 : Int32) = 10) ∧ pu_Keep s.F s.V T m' mL else (0 : Int32) = 0 ∧ ∃ po fo, pu_RC _ T m' mL po fo)
  split
  · exact ⟨Or.inl rfl, K⟩
  · have c19 : ∀ b, m' 19 b = (tm_up (tm_up (tm_up (tm_up (tm_up (tm_up m 19 5 1) 19 6 (vs 0)) 19 7 (vs 1)) 19 8 0) 19 9 0) 19 10 1) 19 b := fun b => by
      rw [e2, pu_FB_o (by decide) (by decide), tm_up_o (by decide), tm_up_o (by decide), tm_up_o (by decide), tm_up_o (by decide)]
    refine ⟨rfl, po, fo, K, h.scr.fr (co 1 (by decide) (by decide) (by decide) (by decide)) (co 8 (by decide) (by decide) (by decide) (by decide)) (co 9 (by decide) (by decide) (by decide) (by decide)), ?_, ?_, ?_, fun _ => ?_⟩
    · rw [co 0 (by decide) (by decide) (by decide) (by decide)]; exact h.cm
    · show m' 19 5 = pu_bi true
      rw [c19]; simp [tm_up, pu_bi]
    · have R := h.res.fr (m' := m') (mL' := mL) (co 20 (by decide) (by decide) (by decide) (by decide)) (co 21 (by decide) (by decide) (by decide) (by decide)) (co 22 (by decide) (by decide) (by decide) (by decide)) (co 24 (by decide) (by decide) (by decide) (by decide)) rfl
      rw [ops] at R
      exact R
    · unfold pu_RLab
      refine ⟨?_, ?_, ?_, ?_, ?_, fun i hi => ?_, ?_, ?_, ?_, ?_, ?_, ?_, ?_, fun q => absurd rfl q⟩
      · show m' 19 6 = vs 0
        rw [c19]; simp [tm_up]
      · show m' 19 7 = vs 1
        rw [c19]; simp [tm_up]
      · show m' 19 8 = 0
        rw [c19]; simp [tm_up]
      · show m' 19 9 = 0
        rw [c19]; simp [tm_up]
      · show m' 19 10 = Int32.ofNat 1
        rw [c19]; simp [tm_up]
      · show m' 33 i = pu_fu4 pu_vz 0 1 1 0 i
        rw [e2, pu_FB_o (by decide) (by decide)]
        have : i = 0 ∨ i = 1 ∨ i = 2 ∨ i = 3 := by omega
        rcases this with rfl | rfl | rfl | rfl <;> simp [tm_up, pu_fu4, pu_fu]
      · rw [e2]; rfl
      · rw [e2]; rfl
      · rw [e2]; rfl
      · rw [e2]; rfl
      · rw [e2]; rfl
      · rw [e2]; rfl
      · exact pu_Row.empty (by rw [e2]; rfl)
end OBEY3
section OBEY4
variable {s : pu_Sp} {cs dd T : List Int32} {m : tm_I} {mL : tm_L} {po fo : Nat → Nat} {vs : Nat → Int32} {at_ : Int32}
theorem pu_linesO_mem {R : pu_Fd} {o : pu_Od} : ∀ (k : Nat) (L : List (Nat × Nat)), o ∈ pu_linesO R k L → ∃ j q, q ∈ L ∧ o = pu_lineO R j q
  | _, [], h => by simp [pu_linesO] at h
  | k, q :: r, h => by
    rw [pu_linesO, List.mem_cons] at h
    rcases h with h | h
    · exact ⟨k, q, List.mem_cons_self, h⟩
    · obtain ⟨j, p, hp, e⟩ := pu_linesO_mem (k + 1) r h
      exact ⟨j, p, List.mem_cons_of_mem _ hp, e⟩
theorem pu_mk_WO {R : pu_Fd} (h : pu_FdOK R) (pu_kd r i j a b c : Int32) (st sz : Nat) : pu_WO (pu_mk R pu_kd r i j a b c st sz) :=
  ⟨(pu_tailOf_le _ _).1, pu_spNum_lt _ _ _ (fun j _ hj => pu_tailOf_dig R.cnt R.D j (by omega)), h.s1, h.s2, h.len⟩
theorem pu_ords_WO {R : pu_Fd} (h : pu_FdOK R) : ∀ o ∈ pu_ords R, pu_WO o := by
  intro o ho
  unfold pu_ords at ho
  split at ho
  · obtain ⟨j, q, _, rfl⟩ := pu_linesO_mem _ _ ho
    exact pu_mk_WO h _ _ _ _ _ _ _ _ _
  · split at ho
    · rw [List.mem_cons] at ho
      rcases ho with rfl | ho
      · exact pu_mk_WO h _ _ _ _ _ _ _ _ _
      · split at ho
        · rw [List.mem_singleton] at ho; subst ho; exact pu_mk_WO h _ _ _ _ _ _ _ _ _
        · simp at ho
    · repeat' (first | (split at ho) | (rw [List.mem_singleton] at ho; subst ho; exact pu_mk_WO h _ _ _ _ _ _ _ _ _) | (simp at ho; done))
theorem pu_ords_D {R : pu_Fd} : ∀ o ∈ pu_ords R, o.D = R.D := by
  intro o ho
  unfold pu_ords at ho
  split at ho
  · obtain ⟨j, q, _, rfl⟩ := pu_linesO_mem _ _ ho
    rfl
  · split at ho
    · rw [List.mem_cons] at ho
      rcases ho with rfl | ho
      · rfl
      · split at ho
        · rw [List.mem_singleton] at ho; subst ho; rfl
        · simp at ho
    · repeat' (first | (split at ho) | (rw [List.mem_singleton] at ho; subst ho; rfl) | (simp at ho; done))
theorem pu_opens_WO (w : pu_WS s) : ∀ o ∈ pu_opens s, pu_WO o := by
  intro o ho
  unfold pu_opens at ho
  obtain ⟨R, hR, h2⟩ := List.mem_flatMap.mp ho
  exact pu_ords_WO (w.fs R hR) o h2
theorem pu_ob_E (h : pu_RC (pu_onL s cs) T m mL po fo) (w : pu_WS s) (ho : s.opn = true) (q18 : pu_ag4 (m 18) vs) : pu_Out (f_La_obey 69 at_ m mL) s T m (if ¬ (s.ls.length + s.cp ≤ 12 ∧ s.os.length + (pu_opens s).length * s.cp ≤ 120) then .inl 10 else .inr (pu_Sp.mk_ (pu_onL s cs).d (pu_onL s cs).lv (pu_onL s cs).outer (pu_onL s cs).cmds (pu_onL s cs).F (pu_onL s cs).V (false) (pu_onL s cs).w (pu_onL s cs).h (pu_onL s cs).hx (pu_onL s cs).hy (pu_onL s cs).cp (pu_onL s cs).tx (pu_onL s cs).lt (pu_onL s cs).fx (pu_onL s cs).fy (pu_onL s cs).t (pu_onL s cs).cnt (pu_onL s cs).sp (pu_onL s cs).D (pu_onL s cs).sh ([]) (s.os ++ pu_cpsO (pu_opens s) 0 s.cp) (s.ls ++ pu_cpsL s.w s.h s.os.length (pu_opens s).length 0 s.cp))) := by
  have L := h.lab ho
  unfold pu_RLab at L
  obtain ⟨l1, l2, l3, l4, l5, _⟩ := L
  have l1 : m 19 6 = s.w := l1
  have l2 : m 19 7 = s.h := l2
  have l5 : m 19 10 = Int32.ofNat s.cp := l5
  obtain ⟨c1, c2⟩ := w.cp ho
  have R := h.res.fr (m' := tm_up m 19 5 0) (mL' := mL) (pu_tm_up_c (by decide)) (pu_tm_up_c (by decide)) (pu_tm_up_c (by decide)) (pu_tm_up_c (by decide)) rfl
  obtain ⟨Fc, f1, f2, f3, f4⟩ := R.n6
  have e0 : f_La_obey 69 at_ m mL = (f_Sh_endLabel s.w s.h (Int32.ofNat s.cp) (tm_up m 19 5 0) mL).bind fun v1 => if v1.1 = 0 then some (10, v1.2.1, v1.2.2) else some (0, v1.2.1, v1.2.2) := by
    unfold f_La_obey f_La_obey_b0
    rw [pu_g17 q18, pu_b_some]
    simp only [show ((69 : Int32) = 59) = False by decide, if_false, if_true]
    unfold f_Pr_closeLabel f_Pr_closeLabel_b0 f_Pr_closeLabel_b33
    rw [tm_up_k (show 6 ≠ 5 by decide), tm_up_k (show 7 ≠ 5 by decide), tm_up_k (show 10 ≠ 5 by decide), l1, l2, l5]
    cases f_Sh_endLabel s.w s.h (Int32.ofNat s.cp) (tm_up m 19 5 0) mL with
    | none => rfl
    | some v =>
      simp only [pu_b_some]
      by_cases q : v.1 = 0
      · rw [if_pos q]; rfl
      · rw [if_neg q]; rfl
  have K0 : pu_Keep s.F s.V T (tm_up m 19 5 0) mL := h.k.fr (fun a ha => pu_tm_up_c (by unfold pu_kpc at ha; omega)) (fun _ _ => rfl)
  rw [e0]
  rcases pu_sh_end (m := tm_up m 19 5 0) (mL := mL) (w := s.w) (h := s.h) (fs := pu_opens s) (os := s.os) (ls := s.ls) (cp := s.cp) rfl (by have := w.n; omega) (pu_opens_WO w) c2 w.ls w.os R.n3 R.n4 R.n5 f3 f4 R.lb with ⟨q, e1⟩ | ⟨q, m', e1, e2, e3, e4, e5, e6, e7, e8⟩
  · rw [e1, pu_b_some, if_pos rfl, if_pos q]
    exact ⟨10, tm_up m 19 5 0, mL, rfl, fun a ha => pu_tm_up_c (by omega), pu_tm_up_c (by decide), rfl, by decide, K0⟩
  · rw [e1, pu_b_some, if_neg (show ¬ (1 : Int32) = 0 by decide), if_neg (fun z => z q)]
    have co : ∀ a, a ≠ 19 → a ≠ 20 → a ≠ 21 → a ≠ 22 → m' a = m a := fun a a0 a1 a2 a3 => by rw [e2 a a1 a2 a3, pu_tm_up_c a0]
    have K : pu_Keep s.F s.V T m' mL := h.k.fr (fun a ha => co a (by unfold pu_kpc at ha; omega) (by unfold pu_kpc at ha; omega) (by unfold pu_kpc at ha; omega) (by unfold pu_kpc at ha; omega)) (fun _ _ => rfl)
    refine ⟨0, m', mL, rfl, fun a ha => co a (by omega) (by omega) (by omega) (by omega), by rw [co 0 (by decide) (by decide) (by decide) (by decide)], ?_⟩
    show (if 2000 ≤ s.cmds then ((0 : Int32) = 0 ∨ (0 : Int32) = 10) ∧ pu_Keep s.F s.V T m' mL else (0 : Int32) = 0 ∧ ∃ po fo, pu_RC _ T m' mL po fo)
    split
    · exact ⟨Or.inl rfl, K⟩
    · refine ⟨rfl, po, fo, K, h.scr.fr (co 1 (by decide) (by decide) (by decide) (by decide)) (co 8 (by decide) (by decide) (by decide) (by decide)) (co 9 (by decide) (by decide) (by decide) (by decide)), ?_, ?_, ?_, fun q => by cases q⟩
      · rw [co 0 (by decide) (by decide) (by decide) (by decide)]; exact h.cm
      · rw [e2 19 (by decide) (by decide) (by decide)]; simp [tm_up, pu_bi]
      · refine ⟨e4, e5, e6, ⟨Fc, ?_, ?_, e7, fun i hi => absurd hi (Nat.not_lt_zero i)⟩, e8⟩
        · rw [e3 6 (by decide) (by decide) (by decide)]; exact f1
        · show Fc ≤ (s.os ++ pu_cpsO (pu_opens s) 0 s.cp).length + 0
          have f2 : Fc ≤ s.os.length + (pu_opens s).length := f2
          obtain ⟨c, hc⟩ : ∃ c, s.cp = c + 1 := ⟨s.cp - 1, by omega⟩
          rw [hc, pu_cpsO, List.length_append, List.length_append, List.length_map]; omega
set_option maxHeartbeats 1000000 in
theorem pu_ob_semi (h : pu_RC (pu_onL s cs) T m mL po fo) (w : pu_WS s) (ho : s.opn = true) (hk : s.lt ≠ -1) (q18 : pu_ag4 (m 18) vs) : pu_Out (f_La_obey 59 at_ m mL) s T m (if pu_fitF (pu_recOf s) = false ∨ pu_okF (pu_recOf s) = false then .inl 8 else if 120 < (pu_opens s).length + (pu_ords (pu_recOf s)).length then .inl 10 else .inr (pu_newF (pu_Sp.mk_ (pu_onL s cs).d (pu_onL s cs).lv (pu_onL s cs).outer (pu_onL s cs).cmds (pu_onL s cs).F (pu_onL s cs).V (pu_onL s cs).opn (pu_onL s cs).w (pu_onL s cs).h (pu_onL s cs).hx (pu_onL s cs).hy (pu_onL s cs).cp (pu_onL s cs).tx (pu_onL s cs).lt (pu_onL s cs).fx (pu_onL s cs).fy (pu_onL s cs).t (pu_onL s cs).cnt (pu_onL s cs).sp (pu_onL s cs).D (pu_onL s cs).sh (s.fs ++ [pu_recOf s]) (pu_onL s cs).os (pu_onL s cs).ls))) := by
  have L := h.lab ho
  unfold pu_RLab at L
  obtain ⟨l1, l2, l3, l4, l5, l6, l7, l8, l9, l10, l11, l12, l13, l14⟩ := L
  have l3 : m 19 8 = s.hx := l3
  have l4 : m 19 9 = s.hy := l4
  have l7 : m 26 2 = s.lt := l7
  have l8 : m 26 3 = s.fx := l8
  have l9 : m 26 4 = s.fy := l9
  have td : pu_TD m mL s.D := ⟨l13, w.dl ho, h.k.f0, h.k.f1⟩
  have fl0 : pu_Fl m mL (pu_recOf s) := ⟨by show m 19 8 + m 26 3 = s.hx + s.fx; rw [l3, l8], by show m 19 9 + m 26 4 = s.hy + s.fy; rw [l4, l9], l7, l10, l11, l12, l14 hk, l6, td⟩
  have wf := w.k ho hk
  have R := h.res
  have n3 : m 20 3 = Int32.ofNat s.ls.length := R.n3
  have n4 : m 20 4 = Int32.ofNat s.os.length := R.n4
  have n5 : m 20 5 = Int32.ofNat (pu_opens s).length := R.n5
  obtain ⟨Fc, f1, f2, f3, f4⟩ := R.n6
  have f2 : Fc ≤ s.os.length + (pu_opens s).length := f2
  have wn := w.n
  have wos := w.os
  have hlen : (pu_ords (pu_recOf s)).length ≤ 1000 := by
    by_cases q : (pu_recOf s).lt = 87
    · unfold pu_ords
      rw [if_pos q, pu_linesO_len]
      have : ∀ (n : Nat) (D : List Int32) (f from_ : Nat), (pu_spLines n D f from_).length ≤ f := by
        intro n D f
        induction f with
        | zero => intro from_; simp [pu_spLines]
        | succ f ih =>
          intro from_
          rw [pu_spLines, List.length_cons]
          have := ih (pu_spLine n D from_).2
          split
          · omega
          · simp
      have := this ((pu_recOf s).sh 0).toNatClampNeg (pu_recOf s).D 202 0
      unfold pu_linesOf; omega
    · rw [pu_ords_not87 q wf]; simp; split <;> simp
  obtain ⟨m', mL', e1, e2, e3, e4⟩ := pu_pr_endField (R := pu_recOf s) fl0 wf f1 n4 n5 wos wn (by omega) h.k.e0 h.k.e1 hlen
  have e0 : f_La_obey 59 at_ m mL = if pu_fitF (pu_recOf s) = false then some (8, m, mL) else f_Pr_endField m mL := by
    unfold f_La_obey f_La_obey_b0
    rw [pu_g17 q18, pu_b_some]
    simp only [if_true]
    rw [pu_fi_fit fl0 wf, pu_b_some]
    cases pu_fitF (pu_recOf s)
    · rw [if_pos pu_bi_f, if_pos rfl]; rfl
    · rw [if_neg pu_bi_t, if_neg (by decide), e1, pu_b_some]; rfl
  rw [e0]
  by_cases q1 : pu_fitF (pu_recOf s) = false
  · rw [if_pos q1, if_pos (Or.inl q1)]
    exact ⟨8, m, mL, rfl, fun _ _ => rfl, rfl, rfl, by decide, h.k⟩
  · rw [if_neg q1, e1]
    have K : pu_Keep s.F s.V T m' mL' := h.k.fr (fun a ha => e2 a (by unfold pu_kpc at ha; omega) (by unfold pu_kpc at ha; omega) (by unfold pu_kpc at ha; omega) (by unfold pu_kpc at ha; omega) (by unfold pu_kpc at ha; omega) (by unfold pu_kpc at ha; omega) (by unfold pu_kpc at ha; omega) (by unfold pu_kpc at ha; omega)) (fun e he => e3 e (by omega))
    have c39 : ∀ a, 39 ≤ a → m' a = m a := fun a ha => e2 a (by omega) (by omega) (by omega) (by omega) (by omega) (by omega) (by omega) (by omega)
    have c0 : m' 0 = m 0 := by rw [e2 0 (by decide) (by decide) (by decide) (by decide) (by decide) (by decide) (by decide) (by decide)]
    by_cases q2 : pu_okF (pu_recOf s) = false
    · rw [if_pos q2, if_pos (Or.inr q2)]
      exact ⟨8, m', mL', rfl, c39, c0, rfl, by decide, K⟩
    · have q2' : pu_okF (pu_recOf s) = true := by simpa using q2
      rw [if_neg q2, if_neg (c := pu_fitF (pu_recOf s) = false ∨ pu_okF (pu_recOf s) = false) (fun z => z.elim q1 q2)]
      by_cases q3 : 120 < (pu_opens s).length + (pu_ords (pu_recOf s)).length
      · rw [if_pos q3, if_pos q3]
        exact ⟨10, m', mL', rfl, c39, c0, rfl, by decide, K⟩
      · rw [if_neg q3, if_neg q3]
        have X := e4 q2'
        refine ⟨0, m', mL', rfl, c39, c0, ?_⟩
        show (if 2000 ≤ s.cmds then ((0 : Int32) = 0 ∨ (0 : Int32) = 10) ∧ pu_Keep s.F s.V T m' mL' else (0 : Int32) = 0 ∧ ∃ po fo, pu_RC _ T m' mL' po fo)
        split
        · exact ⟨Or.inl rfl, K⟩
        · have D : ∀ {a}, a ≠ 20 → a ≠ 22 → a ≠ 24 → a ≠ 26 → a ≠ 28 → a ≠ 35 → a ≠ 37 → a ≠ 38 → m' a = m a := fun {a} a1 a2 a3 a4 a5 a6 a7 a8 => e2 a a1 a2 a3 a4 a5 a6 a7 a8
          have hne : 1 ≤ (pu_ords (pu_recOf s)).length := by
            rcases Nat.eq_zero_or_pos (pu_ords (pu_recOf s)).length with z | z
            · exfalso
              by_cases q : (pu_recOf s).lt = 87
              · unfold pu_ords at z
                rw [if_pos q, pu_linesO_len] at z
                unfold pu_linesOf at z
                rw [pu_spLines] at z
                simp at z
              · rw [pu_ords_not87 q wf] at z; simp at z
            · exact z
          have ops : pu_opens (pu_newF (pu_Sp.mk_ (pu_onL s cs).d (pu_onL s cs).lv (pu_onL s cs).outer (pu_onL s cs).cmds (pu_onL s cs).F (pu_onL s cs).V (pu_onL s cs).opn (pu_onL s cs).w (pu_onL s cs).h (pu_onL s cs).hx (pu_onL s cs).hy (pu_onL s cs).cp (pu_onL s cs).tx (pu_onL s cs).lt (pu_onL s cs).fx (pu_onL s cs).fy (pu_onL s cs).t (pu_onL s cs).cnt (pu_onL s cs).sp (pu_onL s cs).D (pu_onL s cs).sh (s.fs ++ [pu_recOf s]) (pu_onL s cs).os (pu_onL s cs).ls)) = pu_opens s ++ pu_ords (pu_recOf s) := by
            unfold pu_opens; show (s.fs ++ [pu_recOf s]).flatMap pu_ords = _; simp
          refine ⟨rfl, po, fo, K, h.scr.fr (D (by decide) (by decide) (by decide) (by decide) (by decide) (by decide) (by decide) (by decide)) (D (by decide) (by decide) (by decide) (by decide) (by decide) (by decide) (by decide) (by decide)) (D (by decide) (by decide) (by decide) (by decide) (by decide) (by decide) (by decide) (by decide)), by rw [c0]; exact h.cm, ?_, ?_, fun _ => ?_⟩
          · rw [D (a := 19) (by decide) (by decide) (by decide) (by decide) (by decide) (by decide) (by decide) (by decide)]; exact h.op
          · rw [ops]
            have oldCN : ∀ (K : Nat) (os : List pu_Od), (∀ o ∈ os, o.D.length ≤ 200) → K + os.length ≤ s.os.length + (pu_opens s).length → pu_CN Fc m mL K os → pu_CN (Fc + 1) m' mL' K os := by
              intro K0 os hos hK hc i hi hlt
              obtain ⟨G, g1, g2, g3⟩ := hc i hi hlt
              refine ⟨G, ⟨g1.1, by omega⟩, fun j hj => ?_, ?_⟩
              · rw [X.old _ (by omega)]; exact g2 j hj
              · exact X.oth G _ (by omega) (hos _ (List.getElem_mem hi)) g3
            refine ⟨?_, ?_, ?_, ⟨Fc + 1, X.n6, ?_, ?_, ?_⟩, fun k hk j hj => ?_⟩
            · rw [X.c20 3 (by decide) (by decide) (by decide) (by decide)]; exact n3
            · rw [X.c20 4 (by decide) (by decide) (by decide) (by decide)]; exact n4
            · rw [X.n5, List.length_append]
            · show Fc + 1 ≤ s.os.length + _
              rw [List.length_append]; omega
            · exact oldCN 0 s.os (fun o ho => (w.wo o ho).len) (by omega) f3
            · have c1 := oldCN s.os.length (pu_opens s) (fun o ho => (pu_opens_WO w o ho).len) (Nat.le_refl _) f4
              refine c1.app ?_
              intro i hi hlt
              refine ⟨Fc, ⟨by omega, by omega⟩, fun j hj => X.new i hi hlt j hj, ?_⟩
              have eD : (pu_ords (pu_recOf s))[i].D = s.D := by
                exact pu_ords_D (R := pu_recOf s) _ (List.getElem_mem hi)
              rw [eD]
              exact X.told (by omega)
            · rw [D (a := 21) (by decide) (by decide) (by decide) (by decide) (by decide) (by decide) (by decide) (by decide)]; exact R.lb k hk j hj
          · unfold pu_RLab
            have e19 : m' 19 = m 19 := D (by decide) (by decide) (by decide) (by decide) (by decide) (by decide) (by decide) (by decide)
            have e33 : m' 33 = m 33 := D (by decide) (by decide) (by decide) (by decide) (by decide) (by decide) (by decide) (by decide)
            rw [e19, e33]
            exact ⟨l1, l2, l3, l4, l5, l6, X.k, X.x, X.y, X.t, X.cn, X.sp, pu_Row.empty X.d, fun q => absurd rfl q⟩
end OBEY4
theorem pu_sv_r {l : Int32} {u vs : Nat → Int32} {cs r : List Int32} (j : Nat) (hj : pu_rgi l = j) (h : pu_spTake (pu_rgi l) l u cs = .inr (vs, r)) (i na nb : Nat) (hi : i < (tm_sv j).length / 3) (ha : ((tm_sv j).getD (3 * i) 0).toInt = na) (hb : ((tm_sv j).getD (3 * i + 1) 0).toInt = nb) : ∃ n, na ≤ n ∧ n ≤ nb ∧ vs i = Int32.ofNat n := by
  rw [hj] at h
  exact pu_i_rng ((pu_take_ok h).1 i hi) ha hb
theorem pu_num_ok {s : pu_Sp} {l : Int32} {cs r : List Int32} {vs : Nat → Int32} (h : pu_takeN s l cs = .inr (vs, r)) : pu_NumOK l vs := by
  have H : pu_rgi l ≠ 14 → pu_spTake (pu_rgi l) l (pu_presS s l) cs = .inr (vs, r) := by
    intro q; unfold pu_takeN at h; rw [if_neg q] at h; exact h
  refine ⟨fun q => ?_, fun q => ?_, fun q => ?_, fun q => ?_, fun q => ?_, fun q => ?_, fun q => ?_, fun q => ?_⟩
  · rcases q with rfl | rfl
    · obtain ⟨n, _, n2, n3⟩ := pu_sv_r 0 (by decide) (H (by decide)) 0 0 7 (by decide) (by decide) (by decide)
      exact ⟨n, by omega, n3⟩
    · obtain ⟨n, _, n2, n3⟩ := pu_sv_r 0 (by decide) (H (by decide)) 0 0 7 (by decide) (by decide) (by decide)
      exact ⟨n, by omega, n3⟩
  · rcases q with rfl | rfl
    · obtain ⟨n, _, n2, n3⟩ := pu_sv_r 1 (by decide) (H (by decide)) 0 0 9 (by decide) (by decide) (by decide)
      exact ⟨n, by omega, n3⟩
    · obtain ⟨n, _, n2, n3⟩ := pu_sv_r 1 (by decide) (H (by decide)) 0 0 9 (by decide) (by decide) (by decide)
      exact ⟨n, by omega, n3⟩
  · subst q
    exact pu_sv_r 4 (by decide) (H (by decide)) 0 1 12 (by decide) (by decide) (by decide)
  · subst q
    have h1 := (pu_take_ok (H (by decide))).1 0 (by decide)
    obtain ⟨h2, h3⟩ := h1
    rw [Int32.le_iff_toInt_le] at h2 h3
    have e1 : ((tm_sv (pu_rgi 35)).getD (3 * 0) 0).toInt = -99 := by decide
    have e2 : ((tm_sv (pu_rgi 35)).getD (3 * 0 + 1) 0).toInt = 99 := by decide
    rw [e1] at h2; rw [e2] at h3
    exact ⟨h2, h3⟩
  · subst q
    exact pu_sv_r 7 (by decide) (H (by decide)) 0 1 99 (by decide) (by decide) (by decide)
  · subst q
    exact pu_sv_r 13 (by decide) (H (by decide)) 0 1 1024 (by decide) (by decide) (by decide)
  · rcases q with rfl | rfl | rfl | rfl
    · rw [(pu_take_ok (H (by decide))).2 3 (by decide)]; rfl
    · rw [(pu_take_ok (H (by decide))).2 3 (by decide)]; rfl
    · rw [(pu_take_ok (H (by decide))).2 3 (by decide)]; rfl
    · rw [(pu_take_ok (H (by decide))).2 3 (by decide)]; rfl
  · subst q
    exact ⟨by rw [(pu_take_ok (H (by decide))).2 1 (by decide)]; rfl, by rw [(pu_take_ok (H (by decide))).2 2 (by decide)]; rfl⟩
theorem pu_inside_cases {l : Int32} (h : pu_idx (tm_tx 1) l = true) : l = 75 ∨ l = 69 ∨ l = 72 ∨ l = 67 ∨ l = 68 ∨ l = 85 ∨ l = 79 ∨ l = 82 ∨ l = 88 ∨ l = 86 ∨ l = 35 ∨ pu_kindL l ∨ l = 59 := by
  have h2 : l ∈ tm_tx 1 := of_decide_eq_true h
  have e : tm_tx 1 = [75, 69, 72, 67, 68, 85, 79, 82, 88, 86, 35, 84, 87, 66, 78, 81, 70, 73, 71, 80, 59] := rfl
  rw [e] at h2
  simp only [List.mem_cons, List.not_mem_nil, or_false] at h2
  unfold pu_kindL
  rcases h2 with h | h | h | h | h | h | h | h | h | h | h | h | h | h | h | h | h | h | h | h | h <;> simp [h]
theorem pu_outside_cases {l : Int32} (h : pu_idx (tm_tx 0) l = true) : l = 83 ∨ l = 75 ∨ l = 76 := by
  have h2 : l ∈ tm_tx 0 := of_decide_eq_true h
  have e : tm_tx 0 = [83, 75, 76] := rfl
  rw [e] at h2
  simpa using h2
section OB
variable {s : pu_Sp} {cs dd T : List Int32} {m : tm_I} {mL : tm_L} {po fo : Nat → Nat} {vs : Nat → Int32} {at_ : Int32}
theorem pu_la_obey {l : Int32} (h : pu_RC (pu_onL s cs) T m mL po fo) (w : pu_WS s) (hc : s.cmds < 1000000) (hm : pu_may s l = true) (q18 : pu_ag4 (m 18) vs) (n : pu_NumOK l vs) (hr : l = 75 ∨ l = 88 → pu_Row (m 14) (mL 15) 25 0 dd ∧ dd.length ≤ 200) : pu_Out (f_La_obey l at_ m mL) s T m (pu_act s l vs dd cs at_) := by
  unfold pu_act
  unfold pu_may at hm
  by_cases ho : s.opn = false
  · rw [if_pos ho] at hm
    rcases pu_outside_cases hm with rfl | rfl | rfl
    · rw [if_pos rfl]; exact pu_ob_S h w ho hc q18 n
    · rw [if_neg (by decide), if_pos rfl]; exact pu_ob_K h hc q18 n (hr (Or.inl rfl)).1 (hr (Or.inl rfl)).2
    · rw [if_neg (by decide), if_neg (by decide), if_pos rfl]; exact pu_ob_L h w ho q18
  · rw [if_neg ho] at hm
    have ho : s.opn = true := by simpa using ho
    by_cases h69 : l = 69
    · subst h69
      rw [if_neg (by decide), if_neg (by decide), if_neg (by decide), if_pos rfl]; exact pu_ob_E h w ho q18
    · rw [if_neg h69] at hm
      by_cases h59 : l = 59
      · subst h59
        rw [if_pos rfl] at hm
        rw [if_neg (by decide), if_neg (by decide), if_neg (by decide), if_neg (by decide), if_neg (by decide), if_neg (by decide), if_neg (by decide), if_pos rfl]
        exact pu_ob_semi h w ho (of_decide_eq_true hm) q18
      · rw [if_neg h59] at hm
        rcases pu_inside_cases hm with rfl | rfl | rfl | rfl | rfl | rfl | rfl | rfl | rfl | rfl | rfl | k | rfl
        · rw [if_neg (by decide), if_pos rfl]; exact pu_ob_K h hc q18 n (hr (Or.inl rfl)).1 (hr (Or.inl rfl)).2
        · exact absurd rfl h69
        · exact pu_ob_H h q18 ho
        · exact pu_ob_C h q18 n ho
        · exact pu_ob_D h q18 ho
        · exact pu_ob_U h w ho q18 n
        · exact pu_ob_O h q18 ho
        · exact pu_ob_R h q18 ho
        · exact pu_ob_X h q18 ho (hr (Or.inr rfl)).1 (hr (Or.inr rfl)).2
        · exact pu_ob_V h q18 n ho
        · exact pu_ob_N h q18 ho
        · have ne : l ≠ 83 ∧ l ≠ 75 ∧ l ≠ 76 ∧ l ≠ 69 ∧ l ≠ 85 ∧ l ≠ 88 ∧ l ≠ 86 ∧ l ≠ 59 ∧ l ≠ 35 ∧ l ≠ 67 ∧ l ≠ 68 ∧ l ≠ 72 ∧ l ≠ 79 ∧ l ≠ 82 := by
            rcases k with rfl | rfl | rfl | rfl | rfl | rfl | rfl | rfl | rfl <;> decide
          obtain ⟨n1, n2, n3, n4, n5, n6, n7, n8, n9, n10, n11, n12, n13, n14⟩ := ne
          rw [if_neg n1, if_neg n2, if_neg n3, if_neg n4, if_neg n5, if_neg n6, if_neg n7, if_neg n8, if_neg n9, if_neg n10, if_neg n11, if_neg n12, if_neg n13, if_neg n14]
          exact pu_ob_kind k h q18 ho
        · exact absurd rfl h59
theorem pu_la_isLetter {l : Int32} (h : l = -1 ∨ ∃ n, n < 256 ∧ l = Int32.ofNat n) : f_La_isLetter l m mL = some (pu_bi (pu_isLet l), m, mL) := by
  unfold f_La_isLetter f_La_isLetter_b0 f_La_isLetter_b23 f_La_isLetter_b27 f_La_isLetter_b28 pu_isLet
  rcases h with rfl | ⟨n, hn, rfl⟩
  · rfl
  · rw [if_neg (pu_b_ne hn), pu_la_among (by decide) hn, pu_b_some]
    simp only []
    cases pu_idx (tm_tx 0) (Int32.ofNat n)
    · rw [if_neg (by simp [pu_bi]), pu_la_among (by decide) hn, pu_b_some]
      cases pu_idx (tm_tx 1) (Int32.ofNat n)
      · simp [pu_bi]
      · simp [pu_bi]
    · simp [pu_bi]
theorem pu_la_may {n : Nat} (hn : n < 256) (h : pu_RC s T m mL po fo) : f_La_mayStand (Int32.ofNat n) m mL = some (pu_bi (pu_may s (Int32.ofNat n)), m, mL) := by
  unfold f_La_mayStand f_La_mayStand_b0 f_La_mayStand_b38 pu_may
  have d4 := h.scr.d4
  rw [h.op]
  cases hop : s.opn
  · rw [if_neg (by simp [pu_bi]), pu_la_among (by decide) hn, pu_b_some, if_pos rfl]
    simp only []
    rw [if_pos (pu_bi_ok _)]
  · rw [if_pos (by simp [pu_bi]), if_neg (c := (true = false)) (by decide)]
    by_cases h69 : Int32.ofNat n = 69
    · rw [if_neg (fun q => q h69), if_pos h69]
      unfold f_Sc_isInForm f_Sc_isInForm_b0 f_Sc_isInForm_b12
      rw [h.scr.dep]
      by_cases pu_hd : s.d = 0
      · rw [if_pos (by simp (disch := omega) only [pu_n_lit, pu_n_add, pu_n_mul, pu_n_sub, pu_n_div, pu_n_nat, pu_q_ltT, pu_q_ltF, pu_q_leT, pu_q_leF, pu_q_eqT, pu_q_eqF, pu_n_lt, pu_n_le, pu_n_eq, pu_p_ltT, pu_p_ltF, pu_p_leT, pu_p_leF, not_true_eq_false, not_false_eq_true, or_false, false_or, or_true, true_or, and_true, true_and, and_false, false_and, ↓reduceIte, pu_b_some])]
        simp [pu_hd, pu_bi]
      · rw [if_neg (by simp (disch := omega) only [pu_n_lit, pu_n_add, pu_n_mul, pu_n_sub, pu_n_div, pu_n_nat, pu_q_ltT, pu_q_ltF, pu_q_leT, pu_q_leF, pu_q_eqT, pu_q_eqF, pu_n_lt, pu_n_le, pu_n_eq, pu_p_ltT, pu_p_ltF, pu_p_leT, pu_p_leF, not_true_eq_false, not_false_eq_true, or_false, false_or, or_true, true_or, and_true, true_and, and_false, false_and, ↓reduceIte, pu_b_some])]
        simp [pu_hd, pu_bi]
    · rw [if_pos h69, if_neg h69]
      by_cases h59 : Int32.ofNat n = 59
      · rw [if_neg (fun q => q h59), if_pos h59]
        have l7 := (h.lab hop).2.2.2.2.2.2.1
        unfold f_Fi_hasKind f_Fi_hasKind_b0 f_Fi_hasKind_b13
        rw [l7]
        by_cases hk : s.lt = -1
        · rw [if_pos hk]; simp [hk, pu_bi]
        · rw [if_neg hk]; simp [hk, pu_bi]
      · rw [if_pos h59, if_neg h59, pu_la_among (by decide) hn, pu_b_some]
        simp only []
        rw [if_pos (pu_bi_ok _)]
end OB
