theorem pu_Nm_id {m : tm_I} {p : Nat} (h : m 1 6 = Int32.ofNat p) : pu_Nm m p (m 18) = m := by
  funext a b; unfold pu_Nm
  split
  · next q => rw [q.1, q.2, h]
  · split
    · next q => rw [q]
    · rfl
theorem pu_Dm_id {m : tm_I} {p : Nat} (h : m 1 6 = Int32.ofNat p) (z : Int32) : tm_up m 14 0 z = pu_Dm m p z := by
  funext a b; unfold tm_up pu_Dm
  by_cases q : a = 1 ∧ b = 6
  · rw [if_pos q, if_neg (by omega), q.1, q.2, h]
  · rw [if_neg q]
section CMD
variable {s : pu_Sp} {T : List Int32} {m : tm_I} {mL : tm_L} {po fo : Nat → Nat}
theorem pu_onL_onL (s : pu_Sp) (a b : List Int32) : pu_onL (pu_onL s a) b = pu_onL s b := by
  unfold pu_onL
  have : pu_fl (pu_fl s.lv s.d a) s.d b = pu_fl s.lv s.d b := by
    funext j; unfold pu_fl; split <;> rfl
  simp only [this]
theorem pu_RC.nm (h : pu_RC s T m mL po fo) {q : Nat} (hq : q ≤ (pu_srcL s.F T fo s.d).length) (vs : Nat → Int32) : pu_RC (pu_onL s ((pu_srcL s.F T fo s.d).drop q)) T (pu_Nm m q vs) mL (pu_fup po s.d q) fo := by
  refine (h.mv hq).fr (fun a ha => ?_) (fun _ _ => rfl)
  funext b
  unfold pu_Nm tm_up
  have : a ≠ 18 := fun e => ha (by unfold pu_rcf; omega)
  rw [if_neg this]
theorem pu_RC.dm (h : pu_RC s T m mL po fo) {q : Nat} (hq : q ≤ (pu_srcL s.F T fo s.d).length) (z : Int32) {mL' : tm_L} (hL : ∀ e, e ≠ 15 → mL' e = mL e) : pu_RC (pu_onL s ((pu_srcL s.F T fo s.d).drop q)) T (pu_Dm m q z) mL' (pu_fup po s.d q) fo := by
  refine (h.mv hq).fr (fun a ha => ?_) hL
  funext b
  unfold pu_Dm tm_up
  have : a ≠ 14 := fun e => ha (by unfold pu_rcf; omega)
  rw [if_neg (c := a = 14 ∧ b = 0) (fun q => this q.1)]
theorem pu_Keep.nm {F V : Nat → List Int32} (h : pu_Keep F V T m mL) (q : Nat) (vs : Nat → Int32) : pu_Keep F V T (pu_Nm m q vs) mL := h.fr (fun a ha => pu_Nm_o (by unfold pu_kpc at ha; omega) (by unfold pu_kpc at ha; omega)) (fun _ _ => rfl)
theorem pu_Keep.dm {F V : Nat → List Int32} (h : pu_Keep F V T m mL) (q : Nat) (z : Int32) {mL' : tm_L} (hL : ∀ e, e ≠ 15 → mL' e = mL e) : pu_Keep F V T (pu_Dm m q z) mL' := h.fr (fun a ha => pu_Dm_o (by unfold pu_kpc at ha; omega) (by unfold pu_kpc at ha; omega)) (fun e he => hL e (by omega))
def pu_OutC (r : Option (Int32 × tm_I × tm_L)) (s : pu_Sp) (T : List Int32) (m : tm_I) (res : Int32 ⊕ pu_Sp) : Prop :=
  ∃ c m' mL', r = some (c, m', mL') ∧ (∀ a, 39 ≤ a → m' a = m a) ∧ (∀ b, b ≠ 5 → m' 0 b = m 0 b) ∧
    match res with
    | .inl c' => c = c' ∧ c ≠ 0 ∧ pu_Keep s.F s.V T m' mL'
    | .inr s' => c = 0 ∧ ∃ po fo, pu_RC s' T m' mL' po fo
theorem pu_act_elim {s s' : pu_Sp} {l : Int32} {vs : Nat → Int32} {dd cs : List Int32} {at_ : Int32} {P : pu_Sp → Prop} (h : pu_act s l vs dd cs at_ = .inr s')
    (hS : ∀ k, l = 83 → pu_spFind cs 0 = some k → k ≤ 400 → P (pu_Sp.mk_ s.d (pu_fl s.lv s.d (cs.drop (k + 2))) s.outer s.cmds (pu_fl s.F (vs 0).toNatClampNeg (cs.take k)) s.V s.opn s.w s.h s.hx s.hy s.cp s.tx s.lt s.fx s.fy s.t s.cnt s.sp s.D s.sh s.fs s.os s.ls))
    (hK : l = 75 → P (pu_Sp.mk_ (pu_onL s cs).d (pu_onL s cs).lv (pu_onL s cs).outer (pu_onL s cs).cmds (pu_onL s cs).F (pu_fl s.V (vs 0).toNatClampNeg dd) (pu_onL s cs).opn (pu_onL s cs).w (pu_onL s cs).h (pu_onL s cs).hx (pu_onL s cs).hy (pu_onL s cs).cp (pu_onL s cs).tx (pu_onL s cs).lt (pu_onL s cs).fx (pu_onL s cs).fy (pu_onL s cs).t (pu_onL s cs).cnt (pu_onL s cs).sp (pu_onL s cs).D (pu_onL s cs).sh (pu_onL s cs).fs (pu_onL s cs).os (pu_onL s cs).ls))
    (hL : l = 76 → P (pu_newF (pu_Sp.mk_ (pu_onL s cs).d (pu_onL s cs).lv (pu_onL s cs).outer (pu_onL s cs).cmds (pu_onL s cs).F (pu_onL s cs).V (true) (vs 0) (vs 1) (0) (0) (1) (pu_fu4 pu_vz 0 1 1 0) (pu_onL s cs).lt (pu_onL s cs).fx (pu_onL s cs).fy (pu_onL s cs).t (pu_onL s cs).cnt (pu_onL s cs).sp (pu_onL s cs).D (pu_onL s cs).sh ([]) (pu_onL s cs).os (pu_onL s cs).ls)))
    (hE : l = 69 → (s.ls.length + s.cp ≤ 12 ∧ s.os.length + (pu_opens s).length * s.cp ≤ 120) → P (pu_Sp.mk_ (pu_onL s cs).d (pu_onL s cs).lv (pu_onL s cs).outer (pu_onL s cs).cmds (pu_onL s cs).F (pu_onL s cs).V (false) (pu_onL s cs).w (pu_onL s cs).h (pu_onL s cs).hx (pu_onL s cs).hy (pu_onL s cs).cp (pu_onL s cs).tx (pu_onL s cs).lt (pu_onL s cs).fx (pu_onL s cs).fy (pu_onL s cs).t (pu_onL s cs).cnt (pu_onL s cs).sp (pu_onL s cs).D (pu_onL s cs).sh ([]) (s.os ++ pu_cpsO (pu_opens s) 0 s.cp) (s.ls ++ pu_cpsL s.w s.h s.os.length (pu_opens s).length 0 s.cp)))
    (hU : l = 85 → s.F (vs 0).toNatClampNeg ≠ [] → s.d < 4 → P (pu_Sp.mk_ (s.d + 1) (pu_fl (pu_fl s.lv s.d cs) (s.d + 1) (s.F (vs 0).toNatClampNeg)) (at_) s.cmds s.F s.V s.opn s.w s.h s.hx s.hy s.cp s.tx s.lt s.fx s.fy s.t s.cnt s.sp s.D s.sh s.fs s.os s.ls))
    (hX : l = 88 → P (pu_Sp.mk_ (pu_onL s cs).d (pu_onL s cs).lv (pu_onL s cs).outer (pu_onL s cs).cmds (pu_onL s cs).F (pu_onL s cs).V (pu_onL s cs).opn (pu_onL s cs).w (pu_onL s cs).h (pu_onL s cs).hx (pu_onL s cs).hy (pu_onL s cs).cp (pu_onL s cs).tx (pu_onL s cs).lt (pu_onL s cs).fx (pu_onL s cs).fy (pu_onL s cs).t (pu_onL s cs).cnt (pu_onL s cs).sp (dd) (pu_onL s cs).sh (pu_onL s cs).fs (pu_onL s cs).os (pu_onL s cs).ls))
    (hV : l = 86 → P (pu_Sp.mk_ (pu_onL s cs).d (pu_onL s cs).lv (pu_onL s cs).outer (pu_onL s cs).cmds (pu_onL s cs).F (pu_onL s cs).V (pu_onL s cs).opn (pu_onL s cs).w (pu_onL s cs).h (pu_onL s cs).hx (pu_onL s cs).hy (pu_onL s cs).cp (pu_onL s cs).tx (pu_onL s cs).lt (pu_onL s cs).fx (pu_onL s cs).fy (pu_onL s cs).t (pu_onL s cs).cnt (pu_onL s cs).sp (s.V (vs 0).toNatClampNeg) (pu_onL s cs).sh (pu_onL s cs).fs (pu_onL s cs).os (pu_onL s cs).ls))
    (hF : l = 59 → pu_fitF (pu_recOf s) = true → pu_okF (pu_recOf s) = true → (pu_opens s).length + (pu_ords (pu_recOf s)).length ≤ 120 → P (pu_newF (pu_Sp.mk_ (pu_onL s cs).d (pu_onL s cs).lv (pu_onL s cs).outer (pu_onL s cs).cmds (pu_onL s cs).F (pu_onL s cs).V (pu_onL s cs).opn (pu_onL s cs).w (pu_onL s cs).h (pu_onL s cs).hx (pu_onL s cs).hy (pu_onL s cs).cp (pu_onL s cs).tx (pu_onL s cs).lt (pu_onL s cs).fx (pu_onL s cs).fy (pu_onL s cs).t (pu_onL s cs).cnt (pu_onL s cs).sp (pu_onL s cs).D (pu_onL s cs).sh (s.fs ++ [pu_recOf s]) (pu_onL s cs).os (pu_onL s cs).ls)))
    (hN : l = 35 → P (pu_Sp.mk_ (pu_onL s cs).d (pu_onL s cs).lv (pu_onL s cs).outer (pu_onL s cs).cmds (pu_onL s cs).F (pu_onL s cs).V (pu_onL s cs).opn (pu_onL s cs).w (pu_onL s cs).h (pu_onL s cs).hx (pu_onL s cs).hy (pu_onL s cs).cp (pu_onL s cs).tx (pu_onL s cs).lt (pu_onL s cs).fx (pu_onL s cs).fy (pu_onL s cs).t (true) (vs 0) (pu_onL s cs).D (pu_onL s cs).sh (pu_onL s cs).fs (pu_onL s cs).os (pu_onL s cs).ls))
    (hC : l = 67 → P (pu_Sp.mk_ (pu_onL s cs).d (pu_onL s cs).lv (pu_onL s cs).outer (pu_onL s cs).cmds (pu_onL s cs).F (pu_onL s cs).V (pu_onL s cs).opn (pu_onL s cs).w (pu_onL s cs).h (pu_onL s cs).hx (pu_onL s cs).hy ((vs 0).toNatClampNeg) (pu_onL s cs).tx (pu_onL s cs).lt (pu_onL s cs).fx (pu_onL s cs).fy (pu_onL s cs).t (pu_onL s cs).cnt (pu_onL s cs).sp (pu_onL s cs).D (pu_onL s cs).sh (pu_onL s cs).fs (pu_onL s cs).os (pu_onL s cs).ls))
    (hD : l = 68 → P (pu_Sp.mk_ (pu_onL s cs).d (pu_onL s cs).lv (pu_onL s cs).outer (pu_onL s cs).cmds (pu_onL s cs).F (pu_onL s cs).V (pu_onL s cs).opn (pu_onL s cs).w (pu_onL s cs).h (pu_onL s cs).hx (pu_onL s cs).hy (pu_onL s cs).cp (vs) (pu_onL s cs).lt (pu_onL s cs).fx (pu_onL s cs).fy (pu_onL s cs).t (pu_onL s cs).cnt (pu_onL s cs).sp (pu_onL s cs).D (pu_onL s cs).sh (pu_onL s cs).fs (pu_onL s cs).os (pu_onL s cs).ls))
    (hH : l = 72 → P (pu_Sp.mk_ (pu_onL s cs).d (pu_onL s cs).lv (pu_onL s cs).outer (pu_onL s cs).cmds (pu_onL s cs).F (pu_onL s cs).V (pu_onL s cs).opn (pu_onL s cs).w (pu_onL s cs).h (vs 0) (vs 1) (pu_onL s cs).cp (pu_onL s cs).tx (pu_onL s cs).lt (pu_onL s cs).fx (pu_onL s cs).fy (pu_onL s cs).t (pu_onL s cs).cnt (pu_onL s cs).sp (pu_onL s cs).D (pu_onL s cs).sh (pu_onL s cs).fs (pu_onL s cs).os (pu_onL s cs).ls))
    (hO : l = 79 → P (pu_Sp.mk_ (pu_onL s cs).d (pu_onL s cs).lv (pu_onL s cs).outer (pu_onL s cs).cmds (pu_onL s cs).F (pu_onL s cs).V (pu_onL s cs).opn (pu_onL s cs).w (pu_onL s cs).h (pu_onL s cs).hx (pu_onL s cs).hy (pu_onL s cs).cp (pu_onL s cs).tx (pu_onL s cs).lt (vs 0) (vs 1) (pu_onL s cs).t (pu_onL s cs).cnt (pu_onL s cs).sp (pu_onL s cs).D (pu_onL s cs).sh (pu_onL s cs).fs (pu_onL s cs).os (pu_onL s cs).ls))
    (hR : l = 82 → P (pu_Sp.mk_ (pu_onL s cs).d (pu_onL s cs).lv (pu_onL s cs).outer (pu_onL s cs).cmds (pu_onL s cs).F (pu_onL s cs).V (pu_onL s cs).opn (pu_onL s cs).w (pu_onL s cs).h (pu_onL s cs).hx (pu_onL s cs).hy (pu_onL s cs).cp (pu_onL s cs).tx (pu_onL s cs).lt (pu_onL s cs).fx (pu_onL s cs).fy (true) (pu_onL s cs).cnt (pu_onL s cs).sp (pu_onL s cs).D (pu_onL s cs).sh (pu_onL s cs).fs (pu_onL s cs).os (pu_onL s cs).ls))
    (hZ : l ≠ 83 → l ≠ 75 → l ≠ 76 → l ≠ 69 → l ≠ 85 → l ≠ 88 → l ≠ 86 → l ≠ 59 → l ≠ 35 → l ≠ 67 → l ≠ 68 → l ≠ 72 → l ≠ 79 → l ≠ 82 → P (pu_Sp.mk_ (pu_onL s cs).d (pu_onL s cs).lv (pu_onL s cs).outer (pu_onL s cs).cmds (pu_onL s cs).F (pu_onL s cs).V (pu_onL s cs).opn (pu_onL s cs).w (pu_onL s cs).h (pu_onL s cs).hx (pu_onL s cs).hy (pu_onL s cs).cp (pu_onL s cs).tx (l) (pu_onL s cs).fx (pu_onL s cs).fy (pu_onL s cs).t (pu_onL s cs).cnt (pu_onL s cs).sp (pu_onL s cs).D (vs) (pu_onL s cs).fs (pu_onL s cs).os (pu_onL s cs).ls)) : P s' := by
  unfold pu_act at h
  by_cases h83 : l = 83
  · rw [if_pos h83] at h
    cases hf : pu_spFind cs 0 with
    | none => rw [hf] at h; cases h
    | some k =>
      rw [hf] at h
      simp only [] at h
      by_cases hk : 400 < k
      · rw [if_pos hk] at h; cases h
      · rw [if_neg hk] at h
        cases h
        exact hS k h83 hf (by omega)
  rw [if_neg h83] at h
  by_cases h75 : l = 75
  · rw [if_pos h75] at h; cases h; exact hK h75
  rw [if_neg h75] at h
  by_cases h76 : l = 76
  · rw [if_pos h76] at h; cases h; exact hL h76
  rw [if_neg h76] at h
  by_cases h69 : l = 69
  · rw [if_pos h69] at h
    by_cases q : ¬ (s.ls.length + s.cp ≤ 12 ∧ s.os.length + (pu_opens s).length * s.cp ≤ 120)
    · rw [if_pos q] at h; cases h
    · rw [if_neg q] at h; cases h; exact hE h69 (Decidable.not_not.mp q)
  rw [if_neg h69] at h
  by_cases h85 : l = 85
  · rw [if_pos h85] at h
    by_cases q : s.F (vs 0).toNatClampNeg = [] ∨ 4 ≤ s.d
    · rw [if_pos q] at h; cases h
    · rw [if_neg q] at h; cases h; exact hU h85 (fun e => q (Or.inl e)) (by omega)
  rw [if_neg h85] at h
  by_cases h88 : l = 88
  · rw [if_pos h88] at h; cases h; exact hX h88
  rw [if_neg h88] at h
  by_cases h86 : l = 86
  · rw [if_pos h86] at h; cases h; exact hV h86
  rw [if_neg h86] at h
  by_cases h59 : l = 59
  · rw [if_pos h59] at h
    by_cases q : pu_fitF (pu_recOf s) = false ∨ pu_okF (pu_recOf s) = false
    · rw [if_pos q] at h; cases h
    · rw [if_neg q] at h
      by_cases q2 : 120 < (pu_opens s).length + (pu_ords (pu_recOf s)).length
      · rw [if_pos q2] at h; cases h
      · rw [if_neg q2] at h; cases h
        refine hF h59 ?_ ?_ (by omega)
        · cases hq : pu_fitF (pu_recOf s)
          · exact absurd (Or.inl hq) q
          · rfl
        · cases hq : pu_okF (pu_recOf s)
          · exact absurd (Or.inr hq) q
          · rfl
  rw [if_neg h59] at h
  by_cases h35 : l = 35
  · rw [if_pos h35] at h; cases h; exact hN h35
  rw [if_neg h35] at h
  by_cases h67 : l = 67
  · rw [if_pos h67] at h; cases h; exact hC h67
  rw [if_neg h67] at h
  by_cases h68 : l = 68
  · rw [if_pos h68] at h; cases h; exact hD h68
  rw [if_neg h68] at h
  by_cases h72 : l = 72
  · rw [if_pos h72] at h; cases h; exact hH h72
  rw [if_neg h72] at h
  by_cases h79 : l = 79
  · rw [if_pos h79] at h; cases h; exact hO h79
  rw [if_neg h79] at h
  by_cases h82 : l = 82
  · rw [if_pos h82] at h; cases h; exact hR h82
  rw [if_neg h82] at h
  cases h
  exact hZ h83 h75 h76 h69 h85 h88 h86 h59 h35 h67 h68 h72 h79 h82
theorem pu_act_cmds {s s' : pu_Sp} {l : Int32} {vs : Nat → Int32} {dd cs : List Int32} {at_ : Int32} (h : pu_act s l vs dd cs at_ = .inr s') : s'.cmds = s.cmds := by
  refine pu_act_elim (P := fun s' => s'.cmds = s.cmds) h ?_ ?_ ?_ ?_ ?_ ?_ ?_ ?_ ?_ ?_ ?_ ?_ ?_ ?_ ?_ <;> intros <;> rfl
theorem pu_la_b94 {cs dd : List Int32} {vs : Nat → Int32} {at_ l x3 : Int32} (h : pu_RC (pu_onL s cs) T m mL po fo) (w : pu_WS s) (hc : s.cmds < 1000000) (hm : pu_may s l = true) (q18 : pu_ag4 (m 18) vs) (n : pu_NumOK l vs) (hr : l = 75 ∨ l = 88 → pu_Row (m 14) (mL 15) 25 0 dd ∧ dd.length ≤ 200) : pu_OutC (f_La_takeCommand_b94 at_ l x3 m mL) s T m (match pu_act s l vs dd cs at_ with | .inl c => .inl c | .inr s' => if 2000 ≤ s.cmds then .inl 10 else .inr s') := by
  obtain ⟨c, m', mL', e1, e2, e3, e4⟩ := pu_la_obey (at_ := at_) h w hc hm q18 n hr
  have cm : m 0 5 = Int32.ofNat s.cmds := h.cm
  unfold f_La_takeCommand_b94 f_La_takeCommand_b117 f_La_takeCommand_b118
  rw [e1, pu_b_some]
  cases ha : pu_act s l vs dd cs at_ with
  | inl c' =>
    rw [ha] at e4
    obtain ⟨g1, g2, g3⟩ := e4
    refine ⟨c, m', mL', ?_, e2, fun b _ => by rw [e3], g1, g2, g3⟩
    rw [if_pos g2]
  | inr s' =>
    rw [ha] at e4
    have la : f_La_isLastCommand m' mL' = some (pu_bi (decide (2000 ≤ s.cmds)), m', mL') := pu_la_last (by rw [e3]; exact cm) hc
    have e4 : if 2000 ≤ s.cmds then (c = 0 ∨ c = 10) ∧ pu_Keep s.F s.V T m' mL' else c = 0 ∧ ∃ po fo, pu_RC s' T m' mL' po fo := e4
    by_cases q : 2000 ≤ s.cmds
    · rw [if_pos q] at e4
      obtain ⟨g1, g2⟩ := e4
      simp only [if_pos q]
      refine ⟨10, m', mL', ?_, e2, fun b _ => by rw [e3], rfl, by decide, g2⟩
      rcases g1 with rfl | rfl
      · rw [if_neg (by simp), la, pu_b_some, decide_eq_true q, if_neg pu_bi_t]
      · rw [if_pos (by decide)]
    · rw [if_neg q] at e4
      obtain ⟨g1, g2⟩ := e4
      simp only [if_neg q]
      refine ⟨0, m', mL', ?_, e2, fun b _ => by rw [e3], rfl, g2⟩
      subst g1
      rw [if_neg (by simp), la, pu_b_some, decide_eq_false q, if_pos pu_bi_f]
theorem pu_let14 {l : Int32} (h : pu_isLet l = true) (h14 : pu_rgi l = 14) : l = 69 ∨ l = 82 ∨ l = 88 ∨ l = 59 := by
  unfold pu_isLet at h
  rw [Bool.or_eq_true] at h
  rcases h with h | h
  · rcases pu_outside_cases h with rfl | rfl | rfl <;> revert h14 <;> decide
  · rcases pu_inside_cases h with rfl | rfl | rfl | rfl | rfl | rfl | rfl | rfl | rfl | rfl | rfl | k | rfl
    · revert h14; decide
    · exact Or.inl rfl
    · revert h14; decide
    · revert h14; decide
    · revert h14; decide
    · revert h14; decide
    · revert h14; decide
    · exact Or.inr (Or.inl rfl)
    · exact Or.inr (Or.inr (Or.inl rfl))
    · revert h14; decide
    · revert h14; decide
    · rcases k with rfl | rfl | rfl | rfl | rfl | rfl | rfl | rfl | rfl <;> revert h14 <;> decide
    · exact Or.inr (Or.inr (Or.inr rfl))
theorem pu_act_vs {s : pu_Sp} {l : Int32} {dd cs : List Int32} {at_ : Int32} (h : l = 69 ∨ l = 82 ∨ l = 88 ∨ l = 59) (u v : Nat → Int32) : pu_act s l u dd cs at_ = pu_act s l v dd cs at_ := by
  rcases h with rfl | rfl | rfl | rfl
  · unfold pu_act
    simp only [show ((69 : Int32) = 83) = False by decide, show ((69 : Int32) = 75) = False by decide, show ((69 : Int32) = 76) = False by decide, if_false, if_true]
  · unfold pu_act
    simp only [show ((82 : Int32) = 83) = False by decide, show ((82 : Int32) = 75) = False by decide, show ((82 : Int32) = 76) = False by decide, show ((82 : Int32) = 69) = False by decide, show ((82 : Int32) = 85) = False by decide, show ((82 : Int32) = 88) = False by decide, show ((82 : Int32) = 86) = False by decide, show ((82 : Int32) = 59) = False by decide, show ((82 : Int32) = 35) = False by decide, show ((82 : Int32) = 67) = False by decide, show ((82 : Int32) = 68) = False by decide, show ((82 : Int32) = 72) = False by decide, show ((82 : Int32) = 79) = False by decide, if_false, if_true]
  · unfold pu_act
    simp only [show ((88 : Int32) = 83) = False by decide, show ((88 : Int32) = 75) = False by decide, show ((88 : Int32) = 76) = False by decide, show ((88 : Int32) = 69) = False by decide, show ((88 : Int32) = 85) = False by decide, if_false, if_true]
  · unfold pu_act
    simp only [show ((59 : Int32) = 83) = False by decide, show ((59 : Int32) = 75) = False by decide, show ((59 : Int32) = 76) = False by decide, show ((59 : Int32) = 69) = False by decide, show ((59 : Int32) = 85) = False by decide, show ((59 : Int32) = 88) = False by decide, show ((59 : Int32) = 86) = False by decide, if_false, if_true]
theorem pu_la_cmd {r : List Int32} {at_ : Int32} (h : pu_RC s T m mL po fo) (w : pu_WS s) (hc : s.cmds < 2000) (hcs : s.lv s.d = 94 :: r) : pu_OutC (f_La_takeCommand at_ m mL) s T m (pu_cmd (pu_Sp.mk_ s.d s.lv s.outer (s.cmds + 1) s.F s.V s.opn s.w s.h s.hx s.hy s.cp s.tx s.lt s.fx s.fy s.t s.cnt s.sp s.D s.sh s.fs s.os s.ls) (pu_hd r) r.tail at_) := by
  have hlv := h.scr.lv s.d (Nat.le_refl _)
  obtain ⟨hl1, hl2⟩ := hlv
  have hsrc := h.src
  have hS := hsrc.le
  have hat := h.scr.at_
  generalize hSS : pu_srcL s.F T fo s.d = S at *
  generalize hp : po s.d = p at *
  have hdr : S.drop p = 94 :: r := by rw [← hl1, hcs]
  have a1 : f_Sc_ahead 1 m mL = some (pu_hd r, m, mL) := by
    have := pu_sc_ahead (n := 1) hsrc hat (by omega)
    rw [hdr] at this
    have e : (94 :: r)[1]?.getD (-1) = pu_hd r := by cases r <;> rfl
    rw [e] at this; exact this
  have a2 : f_Sc_skip 2 m mL = some (0, tm_up m 1 6 (Int32.ofNat (p + 2)), mL) := pu_sc_skip (n := 2) hat
  generalize hs1 : ((pu_Sp.mk_ s.d s.lv s.outer (s.cmds + 1) s.F s.V s.opn s.w s.h s.hx s.hy s.cp s.tx s.lt s.fx s.fy s.t s.cnt s.sp s.D s.sh s.fs s.os s.ls) : pu_Sp) = s1
  have F0 : f_La_takeCommand at_ m mL = (f_La_isLetter (pu_hd r) (tm_up (tm_up m 1 6 (Int32.ofNat (p + 2))) 0 5 (Int32.ofNat (s.cmds + 1))) mL).bind fun v6 => if ¬ v6.1 = 0 then (f_La_mayStand (pu_hd r) v6.2.1 v6.2.2).bind fun v7 => if ¬ v7.1 = 0 then (f_Nu_take (pu_hd r) v7.2.1 v7.2.2).bind fun v8 => if v8.1 = 0 then if (pu_hd r) = (75 : Int32) then f_La_takeCommand_b84 at_ (pu_hd r) v8.1 v8.2.1 v8.2.2 else if ¬ (pu_hd r) = (88 : Int32) then f_La_takeCommand_b94 at_ (pu_hd r) v8.1 v8.2.1 v8.2.2 else f_La_takeCommand_b84 at_ (pu_hd r) v8.1 v8.2.1 v8.2.2 else some (v8.1, v8.2.1, v8.2.2) else some ((3 : Int32), v7.2.1, v7.2.2) else some ((2 : Int32), v6.2.1, v6.2.2) := by
    unfold f_La_takeCommand f_La_takeCommand_b0
    rw [a1, pu_b_some]
    simp only []
    rw [a2, pu_b_some]
    simp only []
    rw [tm_up_o (show 0 ≠ 1 by decide), h.cm, pu_n_lit 1, pu_n_add]
  generalize hm2 : tm_up (tm_up m 1 6 (Int32.ofNat (p + 2))) 0 5 (Int32.ofNat (s.cmds + 1)) = m2 at F0
  have o2 : ∀ a, 39 ≤ a → m2 a = m a := fun a ha => by rw [← hm2, pu_tm_up_c (by omega), pu_tm_up_c (by omega)]
  have z2 : ∀ b, b ≠ 5 → m2 0 b = m 0 b := fun b hb => by rw [← hm2, tm_up_k hb, tm_up_o (by decide)]
  have K2 : pu_Keep s.F s.V T m2 mL := h.k.fr (fun a ha => by rw [← hm2, pu_tm_up_c (by unfold pu_kpc at ha; omega), pu_tm_up_c (by unfold pu_kpc at ha; omega)]) (fun _ _ => rfl)
  have hlb : ∀ b ∈ S, ∃ n, n < 256 ∧ b = Int32.ofNat n := hsrc.lt
  have hl : pu_hd r = -1 ∨ ∃ n, n < 256 ∧ pu_hd r = Int32.ofNat n := by
    cases r with
    | nil => exact Or.inl rfl
    | cons c r' =>
      right
      exact hlb c (List.mem_of_mem_drop (i := p) (by rw [hdr]; simp))
  rw [F0, pu_la_isLetter hl, pu_b_some]
  unfold pu_cmd
  cases hlet : pu_isLet (pu_hd r)
  · rw [if_pos rfl, if_neg (by simp [pu_bi])]
    exact ⟨2, m2, mL, rfl, o2, z2, rfl, by decide, K2⟩
  · rw [if_neg (show ¬ (true = false) by decide), if_pos pu_bi_t]
    obtain ⟨n, hn, hnl⟩ : ∃ n, n < 256 ∧ pu_hd r = Int32.ofNat n := by
      rcases hl with q | q
      · rw [q] at hlet; exact absurd hlet (by decide)
      · exact q
    have hrne : 0 < r.length := pu_hd_pos (by rw [hnl]; exact pu_b_ne hn)
    have hp2 : p + 2 ≤ S.length := by
      have := congrArg List.length hdr
      rw [List.length_drop, List.length_cons] at this; omega
    have hdr2 : S.drop (p + 2) = r.tail := by
      have : S.drop (p + 2) = (S.drop p).drop 2 := by rw [List.drop_drop]
      rw [this, hdr]
      cases r <;> rfl
    have w1 : pu_WS s1 := by
      rw [← hs1]
      exact ⟨w.cp, w.k, w.s1, w.s2, w.dl, w.db, w.fs, w.no, w.n, w.d4, w.do_, w.os, w.ls, w.wo⟩
    have R1 : pu_RC s1 T (tm_up m 0 5 (Int32.ofNat (s.cmds + 1))) mL po fo := by
      rw [← hs1]
      exact ⟨h.k.fr (fun a ha => pu_tm_up_c (by unfold pu_kpc at ha; omega)) (fun _ _ => rfl), h.scr.fr (pu_tm_up_c (by decide)) (pu_tm_up_c (by decide)) (pu_tm_up_c (by decide)), tm_up_eq _ _ _ _, by rw [tm_up_o (by decide)]; exact h.op, h.res.fr (pu_tm_up_c (by decide)) (pu_tm_up_c (by decide)) (pu_tm_up_c (by decide)) (pu_tm_up_c (by decide)) rfl, fun ho => pu_RLab.fr (s := s) (h.lab ho) (pu_tm_up_c (by decide)) (pu_tm_up_c (by decide)) (pu_tm_up_c (by decide)) (pu_tm_up_c (by decide)) (pu_tm_up_c (by decide)) rfl⟩
    have es1 : pu_srcL s1.F T fo s1.d = S := by rw [← hs1]; exact hSS
    have em2 : tm_up (tm_up m 0 5 (Int32.ofNat (s.cmds + 1))) 1 6 (Int32.ofNat (p + 2)) = m2 := by
      rw [← hm2]; funext a b; unfold tm_up
      by_cases q1 : a = 1 ∧ b = 6
      · rw [if_pos q1, if_neg (by omega), if_pos q1]
      · rw [if_neg q1]
        by_cases q2 : a = 0 ∧ b = 5
        · rw [if_pos q2, if_pos q2]
        · rw [if_neg q2, if_neg q2, if_neg q1]
    have R2 : pu_RC (pu_onL s1 r.tail) T m2 mL (pu_fup po s1.d (p + 2)) fo := by
      have := R1.mv (q := p + 2) (by rw [es1]; exact hp2)
      rw [es1, hdr2, em2] at this; exact this
    have eF : s1.F = s.F := by rw [← hs1]
    have eV : s1.V = s.V := by rw [← hs1]
    have ec : s1.cmds = s.cmds + 1 := by rw [← hs1]
    have hmay := pu_la_may hn R2
    rw [← hnl] at hmay
    have emay : pu_may (pu_onL s1 r.tail) (pu_hd r) = pu_may s1 (pu_hd r) := rfl
    rw [emay] at hmay
    simp only []
    rw [hmay, pu_b_some]
    cases hma : pu_may s1 (pu_hd r)
    · rw [if_pos rfl, if_neg (by simp [pu_bi])]
      exact ⟨3, m2, mL, rfl, o2, z2, rfl, by decide, K2⟩
    · rw [if_neg (show ¬ (true = false) by decide), if_pos pu_bi_t]
      simp only []
      have src2 : pu_Src m2 mL S := by
        have := R2.src
        have e : pu_srcL (pu_onL s1 r.tail).F T fo (pu_onL s1 r.tail).d = S := es1
        rw [e] at this; exact this
      have at2 : m2 1 6 = Int32.ofNat (p + 2) := by rw [← hm2, tm_up_o (by decide), tm_up_eq]
      have fin : ∀ (p3 : Nat) (vs vs' : Nat → Int32), p3 ≤ S.length → pu_NumOK (pu_hd r) vs → pu_ag4 vs' vs → pu_OutC (if (pu_hd r) = (75 : Int32) then f_La_takeCommand_b84 at_ (pu_hd r) 0 (pu_Nm m2 p3 vs') mL else if ¬ (pu_hd r) = (88 : Int32) then f_La_takeCommand_b94 at_ (pu_hd r) 0 (pu_Nm m2 p3 vs') mL else f_La_takeCommand_b84 at_ (pu_hd r) 0 (pu_Nm m2 p3 vs') mL) s T m (match pu_dataN (pu_hd r) (S.drop p3) with | none => .inl 6 | some (dd, cs2) => match pu_act s1 (pu_hd r) vs dd cs2 at_ with | .inl c => .inl c | .inr s' => if 2000 ≤ s1.cmds then .inl 10 else .inr s') := by
        intro p3 vs vs' hp3 n3 hag
        have R3 : pu_RC (pu_onL s1 (S.drop p3)) T (pu_Nm m2 p3 vs') mL (pu_fup (pu_fup po s1.d (p + 2)) s1.d p3) fo := by
          have := R2.nm (q := p3) (by show p3 ≤ (pu_srcL s1.F T fo s1.d).length; rw [es1]; exact hp3) vs'
          have e : pu_srcL (pu_onL s1 r.tail).F T fo (pu_onL s1 r.tail).d = S := es1
          rw [e, pu_onL_onL] at this; exact this
        have o3 : ∀ a, 39 ≤ a → pu_Nm m2 p3 vs' a = m a := fun a ha => (pu_Nm_o (by omega) (by omega)).trans (o2 a ha)
        have z3 : ∀ b, b ≠ 5 → pu_Nm m2 p3 vs' 0 b = m 0 b := fun b hb => by rw [pu_Nm_o (by decide) (by decide), z2 b hb]
        by_cases hkx : pu_hd r = 75 ∨ pu_hd r = 88
        · have e84 : (if (pu_hd r) = (75 : Int32) then f_La_takeCommand_b84 at_ (pu_hd r) 0 (pu_Nm m2 p3 vs') mL else if ¬ (pu_hd r) = (88 : Int32) then f_La_takeCommand_b94 at_ (pu_hd r) 0 (pu_Nm m2 p3 vs') mL else f_La_takeCommand_b84 at_ (pu_hd r) 0 (pu_Nm m2 p3 vs') mL) = f_La_takeCommand_b84 at_ (pu_hd r) 0 (pu_Nm m2 p3 vs') mL := by
            rcases hkx with q | q
            · rw [if_pos q]
            · rw [if_neg (by rw [q]; decide), if_neg (fun z => z q)]
          rw [e84]
          have src3 : pu_Src (pu_Nm m2 p3 vs') mL S := pu_Nm_src src2 _ _
          have clr : f_Ro_clear 13 0 (pu_Nm m2 p3 vs') mL = some (0, tm_up (pu_Nm m2 p3 vs') 14 0 0, mL) := pu_ro_clear (o := 13) (c := 14) (R := 1) (r := 0) rfl rfl (by omega) (by omega)
          have eD : tm_up (pu_Nm m2 p3 vs') 14 0 0 = pu_Dm (pu_Nm m2 p3 vs') p3 0 := pu_Dm_id (pu_Nm_at _ _ _) 0
          have dN : pu_dataN (pu_hd r) (S.drop p3) = pu_spData 201 [] (S.drop p3) := by unfold pu_dataN; rw [if_pos hkx]
          have LD := pu_la_data (m := pu_Nm m2 p3 vs') (S := S) R3.k.d0 R3.k.d1 201 tm_F p3 [] mL (by simp) (by simp) (by decide) hp3 src3 (pu_Row.empty rfl)
          rw [show Int32.ofNat ([] : List Int32).length = (0 : Int32) from rfl] at LD
          rw [dN]
          unfold f_La_takeCommand_b84 f_La_decodeData f_La_decodeData_b0
          rw [clr, pu_b_some, eD]
          rcases LD with ⟨b1, p', z, mL', b2, b3⟩ | ⟨acc, p', mL', b1, b2, b3, b4, b5, b6, b7⟩
          · rw [b2, pu_b_some, b1, if_neg (show ¬ ¬ (0 : Int32) = 0 by simp)]
            refine ⟨6, pu_Dm (pu_Nm m2 p3 vs') p' z, mL', rfl, fun a ha => (pu_Dm_o (by omega) (by omega)).trans (o3 a ha), fun b hb => by rw [pu_Dm_o (by decide) (by decide), z3 b hb], rfl, by decide, ?_⟩
            exact (K2.nm p3 vs').dm p' z b3
          · rw [b5, pu_b_some, b1]
            simp only []
            rw [if_pos (by decide)]
            have R4 : pu_RC (pu_onL s1 (S.drop p')) T (pu_Dm (pu_Nm m2 p3 vs') p' (Int32.ofNat acc.length)) mL' (pu_fup (pu_fup (pu_fup po s1.d (p + 2)) s1.d p3) s1.d p') fo := by
              have := R3.dm (q := p') (by show p' ≤ (pu_srcL s1.F T fo s1.d).length; rw [es1]; exact b4) (Int32.ofNat acc.length) b6
              have e : pu_srcL (pu_onL s1 (S.drop p3)).F T fo (pu_onL s1 (S.drop p3)).d = S := es1
              rw [e, pu_onL_onL] at this; exact this
            obtain ⟨c, m', mL'', g1, g2, gz, g3⟩ := pu_la_b94 (at_ := at_) (x3 := 0) (dd := acc) R4 w1 (by rw [ec]; omega) hma (vs := vs) (by
              rw [pu_Dm_o (show 18 ≠ 1 by decide) (show 18 ≠ 14 by decide), pu_Nm_18]; exact hag) n3 (fun _ => ⟨⟨rfl, b7.byt⟩, b2⟩)
            refine ⟨c, m', mL'', g1, fun a ha => (g2 a ha).trans ((pu_Dm_o (by omega) (by omega)).trans (o3 a ha)), fun b hb => by rw [gz b hb, pu_Dm_o (by decide) (by decide), z3 b hb], ?_⟩
            rw [eF, eV] at g3; exact g3
        · have q75 : ¬ pu_hd r = 75 := fun q => hkx (Or.inl q)
          have q88 : ¬ pu_hd r = 88 := fun q => hkx (Or.inr q)
          have dN : pu_dataN (pu_hd r) (S.drop p3) = some ([], S.drop p3) := by unfold pu_dataN; rw [if_neg hkx]
          rw [if_neg q75, if_pos q88, dN]
          obtain ⟨c, m', mL'', g1, g2, gz, g3⟩ := pu_la_b94 (at_ := at_) (x3 := 0) (dd := []) R3 w1 (by rw [ec]; omega) hma (vs := vs) (by rw [pu_Nm_18]; exact hag) n3 (fun q => absurd q hkx)
          refine ⟨c, m', mL'', g1, fun a ha => (g2 a ha).trans (o3 a ha), fun b hb => by rw [gz b hb, z3 b hb], ?_⟩
          rw [eF, eV] at g3; exact g3
      by_cases h14 : pu_rgi (pu_hd r) = 14
      · have tk : f_Nu_take (pu_hd r) m2 mL = some (0, m2, mL) := by
          have := pu_nu_take0 (m := m2) (mL := mL) h14 (p + 2) (m2 18)
          rw [pu_Nm_id at2] at this; exact this
        have tn : pu_takeN s1 (pu_hd r) r.tail = .inr (pu_vz, r.tail) := by unfold pu_takeN; rw [if_pos h14]
        have l4 := pu_let14 hlet h14
        have n4 : pu_NumOK (pu_hd r) (m2 18) := by
          refine ⟨?_, ?_, ?_, ?_, ?_, ?_, ?_, ?_⟩ <;> intro q <;> exfalso <;> rcases l4 with l4 | l4 | l4 | l4 <;> rw [l4] at q <;> revert q <;> decide
        have FN := fin (p + 2) (m2 18) (m2 18) hp2 n4 (fun _ _ => rfl)
        rw [pu_Nm_id at2, hdr2] at FN
        have ea : ∀ dd cs2, pu_act s1 (pu_hd r) (m2 18) dd cs2 at_ = pu_act s1 (pu_hd r) pu_vz dd cs2 at_ := fun dd cs2 => pu_act_vs l4 _ _
        rw [tk, pu_b_some, tn]
        simp only []
        rw [if_pos trivial]
        simp only [ea] at FN
        exact FN
      · have base : pu_ag4 (pu_pres m2 (pu_hd r) (m2 18)) (pu_presS s1 (pu_hd r)) := by
          unfold pu_pres pu_presS
          by_cases h84 : pu_hd r = 84
          · rw [if_pos h84, if_pos h84]
            have ho : s1.opn = true := by
              unfold pu_may at hma
              cases hq : s1.opn
              · rw [hq, if_pos rfl, h84] at hma; exact absurd hma (by decide)
              · rfl
            have l6 := (R2.lab ho).2.2.2.2.2.1
            rw [l6 0 (by decide), l6 1 (by decide), l6 2 (by decide), l6 3 (by decide)]
            exact pu_ag4_fu4 _ _ _ _ _ _
          · rw [if_neg h84, if_neg h84]; exact pu_ag4_fu4 _ _ _ _ _ _
        have tn : pu_takeN s1 (pu_hd r) r.tail = pu_spTake (pu_rgi (pu_hd r)) (pu_hd r) (pu_presS s1 (pu_hd r)) r.tail := by unfold pu_takeN; rw [if_neg h14]
        have TK := pu_nu_take (m := m2) (mL := mL) src2 h14 hp2 (m2 18)
        rw [pu_Nm_id at2, hdr2] at TK
        have AG := pu_take_ag (pu_rgi_lt (pu_hd r)) (pu_hd r) r.tail base
        rcases TK with ⟨c, p', vs', t1, t2, t3⟩ | ⟨vs', p', t1, t2, t3, t4⟩
        · rw [t1] at AG
          rcases AG with ⟨c', g1, g2⟩ | ⟨_, _, _, g1, _, _⟩
          · cases g1
            rw [t3, pu_b_some, tn, g2]
            have hc0 : c ≠ 0 := by rcases t2 with rfl | rfl <;> decide
            simp only []
            rw [if_neg hc0]
            exact ⟨c, pu_Nm m2 p' vs', mL, rfl, fun a ha => (pu_Nm_o (by omega) (by omega)).trans (o2 a ha), fun b hb => by rw [pu_Nm_o (by decide) (by decide), z2 b hb], rfl, hc0, K2.nm p' vs'⟩
          · cases g1
        · rw [t1] at AG
          rcases AG with ⟨c', g1, g2⟩ | ⟨u1, v1, r1, g1, g2, g3⟩
          · cases g1
          · cases g1
            have FN := fin p' v1 vs' t3 (pu_num_ok (tn.trans g2)) g3
            rw [t4, pu_b_some, tn, g2]
            simp only []
            rw [if_pos trivial]
            exact FN
end CMD
theorem pu_byteL_app {a b : List Int32} (h1 : pu_byteL a) (h2 : pu_byteL b) : pu_byteL (a ++ b) := by
  intro x pu_hx
  rcases List.mem_append.mp pu_hx with q | q
  · exact h1 x q
  · exact h2 x q
theorem pu_data_ok : ∀ (t : Nat) (acc cs acc' r : List Int32), pu_byteL acc → pu_byteL cs → acc.length ≤ 200 → pu_spData t acc cs = some (acc', r) → pu_byteL acc' ∧ acc'.length ≤ 200
  | 0, acc, cs, acc', r, _, _, _, h => by rw [pu_spData] at h; cases h
  | t + 1, acc, cs, acc', r, h1, h2, h3, h => by
    rw [pu_spData] at h
    by_cases q1 : pu_hd cs = -1 ∨ pu_hd cs = 94
    · rw [if_pos q1] at h; cases h; exact ⟨h1, h3⟩
    · rw [if_neg q1] at h
      by_cases q2 : (if pu_hd cs = 95 then pu_esc cs else pu_hd cs) = -1 ∨ 200 ≤ acc.length
      · rw [if_pos q2] at h; cases h
      · rw [if_neg q2] at h
        refine pu_data_ok t _ _ acc' r (pu_byteL_app h1 ?_) (fun x pu_hx => h2 x (List.mem_of_mem_drop pu_hx)) (by simp; omega) h
        intro x pu_hx
        rw [List.mem_singleton] at pu_hx
        subst pu_hx
        by_cases q3 : pu_hd cs = 95
        · rw [if_pos q3]
          rcases pu_esc_b h2 with e | ⟨n, e1, e2, _⟩
          · exact absurd (Or.inl (by rw [if_pos q3]; exact e)) q2
          · exact ⟨n, e1, e2⟩
        · rw [if_neg q3, pu_hd0]
          rcases pu_by_or h2 0 with e | ⟨n, e1, e2⟩
          · exact absurd (Or.inl (by rw [pu_hd0]; exact e)) q1
          · exact ⟨n, e1, e2⟩
def pu_WB (s : pu_Sp) : Prop := (∀ j, j ≤ s.d → pu_byteL (s.lv j)) ∧ (∀ k, pu_byteL (s.F k) ∧ (s.F k).length ≤ 400) ∧ (∀ k, pu_byteL (s.V k) ∧ (s.V k).length ≤ 200)
theorem pu_WB.lv {s : pu_Sp} (h_ : pu_WB s) : ∀ j, j ≤ s.d → pu_byteL (s.lv j) := h_.1
theorem pu_WB.F {s : pu_Sp} (h_ : pu_WB s) : ∀ k, pu_byteL (s.F k) ∧ (s.F k).length ≤ 400 := h_.2.1
theorem pu_WB.V {s : pu_Sp} (h_ : pu_WB s) : ∀ k, pu_byteL (s.V k) ∧ (s.V k).length ≤ 200 := h_.2.2
theorem pu_cpO_WO {o : pu_Od} (c : Nat) (h : pu_WO o) : pu_WO (pu_cpO c o) := ⟨h.tl, pu_cnum_lt o c, h.s1, h.s2, h.len⟩
theorem pu_cpsO_WO {fs : List pu_Od} (h : ∀ o ∈ fs, pu_WO o) : ∀ (t c : Nat), ∀ o ∈ pu_cpsO fs c t, pu_WO o
  | 0, c, o, ho => by simp [pu_cpsO] at ho
  | t + 1, c, o, ho => by
    rw [pu_cpsO, List.mem_append] at ho
    rcases ho with ho | ho
    · obtain ⟨o', h1, rfl⟩ := List.mem_map.mp ho
      exact pu_cpO_WO c (h o' h1)
    · exact pu_cpsO_WO h t (c + 1) o ho
theorem pu_cpsO_len {fs : List pu_Od} : ∀ (t c : Nat), (pu_cpsO fs c t).length = fs.length * t
  | 0, c => by simp [pu_cpsO]
  | t + 1, c => by rw [pu_cpsO, List.length_append, List.length_map, pu_cpsO_len t (c + 1), Nat.mul_add]; omega
theorem pu_cpsL_len {w h : Int32} {x B : Nat} : ∀ (t c : Nat), (pu_cpsL w h x B c t).length = t
  | 0, c => by simp [pu_cpsL]
  | t + 1, c => by rw [pu_cpsL, List.length_cons, pu_cpsL_len t (c + 1)]
theorem pu_take_suf {s : pu_Sp} {l : Int32} {cs r : List Int32} {vs : Nat → Int32} (hb : pu_byteL cs) (h : pu_takeN s l cs = .inr (vs, r)) : pu_byteL r := by
  have key : ∀ (t i : Nat) (u : Nat → Int32) (cs : List Int32) (u' : Nat → Int32) (r : List Int32), pu_byteL cs → pu_spNums t i u cs = some (u', r) → pu_byteL r := by
    have tl : ∀ cs : List Int32, pu_byteL cs → pu_byteL cs.tail := fun cs h x pu_hx => h x (List.mem_of_mem_tail pu_hx)
    have dig : ∀ (cs : List Int32), pu_byteL cs → pu_byteL (pu_spDig 6 0 0 cs).2.2 := by
      intro cs h
      obtain ⟨_, _, _, e⟩ := pu_spDig_spec 6 0 0 cs
      rw [e]; exact fun x pu_hx => h x (List.mem_of_mem_drop pu_hx)
    intro t
    induction t with
    | zero => intro i u cs u' r hb h; rw [pu_spNums] at h; cases h; exact hb
    | succ t ih =>
      intro i u cs u' r hb h
      rw [pu_spNums] at h
      by_cases q : 0 < i ∧ pu_hd cs ≠ 44
      · rw [if_pos q] at h; cases h; exact hb
      · rw [if_neg q] at h
        have hb2 : pu_byteL (if 0 < i then cs.tail else cs) := by split; exact tl _ hb; exact hb
        generalize (if 0 < i then cs.tail else cs) = cs2 at h hb2
        cases ho : pu_spOne (u i) cs2 with
        | none => rw [ho] at h; cases h
        | some z =>
          rw [ho] at h
          refine ih (i + 1) (pu_fu u i z.1) z.2 u' r ?_ h
          unfold pu_spOne at ho
          by_cases q1 : pu_hd cs2 = 45
          · rw [if_pos q1] at ho
            by_cases q2 : 5 < (pu_spDig 6 0 0 cs2.tail).2.1 ∨ (pu_spDig 6 0 0 cs2.tail).2.1 = 0
            · rw [if_pos q2] at ho; cases ho
            · rw [if_neg q2] at ho; cases ho; exact dig _ (tl _ hb2)
          · rw [if_neg q1] at ho
            by_cases q2 : 5 < (pu_spDig 6 0 0 cs2).2.1
            · rw [if_pos q2] at ho; cases ho
            · rw [if_neg q2] at ho; cases ho; exact dig _ hb2
  unfold pu_takeN at h
  by_cases q : pu_rgi l = 14
  · rw [if_pos q] at h; cases h; exact hb
  · rw [if_neg q] at h
    unfold pu_spTake at h
    cases hn : pu_spNums ((tm_sv (pu_rgi l)).length / 3) 0 (pu_presS s l) cs with
    | none => rw [hn] at h; cases h
    | some z =>
      rw [hn] at h
      have hz := key _ _ _ _ z.1 z.2 hb hn
      simp only [] at h
      by_cases q1 : ¬ (pu_hd z.2 = 44 ↔ l = 75)
      · rw [if_pos q1] at h; cases h
      · rw [if_neg q1] at h
        by_cases q2 : pu_inRng (pu_rgi l) z.1 0 ((tm_sv (pu_rgi l)).length / 3) = true
        · rw [if_pos q2] at h; cases h
          split
          · exact fun x pu_hx => hz x (List.mem_of_mem_tail pu_hx)
          · exact hz
        · rw [if_neg q2] at h; cases h
theorem pu_data_suf : ∀ (t : Nat) (acc cs acc' r : List Int32), pu_byteL cs → pu_spData t acc cs = some (acc', r) → pu_byteL r
  | 0, acc, cs, acc', r, _, h => by rw [pu_spData] at h; cases h
  | t + 1, acc, cs, acc', r, h2, h => by
    rw [pu_spData] at h
    by_cases q1 : pu_hd cs = -1 ∨ pu_hd cs = 94
    · rw [if_pos q1] at h; cases h; exact h2
    · rw [if_neg q1] at h
      by_cases q2 : (if pu_hd cs = 95 then pu_esc cs else pu_hd cs) = -1 ∨ 200 ≤ acc.length
      · rw [if_pos q2] at h; cases h
      · rw [if_neg q2] at h
        exact pu_data_suf t _ _ acc' r (fun x pu_hx => h2 x (List.mem_of_mem_drop pu_hx)) h
