/-! La_begin -/
def f_La_begin_b0  (mI : tm_I) (mL : tm_L) : Option (Int32 × tm_I × tm_L) := (f_Sc_rewind mI mL).bind fun v1 => (f_Pr_begin v1.2.1 v1.2.2).bind fun v2 => some (0, tm_up (tm_up (tm_up v2.2.1 0 5 (0 : Int32)) 0 6 (0 : Int32)) 0 7 (-1 : Int32), v2.2.2)
abbrev f_La_begin  (mI : tm_I) (mL : tm_L) : Option (Int32 × tm_I × tm_L) := f_La_begin_b0  mI mL
set_option maxRecDepth 100000 in
set_option maxHeartbeats 4000000 in
theorem j_La_begin_b0 {Γ : tm_G} {ex : List tm_Sh} {av : List Value} {X0 : tm_X} {r : Int32 × tm_I × tm_L} (C : tm_C Γ ty_La_begin.1.cls ty_La_begin.2.1 ty_La_begin.2.2.1) (G : tm_Γ ty_La_begin 2 40 0 0 av X0 (tm_is none (sh0 ++ ex, r.2.1, r.2.2, rr)) Γ) {mI : tm_I} {mL : tm_L} (hf : f_La_begin_b0  mI mL = some r) : tm_T Γ 1 0 0 0 [some (.ref 0)] [] (sh0 ++ ex) mI mL rr := by
  have Ro := G.ro
  unfold f_La_begin_b0 at hf
  refine tm_w C tfo_La to_La_begin 1 rfl rfl rfl ⟨rfl, trivial⟩ ?_
  obtain ⟨v1, hv1, hf⟩ := Option.bind_eq_some_iff.mp hf
  refine tm_cV C Ro to_La_begin tl_La_136 rfl (ct_Sc_rewind hv1) rfl rfl rfl rfl rfl rfl rfl (Nat.le_refl _) (Nat.le_refl _) ?_
  refine tm_w C tfo_La to_La_begin 1 rfl rfl rfl ⟨rfl, trivial⟩ ?_
  obtain ⟨v2, hv2, hf⟩ := Option.bind_eq_some_iff.mp hf
  refine tm_cV C Ro to_La_begin tl_La_139 rfl (ct_Pr_begin hv2) rfl rfl rfl rfl rfl rfl rfl (Nat.le_refl _) (Nat.le_refl _) ?_
  refine tm_w C tfo_La to_La_begin 8 rfl rfl rfl ⟨rfl, rfl, rfl, trivial⟩ ?_
  cases hf
  exact tm_ev C G to_La_begin rfl rfl (Nat.le_refl _) ⟨rfl, rfl⟩
set_option maxRecDepth 100000 in
theorem ct_La_begin {ex : List tm_Sh}  {mI : tm_I} {mL : tm_L} {r : Int32 × tm_I × tm_L} (hf : f_La_begin  mI mL = some r) : tm_M ty_La_begin 2 40 0 0 [.ref 0] (sh0 ++ ex, mI, mL, rr) (tm_is none (sh0 ++ ex, r.2.1, r.2.2, rr)) := by
  refine tm_body (by decide) (Nat.le_of_ble_eq_true rfl) fun Γ C G => ?_
  exact j_La_begin_b0 C G hf
/-! La_tell -/
def f_La_tell_b14 (x1 : Int32) (x2 : Int32) (mI : tm_I) (mL : tm_L) : Option (Int32 × tm_I × tm_L) := some (0, mI, mL)
def f_La_tell_b0 (x1 : Int32) (x2 : Int32) (mI : tm_I) (mL : tm_L) : Option (Int32 × tm_I × tm_L) := if x1 = 0 then f_La_tell_b14 x1 x2 mI mL else f_La_tell_b14 x1 x2 (tm_up (tm_up mI 0 6 x1) 0 7 x2) mL
abbrev f_La_tell (p0 : Int32) (p1 : Int32) (mI : tm_I) (mL : tm_L) : Option (Int32 × tm_I × tm_L) := f_La_tell_b0 p0 p1 mI mL
set_option maxRecDepth 100000 in
set_option maxHeartbeats 4000000 in
theorem j_La_tell_b14 {Γ : tm_G} {ex : List tm_Sh} {av : List Value} {X0 : tm_X} {r : Int32 × tm_I × tm_L} (C : tm_C Γ ty_La_tell.1.cls ty_La_tell.2.1 ty_La_tell.2.2.1) (G : tm_Γ ty_La_tell 0 0 0 0 av X0 (tm_is none (sh0 ++ ex, r.2.1, r.2.2, rr)) Γ) {x1 : Int32} {x2 : Int32} {mI : tm_I} {mL : tm_L} (hf : f_La_tell_b14 x1 x2 mI mL = some r) : tm_T Γ 3 0 0 14 [some (.ref 0), some (.int x1), some (.int x2)] [] (sh0 ++ ex) mI mL rr := by
  have Ro := G.ro
  unfold f_La_tell_b14 at hf
  cases hf
  exact tm_ev C G to_La_tell rfl rfl (Nat.le_refl _) ⟨rfl, rfl⟩
set_option maxRecDepth 100000 in
set_option maxHeartbeats 4000000 in
theorem j_La_tell_b0 {Γ : tm_G} {ex : List tm_Sh} {av : List Value} {X0 : tm_X} {r : Int32 × tm_I × tm_L} (C : tm_C Γ ty_La_tell.1.cls ty_La_tell.2.1 ty_La_tell.2.2.1) (G : tm_Γ ty_La_tell 0 0 0 0 av X0 (tm_is none (sh0 ++ ex, r.2.1, r.2.2, rr)) Γ) {x1 : Int32} {x2 : Int32} {mI : tm_I} {mL : tm_L} (hf : f_La_tell_b0 x1 x2 mI mL = some r) : tm_T Γ 3 0 0 0 [some (.ref 0), some (.int x1), some (.int x2)] [] (sh0 ++ ex) mI mL rr := by
  have Ro := G.ro
  unfold f_La_tell_b0 at hf
  refine tm_w C tfo_La to_La_tell 0 rfl rfl rfl trivial ?_
  refine tm_b C to_La_tell rfl rfl (fun h => ?_) (fun h => ?_)
  · have hf := (if_pos h).symm.trans hf
    refine tm_wk (lv' := [some (.ref 0), some (.int x1), some (.int x2)]) ⟨Or.inr rfl, Or.inr rfl, Or.inr rfl, trivial⟩ ?_
    exact j_La_tell_b14 C G hf
  · have hf := (if_neg h).symm.trans hf
    refine tm_w C tfo_La to_La_tell 5 rfl rfl rfl ⟨rfl, rfl, trivial⟩ ?_
    refine tm_wk (lv' := [some (.ref 0), some (.int x1), some (.int x2)]) ⟨Or.inr rfl, Or.inr rfl, Or.inr rfl, trivial⟩ ?_
    exact j_La_tell_b14 C G hf
set_option maxRecDepth 100000 in
theorem ct_La_tell {ex : List tm_Sh} {p0 : Int32} {p1 : Int32} {mI : tm_I} {mL : tm_L} {r : Int32 × tm_I × tm_L} (hf : f_La_tell p0 p1 mI mL = some r) : tm_M ty_La_tell 0 0 0 0 [.ref 0, .int p0, .int p1] (sh0 ++ ex, mI, mL, rr) (tm_is none (sh0 ++ ex, r.2.1, r.2.2, rr)) := by
  refine tm_body (by decide) (Nat.le_of_ble_eq_true rfl) fun Γ C G => ?_
  exact j_La_tell_b0 C G hf
/-! La_isLastCommand -/
def f_La_isLastCommand_b15 (s0 : Int32) (mI : tm_I) (mL : tm_L) : Option (Int32 × tm_I × tm_L) := if s0 = 0 ∨ s0 = 1 then some (s0, mI, mL) else none
def f_La_isLastCommand_b0  (mI : tm_I) (mL : tm_L) : Option (Int32 × tm_I × tm_L) := if (mI 0 5) < (2000 : Int32) then f_La_isLastCommand_b15 (0 : Int32) mI mL else f_La_isLastCommand_b15 (1 : Int32) mI mL
abbrev f_La_isLastCommand  (mI : tm_I) (mL : tm_L) : Option (Int32 × tm_I × tm_L) := f_La_isLastCommand_b0  mI mL
set_option maxRecDepth 100000 in
set_option maxHeartbeats 4000000 in
theorem j_La_isLastCommand_b15 {Γ : tm_G} {ex : List tm_Sh} {av : List Value} {X0 : tm_X} {r : Int32 × tm_I × tm_L} (C : tm_C Γ ty_La_isLastCommand.1.cls ty_La_isLastCommand.2.1 ty_La_isLastCommand.2.2.1) (G : tm_Γ ty_La_isLastCommand 0 0 0 0 av X0 (tm_is (some (.int r.1)) (sh0 ++ ex, r.2.1, r.2.2, rr)) Γ) {s0 : Int32} {mI : tm_I} {mL : tm_L} (hf : f_La_isLastCommand_b15 s0 mI mL = some r) : tm_T Γ 1 0 0 15 [some (.ref 0)] [.int s0] (sh0 ++ ex) mI mL rr := by
  have Ro := G.ro
  unfold f_La_isLastCommand_b15 at hf
  obtain ⟨c1, hf⟩ := tm_iteN hf
  cases hf
  exact tm_ei C G to_La_isLastCommand rfl rfl (Nat.le_refl _) (tm_nz c1) ⟨rfl, rfl⟩
set_option maxRecDepth 100000 in
set_option maxHeartbeats 4000000 in
theorem j_La_isLastCommand_b0 {Γ : tm_G} {ex : List tm_Sh} {av : List Value} {X0 : tm_X} {r : Int32 × tm_I × tm_L} (C : tm_C Γ ty_La_isLastCommand.1.cls ty_La_isLastCommand.2.1 ty_La_isLastCommand.2.2.1) (G : tm_Γ ty_La_isLastCommand 0 0 0 0 av X0 (tm_is (some (.int r.1)) (sh0 ++ ex, r.2.1, r.2.2, rr)) Γ) {mI : tm_I} {mL : tm_L} (hf : f_La_isLastCommand_b0  mI mL = some r) : tm_T Γ 1 0 0 0 [some (.ref 0)] [] (sh0 ++ ex) mI mL rr := by
  have Ro := G.ro
  unfold f_La_isLastCommand_b0 at hf
  refine tm_w C tfo_La to_La_isLastCommand 2 rfl rfl rfl ⟨rfl, trivial⟩ ?_
  refine tm_b C to_La_isLastCommand rfl rfl (fun h => ?_) (fun h => ?_)
  · have hf := (if_pos h).symm.trans hf
    refine tm_w C tfo_La to_La_isLastCommand 0 rfl rfl rfl trivial ?_
    refine tm_wk (lv' := [some (.ref 0)]) ⟨Or.inr rfl, trivial⟩ ?_
    exact j_La_isLastCommand_b15 C G hf
  · have hf := (if_neg h).symm.trans hf
    refine tm_w C tfo_La to_La_isLastCommand 1 rfl rfl rfl trivial ?_
    refine tm_wk (lv' := [some (.ref 0)]) ⟨Or.inr rfl, trivial⟩ ?_
    exact j_La_isLastCommand_b15 C G hf
set_option maxRecDepth 100000 in
theorem ct_La_isLastCommand {ex : List tm_Sh}  {mI : tm_I} {mL : tm_L} {r : Int32 × tm_I × tm_L} (hf : f_La_isLastCommand  mI mL = some r) : tm_M ty_La_isLastCommand 0 0 0 0 [.ref 0] (sh0 ++ ex, mI, mL, rr) (tm_is (some (.int r.1)) (sh0 ++ ex, r.2.1, r.2.2, rr)) := by
  refine tm_body (by decide) (Nat.le_of_ble_eq_true rfl) fun Γ C G => ?_
  exact j_La_isLastCommand_b0 C G hf
/-! La_storeForm -/
def f_La_storeForm_b20 (x1 : Int32) (x2 : Int32) (mI : tm_I) (mL : tm_L) : Option (Int32 × tm_I × tm_L) := some ((7 : Int32), mI, mL)
def f_La_storeForm_b0 (x1 : Int32) (mI : tm_I) (mL : tm_L) : Option (Int32 × tm_I × tm_L) := (f_Sc_formSize mI mL).bind fun v1 => if v1.1 = (-1 : Int32) then f_La_storeForm_b20 x1 v1.1 v1.2.1 v1.2.2 else if v1.1 ≤ (400 : Int32) then (f_La_isLastCommand v1.2.1 v1.2.2).bind fun v2 => if v2.1 = 0 then (f_Sc_keepForm x1 v1.1 v2.2.1 v2.2.2).bind fun v3 => some ((0 : Int32), v3.2.1, v3.2.2) else some ((10 : Int32), v2.2.1, v2.2.2) else f_La_storeForm_b20 x1 v1.1 v1.2.1 v1.2.2
abbrev f_La_storeForm (p0 : Int32) (mI : tm_I) (mL : tm_L) : Option (Int32 × tm_I × tm_L) := f_La_storeForm_b0 p0 mI mL
set_option maxRecDepth 100000 in
set_option maxHeartbeats 4000000 in
theorem j_La_storeForm_b20 {Γ : tm_G} {ex : List tm_Sh} {av : List Value} {X0 : tm_X} {r : Int32 × tm_I × tm_L} (C : tm_C Γ ty_La_storeForm.1.cls ty_La_storeForm.2.1 ty_La_storeForm.2.2.1) (G : tm_Γ ty_La_storeForm 3 66 0 0 av X0 (tm_is (some (.int r.1)) (sh0 ++ ex, r.2.1, r.2.2, rr)) Γ) {x1 : Int32} {x2 : Int32} {mI : tm_I} {mL : tm_L} (hf : f_La_storeForm_b20 x1 x2 mI mL = some r) : tm_T Γ 3 0 0 20 [some (.ref 0), some (.int x1), some (.int x2)] [] (sh0 ++ ex) mI mL rr := by
  have Ro := G.ro
  unfold f_La_storeForm_b20 at hf
  refine tm_w C tfo_La to_La_storeForm 0 rfl rfl rfl trivial ?_
  cases hf
  exact tm_ei C G to_La_storeForm rfl rfl (Nat.le_refl _) rfl ⟨rfl, rfl⟩
set_option maxRecDepth 100000 in
set_option maxHeartbeats 4000000 in
theorem j_La_storeForm_b0 {Γ : tm_G} {ex : List tm_Sh} {av : List Value} {X0 : tm_X} {r : Int32 × tm_I × tm_L} (C : tm_C Γ ty_La_storeForm.1.cls ty_La_storeForm.2.1 ty_La_storeForm.2.2.1) (G : tm_Γ ty_La_storeForm 3 66 0 0 av X0 (tm_is (some (.int r.1)) (sh0 ++ ex, r.2.1, r.2.2, rr)) Γ) {x1 : Int32} {mI : tm_I} {mL : tm_L} (hf : f_La_storeForm_b0 x1 mI mL = some r) : tm_T Γ 3 0 0 0 [some (.ref 0), some (.int x1), none] [] (sh0 ++ ex) mI mL rr := by
  have Ro := G.ro
  unfold f_La_storeForm_b0 at hf
  refine tm_w C tfo_La to_La_storeForm 1 rfl rfl rfl ⟨rfl, trivial⟩ ?_
  obtain ⟨v1, hv1, hf⟩ := Option.bind_eq_some_iff.mp hf
  refine tm_cV C Ro to_La_storeForm tl_La_232 rfl (ct_Sc_formSize hv1) rfl rfl rfl rfl rfl rfl rfl (Nat.le_refl _) (Nat.le_refl _) ?_
  refine tm_w C tfo_La to_La_storeForm 2 rfl rfl rfl trivial ?_
  refine tm_b C to_La_storeForm rfl rfl (fun h => ?_) (fun h => ?_)
  · have hf := (if_pos h).symm.trans hf
    refine tm_wk (lv' := [some (.ref 0), some (.int x1), some (.int v1.1)]) ⟨Or.inr rfl, Or.inr rfl, Or.inr rfl, trivial⟩ ?_
    exact j_La_storeForm_b20 C G hf
  · have hf := (if_neg h).symm.trans hf
    refine tm_w C tfo_La to_La_storeForm 1 rfl rfl rfl trivial ?_
    refine tm_b C to_La_storeForm rfl rfl (fun h => ?_) (fun h => ?_)
    · have hf := (if_pos h).symm.trans hf
      refine tm_w C tfo_La to_La_storeForm 0 rfl rfl rfl trivial ?_
      obtain ⟨v2, hv2, hf⟩ := Option.bind_eq_some_iff.mp hf
      refine tm_cV C Ro to_La_storeForm tl_La_163 rfl (ct_La_isLastCommand hv2) rfl rfl rfl rfl rfl rfl rfl (Nat.le_refl _) (Nat.le_refl _) ?_
      refine tm_b C to_La_storeForm rfl rfl (fun h => ?_) (fun h => ?_)
      · have hf := (if_pos h).symm.trans hf
        refine tm_w C tfo_La to_La_storeForm 3 rfl rfl rfl ⟨rfl, trivial⟩ ?_
        obtain ⟨v3, hv3, hf⟩ := Option.bind_eq_some_iff.mp hf
        refine tm_cV C Ro to_La_storeForm tl_La_235 rfl (ct_Sc_keepForm hv3) rfl rfl rfl rfl rfl rfl rfl (Nat.le_refl _) (Nat.le_refl _) ?_
        refine tm_w C tfo_La to_La_storeForm 0 rfl rfl rfl trivial ?_
        cases hf
        exact tm_ei C G to_La_storeForm rfl rfl (Nat.le_refl _) rfl ⟨rfl, rfl⟩
      · have hf := (if_neg h).symm.trans hf
        refine tm_w C tfo_La to_La_storeForm 0 rfl rfl rfl trivial ?_
        cases hf
        exact tm_ei C G to_La_storeForm rfl rfl (Nat.le_refl _) rfl ⟨rfl, rfl⟩
    · have hf := (if_neg h).symm.trans hf
      refine tm_wk (lv' := [some (.ref 0), some (.int x1), some (.int v1.1)]) ⟨Or.inr rfl, Or.inr rfl, Or.inr rfl, trivial⟩ ?_
      exact j_La_storeForm_b20 C G hf
set_option maxRecDepth 100000 in
theorem ct_La_storeForm {ex : List tm_Sh} {p0 : Int32} {mI : tm_I} {mL : tm_L} {r : Int32 × tm_I × tm_L} (hf : f_La_storeForm p0 mI mL = some r) : tm_M ty_La_storeForm 3 66 0 0 [.ref 0, .int p0] (sh0 ++ ex, mI, mL, rr) (tm_is (some (.int r.1)) (sh0 ++ ex, r.2.1, r.2.2, rr)) := by
  refine tm_body (by decide) (Nat.le_of_ble_eq_true rfl) fun Γ C G => ?_
  exact j_La_storeForm_b0 C G hf
/-! La_storeVariable -/
def f_La_storeVariable_b0 (x1 : Int32) (mI : tm_I) (mL : tm_L) : Option (Int32 × tm_I × tm_L) := (f_La_isLastCommand mI mL).bind fun v1 => if v1.1 = 0 then (f_Ro_copy_10_13 x1 (0 : Int32) v1.2.1 v1.2.2).bind fun v2 => some ((0 : Int32), v2.2.1, v2.2.2) else some ((10 : Int32), v1.2.1, v1.2.2)
abbrev f_La_storeVariable (p0 : Int32) (mI : tm_I) (mL : tm_L) : Option (Int32 × tm_I × tm_L) := f_La_storeVariable_b0 p0 mI mL
set_option maxRecDepth 100000 in
set_option maxHeartbeats 4000000 in
theorem j_La_storeVariable_b0 {Γ : tm_G} {ex : List tm_Sh} {av : List Value} {X0 : tm_X} {r : Int32 × tm_I × tm_L} (C : tm_C Γ ty_La_storeVariable.1.cls ty_La_storeVariable.2.1 ty_La_storeVariable.2.2.1) (G : tm_Γ ty_La_storeVariable 2 50 0 0 av X0 (tm_is (some (.int r.1)) (sh0 ++ ex, r.2.1, r.2.2, rr)) Γ) {x1 : Int32} {mI : tm_I} {mL : tm_L} (hf : f_La_storeVariable_b0 x1 mI mL = some r) : tm_T Γ 2 0 0 0 [some (.ref 0), some (.int x1)] [] (sh0 ++ ex) mI mL rr := by
  have Ro := G.ro
  unfold f_La_storeVariable_b0 at hf
  refine tm_w C tfo_La to_La_storeVariable 0 rfl rfl rfl trivial ?_
  obtain ⟨v1, hv1, hf⟩ := Option.bind_eq_some_iff.mp hf
  refine tm_cV C Ro to_La_storeVariable tl_La_163 rfl (ct_La_isLastCommand hv1) rfl rfl rfl rfl rfl rfl rfl (Nat.le_refl _) (Nat.le_refl _) ?_
  refine tm_b C to_La_storeVariable rfl rfl (fun h => ?_) (fun h => ?_)
  · have hf := (if_pos h).symm.trans hf
    refine tm_w C tfo_La to_La_storeVariable 5 rfl rfl rfl ⟨rfl, rfl, trivial⟩ ?_
    obtain ⟨v2, hv2, hf⟩ := Option.bind_eq_some_iff.mp hf
    refine tm_cV C Ro to_La_storeVariable tl_La_199 rfl (ct_Ro_copy_10_13 hv2) rfl rfl rfl rfl rfl rfl rfl (Nat.le_refl _) (Nat.le_refl _) ?_
    refine tm_w C tfo_La to_La_storeVariable 0 rfl rfl rfl trivial ?_
    cases hf
    exact tm_ei C G to_La_storeVariable rfl rfl (Nat.le_refl _) rfl ⟨rfl, rfl⟩
  · have hf := (if_neg h).symm.trans hf
    refine tm_w C tfo_La to_La_storeVariable 0 rfl rfl rfl trivial ?_
    cases hf
    exact tm_ei C G to_La_storeVariable rfl rfl (Nat.le_refl _) rfl ⟨rfl, rfl⟩
set_option maxRecDepth 100000 in
theorem ct_La_storeVariable {ex : List tm_Sh} {p0 : Int32} {mI : tm_I} {mL : tm_L} {r : Int32 × tm_I × tm_L} (hf : f_La_storeVariable p0 mI mL = some r) : tm_M ty_La_storeVariable 2 50 0 0 [.ref 0, .int p0] (sh0 ++ ex, mI, mL, rr) (tm_is (some (.int r.1)) (sh0 ++ ex, r.2.1, r.2.2, rr)) := by
  refine tm_body (by decide) (Nat.le_of_ble_eq_true rfl) fun Γ C G => ?_
  exact j_La_storeVariable_b0 C G hf
/-! La_escapedByte -/
def f_La_escapedByte_b44 (x1 : Int32) (x2 : Int32) (s0 : Int32) (mI : tm_I) (mL : tm_L) : Option (Int32 × tm_I × tm_L) := some (s0, mI, mL)
def f_La_escapedByte_b34 (x1 : Int32) (x2 : Int32) (mI : tm_I) (mL : tm_L) : Option (Int32 × tm_I × tm_L) := f_La_escapedByte_b44 x1 x2 (-1 : Int32) mI mL
def f_La_escapedByte_b0  (mI : tm_I) (mL : tm_L) : Option (Int32 × tm_I × tm_L) := (f_Sc_ahead (1 : Int32) mI mL).bind fun v1 => (f_La_hexValue v1.1 v1.2.1 v1.2.2).bind fun v2 => (f_Sc_ahead (2 : Int32) v2.2.1 v2.2.2).bind fun v3 => (f_La_hexValue v3.1 v3.2.1 v3.2.2).bind fun v4 => if v2.1 = (-1 : Int32) then f_La_escapedByte_b34 v2.1 v4.1 v4.2.1 v4.2.2 else if ¬ v4.1 = (-1 : Int32) then f_La_escapedByte_b44 v2.1 v4.1 ((v2.1 * (16 : Int32)) + v4.1) v4.2.1 v4.2.2 else f_La_escapedByte_b34 v2.1 v4.1 v4.2.1 v4.2.2
abbrev f_La_escapedByte  (mI : tm_I) (mL : tm_L) : Option (Int32 × tm_I × tm_L) := f_La_escapedByte_b0  mI mL
set_option maxRecDepth 100000 in
set_option maxHeartbeats 4000000 in
theorem j_La_escapedByte_b44 {Γ : tm_G} {ex : List tm_Sh} {av : List Value} {X0 : tm_X} {r : Int32 × tm_I × tm_L} (C : tm_C Γ ty_La_escapedByte.1.cls ty_La_escapedByte.2.1 ty_La_escapedByte.2.2.1) (G : tm_Γ ty_La_escapedByte 2 43 0 0 av X0 (tm_is (some (.int r.1)) (sh0 ++ ex, r.2.1, r.2.2, rr)) Γ) {x1 : Int32} {x2 : Int32} {s0 : Int32} {mI : tm_I} {mL : tm_L} (hf : f_La_escapedByte_b44 x1 x2 s0 mI mL = some r) : tm_T Γ 3 0 0 44 [some (.ref 0), some (.int x1), some (.int x2)] [.int s0] (sh0 ++ ex) mI mL rr := by
  have Ro := G.ro
  unfold f_La_escapedByte_b44 at hf
  cases hf
  exact tm_ei C G to_La_escapedByte rfl rfl (Nat.le_refl _) rfl ⟨rfl, rfl⟩
set_option maxRecDepth 100000 in
set_option maxHeartbeats 4000000 in
theorem j_La_escapedByte_b34 {Γ : tm_G} {ex : List tm_Sh} {av : List Value} {X0 : tm_X} {r : Int32 × tm_I × tm_L} (C : tm_C Γ ty_La_escapedByte.1.cls ty_La_escapedByte.2.1 ty_La_escapedByte.2.2.1) (G : tm_Γ ty_La_escapedByte 2 43 0 0 av X0 (tm_is (some (.int r.1)) (sh0 ++ ex, r.2.1, r.2.2, rr)) Γ) {x1 : Int32} {x2 : Int32} {mI : tm_I} {mL : tm_L} (hf : f_La_escapedByte_b34 x1 x2 mI mL = some r) : tm_T Γ 3 0 0 34 [some (.ref 0), some (.int x1), some (.int x2)] [] (sh0 ++ ex) mI mL rr := by
  have Ro := G.ro
  unfold f_La_escapedByte_b34 at hf
  refine tm_w C tfo_La to_La_escapedByte 1 rfl rfl rfl trivial ?_
  refine tm_wk (lv' := [some (.ref 0), some (.int x1), some (.int x2)]) ⟨Or.inr rfl, Or.inr rfl, Or.inr rfl, trivial⟩ ?_
  exact j_La_escapedByte_b44 C G hf
set_option maxRecDepth 100000 in
set_option maxHeartbeats 4000000 in
theorem j_La_escapedByte_b0 {Γ : tm_G} {ex : List tm_Sh} {av : List Value} {X0 : tm_X} {r : Int32 × tm_I × tm_L} (C : tm_C Γ ty_La_escapedByte.1.cls ty_La_escapedByte.2.1 ty_La_escapedByte.2.2.1) (G : tm_Γ ty_La_escapedByte 2 43 0 0 av X0 (tm_is (some (.int r.1)) (sh0 ++ ex, r.2.1, r.2.2, rr)) Γ) {mI : tm_I} {mL : tm_L} (hf : f_La_escapedByte_b0  mI mL = some r) : tm_T Γ 3 0 0 0 [some (.ref 0), none, none] [] (sh0 ++ ex) mI mL rr := by
  have Ro := G.ro
  unfold f_La_escapedByte_b0 at hf
  refine tm_w C tfo_La to_La_escapedByte 2 rfl rfl rfl ⟨rfl, trivial⟩ ?_
  obtain ⟨v1, hv1, hf⟩ := Option.bind_eq_some_iff.mp hf
  refine tm_cV C Ro to_La_escapedByte tl_La_84 rfl (ct_Sc_ahead hv1) rfl rfl rfl rfl rfl rfl rfl (Nat.le_refl _) (Nat.le_refl _) ?_
  obtain ⟨v2, hv2, hf⟩ := Option.bind_eq_some_iff.mp hf
  refine tm_cS C Ro to_La_escapedByte tl_La_241 rfl (ct_La_hexValue hv2) rfl rfl rfl rfl rfl (Nat.le_refl _) (Nat.le_refl _) ?_
  refine tm_w C tfo_La to_La_escapedByte 3 rfl rfl rfl ⟨rfl, trivial⟩ ?_
  obtain ⟨v3, hv3, hf⟩ := Option.bind_eq_some_iff.mp hf
  refine tm_cV C Ro to_La_escapedByte tl_La_84 rfl (ct_Sc_ahead hv3) rfl rfl rfl rfl rfl rfl rfl (Nat.le_refl _) (Nat.le_refl _) ?_
  obtain ⟨v4, hv4, hf⟩ := Option.bind_eq_some_iff.mp hf
  refine tm_cS C Ro to_La_escapedByte tl_La_241 rfl (ct_La_hexValue hv4) rfl rfl rfl rfl rfl (Nat.le_refl _) (Nat.le_refl _) ?_
  refine tm_w C tfo_La to_La_escapedByte 2 rfl rfl rfl trivial ?_
  refine tm_b C to_La_escapedByte rfl rfl (fun h => ?_) (fun h => ?_)
  · have hf := (if_pos h).symm.trans hf
    refine tm_wk (lv' := [some (.ref 0), some (.int v2.1), some (.int v4.1)]) ⟨Or.inr rfl, Or.inr rfl, Or.inr rfl, trivial⟩ ?_
    exact j_La_escapedByte_b34 C G hf
  · have hf := (if_neg h).symm.trans hf
    refine tm_w C tfo_La to_La_escapedByte 1 rfl rfl rfl trivial ?_
    refine tm_b C to_La_escapedByte rfl rfl (fun h => ?_) (fun h => ?_)
    · have hf := (if_pos h).symm.trans hf
      refine tm_w C tfo_La to_La_escapedByte 4 rfl rfl rfl trivial ?_
      refine tm_wk (lv' := [some (.ref 0), some (.int v2.1), some (.int v4.1)]) ⟨Or.inr rfl, Or.inr rfl, Or.inr rfl, trivial⟩ ?_
      exact j_La_escapedByte_b44 C G hf
    · have hf := (if_neg h).symm.trans hf
      refine tm_wk (lv' := [some (.ref 0), some (.int v2.1), some (.int v4.1)]) ⟨Or.inr rfl, Or.inr rfl, Or.inr rfl, trivial⟩ ?_
      exact j_La_escapedByte_b34 C G hf
set_option maxRecDepth 100000 in
theorem ct_La_escapedByte {ex : List tm_Sh}  {mI : tm_I} {mL : tm_L} {r : Int32 × tm_I × tm_L} (hf : f_La_escapedByte  mI mL = some r) : tm_M ty_La_escapedByte 2 43 0 0 [.ref 0] (sh0 ++ ex, mI, mL, rr) (tm_is (some (.int r.1)) (sh0 ++ ex, r.2.1, r.2.2, rr)) := by
  refine tm_body (by decide) (Nat.le_of_ble_eq_true rfl) fun Γ C G => ?_
  exact j_La_escapedByte_b0 C G hf
/-! La_decodeData -/
def f_La_decodeData_b37 (x1 : Int32) (x2 : Int32) (mI : tm_I) (mL : tm_L) : Option (Int32 × tm_I × tm_L) := some ((1 : Int32), mI, mL)
def f_La_decodeData_b71 (x1 : Int32) (x2 : Int32) (x3 : Int32) (mI : tm_I) (mL : tm_L) : Option (Int32 × tm_I × tm_L) := some ((0 : Int32), mI, mL)
def f_La_decodeData_b88 (r10 : Int32 → tm_I → tm_L → Option (Int32 × tm_I × tm_L)) (x1 : Int32) (x2 : Int32) (x3 : Int32) (s1 : Int32) (mI : tm_I) (mL : tm_L) : Option (Int32 × tm_I × tm_L) := (f_Sc_skip s1 mI mL).bind fun v1 => r10 (x1 + (1 : Int32)) v1.2.1 v1.2.2
def f_La_decodeData_b53 (r10 : Int32 → tm_I → tm_L → Option (Int32 × tm_I × tm_L)) (x1 : Int32) (x2 : Int32) (s0 : Int32) (mI : tm_I) (mL : tm_L) : Option (Int32 × tm_I × tm_L) := if s0 = (-1 : Int32) then f_La_decodeData_b71 x1 x2 s0 mI mL else (f_Ro_add 13 (0 : Int32) s0 mI mL).bind fun v2 => if ¬ v2.1 = 0 then if ¬ x2 = (95 : Int32) then f_La_decodeData_b88 r10 x1 x2 s0 (1 : Int32) v2.2.1 v2.2.2 else f_La_decodeData_b88 r10 x1 x2 s0 (3 : Int32) v2.2.1 v2.2.2 else f_La_decodeData_b71 x1 x2 s0 v2.2.1 v2.2.2
def f_La_decodeData_l10 : Nat → Int32 → tm_I → tm_L → Option (Int32 × tm_I × tm_L)
  | 0, _, _, _ => none
  | n + 1, x1, mI, mL => if (200 : Int32) < x1 then some ((0 : Int32), mI, mL) else (f_Sc_ahead (0 : Int32) mI mL).bind fun v3 => if v3.1 = (-1 : Int32) then f_La_decodeData_b37 x1 v3.1 v3.2.1 v3.2.2 else if ¬ v3.1 = (94 : Int32) then if ¬ v3.1 = (95 : Int32) then f_La_decodeData_b53 (f_La_decodeData_l10 n) x1 v3.1 v3.1 v3.2.1 v3.2.2 else (f_La_escapedByte v3.2.1 v3.2.2).bind fun v4 => f_La_decodeData_b53 (f_La_decodeData_l10 n) x1 v3.1 v4.1 v4.2.1 v4.2.2 else f_La_decodeData_b37 x1 v3.1 v3.2.1 v3.2.2
def f_La_decodeData_b0  (mI : tm_I) (mL : tm_L) : Option (Int32 × tm_I × tm_L) := (f_Ro_clear 13 (0 : Int32) mI mL).bind fun v5 => f_La_decodeData_l10 tm_F (0 : Int32) v5.2.1 v5.2.2
abbrev f_La_decodeData  (mI : tm_I) (mL : tm_L) : Option (Int32 × tm_I × tm_L) := f_La_decodeData_b0  mI mL
set_option maxRecDepth 100000 in
set_option maxHeartbeats 4000000 in
theorem j_La_decodeData_b37 {Γ : tm_G} {ex : List tm_Sh} {av : List Value} {X0 : tm_X} {r : Int32 × tm_I × tm_L} (C : tm_C Γ ty_La_decodeData.1.cls ty_La_decodeData.2.1 ty_La_decodeData.2.2.1) (G : tm_Γ ty_La_decodeData 3 65 0 0 av X0 (tm_is (some (.int r.1)) (sh0 ++ ex, r.2.1, r.2.2, rr)) Γ) {x1 : Int32} {x2 : Int32} {mI : tm_I} {mL : tm_L} (hf : f_La_decodeData_b37 x1 x2 mI mL = some r) : tm_T Γ 4 0 0 37 [some (.ref 0), some (.int x1), some (.int x2), none] [] (sh0 ++ ex) mI mL rr := by
  have Ro := G.ro
  unfold f_La_decodeData_b37 at hf
  refine tm_w C tfo_La to_La_decodeData 0 rfl rfl rfl trivial ?_
  cases hf
  exact tm_ei C G to_La_decodeData rfl rfl (Nat.le_refl _) rfl ⟨rfl, rfl⟩
set_option maxRecDepth 100000 in
set_option maxHeartbeats 4000000 in
theorem j_La_decodeData_b71 {Γ : tm_G} {ex : List tm_Sh} {av : List Value} {X0 : tm_X} {r : Int32 × tm_I × tm_L} (C : tm_C Γ ty_La_decodeData.1.cls ty_La_decodeData.2.1 ty_La_decodeData.2.2.1) (G : tm_Γ ty_La_decodeData 3 65 0 0 av X0 (tm_is (some (.int r.1)) (sh0 ++ ex, r.2.1, r.2.2, rr)) Γ) {x1 : Int32} {x2 : Int32} {x3 : Int32} {mI : tm_I} {mL : tm_L} (hf : f_La_decodeData_b71 x1 x2 x3 mI mL = some r) : tm_T Γ 4 0 0 71 [some (.ref 0), some (.int x1), some (.int x2), some (.int x3)] [] (sh0 ++ ex) mI mL rr := by
  have Ro := G.ro
  unfold f_La_decodeData_b71 at hf
  refine tm_w C tfo_La to_La_decodeData 0 rfl rfl rfl trivial ?_
  cases hf
  exact tm_ei C G to_La_decodeData rfl rfl (Nat.le_refl _) rfl ⟨rfl, rfl⟩
set_option maxRecDepth 100000 in
set_option maxHeartbeats 4000000 in
theorem j_La_decodeData_b88 {Γ : tm_G} {ex : List tm_Sh} {av : List Value} {X0 : tm_X} {r10 : Int32 → tm_I → tm_L → Option (Int32 × tm_I × tm_L)} {r : Int32 × tm_I × tm_L} (C : tm_C Γ ty_La_decodeData.1.cls ty_La_decodeData.2.1 ty_La_decodeData.2.2.1) (G : tm_Γ ty_La_decodeData 3 65 0 0 av X0 (tm_is (some (.int r.1)) (sh0 ++ ex, r.2.1, r.2.2, rr)) Γ) (H10 : ∀ (x1 : Int32) (mI : tm_I) (mL : tm_L), r10 x1 mI mL = some r → tm_T Γ 4 0 0 10 [some (.ref 0), some (.int x1), none, none] [] (sh0 ++ ex) mI mL rr) {x1 : Int32} {x2 : Int32} {x3 : Int32} {s1 : Int32} {mI : tm_I} {mL : tm_L} (hf : f_La_decodeData_b88 r10 x1 x2 x3 s1 mI mL = some r) : tm_T Γ 4 0 0 88 [some (.ref 0), some (.int x1), some (.int x2), some (.int x3)] [.int s1, .ref 1] (sh0 ++ ex) mI mL rr := by
  have Ro := G.ro
  unfold f_La_decodeData_b88 at hf
  obtain ⟨v1, hv1, hf⟩ := Option.bind_eq_some_iff.mp hf
  refine tm_cV C Ro to_La_decodeData tl_La_140 rfl (ct_Sc_skip hv1) rfl rfl rfl rfl rfl rfl rfl (Nat.le_refl _) (Nat.le_refl _) ?_
  refine tm_w C tfo_La to_La_decodeData 1 rfl rfl rfl trivial ?_
  refine tm_wk (lv' := [some (.ref 0), some (.int (x1 + (1 : Int32))), none, none]) ⟨Or.inr rfl, Or.inr rfl, Or.inl rfl, Or.inl rfl, trivial⟩ ?_
  exact H10 _ _ _ hf
set_option maxRecDepth 100000 in
set_option maxHeartbeats 4000000 in
theorem j_La_decodeData_b53 {Γ : tm_G} {ex : List tm_Sh} {av : List Value} {X0 : tm_X} {r10 : Int32 → tm_I → tm_L → Option (Int32 × tm_I × tm_L)} {r : Int32 × tm_I × tm_L} (C : tm_C Γ ty_La_decodeData.1.cls ty_La_decodeData.2.1 ty_La_decodeData.2.2.1) (G : tm_Γ ty_La_decodeData 3 65 0 0 av X0 (tm_is (some (.int r.1)) (sh0 ++ ex, r.2.1, r.2.2, rr)) Γ) (H10 : ∀ (x1 : Int32) (mI : tm_I) (mL : tm_L), r10 x1 mI mL = some r → tm_T Γ 4 0 0 10 [some (.ref 0), some (.int x1), none, none] [] (sh0 ++ ex) mI mL rr) {x1 : Int32} {x2 : Int32} {s0 : Int32} {mI : tm_I} {mL : tm_L} (hf : f_La_decodeData_b53 r10 x1 x2 s0 mI mL = some r) : tm_T Γ 4 0 0 53 [some (.ref 0), some (.int x1), some (.int x2), none] [.int s0] (sh0 ++ ex) mI mL rr := by
  have Ro := G.ro
  unfold f_La_decodeData_b53 at hf
  refine tm_w C tfo_La to_La_decodeData 2 rfl rfl rfl trivial ?_
  refine tm_b C to_La_decodeData rfl rfl (fun h => ?_) (fun h => ?_)
  · have hf := (if_pos h).symm.trans hf
    refine tm_wk (lv' := [some (.ref 0), some (.int x1), some (.int x2), some (.int s0)]) ⟨Or.inr rfl, Or.inr rfl, Or.inr rfl, Or.inr rfl, trivial⟩ ?_
    exact j_La_decodeData_b71 C G hf
  · have hf := (if_neg h).symm.trans hf
    refine tm_w C tfo_La to_La_decodeData 3 rfl rfl rfl ⟨rfl, trivial⟩ ?_
    obtain ⟨v2, hv2, hf⟩ := Option.bind_eq_some_iff.mp hf
    refine tm_cV C Ro to_La_decodeData tl_La_66 rfl (ct_Ro_add isRo_13 hv2) rfl rfl rfl rfl rfl rfl rfl (Nat.le_refl _) (Nat.le_refl _) ?_
    refine tm_b C to_La_decodeData rfl rfl (fun h => ?_) (fun h => ?_)
    · have hf := (if_pos h).symm.trans hf
      refine tm_w C tfo_La to_La_decodeData 3 rfl rfl rfl ⟨rfl, trivial⟩ ?_
      refine tm_b C to_La_decodeData rfl rfl (fun h => ?_) (fun h => ?_)
      · have hf := (if_pos h).symm.trans hf
        refine tm_w C tfo_La to_La_decodeData 0 rfl rfl rfl trivial ?_
        refine tm_wk (lv' := [some (.ref 0), some (.int x1), some (.int x2), some (.int s0)]) ⟨Or.inr rfl, Or.inr rfl, Or.inr rfl, Or.inr rfl, trivial⟩ ?_
        exact j_La_decodeData_b88 C G (H10) hf
      · have hf := (if_neg h).symm.trans hf
        refine tm_w C tfo_La to_La_decodeData 1 rfl rfl rfl trivial ?_
        refine tm_wk (lv' := [some (.ref 0), some (.int x1), some (.int x2), some (.int s0)]) ⟨Or.inr rfl, Or.inr rfl, Or.inr rfl, Or.inr rfl, trivial⟩ ?_
        exact j_La_decodeData_b88 C G (H10) hf
    · have hf := (if_neg h).symm.trans hf
      refine tm_wk (lv' := [some (.ref 0), some (.int x1), some (.int x2), some (.int s0)]) ⟨Or.inr rfl, Or.inr rfl, Or.inr rfl, Or.inr rfl, trivial⟩ ?_
      exact j_La_decodeData_b71 C G hf
set_option maxRecDepth 100000 in
set_option maxHeartbeats 4000000 in
theorem j_La_decodeData_l10 {Γ : tm_G} {ex : List tm_Sh} {av : List Value} {X0 : tm_X} {r : Int32 × tm_I × tm_L} (C : tm_C Γ ty_La_decodeData.1.cls ty_La_decodeData.2.1 ty_La_decodeData.2.2.1) (G : tm_Γ ty_La_decodeData 3 65 0 0 av X0 (tm_is (some (.int r.1)) (sh0 ++ ex, r.2.1, r.2.2, rr)) Γ) : ∀ (n : Nat) (x1 : Int32) (mI : tm_I) (mL : tm_L), f_La_decodeData_l10 n x1 mI mL = some r → tm_T Γ 4 0 0 10 [some (.ref 0), some (.int x1), none, none] [] (sh0 ++ ex) mI mL rr := by
  have Ro := G.ro
  intro n
  induction n with
  | zero => intro x1 mI mL hf; cases hf
  | succ n ih =>
    intro x1 mI mL hf
    rw [f_La_decodeData_l10] at hf
    refine tm_w C tfo_La to_La_decodeData 1 rfl rfl rfl trivial ?_
    refine tm_b C to_La_decodeData rfl rfl (fun h => ?_) (fun h => ?_)
    · have hf := (if_pos h).symm.trans hf
      refine tm_w C tfo_La to_La_decodeData 0 rfl rfl rfl trivial ?_
      cases hf
      exact tm_ei C G to_La_decodeData rfl rfl (Nat.le_refl _) rfl ⟨rfl, rfl⟩
    · have hf := (if_neg h).symm.trans hf
      refine tm_w C tfo_La to_La_decodeData 2 rfl rfl rfl ⟨rfl, trivial⟩ ?_
      obtain ⟨v3, hv3, hf⟩ := Option.bind_eq_some_iff.mp hf
      refine tm_cV C Ro to_La_decodeData tl_La_84 rfl (ct_Sc_ahead hv3) rfl rfl rfl rfl rfl rfl rfl (Nat.le_refl _) (Nat.le_refl _) ?_
      refine tm_w C tfo_La to_La_decodeData 2 rfl rfl rfl trivial ?_
      refine tm_b C to_La_decodeData rfl rfl (fun h => ?_) (fun h => ?_)
      · have hf := (if_pos h).symm.trans hf
        refine tm_wk (lv' := [some (.ref 0), some (.int x1), some (.int v3.1), none]) ⟨Or.inr rfl, Or.inr rfl, Or.inr rfl, Or.inl rfl, trivial⟩ ?_
        exact j_La_decodeData_b37 C G hf
      · have hf := (if_neg h).symm.trans hf
        refine tm_w C tfo_La to_La_decodeData 1 rfl rfl rfl trivial ?_
        refine tm_b C to_La_decodeData rfl rfl (fun h => ?_) (fun h => ?_)
        · have hf := (if_pos h).symm.trans hf
          refine tm_w C tfo_La to_La_decodeData 1 rfl rfl rfl trivial ?_
          refine tm_b C to_La_decodeData rfl rfl (fun h => ?_) (fun h => ?_)
          · have hf := (if_pos h).symm.trans hf
            refine tm_w C tfo_La to_La_decodeData 0 rfl rfl rfl trivial ?_
            refine tm_wk (lv' := [some (.ref 0), some (.int x1), some (.int v3.1), none]) ⟨Or.inr rfl, Or.inr rfl, Or.inr rfl, Or.inl rfl, trivial⟩ ?_
            exact j_La_decodeData_b53 C G (ih) hf
          · have hf := (if_neg h).symm.trans hf
            refine tm_w C tfo_La to_La_decodeData 0 rfl rfl rfl trivial ?_
            obtain ⟨v4, hv4, hf⟩ := Option.bind_eq_some_iff.mp hf
            refine tm_cV C Ro to_La_decodeData tl_La_238 rfl (ct_La_escapedByte hv4) rfl rfl rfl rfl rfl rfl rfl (Nat.le_refl _) (Nat.le_refl _) ?_
            refine tm_w C tfo_La to_La_decodeData 0 rfl rfl rfl trivial ?_
            refine tm_wk (lv' := [some (.ref 0), some (.int x1), some (.int v3.1), none]) ⟨Or.inr rfl, Or.inr rfl, Or.inr rfl, Or.inl rfl, trivial⟩ ?_
            exact j_La_decodeData_b53 C G (ih) hf
        · have hf := (if_neg h).symm.trans hf
          refine tm_wk (lv' := [some (.ref 0), some (.int x1), some (.int v3.1), none]) ⟨Or.inr rfl, Or.inr rfl, Or.inr rfl, Or.inl rfl, trivial⟩ ?_
          exact j_La_decodeData_b37 C G hf
set_option maxRecDepth 100000 in
set_option maxHeartbeats 4000000 in
theorem j_La_decodeData_b0 {Γ : tm_G} {ex : List tm_Sh} {av : List Value} {X0 : tm_X} {r : Int32 × tm_I × tm_L} (C : tm_C Γ ty_La_decodeData.1.cls ty_La_decodeData.2.1 ty_La_decodeData.2.2.1) (G : tm_Γ ty_La_decodeData 3 65 0 0 av X0 (tm_is (some (.int r.1)) (sh0 ++ ex, r.2.1, r.2.2, rr)) Γ) {mI : tm_I} {mL : tm_L} (hf : f_La_decodeData_b0  mI mL = some r) : tm_T Γ 4 0 0 0 [some (.ref 0), none, none, none] [] (sh0 ++ ex) mI mL rr := by
  have Ro := G.ro
  unfold f_La_decodeData_b0 at hf
  refine tm_w C tfo_La to_La_decodeData 2 rfl rfl rfl ⟨rfl, trivial⟩ ?_
  obtain ⟨v5, hv5, hf⟩ := Option.bind_eq_some_iff.mp hf
  refine tm_cV C Ro to_La_decodeData tl_La_70 rfl (ct_Ro_clear isRo_13 hv5) rfl rfl rfl rfl rfl rfl rfl (Nat.le_refl _) (Nat.le_refl _) ?_
  refine tm_w C tfo_La to_La_decodeData 1 rfl rfl rfl trivial ?_
  refine tm_wk (lv' := [some (.ref 0), some (.int (0 : Int32)), none, none]) ⟨Or.inr rfl, Or.inr rfl, Or.inl rfl, Or.inl rfl, trivial⟩ ?_
  exact j_La_decodeData_l10 C G _ _ _ _ hf
set_option maxRecDepth 100000 in
theorem ct_La_decodeData {ex : List tm_Sh}  {mI : tm_I} {mL : tm_L} {r : Int32 × tm_I × tm_L} (hf : f_La_decodeData  mI mL = some r) : tm_M ty_La_decodeData 3 65 0 0 [.ref 0] (sh0 ++ ex, mI, mL, rr) (tm_is (some (.int r.1)) (sh0 ++ ex, r.2.1, r.2.2, rr)) := by
  refine tm_body (by decide) (Nat.le_of_ble_eq_true rfl) fun Γ C G => ?_
  exact j_La_decodeData_b0 C G hf
/-! La_wipe -/
def f_La_wipe_b0  (mI : tm_I) (mL : tm_L) : Option (Int32 × tm_I × tm_L) := (f_Ro_size 2 (0 : Int32) mI mL).bind fun v1 => (f_Ro_clear 2 (0 : Int32) v1.2.1 v1.2.2).bind fun v2 => some (v1.1, v2.2.1, v2.2.2)
abbrev f_La_wipe  (mI : tm_I) (mL : tm_L) : Option (Int32 × tm_I × tm_L) := f_La_wipe_b0  mI mL
set_option maxRecDepth 100000 in
set_option maxHeartbeats 4000000 in
theorem j_La_wipe_b0 {Γ : tm_G} {ex : List tm_Sh} {av : List Value} {X0 : tm_X} {r : Int32 × tm_I × tm_L} (C : tm_C Γ ty_La_wipe.1.cls ty_La_wipe.2.1 ty_La_wipe.2.2.1) (G : tm_Γ ty_La_wipe 1 21 0 0 av X0 (tm_is (some (.int r.1)) (sh0 ++ ex, r.2.1, r.2.2, rr)) Γ) {mI : tm_I} {mL : tm_L} (hf : f_La_wipe_b0  mI mL = some r) : tm_T Γ 2 0 0 0 [some (.ref 0), none] [] (sh0 ++ ex) mI mL rr := by
  have Ro := G.ro
  unfold f_La_wipe_b0 at hf
  refine tm_w C tfo_La to_La_wipe 3 rfl rfl rfl ⟨rfl, rfl, trivial⟩ ?_
  obtain ⟨v1, hv1, hf⟩ := Option.bind_eq_some_iff.mp hf
  refine tm_cV C Ro to_La_wipe tl_La_62 rfl (ct_Ro_size isRo_2 hv1) rfl rfl rfl rfl rfl rfl rfl (Nat.le_refl _) (Nat.le_refl _) ?_
  refine tm_w C tfo_La to_La_wipe 4 rfl rfl rfl ⟨rfl, rfl, trivial⟩ ?_
  obtain ⟨v2, hv2, hf⟩ := Option.bind_eq_some_iff.mp hf
  refine tm_cV C Ro to_La_wipe tl_La_70 rfl (ct_Ro_clear isRo_2 hv2) rfl rfl rfl rfl rfl rfl rfl (Nat.le_refl _) (Nat.le_refl _) ?_
  refine tm_w C tfo_La to_La_wipe 0 rfl rfl rfl trivial ?_
  cases hf
  exact tm_ei C G to_La_wipe rfl rfl (Nat.le_refl _) rfl ⟨rfl, rfl⟩
set_option maxRecDepth 100000 in
theorem ct_La_wipe {ex : List tm_Sh}  {mI : tm_I} {mL : tm_L} {r : Int32 × tm_I × tm_L} (hf : f_La_wipe  mI mL = some r) : tm_M ty_La_wipe 1 21 0 0 [.ref 0] (sh0 ++ ex, mI, mL, rr) (tm_is (some (.int r.1)) (sh0 ++ ex, r.2.1, r.2.2, rr)) := by
  refine tm_body (by decide) (Nat.le_of_ble_eq_true rfl) fun Γ C G => ?_
  exact j_La_wipe_b0 C G hf
/-! La_fault -/
def f_La_fault_b0  (mI : tm_I) (mL : tm_L) : Option (Int32 × tm_I × tm_L) := some ((mI 0 6), mI, mL)
abbrev f_La_fault  (mI : tm_I) (mL : tm_L) : Option (Int32 × tm_I × tm_L) := f_La_fault_b0  mI mL
set_option maxRecDepth 100000 in
set_option maxHeartbeats 4000000 in
theorem j_La_fault_b0 {Γ : tm_G} {ex : List tm_Sh} {av : List Value} {X0 : tm_X} {r : Int32 × tm_I × tm_L} (C : tm_C Γ ty_La_fault.1.cls ty_La_fault.2.1 ty_La_fault.2.2.1) (G : tm_Γ ty_La_fault 0 0 0 0 av X0 (tm_is (some (.int r.1)) (sh0 ++ ex, r.2.1, r.2.2, rr)) Γ) {mI : tm_I} {mL : tm_L} (hf : f_La_fault_b0  mI mL = some r) : tm_T Γ 1 0 0 0 [some (.ref 0)] [] (sh0 ++ ex) mI mL rr := by
  have Ro := G.ro
  unfold f_La_fault_b0 at hf
  refine tm_w C tfo_La to_La_fault 1 rfl rfl rfl ⟨rfl, trivial⟩ ?_
  cases hf
  exact tm_ei C G to_La_fault rfl rfl (Nat.le_refl _) rfl ⟨rfl, rfl⟩
set_option maxRecDepth 100000 in
theorem ct_La_fault {ex : List tm_Sh}  {mI : tm_I} {mL : tm_L} {r : Int32 × tm_I × tm_L} (hf : f_La_fault  mI mL = some r) : tm_M ty_La_fault 0 0 0 0 [.ref 0] (sh0 ++ ex, mI, mL, rr) (tm_is (some (.int r.1)) (sh0 ++ ex, r.2.1, r.2.2, rr)) := by
  refine tm_body (by decide) (Nat.le_of_ble_eq_true rfl) fun Γ C G => ?_
  exact j_La_fault_b0 C G hf
/-! La_place -/
def f_La_place_b0  (mI : tm_I) (mL : tm_L) : Option (Int32 × tm_I × tm_L) := some ((mI 0 7), mI, mL)
abbrev f_La_place  (mI : tm_I) (mL : tm_L) : Option (Int32 × tm_I × tm_L) := f_La_place_b0  mI mL
set_option maxRecDepth 100000 in
set_option maxHeartbeats 4000000 in
theorem j_La_place_b0 {Γ : tm_G} {ex : List tm_Sh} {av : List Value} {X0 : tm_X} {r : Int32 × tm_I × tm_L} (C : tm_C Γ ty_La_place.1.cls ty_La_place.2.1 ty_La_place.2.2.1) (G : tm_Γ ty_La_place 0 0 0 0 av X0 (tm_is (some (.int r.1)) (sh0 ++ ex, r.2.1, r.2.2, rr)) Γ) {mI : tm_I} {mL : tm_L} (hf : f_La_place_b0  mI mL = some r) : tm_T Γ 1 0 0 0 [some (.ref 0)] [] (sh0 ++ ex) mI mL rr := by
  have Ro := G.ro
  unfold f_La_place_b0 at hf
  refine tm_w C tfo_La to_La_place 1 rfl rfl rfl ⟨rfl, trivial⟩ ?_
  cases hf
  exact tm_ei C G to_La_place rfl rfl (Nat.le_refl _) rfl ⟨rfl, rfl⟩
set_option maxRecDepth 100000 in
theorem ct_La_place {ex : List tm_Sh}  {mI : tm_I} {mL : tm_L} {r : Int32 × tm_I × tm_L} (hf : f_La_place  mI mL = some r) : tm_M ty_La_place 0 0 0 0 [.ref 0] (sh0 ++ ex, mI, mL, rr) (tm_is (some (.int r.1)) (sh0 ++ ex, r.2.1, r.2.2, rr)) := by
  refine tm_body (by decide) (Nat.le_of_ble_eq_true rfl) fun Γ C G => ?_
  exact j_La_place_b0 C G hf
/-! Nu_takeOne -/
def f_Nu_takeOne_b90 (x2 : Int32) (x3 : Int32) (x4 : Int32) (x5 : Int32) (mI : tm_I) (mL : tm_L) : Option (Int32 × tm_I × tm_L) := some ((0 : Int32), mI, mL)
def f_Nu_takeOne_b117 (x2 : Int32) (x3 : Int32) (x4 : Int32) (x5 : Int32) (mI : tm_I) (mL : tm_L) : Option (Int32 × tm_I × tm_L) := some ((1 : Int32), mI, mL)
def f_Nu_takeOne_b114 (x2 : Int32) (x3 : Int32) (x4 : Int32) (x5 : Int32) (s1 : Int32) (s2 : Int32) (mI : tm_I) (mL : tm_L) : Option (Int32 × tm_I × tm_L) := (f_Fo_set 17 s1 s2 mI mL).bind fun v1 => f_Nu_takeOne_b117 x2 x3 x4 x5 v1.2.1 v1.2.2
def f_Nu_takeOne_b92 (x2 : Int32) (x3 : Int32) (x4 : Int32) (x5 : Int32) (mI : tm_I) (mL : tm_L) : Option (Int32 × tm_I × tm_L) := if x5 ≤ 0 then f_Nu_takeOne_b117 x2 x3 x4 x5 mI mL else if x3 = 0 then f_Nu_takeOne_b114 x2 x3 x4 x5 x2 x4 mI mL else f_Nu_takeOne_b114 x2 x3 x4 x5 x2 (-x4) mI mL
def f_Nu_takeOne_b75 (x2 : Int32) (x3 : Int32) (x4 : Int32) (x5 : Int32) (mI : tm_I) (mL : tm_L) : Option (Int32 × tm_I × tm_L) := if (5 : Int32) < x5 then f_Nu_takeOne_b90 x2 x3 x4 x5 mI mL else if x3 = 0 then f_Nu_takeOne_b92 x2 x3 x4 x5 mI mL else if ¬ x5 = 0 then f_Nu_takeOne_b92 x2 x3 x4 x5 mI mL else f_Nu_takeOne_b90 x2 x3 x4 x5 mI mL
def f_Nu_takeOne_l31 : Nat → Int32 → Int32 → Int32 → Int32 → tm_I → tm_L → Option (Int32 × tm_I × tm_L)
  | 0, _, _, _, _, _, _ => none
  | n + 1, x2, x3, x4, x5, mI, mL => if (5 : Int32) < x5 then f_Nu_takeOne_b75 x2 x3 x4 x5 mI mL else (f_Sc_ahead (0 : Int32) mI mL).bind fun v2 => (f_La_isDigit v2.1 v2.2.1 v2.2.2).bind fun v3 => if v3.1 = 0 then f_Nu_takeOne_b75 x2 x3 x4 x5 v3.2.1 v3.2.2 else (f_Sc_ahead (0 : Int32) v3.2.1 v3.2.2).bind fun v4 => (f_Sc_skip (1 : Int32) v4.2.1 v4.2.2).bind fun v5 => (f_Nu_takeOne_l31 n) x2 x3 (((x4 * (10 : Int32)) + v4.1) - (48 : Int32)) (x5 + (1 : Int32)) v5.2.1 v5.2.2
def f_Nu_takeOne_b25 (x2 : Int32) (x3 : Int32) (mI : tm_I) (mL : tm_L) : Option (Int32 × tm_I × tm_L) := f_Nu_takeOne_l31 tm_F x2 x3 (0 : Int32) (0 : Int32) mI mL
def f_Nu_takeOne_b15 (x2 : Int32) (s0 : Int32) (mI : tm_I) (mL : tm_L) : Option (Int32 × tm_I × tm_L) := if s0 = 0 then f_Nu_takeOne_b25 x2 s0 mI mL else (f_Sc_skip (1 : Int32) mI mL).bind fun v6 => f_Nu_takeOne_b25 x2 s0 v6.2.1 v6.2.2
def f_Nu_takeOne_b0 (x2 : Int32) (mI : tm_I) (mL : tm_L) : Option (Int32 × tm_I × tm_L) := (f_Sc_ahead (0 : Int32) mI mL).bind fun v7 => if ¬ v7.1 = (45 : Int32) then f_Nu_takeOne_b15 x2 (0 : Int32) v7.2.1 v7.2.2 else f_Nu_takeOne_b15 x2 (1 : Int32) v7.2.1 v7.2.2
abbrev f_Nu_takeOne (p1 : Int32) (mI : tm_I) (mL : tm_L) : Option (Int32 × tm_I × tm_L) := f_Nu_takeOne_b0 p1 mI mL
set_option maxRecDepth 100000 in
set_option maxHeartbeats 4000000 in
theorem j_Nu_takeOne_b90 {Γ : tm_G} {ex : List tm_Sh} {av : List Value} {X0 : tm_X} {r : Int32 × tm_I × tm_L} (C : tm_C Γ ty_Nu_takeOne.1.cls ty_Nu_takeOne.2.1 ty_Nu_takeOne.2.2.1) (G : tm_Γ ty_Nu_takeOne 2 43 0 0 av X0 (tm_is (some (.int r.1)) (sh0 ++ ex, r.2.1, r.2.2, rr)) Γ) {x2 : Int32} {x3 : Int32} {x4 : Int32} {x5 : Int32} {mI : tm_I} {mL : tm_L} (hf : f_Nu_takeOne_b90 x2 x3 x4 x5 mI mL = some r) : tm_T Γ 6 0 0 90 [some (.ref 16), some (.ref 1), some (.int x2), some (.int x3), some (.int x4), some (.int x5)] [] (sh0 ++ ex) mI mL rr := by
  have Ro := G.ro
  unfold f_Nu_takeOne_b90 at hf
  refine tm_w C tfo_Nu to_Nu_takeOne 0 rfl rfl rfl trivial ?_
  cases hf
  exact tm_ei C G to_Nu_takeOne rfl rfl (Nat.le_refl _) rfl ⟨rfl, rfl⟩
set_option maxRecDepth 100000 in
set_option maxHeartbeats 4000000 in
theorem j_Nu_takeOne_b117 {Γ : tm_G} {ex : List tm_Sh} {av : List Value} {X0 : tm_X} {r : Int32 × tm_I × tm_L} (C : tm_C Γ ty_Nu_takeOne.1.cls ty_Nu_takeOne.2.1 ty_Nu_takeOne.2.2.1) (G : tm_Γ ty_Nu_takeOne 2 43 0 0 av X0 (tm_is (some (.int r.1)) (sh0 ++ ex, r.2.1, r.2.2, rr)) Γ) {x2 : Int32} {x3 : Int32} {x4 : Int32} {x5 : Int32} {mI : tm_I} {mL : tm_L} (hf : f_Nu_takeOne_b117 x2 x3 x4 x5 mI mL = some r) : tm_T Γ 6 0 0 117 [some (.ref 16), some (.ref 1), some (.int x2), some (.int x3), some (.int x4), some (.int x5)] [] (sh0 ++ ex) mI mL rr := by
  have Ro := G.ro
  unfold f_Nu_takeOne_b117 at hf
  refine tm_w C tfo_Nu to_Nu_takeOne 0 rfl rfl rfl trivial ?_
  cases hf
  exact tm_ei C G to_Nu_takeOne rfl rfl (Nat.le_refl _) rfl ⟨rfl, rfl⟩
set_option maxRecDepth 100000 in
set_option maxHeartbeats 4000000 in
theorem j_Nu_takeOne_b114 {Γ : tm_G} {ex : List tm_Sh} {av : List Value} {X0 : tm_X} {r : Int32 × tm_I × tm_L} (C : tm_C Γ ty_Nu_takeOne.1.cls ty_Nu_takeOne.2.1 ty_Nu_takeOne.2.2.1) (G : tm_Γ ty_Nu_takeOne 2 43 0 0 av X0 (tm_is (some (.int r.1)) (sh0 ++ ex, r.2.1, r.2.2, rr)) Γ) {x2 : Int32} {x3 : Int32} {x4 : Int32} {x5 : Int32} {s1 : Int32} {s2 : Int32} {mI : tm_I} {mL : tm_L} (hf : f_Nu_takeOne_b114 x2 x3 x4 x5 s1 s2 mI mL = some r) : tm_T Γ 6 0 0 114 [some (.ref 16), some (.ref 1), some (.int x2), some (.int x3), some (.int x4), some (.int x5)] [.int s2, .int s1, .ref 17] (sh0 ++ ex) mI mL rr := by
  have Ro := G.ro
  unfold f_Nu_takeOne_b114 at hf
  obtain ⟨v1, hv1, hf⟩ := Option.bind_eq_some_iff.mp hf
  refine tm_cV C Ro to_Nu_takeOne tl_Nu_94 rfl (ct_Fo_set isFo_17 hv1) rfl rfl rfl rfl rfl rfl rfl (Nat.le_refl _) (Nat.le_refl _) ?_
  refine tm_wk (lv' := [some (.ref 16), some (.ref 1), some (.int x2), some (.int x3), some (.int x4), some (.int x5)]) ⟨Or.inr rfl, Or.inr rfl, Or.inr rfl, Or.inr rfl, Or.inr rfl, Or.inr rfl, trivial⟩ ?_
  exact j_Nu_takeOne_b117 C G hf
set_option maxRecDepth 100000 in
set_option maxHeartbeats 4000000 in
theorem j_Nu_takeOne_b92 {Γ : tm_G} {ex : List tm_Sh} {av : List Value} {X0 : tm_X} {r : Int32 × tm_I × tm_L} (C : tm_C Γ ty_Nu_takeOne.1.cls ty_Nu_takeOne.2.1 ty_Nu_takeOne.2.2.1) (G : tm_Γ ty_Nu_takeOne 2 43 0 0 av X0 (tm_is (some (.int r.1)) (sh0 ++ ex, r.2.1, r.2.2, rr)) Γ) {x2 : Int32} {x3 : Int32} {x4 : Int32} {x5 : Int32} {mI : tm_I} {mL : tm_L} (hf : f_Nu_takeOne_b92 x2 x3 x4 x5 mI mL = some r) : tm_T Γ 6 0 0 92 [some (.ref 16), some (.ref 1), some (.int x2), some (.int x3), some (.int x4), some (.int x5)] [] (sh0 ++ ex) mI mL rr := by
  have Ro := G.ro
  unfold f_Nu_takeOne_b92 at hf
  refine tm_w C tfo_Nu to_Nu_takeOne 0 rfl rfl rfl trivial ?_
  refine tm_b C to_Nu_takeOne rfl rfl (fun h => ?_) (fun h => ?_)
  · have hf := (if_pos h).symm.trans hf
    refine tm_wk (lv' := [some (.ref 16), some (.ref 1), some (.int x2), some (.int x3), some (.int x4), some (.int x5)]) ⟨Or.inr rfl, Or.inr rfl, Or.inr rfl, Or.inr rfl, Or.inr rfl, Or.inr rfl, trivial⟩ ?_
    exact j_Nu_takeOne_b117 C G hf
  · have hf := (if_neg h).symm.trans hf
    refine tm_w C tfo_Nu to_Nu_takeOne 3 rfl rfl rfl ⟨rfl, trivial⟩ ?_
    refine tm_b C to_Nu_takeOne rfl rfl (fun h => ?_) (fun h => ?_)
    · have hf := (if_pos h).symm.trans hf
      refine tm_w C tfo_Nu to_Nu_takeOne 0 rfl rfl rfl trivial ?_
      refine tm_wk (lv' := [some (.ref 16), some (.ref 1), some (.int x2), some (.int x3), some (.int x4), some (.int x5)]) ⟨Or.inr rfl, Or.inr rfl, Or.inr rfl, Or.inr rfl, Or.inr rfl, Or.inr rfl, trivial⟩ ?_
      exact j_Nu_takeOne_b114 C G hf
    · have hf := (if_neg h).symm.trans hf
      refine tm_w C tfo_Nu to_Nu_takeOne 2 rfl rfl rfl trivial ?_
      refine tm_wk (lv' := [some (.ref 16), some (.ref 1), some (.int x2), some (.int x3), some (.int x4), some (.int x5)]) ⟨Or.inr rfl, Or.inr rfl, Or.inr rfl, Or.inr rfl, Or.inr rfl, Or.inr rfl, trivial⟩ ?_
      exact j_Nu_takeOne_b114 C G hf
set_option maxRecDepth 100000 in
set_option maxHeartbeats 4000000 in
theorem j_Nu_takeOne_b75 {Γ : tm_G} {ex : List tm_Sh} {av : List Value} {X0 : tm_X} {r : Int32 × tm_I × tm_L} (C : tm_C Γ ty_Nu_takeOne.1.cls ty_Nu_takeOne.2.1 ty_Nu_takeOne.2.2.1) (G : tm_Γ ty_Nu_takeOne 2 43 0 0 av X0 (tm_is (some (.int r.1)) (sh0 ++ ex, r.2.1, r.2.2, rr)) Γ) {x2 : Int32} {x3 : Int32} {x4 : Int32} {x5 : Int32} {mI : tm_I} {mL : tm_L} (hf : f_Nu_takeOne_b75 x2 x3 x4 x5 mI mL = some r) : tm_T Γ 6 0 0 75 [some (.ref 16), some (.ref 1), some (.int x2), some (.int x3), some (.int x4), some (.int x5)] [] (sh0 ++ ex) mI mL rr := by
  have Ro := G.ro
  unfold f_Nu_takeOne_b75 at hf
  refine tm_w C tfo_Nu to_Nu_takeOne 1 rfl rfl rfl trivial ?_
  refine tm_b C to_Nu_takeOne rfl rfl (fun h => ?_) (fun h => ?_)
  · have hf := (if_pos h).symm.trans hf
    refine tm_wk (lv' := [some (.ref 16), some (.ref 1), some (.int x2), some (.int x3), some (.int x4), some (.int x5)]) ⟨Or.inr rfl, Or.inr rfl, Or.inr rfl, Or.inr rfl, Or.inr rfl, Or.inr rfl, trivial⟩ ?_
    exact j_Nu_takeOne_b90 C G hf
  · have hf := (if_neg h).symm.trans hf
    refine tm_w C tfo_Nu to_Nu_takeOne 0 rfl rfl rfl trivial ?_
    refine tm_b C to_Nu_takeOne rfl rfl (fun h => ?_) (fun h => ?_)
    · have hf := (if_pos h).symm.trans hf
      refine tm_wk (lv' := [some (.ref 16), some (.ref 1), some (.int x2), some (.int x3), some (.int x4), some (.int x5)]) ⟨Or.inr rfl, Or.inr rfl, Or.inr rfl, Or.inr rfl, Or.inr rfl, Or.inr rfl, trivial⟩ ?_
      exact j_Nu_takeOne_b92 C G hf
    · have hf := (if_neg h).symm.trans hf
      refine tm_w C tfo_Nu to_Nu_takeOne 0 rfl rfl rfl trivial ?_
      refine tm_b C to_Nu_takeOne rfl rfl (fun h => ?_) (fun h => ?_)
      · have hf := (if_pos h).symm.trans hf
        refine tm_wk (lv' := [some (.ref 16), some (.ref 1), some (.int x2), some (.int x3), some (.int x4), some (.int x5)]) ⟨Or.inr rfl, Or.inr rfl, Or.inr rfl, Or.inr rfl, Or.inr rfl, Or.inr rfl, trivial⟩ ?_
        exact j_Nu_takeOne_b92 C G hf
      · have hf := (if_neg h).symm.trans hf
        refine tm_wk (lv' := [some (.ref 16), some (.ref 1), some (.int x2), some (.int x3), some (.int x4), some (.int x5)]) ⟨Or.inr rfl, Or.inr rfl, Or.inr rfl, Or.inr rfl, Or.inr rfl, Or.inr rfl, trivial⟩ ?_
        exact j_Nu_takeOne_b90 C G hf
set_option maxRecDepth 100000 in
set_option maxHeartbeats 4000000 in
theorem j_Nu_takeOne_l31 {Γ : tm_G} {ex : List tm_Sh} {av : List Value} {X0 : tm_X} {r : Int32 × tm_I × tm_L} (C : tm_C Γ ty_Nu_takeOne.1.cls ty_Nu_takeOne.2.1 ty_Nu_takeOne.2.2.1) (G : tm_Γ ty_Nu_takeOne 2 43 0 0 av X0 (tm_is (some (.int r.1)) (sh0 ++ ex, r.2.1, r.2.2, rr)) Γ) : ∀ (n : Nat) (x2 : Int32) (x3 : Int32) (x4 : Int32) (x5 : Int32) (mI : tm_I) (mL : tm_L), f_Nu_takeOne_l31 n x2 x3 x4 x5 mI mL = some r → tm_T Γ 6 0 0 31 [some (.ref 16), some (.ref 1), some (.int x2), some (.int x3), some (.int x4), some (.int x5)] [] (sh0 ++ ex) mI mL rr := by
  have Ro := G.ro
  intro n
  induction n with
  | zero => intro x2 x3 x4 x5 mI mL hf; cases hf
  | succ n ih =>
    intro x2 x3 x4 x5 mI mL hf
    rw [f_Nu_takeOne_l31] at hf
    refine tm_w C tfo_Nu to_Nu_takeOne 1 rfl rfl rfl trivial ?_
    refine tm_b C to_Nu_takeOne rfl rfl (fun h => ?_) (fun h => ?_)
    · have hf := (if_pos h).symm.trans hf
      refine tm_wk (lv' := [some (.ref 16), some (.ref 1), some (.int x2), some (.int x3), some (.int x4), some (.int x5)]) ⟨Or.inr rfl, Or.inr rfl, Or.inr rfl, Or.inr rfl, Or.inr rfl, Or.inr rfl, trivial⟩ ?_
      exact j_Nu_takeOne_b75 C G hf
    · have hf := (if_neg h).symm.trans hf
      refine tm_w C tfo_Nu to_Nu_takeOne 1 rfl rfl rfl trivial ?_
      obtain ⟨v2, hv2, hf⟩ := Option.bind_eq_some_iff.mp hf
      refine tm_cV C Ro to_Nu_takeOne tl_Nu_80 rfl (ct_Sc_ahead hv2) rfl rfl rfl rfl rfl rfl rfl (Nat.le_refl _) (Nat.le_refl _) ?_
      obtain ⟨v3, hv3, hf⟩ := Option.bind_eq_some_iff.mp hf
      refine tm_cN C Ro to_Nu_takeOne tl_Nu_101 rfl (ct_La_isDigit hv3) rfl rfl rfl rfl rfl (Nat.le_refl _) (Nat.le_refl _) ?_
      refine tm_b C to_Nu_takeOne rfl rfl (fun h => ?_) (fun h => ?_)
      · have hf := (if_pos h).symm.trans hf
        refine tm_wk (lv' := [some (.ref 16), some (.ref 1), some (.int x2), some (.int x3), some (.int x4), some (.int x5)]) ⟨Or.inr rfl, Or.inr rfl, Or.inr rfl, Or.inr rfl, Or.inr rfl, Or.inr rfl, trivial⟩ ?_
        exact j_Nu_takeOne_b75 C G hf
      · have hf := (if_neg h).symm.trans hf
        refine tm_w C tfo_Nu to_Nu_takeOne 4 rfl rfl rfl trivial ?_
        obtain ⟨v4, hv4, hf⟩ := Option.bind_eq_some_iff.mp hf
        refine tm_cV C Ro to_Nu_takeOne tl_Nu_80 rfl (ct_Sc_ahead hv4) rfl rfl rfl rfl rfl rfl rfl (Nat.le_refl _) (Nat.le_refl _) ?_
        refine tm_w C tfo_Nu to_Nu_takeOne 5 rfl rfl rfl trivial ?_
        obtain ⟨v5, hv5, hf⟩ := Option.bind_eq_some_iff.mp hf
        refine tm_cV C Ro to_Nu_takeOne tl_Nu_86 rfl (ct_Sc_skip hv5) rfl rfl rfl rfl rfl rfl rfl (Nat.le_refl _) (Nat.le_refl _) ?_
        refine tm_w C tfo_Nu to_Nu_takeOne 1 rfl rfl rfl trivial ?_
        refine tm_wk (lv' := [some (.ref 16), some (.ref 1), some (.int x2), some (.int x3), some (.int (((x4 * (10 : Int32)) + v4.1) - (48 : Int32))), some (.int (x5 + (1 : Int32)))]) ⟨Or.inr rfl, Or.inr rfl, Or.inr rfl, Or.inr rfl, Or.inr rfl, Or.inr rfl, trivial⟩ ?_
        exact ih _ _ _ _ _ _ hf
set_option maxRecDepth 100000 in
set_option maxHeartbeats 4000000 in
theorem j_Nu_takeOne_b25 {Γ : tm_G} {ex : List tm_Sh} {av : List Value} {X0 : tm_X} {r : Int32 × tm_I × tm_L} (C : tm_C Γ ty_Nu_takeOne.1.cls ty_Nu_takeOne.2.1 ty_Nu_takeOne.2.2.1) (G : tm_Γ ty_Nu_takeOne 2 43 0 0 av X0 (tm_is (some (.int r.1)) (sh0 ++ ex, r.2.1, r.2.2, rr)) Γ) {x2 : Int32} {x3 : Int32} {mI : tm_I} {mL : tm_L} (hf : f_Nu_takeOne_b25 x2 x3 mI mL = some r) : tm_T Γ 6 0 0 25 [some (.ref 16), some (.ref 1), some (.int x2), some (.int x3), none, none] [] (sh0 ++ ex) mI mL rr := by
  have Ro := G.ro
  unfold f_Nu_takeOne_b25 at hf
  refine tm_w C tfo_Nu to_Nu_takeOne 3 rfl rfl rfl trivial ?_
  refine tm_wk (lv' := [some (.ref 16), some (.ref 1), some (.int x2), some (.int x3), some (.int (0 : Int32)), some (.int (0 : Int32))]) ⟨Or.inr rfl, Or.inr rfl, Or.inr rfl, Or.inr rfl, Or.inr rfl, Or.inr rfl, trivial⟩ ?_
  exact j_Nu_takeOne_l31 C G _ _ _ _ _ _ _ hf
set_option maxRecDepth 100000 in
set_option maxHeartbeats 4000000 in
theorem j_Nu_takeOne_b15 {Γ : tm_G} {ex : List tm_Sh} {av : List Value} {X0 : tm_X} {r : Int32 × tm_I × tm_L} (C : tm_C Γ ty_Nu_takeOne.1.cls ty_Nu_takeOne.2.1 ty_Nu_takeOne.2.2.1) (G : tm_Γ ty_Nu_takeOne 2 43 0 0 av X0 (tm_is (some (.int r.1)) (sh0 ++ ex, r.2.1, r.2.2, rr)) Γ) {x2 : Int32} {s0 : Int32} {mI : tm_I} {mL : tm_L} (hf : f_Nu_takeOne_b15 x2 s0 mI mL = some r) : tm_T Γ 6 0 0 15 [some (.ref 16), some (.ref 1), some (.int x2), none, none, none] [.int s0] (sh0 ++ ex) mI mL rr := by
  have Ro := G.ro
  unfold f_Nu_takeOne_b15 at hf
  refine tm_w C tfo_Nu to_Nu_takeOne 1 rfl rfl rfl trivial ?_
  refine tm_b C to_Nu_takeOne rfl rfl (fun h => ?_) (fun h => ?_)
  · have hf := (if_pos h).symm.trans hf
    refine tm_wk (lv' := [some (.ref 16), some (.ref 1), some (.int x2), some (.int s0), none, none]) ⟨Or.inr rfl, Or.inr rfl, Or.inr rfl, Or.inr rfl, Or.inl rfl, Or.inl rfl, trivial⟩ ?_
    exact j_Nu_takeOne_b25 C G hf
  · have hf := (if_neg h).symm.trans hf
    refine tm_w C tfo_Nu to_Nu_takeOne 1 rfl rfl rfl trivial ?_
    obtain ⟨v6, hv6, hf⟩ := Option.bind_eq_some_iff.mp hf
    refine tm_cV C Ro to_Nu_takeOne tl_Nu_86 rfl (ct_Sc_skip hv6) rfl rfl rfl rfl rfl rfl rfl (Nat.le_refl _) (Nat.le_refl _) ?_
    refine tm_wk (lv' := [some (.ref 16), some (.ref 1), some (.int x2), some (.int s0), none, none]) ⟨Or.inr rfl, Or.inr rfl, Or.inr rfl, Or.inr rfl, Or.inl rfl, Or.inl rfl, trivial⟩ ?_
    exact j_Nu_takeOne_b25 C G hf
set_option maxRecDepth 100000 in
set_option maxHeartbeats 4000000 in
theorem j_Nu_takeOne_b0 {Γ : tm_G} {ex : List tm_Sh} {av : List Value} {X0 : tm_X} {r : Int32 × tm_I × tm_L} (C : tm_C Γ ty_Nu_takeOne.1.cls ty_Nu_takeOne.2.1 ty_Nu_takeOne.2.2.1) (G : tm_Γ ty_Nu_takeOne 2 43 0 0 av X0 (tm_is (some (.int r.1)) (sh0 ++ ex, r.2.1, r.2.2, rr)) Γ) {x2 : Int32} {mI : tm_I} {mL : tm_L} (hf : f_Nu_takeOne_b0 x2 mI mL = some r) : tm_T Γ 6 0 0 0 [some (.ref 16), some (.ref 1), some (.int x2), none, none, none] [] (sh0 ++ ex) mI mL rr := by
  have Ro := G.ro
  unfold f_Nu_takeOne_b0 at hf
  refine tm_w C tfo_Nu to_Nu_takeOne 1 rfl rfl rfl trivial ?_
  obtain ⟨v7, hv7, hf⟩ := Option.bind_eq_some_iff.mp hf
  refine tm_cV C Ro to_Nu_takeOne tl_Nu_80 rfl (ct_Sc_ahead hv7) rfl rfl rfl rfl rfl rfl rfl (Nat.le_refl _) (Nat.le_refl _) ?_
  refine tm_w C tfo_Nu to_Nu_takeOne 0 rfl rfl rfl trivial ?_
  refine tm_b C to_Nu_takeOne rfl rfl (fun h => ?_) (fun h => ?_)
  · have hf := (if_pos h).symm.trans hf
    refine tm_w C tfo_Nu to_Nu_takeOne 0 rfl rfl rfl trivial ?_
    refine tm_wk (lv' := [some (.ref 16), some (.ref 1), some (.int x2), none, none, none]) ⟨Or.inr rfl, Or.inr rfl, Or.inr rfl, Or.inl rfl, Or.inl rfl, Or.inl rfl, trivial⟩ ?_
    exact j_Nu_takeOne_b15 C G hf
  · have hf := (if_neg h).symm.trans hf
    refine tm_w C tfo_Nu to_Nu_takeOne 1 rfl rfl rfl trivial ?_
    refine tm_wk (lv' := [some (.ref 16), some (.ref 1), some (.int x2), none, none, none]) ⟨Or.inr rfl, Or.inr rfl, Or.inr rfl, Or.inl rfl, Or.inl rfl, Or.inl rfl, trivial⟩ ?_
    exact j_Nu_takeOne_b15 C G hf
set_option maxRecDepth 100000 in
theorem ct_Nu_takeOne {ex : List tm_Sh} {p1 : Int32} {mI : tm_I} {mL : tm_L} {r : Int32 × tm_I × tm_L} (hf : f_Nu_takeOne p1 mI mL = some r) : tm_M ty_Nu_takeOne 2 43 0 0 [.ref 16, .ref 1, .int p1] (sh0 ++ ex, mI, mL, rr) (tm_is (some (.int r.1)) (sh0 ++ ex, r.2.1, r.2.2, rr)) := by
  refine tm_body (by decide) (Nat.le_of_ble_eq_true rfl) fun Γ C G => ?_
  exact j_Nu_takeOne_b0 C G hf
/-! Nu_takeAll -/
def f_Nu_takeAll_b28 (r2 : Int32 → Int32 → tm_I → tm_L → Option (Int32 × tm_I × tm_L)) (x2 : Int32) (x3 : Int32) (mI : tm_I) (mL : tm_L) : Option (Int32 × tm_I × tm_L) := (f_Nu_takeOne x3 mI mL).bind fun v1 => if ¬ v1.1 = 0 then r2 x2 (x3 + (1 : Int32)) v1.2.1 v1.2.2 else some ((0 : Int32), v1.2.1, v1.2.2)
def f_Nu_takeAll_l2 : Nat → Int32 → Int32 → tm_I → tm_L → Option (Int32 × tm_I × tm_L)
  | 0, _, _, _, _ => none
  | n + 1, x2, x3, mI, mL => if x2 ≤ x3 then some ((1 : Int32), mI, mL) else if x3 ≤ 0 then f_Nu_takeAll_b28 (f_Nu_takeAll_l2 n) x2 x3 mI mL else (f_Sc_ahead (0 : Int32) mI mL).bind fun v2 => if v2.1 = (44 : Int32) then (f_Sc_skip (1 : Int32) v2.2.1 v2.2.2).bind fun v3 => f_Nu_takeAll_b28 (f_Nu_takeAll_l2 n) x2 x3 v3.2.1 v3.2.2 else some ((1 : Int32), v2.2.1, v2.2.2)
def f_Nu_takeAll_b0 (x2 : Int32) (mI : tm_I) (mL : tm_L) : Option (Int32 × tm_I × tm_L) := f_Nu_takeAll_l2 tm_F x2 (0 : Int32) mI mL
abbrev f_Nu_takeAll (p1 : Int32) (mI : tm_I) (mL : tm_L) : Option (Int32 × tm_I × tm_L) := f_Nu_takeAll_b0 p1 mI mL
set_option maxRecDepth 100000 in
set_option maxHeartbeats 4000000 in
theorem j_Nu_takeAll_b28 {Γ : tm_G} {ex : List tm_Sh} {av : List Value} {X0 : tm_X} {r2 : Int32 → Int32 → tm_I → tm_L → Option (Int32 × tm_I × tm_L)} {r : Int32 × tm_I × tm_L} (C : tm_C Γ ty_Nu_takeAll.1.cls ty_Nu_takeAll.2.1 ty_Nu_takeAll.2.2.1) (G : tm_Γ ty_Nu_takeAll 3 68 0 0 av X0 (tm_is (some (.int r.1)) (sh0 ++ ex, r.2.1, r.2.2, rr)) Γ) (H2 : ∀ (x2 : Int32) (x3 : Int32) (mI : tm_I) (mL : tm_L), r2 x2 x3 mI mL = some r → tm_T Γ 4 0 0 2 [some (.ref 16), some (.ref 1), some (.int x2), some (.int x3)] [] (sh0 ++ ex) mI mL rr) {x2 : Int32} {x3 : Int32} {mI : tm_I} {mL : tm_L} (hf : f_Nu_takeAll_b28 r2 x2 x3 mI mL = some r) : tm_T Γ 4 0 0 28 [some (.ref 16), some (.ref 1), some (.int x2), some (.int x3)] [] (sh0 ++ ex) mI mL rr := by
  have Ro := G.ro
  unfold f_Nu_takeAll_b28 at hf
  refine tm_w C tfo_Nu to_Nu_takeAll 2 rfl rfl rfl trivial ?_
  obtain ⟨v1, hv1, hf⟩ := Option.bind_eq_some_iff.mp hf
  refine tm_cV C Ro to_Nu_takeAll tl_Nu_98 rfl (ct_Nu_takeOne hv1) rfl rfl rfl rfl rfl rfl rfl (Nat.le_refl _) (Nat.le_refl _) ?_
  refine tm_b C to_Nu_takeAll rfl rfl (fun h => ?_) (fun h => ?_)
  · have hf := (if_pos h).symm.trans hf
    refine tm_w C tfo_Nu to_Nu_takeAll 1 rfl rfl rfl trivial ?_
    refine tm_wk (lv' := [some (.ref 16), some (.ref 1), some (.int x2), some (.int (x3 + (1 : Int32)))]) ⟨Or.inr rfl, Or.inr rfl, Or.inr rfl, Or.inr rfl, trivial⟩ ?_
    exact H2 _ _ _ _ hf
  · have hf := (if_neg h).symm.trans hf
    refine tm_w C tfo_Nu to_Nu_takeAll 0 rfl rfl rfl trivial ?_
    cases hf
    exact tm_ei C G to_Nu_takeAll rfl rfl (Nat.le_refl _) rfl ⟨rfl, rfl⟩
set_option maxRecDepth 100000 in
set_option maxHeartbeats 4000000 in
theorem j_Nu_takeAll_l2 {Γ : tm_G} {ex : List tm_Sh} {av : List Value} {X0 : tm_X} {r : Int32 × tm_I × tm_L} (C : tm_C Γ ty_Nu_takeAll.1.cls ty_Nu_takeAll.2.1 ty_Nu_takeAll.2.2.1) (G : tm_Γ ty_Nu_takeAll 3 68 0 0 av X0 (tm_is (some (.int r.1)) (sh0 ++ ex, r.2.1, r.2.2, rr)) Γ) : ∀ (n : Nat) (x2 : Int32) (x3 : Int32) (mI : tm_I) (mL : tm_L), f_Nu_takeAll_l2 n x2 x3 mI mL = some r → tm_T Γ 4 0 0 2 [some (.ref 16), some (.ref 1), some (.int x2), some (.int x3)] [] (sh0 ++ ex) mI mL rr := by
  have Ro := G.ro
  intro n
  induction n with
  | zero => intro x2 x3 mI mL hf; cases hf
  | succ n ih =>
    intro x2 x3 mI mL hf
    rw [f_Nu_takeAll_l2] at hf
    refine tm_w C tfo_Nu to_Nu_takeAll 1 rfl rfl rfl trivial ?_
    refine tm_b C to_Nu_takeAll rfl rfl (fun h => ?_) (fun h => ?_)
    · have hf := (if_pos h).symm.trans hf
      refine tm_w C tfo_Nu to_Nu_takeAll 0 rfl rfl rfl trivial ?_
      cases hf
      exact tm_ei C G to_Nu_takeAll rfl rfl (Nat.le_refl _) rfl ⟨rfl, rfl⟩
    · have hf := (if_neg h).symm.trans hf
      refine tm_w C tfo_Nu to_Nu_takeAll 0 rfl rfl rfl trivial ?_
      refine tm_b C to_Nu_takeAll rfl rfl (fun h => ?_) (fun h => ?_)
      · have hf := (if_pos h).symm.trans hf
        refine tm_wk (lv' := [some (.ref 16), some (.ref 1), some (.int x2), some (.int x3)]) ⟨Or.inr rfl, Or.inr rfl, Or.inr rfl, Or.inr rfl, trivial⟩ ?_
        exact j_Nu_takeAll_b28 C G (ih) hf
      · have hf := (if_neg h).symm.trans hf
        refine tm_w C tfo_Nu to_Nu_takeAll 1 rfl rfl rfl trivial ?_
        obtain ⟨v2, hv2, hf⟩ := Option.bind_eq_some_iff.mp hf
        refine tm_cV C Ro to_Nu_takeAll tl_Nu_80 rfl (ct_Sc_ahead hv2) rfl rfl rfl rfl rfl rfl rfl (Nat.le_refl _) (Nat.le_refl _) ?_
        refine tm_w C tfo_Nu to_Nu_takeAll 0 rfl rfl rfl trivial ?_
        refine tm_b C to_Nu_takeAll rfl rfl (fun h => ?_) (fun h => ?_)
        · have hf := (if_pos h).symm.trans hf
          refine tm_w C tfo_Nu to_Nu_takeAll 1 rfl rfl rfl trivial ?_
          obtain ⟨v3, hv3, hf⟩ := Option.bind_eq_some_iff.mp hf
          refine tm_cV C Ro to_Nu_takeAll tl_Nu_86 rfl (ct_Sc_skip hv3) rfl rfl rfl rfl rfl rfl rfl (Nat.le_refl _) (Nat.le_refl _) ?_
          refine tm_wk (lv' := [some (.ref 16), some (.ref 1), some (.int x2), some (.int x3)]) ⟨Or.inr rfl, Or.inr rfl, Or.inr rfl, Or.inr rfl, trivial⟩ ?_
          exact j_Nu_takeAll_b28 C G (ih) hf
        · have hf := (if_neg h).symm.trans hf
          refine tm_w C tfo_Nu to_Nu_takeAll 0 rfl rfl rfl trivial ?_
          cases hf
          exact tm_ei C G to_Nu_takeAll rfl rfl (Nat.le_refl _) rfl ⟨rfl, rfl⟩
set_option maxRecDepth 100000 in
set_option maxHeartbeats 4000000 in
theorem j_Nu_takeAll_b0 {Γ : tm_G} {ex : List tm_Sh} {av : List Value} {X0 : tm_X} {r : Int32 × tm_I × tm_L} (C : tm_C Γ ty_Nu_takeAll.1.cls ty_Nu_takeAll.2.1 ty_Nu_takeAll.2.2.1) (G : tm_Γ ty_Nu_takeAll 3 68 0 0 av X0 (tm_is (some (.int r.1)) (sh0 ++ ex, r.2.1, r.2.2, rr)) Γ) {x2 : Int32} {mI : tm_I} {mL : tm_L} (hf : f_Nu_takeAll_b0 x2 mI mL = some r) : tm_T Γ 4 0 0 0 [some (.ref 16), some (.ref 1), some (.int x2), none] [] (sh0 ++ ex) mI mL rr := by
  have Ro := G.ro
  unfold f_Nu_takeAll_b0 at hf
  refine tm_w C tfo_Nu to_Nu_takeAll 1 rfl rfl rfl trivial ?_
  refine tm_wk (lv' := [some (.ref 16), some (.ref 1), some (.int x2), some (.int (0 : Int32))]) ⟨Or.inr rfl, Or.inr rfl, Or.inr rfl, Or.inr rfl, trivial⟩ ?_
  exact j_Nu_takeAll_l2 C G _ _ _ _ _ hf
set_option maxRecDepth 100000 in
theorem ct_Nu_takeAll {ex : List tm_Sh} {p1 : Int32} {mI : tm_I} {mL : tm_L} {r : Int32 × tm_I × tm_L} (hf : f_Nu_takeAll p1 mI mL = some r) : tm_M ty_Nu_takeAll 3 68 0 0 [.ref 16, .ref 1, .int p1] (sh0 ++ ex, mI, mL, rr) (tm_is (some (.int r.1)) (sh0 ++ ex, r.2.1, r.2.2, rr)) := by
  refine tm_body (by decide) (Nat.le_of_ble_eq_true rfl) fun Γ C G => ?_
  exact j_Nu_takeAll_b0 C G hf
