/-! Sc_isInForm -/
def f_Sc_isInForm_b12 (s0 : Int32) (mI : tm_I) (mL : tm_L) : Option (Int32 × tm_I × tm_L) := if s0 = 0 ∨ s0 = 1 then some (s0, mI, mL) else none
def f_Sc_isInForm_b0  (mI : tm_I) (mL : tm_L) : Option (Int32 × tm_I × tm_L) := if (mI 1 4) ≤ 0 then f_Sc_isInForm_b12 (0 : Int32) mI mL else f_Sc_isInForm_b12 (1 : Int32) mI mL
abbrev f_Sc_isInForm  (mI : tm_I) (mL : tm_L) : Option (Int32 × tm_I × tm_L) := f_Sc_isInForm_b0  mI mL
set_option maxRecDepth 100000 in
set_option maxHeartbeats 4000000 in
theorem j_Sc_isInForm_b12 {Γ : tm_G} {ex : List tm_Sh} {av : List Value} {X0 : tm_X} {r : Int32 × tm_I × tm_L} (C : tm_C Γ ty_Sc_isInForm.1.cls ty_Sc_isInForm.2.1 ty_Sc_isInForm.2.2.1) (G : tm_Γ ty_Sc_isInForm 0 0 0 0 av X0 (tm_is (some (.int r.1)) (sh0 ++ ex, r.2.1, r.2.2, rr)) Γ) {s0 : Int32} {mI : tm_I} {mL : tm_L} (hf : f_Sc_isInForm_b12 s0 mI mL = some r) : tm_T Γ 1 0 0 12 [some (.ref 1)] [.int s0] (sh0 ++ ex) mI mL rr := by
  have Ro := G.ro
  unfold f_Sc_isInForm_b12 at hf
  obtain ⟨c1, hf⟩ := tm_iteN hf
  cases hf
  exact tm_ei C G to_Sc_isInForm rfl rfl (Nat.le_refl _) (tm_nz c1) ⟨rfl, rfl⟩
set_option maxRecDepth 100000 in
set_option maxHeartbeats 4000000 in
theorem j_Sc_isInForm_b0 {Γ : tm_G} {ex : List tm_Sh} {av : List Value} {X0 : tm_X} {r : Int32 × tm_I × tm_L} (C : tm_C Γ ty_Sc_isInForm.1.cls ty_Sc_isInForm.2.1 ty_Sc_isInForm.2.2.1) (G : tm_Γ ty_Sc_isInForm 0 0 0 0 av X0 (tm_is (some (.int r.1)) (sh0 ++ ex, r.2.1, r.2.2, rr)) Γ) {mI : tm_I} {mL : tm_L} (hf : f_Sc_isInForm_b0  mI mL = some r) : tm_T Γ 1 0 0 0 [some (.ref 1)] [] (sh0 ++ ex) mI mL rr := by
  have Ro := G.ro
  unfold f_Sc_isInForm_b0 at hf
  refine tm_w C tfo_Sc to_Sc_isInForm 1 rfl rfl rfl ⟨rfl, trivial⟩ ?_
  refine tm_b C to_Sc_isInForm rfl rfl (fun h => ?_) (fun h => ?_)
  · have hf := (if_pos h).symm.trans hf
    refine tm_w C tfo_Sc to_Sc_isInForm 0 rfl rfl rfl trivial ?_
    refine tm_wk (lv' := [some (.ref 1)]) ⟨Or.inr rfl, trivial⟩ ?_
    exact j_Sc_isInForm_b12 C G hf
  · have hf := (if_neg h).symm.trans hf
    refine tm_w C tfo_Sc to_Sc_isInForm 1 rfl rfl rfl trivial ?_
    refine tm_wk (lv' := [some (.ref 1)]) ⟨Or.inr rfl, trivial⟩ ?_
    exact j_Sc_isInForm_b12 C G hf
set_option maxRecDepth 100000 in
theorem ct_Sc_isInForm {ex : List tm_Sh}  {mI : tm_I} {mL : tm_L} {r : Int32 × tm_I × tm_L} (hf : f_Sc_isInForm  mI mL = some r) : tm_M ty_Sc_isInForm 0 0 0 0 [.ref 1] (sh0 ++ ex, mI, mL, rr) (tm_is (some (.int r.1)) (sh0 ++ ex, r.2.1, r.2.2, rr)) := by
  refine tm_body (by decide) (Nat.le_of_ble_eq_true rfl) fun Γ C G => ?_
  exact j_Sc_isInForm_b0 C G hf
/-! Sc_ahead -/
def f_Sc_ahead_b41 (x1 : Int32) (s0 : Int32) (mI : tm_I) (mL : tm_L) : Option (Int32 × tm_I × tm_L) := some (s0, mI, mL)
def f_Sc_ahead_b0 (x1 : Int32) (mI : tm_I) (mL : tm_L) : Option (Int32 × tm_I × tm_L) := if (mI 1 4) ≤ 0 then (f_Ro_at 2 (0 : Int32) ((mI 1 6) + x1) mI mL).bind fun v1 => f_Sc_ahead_b41 x1 v1.1 v1.2.1 v1.2.2 else (f_Ro_at 5 (mI 1 5) ((mI 1 6) + x1) mI mL).bind fun v2 => f_Sc_ahead_b41 x1 v2.1 v2.2.1 v2.2.2
abbrev f_Sc_ahead (p0 : Int32) (mI : tm_I) (mL : tm_L) : Option (Int32 × tm_I × tm_L) := f_Sc_ahead_b0 p0 mI mL
set_option maxRecDepth 100000 in
set_option maxHeartbeats 4000000 in
theorem j_Sc_ahead_b41 {Γ : tm_G} {ex : List tm_Sh} {av : List Value} {X0 : tm_X} {r : Int32 × tm_I × tm_L} (C : tm_C Γ ty_Sc_ahead.1.cls ty_Sc_ahead.2.1 ty_Sc_ahead.2.2.1) (G : tm_Γ ty_Sc_ahead 1 22 0 0 av X0 (tm_is (some (.int r.1)) (sh0 ++ ex, r.2.1, r.2.2, rr)) Γ) {x1 : Int32} {s0 : Int32} {mI : tm_I} {mL : tm_L} (hf : f_Sc_ahead_b41 x1 s0 mI mL = some r) : tm_T Γ 2 0 0 41 [some (.ref 1), some (.int x1)] [.int s0] (sh0 ++ ex) mI mL rr := by
  have Ro := G.ro
  unfold f_Sc_ahead_b41 at hf
  cases hf
  exact tm_ei C G to_Sc_ahead rfl rfl (Nat.le_refl _) rfl ⟨rfl, rfl⟩
set_option maxRecDepth 100000 in
set_option maxHeartbeats 4000000 in
theorem j_Sc_ahead_b0 {Γ : tm_G} {ex : List tm_Sh} {av : List Value} {X0 : tm_X} {r : Int32 × tm_I × tm_L} (C : tm_C Γ ty_Sc_ahead.1.cls ty_Sc_ahead.2.1 ty_Sc_ahead.2.2.1) (G : tm_Γ ty_Sc_ahead 1 22 0 0 av X0 (tm_is (some (.int r.1)) (sh0 ++ ex, r.2.1, r.2.2, rr)) Γ) {x1 : Int32} {mI : tm_I} {mL : tm_L} (hf : f_Sc_ahead_b0 x1 mI mL = some r) : tm_T Γ 2 0 0 0 [some (.ref 1), some (.int x1)] [] (sh0 ++ ex) mI mL rr := by
  have Ro := G.ro
  unfold f_Sc_ahead_b0 at hf
  refine tm_w C tfo_Sc to_Sc_ahead 1 rfl rfl rfl ⟨rfl, trivial⟩ ?_
  refine tm_b C to_Sc_ahead rfl rfl (fun h => ?_) (fun h => ?_)
  · have hf := (if_pos h).symm.trans hf
    refine tm_w C tfo_Sc to_Sc_ahead 6 rfl rfl rfl ⟨rfl, rfl, trivial⟩ ?_
    obtain ⟨v1, hv1, hf⟩ := Option.bind_eq_some_iff.mp hf
    refine tm_cV C Ro to_Sc_ahead tl_Sc_40 rfl (ct_Ro_at isRo_2 hv1) rfl rfl rfl rfl rfl rfl rfl (Nat.le_refl _) (Nat.le_refl _) ?_
    refine tm_wk (lv' := [some (.ref 1), some (.int x1)]) ⟨Or.inr rfl, Or.inr rfl, trivial⟩ ?_
    exact j_Sc_ahead_b41 C G hf
  · have hf := (if_neg h).symm.trans hf
    refine tm_w C tfo_Sc to_Sc_ahead 7 rfl rfl rfl ⟨rfl, rfl, rfl, trivial⟩ ?_
    obtain ⟨v2, hv2, hf⟩ := Option.bind_eq_some_iff.mp hf
    refine tm_cV C Ro to_Sc_ahead tl_Sc_40 rfl (ct_Ro_at isRo_5 hv2) rfl rfl rfl rfl rfl rfl rfl (Nat.le_refl _) (Nat.le_refl _) ?_
    refine tm_w C tfo_Sc to_Sc_ahead 0 rfl rfl rfl trivial ?_
    refine tm_wk (lv' := [some (.ref 1), some (.int x1)]) ⟨Or.inr rfl, Or.inr rfl, trivial⟩ ?_
    exact j_Sc_ahead_b41 C G hf
set_option maxRecDepth 100000 in
theorem ct_Sc_ahead {ex : List tm_Sh} {p0 : Int32} {mI : tm_I} {mL : tm_L} {r : Int32 × tm_I × tm_L} (hf : f_Sc_ahead p0 mI mL = some r) : tm_M ty_Sc_ahead 1 22 0 0 [.ref 1, .int p0] (sh0 ++ ex, mI, mL, rr) (tm_is (some (.int r.1)) (sh0 ++ ex, r.2.1, r.2.2, rr)) := by
  refine tm_body (by decide) (Nat.le_of_ble_eq_true rfl) fun Γ C G => ?_
  exact j_Sc_ahead_b0 C G hf
/-! Sc_skipBlanks -/
def f_Sc_skipBlanks_b44 (x1 : Int32) (mI : tm_I) (mL : tm_L) : Option (Int32 × tm_I × tm_L) := some (0, mI, mL)
def f_Sc_skipBlanks_l2 : Nat → Int32 → tm_I → tm_L → Option (Int32 × tm_I × tm_L)
  | 0, _, _, _ => none
  | n + 1, x1, mI, mL => if (4096 : Int32) ≤ x1 then f_Sc_skipBlanks_b44 x1 mI mL else (f_Sc_ahead (0 : Int32) mI mL).bind fun v1 => if v1.1 = (-1 : Int32) then f_Sc_skipBlanks_b44 x1 v1.2.1 v1.2.2 else (f_Sc_ahead (0 : Int32) v1.2.1 v1.2.2).bind fun v2 => if (32 : Int32) < v2.1 then f_Sc_skipBlanks_b44 x1 v2.2.1 v2.2.2 else (f_Sc_skipBlanks_l2 n) (x1 + (1 : Int32)) (tm_up v2.2.1 1 6 ((v2.2.1 1 6) + (1 : Int32))) v2.2.2
def f_Sc_skipBlanks_b0  (mI : tm_I) (mL : tm_L) : Option (Int32 × tm_I × tm_L) := f_Sc_skipBlanks_l2 tm_F (0 : Int32) mI mL
abbrev f_Sc_skipBlanks  (mI : tm_I) (mL : tm_L) : Option (Int32 × tm_I × tm_L) := f_Sc_skipBlanks_b0  mI mL
set_option maxRecDepth 100000 in
set_option maxHeartbeats 4000000 in
theorem j_Sc_skipBlanks_b44 {Γ : tm_G} {ex : List tm_Sh} {av : List Value} {X0 : tm_X} {r : Int32 × tm_I × tm_L} (C : tm_C Γ ty_Sc_skipBlanks.1.cls ty_Sc_skipBlanks.2.1 ty_Sc_skipBlanks.2.2.1) (G : tm_Γ ty_Sc_skipBlanks 2 43 0 0 av X0 (tm_is none (sh0 ++ ex, r.2.1, r.2.2, rr)) Γ) {x1 : Int32} {mI : tm_I} {mL : tm_L} (hf : f_Sc_skipBlanks_b44 x1 mI mL = some r) : tm_T Γ 2 0 0 44 [some (.ref 1), some (.int x1)] [] (sh0 ++ ex) mI mL rr := by
  have Ro := G.ro
  unfold f_Sc_skipBlanks_b44 at hf
  cases hf
  exact tm_ev C G to_Sc_skipBlanks rfl rfl (Nat.le_refl _) ⟨rfl, rfl⟩
set_option maxRecDepth 100000 in
set_option maxHeartbeats 4000000 in
theorem j_Sc_skipBlanks_l2 {Γ : tm_G} {ex : List tm_Sh} {av : List Value} {X0 : tm_X} {r : Int32 × tm_I × tm_L} (C : tm_C Γ ty_Sc_skipBlanks.1.cls ty_Sc_skipBlanks.2.1 ty_Sc_skipBlanks.2.2.1) (G : tm_Γ ty_Sc_skipBlanks 2 43 0 0 av X0 (tm_is none (sh0 ++ ex, r.2.1, r.2.2, rr)) Γ) : ∀ (n : Nat) (x1 : Int32) (mI : tm_I) (mL : tm_L), f_Sc_skipBlanks_l2 n x1 mI mL = some r → tm_T Γ 2 0 0 2 [some (.ref 1), some (.int x1)] [] (sh0 ++ ex) mI mL rr := by
  have Ro := G.ro
  intro n
  induction n with
  | zero => intro x1 mI mL hf; cases hf
  | succ n ih =>
    intro x1 mI mL hf
    rw [f_Sc_skipBlanks_l2] at hf
    refine tm_w C tfo_Sc to_Sc_skipBlanks 1 rfl rfl rfl trivial ?_
    refine tm_b C to_Sc_skipBlanks rfl rfl (fun h => ?_) (fun h => ?_)
    · have hf := (if_pos h).symm.trans hf
      refine tm_wk (lv' := [some (.ref 1), some (.int x1)]) ⟨Or.inr rfl, Or.inr rfl, trivial⟩ ?_
      exact j_Sc_skipBlanks_b44 C G hf
    · have hf := (if_neg h).symm.trans hf
      refine tm_w C tfo_Sc to_Sc_skipBlanks 1 rfl rfl rfl trivial ?_
      obtain ⟨v1, hv1, hf⟩ := Option.bind_eq_some_iff.mp hf
      refine tm_cV C Ro to_Sc_skipBlanks tl_Sc_43 rfl (ct_Sc_ahead hv1) rfl rfl rfl rfl rfl rfl rfl (Nat.le_refl _) (Nat.le_refl _) ?_
      refine tm_w C tfo_Sc to_Sc_skipBlanks 0 rfl rfl rfl trivial ?_
      refine tm_b C to_Sc_skipBlanks rfl rfl (fun h => ?_) (fun h => ?_)
      · have hf := (if_pos h).symm.trans hf
        refine tm_wk (lv' := [some (.ref 1), some (.int x1)]) ⟨Or.inr rfl, Or.inr rfl, trivial⟩ ?_
        exact j_Sc_skipBlanks_b44 C G hf
      · have hf := (if_neg h).symm.trans hf
        refine tm_w C tfo_Sc to_Sc_skipBlanks 1 rfl rfl rfl trivial ?_
        obtain ⟨v2, hv2, hf⟩ := Option.bind_eq_some_iff.mp hf
        refine tm_cV C Ro to_Sc_skipBlanks tl_Sc_43 rfl (ct_Sc_ahead hv2) rfl rfl rfl rfl rfl rfl rfl (Nat.le_refl _) (Nat.le_refl _) ?_
        refine tm_w C tfo_Sc to_Sc_skipBlanks 0 rfl rfl rfl trivial ?_
        refine tm_b C to_Sc_skipBlanks rfl rfl (fun h => ?_) (fun h => ?_)
        · have hf := (if_pos h).symm.trans hf
          refine tm_wk (lv' := [some (.ref 1), some (.int x1)]) ⟨Or.inr rfl, Or.inr rfl, trivial⟩ ?_
          exact j_Sc_skipBlanks_b44 C G hf
        · have hf := (if_neg h).symm.trans hf
          refine tm_w C tfo_Sc to_Sc_skipBlanks 7 rfl rfl rfl ⟨rfl, rfl, trivial⟩ ?_
          refine tm_wk (lv' := [some (.ref 1), some (.int (x1 + (1 : Int32)))]) ⟨Or.inr rfl, Or.inr rfl, trivial⟩ ?_
          exact ih _ _ _ hf
set_option maxRecDepth 100000 in
set_option maxHeartbeats 4000000 in
theorem j_Sc_skipBlanks_b0 {Γ : tm_G} {ex : List tm_Sh} {av : List Value} {X0 : tm_X} {r : Int32 × tm_I × tm_L} (C : tm_C Γ ty_Sc_skipBlanks.1.cls ty_Sc_skipBlanks.2.1 ty_Sc_skipBlanks.2.2.1) (G : tm_Γ ty_Sc_skipBlanks 2 43 0 0 av X0 (tm_is none (sh0 ++ ex, r.2.1, r.2.2, rr)) Γ) {mI : tm_I} {mL : tm_L} (hf : f_Sc_skipBlanks_b0  mI mL = some r) : tm_T Γ 2 0 0 0 [some (.ref 1), none] [] (sh0 ++ ex) mI mL rr := by
  have Ro := G.ro
  unfold f_Sc_skipBlanks_b0 at hf
  refine tm_w C tfo_Sc to_Sc_skipBlanks 1 rfl rfl rfl trivial ?_
  refine tm_wk (lv' := [some (.ref 1), some (.int (0 : Int32))]) ⟨Or.inr rfl, Or.inr rfl, trivial⟩ ?_
  exact j_Sc_skipBlanks_l2 C G _ _ _ _ hf
set_option maxRecDepth 100000 in
theorem ct_Sc_skipBlanks {ex : List tm_Sh}  {mI : tm_I} {mL : tm_L} {r : Int32 × tm_I × tm_L} (hf : f_Sc_skipBlanks  mI mL = some r) : tm_M ty_Sc_skipBlanks 2 43 0 0 [.ref 1] (sh0 ++ ex, mI, mL, rr) (tm_is none (sh0 ++ ex, r.2.1, r.2.2, rr)) := by
  refine tm_body (by decide) (Nat.le_of_ble_eq_true rfl) fun Γ C G => ?_
  exact j_Sc_skipBlanks_b0 C G hf
/-! Sc_spot -/
def f_Sc_spot_b18 (s0 : Int32) (mI : tm_I) (mL : tm_L) : Option (Int32 × tm_I × tm_L) := some (s0, mI, mL)
def f_Sc_spot_b0  (mI : tm_I) (mL : tm_L) : Option (Int32 × tm_I × tm_L) := if (mI 1 4) ≤ 0 then f_Sc_spot_b18 (mI 1 6) mI mL else f_Sc_spot_b18 (mI 1 7) mI mL
abbrev f_Sc_spot  (mI : tm_I) (mL : tm_L) : Option (Int32 × tm_I × tm_L) := f_Sc_spot_b0  mI mL
set_option maxRecDepth 100000 in
set_option maxHeartbeats 4000000 in
theorem j_Sc_spot_b18 {Γ : tm_G} {ex : List tm_Sh} {av : List Value} {X0 : tm_X} {r : Int32 × tm_I × tm_L} (C : tm_C Γ ty_Sc_spot.1.cls ty_Sc_spot.2.1 ty_Sc_spot.2.2.1) (G : tm_Γ ty_Sc_spot 0 0 0 0 av X0 (tm_is (some (.int r.1)) (sh0 ++ ex, r.2.1, r.2.2, rr)) Γ) {s0 : Int32} {mI : tm_I} {mL : tm_L} (hf : f_Sc_spot_b18 s0 mI mL = some r) : tm_T Γ 1 0 0 18 [some (.ref 1)] [.int s0] (sh0 ++ ex) mI mL rr := by
  have Ro := G.ro
  unfold f_Sc_spot_b18 at hf
  cases hf
  exact tm_ei C G to_Sc_spot rfl rfl (Nat.le_refl _) rfl ⟨rfl, rfl⟩
set_option maxRecDepth 100000 in
set_option maxHeartbeats 4000000 in
theorem j_Sc_spot_b0 {Γ : tm_G} {ex : List tm_Sh} {av : List Value} {X0 : tm_X} {r : Int32 × tm_I × tm_L} (C : tm_C Γ ty_Sc_spot.1.cls ty_Sc_spot.2.1 ty_Sc_spot.2.2.1) (G : tm_Γ ty_Sc_spot 0 0 0 0 av X0 (tm_is (some (.int r.1)) (sh0 ++ ex, r.2.1, r.2.2, rr)) Γ) {mI : tm_I} {mL : tm_L} (hf : f_Sc_spot_b0  mI mL = some r) : tm_T Γ 1 0 0 0 [some (.ref 1)] [] (sh0 ++ ex) mI mL rr := by
  have Ro := G.ro
  unfold f_Sc_spot_b0 at hf
  refine tm_w C tfo_Sc to_Sc_spot 1 rfl rfl rfl ⟨rfl, trivial⟩ ?_
  refine tm_b C to_Sc_spot rfl rfl (fun h => ?_) (fun h => ?_)
  · have hf := (if_pos h).symm.trans hf
    refine tm_w C tfo_Sc to_Sc_spot 1 rfl rfl rfl ⟨rfl, trivial⟩ ?_
    refine tm_wk (lv' := [some (.ref 1)]) ⟨Or.inr rfl, trivial⟩ ?_
    exact j_Sc_spot_b18 C G hf
  · have hf := (if_neg h).symm.trans hf
    refine tm_w C tfo_Sc to_Sc_spot 2 rfl rfl rfl ⟨rfl, trivial⟩ ?_
    refine tm_wk (lv' := [some (.ref 1)]) ⟨Or.inr rfl, trivial⟩ ?_
    exact j_Sc_spot_b18 C G hf
set_option maxRecDepth 100000 in
theorem ct_Sc_spot {ex : List tm_Sh}  {mI : tm_I} {mL : tm_L} {r : Int32 × tm_I × tm_L} (hf : f_Sc_spot  mI mL = some r) : tm_M ty_Sc_spot 0 0 0 0 [.ref 1] (sh0 ++ ex, mI, mL, rr) (tm_is (some (.int r.1)) (sh0 ++ ex, r.2.1, r.2.2, rr)) := by
  refine tm_body (by decide) (Nat.le_of_ble_eq_true rfl) fun Γ C G => ?_
  exact j_Sc_spot_b0 C G hf
/-! Sc_enter -/
def f_Sc_enter_b26 (x1 : Int32) (x2 : Int32) (mI : tm_I) (mL : tm_L) : Option (Int32 × tm_I × tm_L) := some ((0 : Int32), mI, mL)
def f_Sc_enter_b0 (x1 : Int32) (x2 : Int32) (mI : tm_I) (mL : tm_L) : Option (Int32 × tm_I × tm_L) := (f_Ro_size 5 x1 mI mL).bind fun v1 => if v1.1 = 0 then f_Sc_enter_b26 x1 x2 v1.2.1 v1.2.2 else if (v1.2.1 1 4) < 0 then f_Sc_enter_b26 x1 x2 v1.2.1 v1.2.2 else if (v1.2.1 1 4) < (4 : Int32) then if ¬ ((v1.2.1 1 4) < 0 ∨ 4 ≤ Int32.toNatClampNeg (v1.2.1 1 4)) then if ¬ (((tm_up v1.2.1 8 (Int32.toNatClampNeg (v1.2.1 1 4)) (v1.2.1 1 5)) 1 4) < 0 ∨ 4 ≤ Int32.toNatClampNeg ((tm_up v1.2.1 8 (Int32.toNatClampNeg (v1.2.1 1 4)) (v1.2.1 1 5)) 1 4)) then some ((1 : Int32), tm_up (tm_up (tm_up (tm_up (tm_up (tm_up v1.2.1 8 (Int32.toNatClampNeg (v1.2.1 1 4)) (v1.2.1 1 5)) 9 (Int32.toNatClampNeg ((tm_up v1.2.1 8 (Int32.toNatClampNeg (v1.2.1 1 4)) (v1.2.1 1 5)) 1 4)) ((tm_up v1.2.1 8 (Int32.toNatClampNeg (v1.2.1 1 4)) (v1.2.1 1 5)) 1 6)) 1 4 (((tm_up (tm_up v1.2.1 8 (Int32.toNatClampNeg (v1.2.1 1 4)) (v1.2.1 1 5)) 9 (Int32.toNatClampNeg ((tm_up v1.2.1 8 (Int32.toNatClampNeg (v1.2.1 1 4)) (v1.2.1 1 5)) 1 4)) ((tm_up v1.2.1 8 (Int32.toNatClampNeg (v1.2.1 1 4)) (v1.2.1 1 5)) 1 6)) 1 4) + (1 : Int32))) 1 5 x1) 1 6 (0 : Int32)) 1 7 x2, v1.2.2) else none else none else f_Sc_enter_b26 x1 x2 v1.2.1 v1.2.2
abbrev f_Sc_enter (p0 : Int32) (p1 : Int32) (mI : tm_I) (mL : tm_L) : Option (Int32 × tm_I × tm_L) := f_Sc_enter_b0 p0 p1 mI mL
set_option maxRecDepth 100000 in
set_option maxHeartbeats 4000000 in
theorem j_Sc_enter_b26 {Γ : tm_G} {ex : List tm_Sh} {av : List Value} {X0 : tm_X} {r : Int32 × tm_I × tm_L} (C : tm_C Γ ty_Sc_enter.1.cls ty_Sc_enter.2.1 ty_Sc_enter.2.2.1) (G : tm_Γ ty_Sc_enter 1 21 0 0 av X0 (tm_is (some (.int r.1)) (sh0 ++ ex, r.2.1, r.2.2, rr)) Γ) {x1 : Int32} {x2 : Int32} {mI : tm_I} {mL : tm_L} (hf : f_Sc_enter_b26 x1 x2 mI mL = some r) : tm_T Γ 3 0 0 26 [some (.ref 1), some (.int x1), some (.int x2)] [] (sh0 ++ ex) mI mL rr := by
  have Ro := G.ro
  unfold f_Sc_enter_b26 at hf
  refine tm_w C tfo_Sc to_Sc_enter 0 rfl rfl rfl trivial ?_
  cases hf
  exact tm_ei C G to_Sc_enter rfl rfl (Nat.le_refl _) rfl ⟨rfl, rfl⟩
set_option maxRecDepth 100000 in
set_option maxHeartbeats 4000000 in
theorem j_Sc_enter_b0 {Γ : tm_G} {ex : List tm_Sh} {av : List Value} {X0 : tm_X} {r : Int32 × tm_I × tm_L} (C : tm_C Γ ty_Sc_enter.1.cls ty_Sc_enter.2.1 ty_Sc_enter.2.2.1) (G : tm_Γ ty_Sc_enter 1 21 0 0 av X0 (tm_is (some (.int r.1)) (sh0 ++ ex, r.2.1, r.2.2, rr)) Γ) {x1 : Int32} {x2 : Int32} {mI : tm_I} {mL : tm_L} (hf : f_Sc_enter_b0 x1 x2 mI mL = some r) : tm_T Γ 3 0 0 0 [some (.ref 1), some (.int x1), some (.int x2)] [] (sh0 ++ ex) mI mL rr := by
  have Ro := G.ro
  unfold f_Sc_enter_b0 at hf
  refine tm_w C tfo_Sc to_Sc_enter 2 rfl rfl rfl ⟨rfl, trivial⟩ ?_
  obtain ⟨v1, hv1, hf⟩ := Option.bind_eq_some_iff.mp hf
  refine tm_cV C Ro to_Sc_enter tl_Sc_50 rfl (ct_Ro_size isRo_5 hv1) rfl rfl rfl rfl rfl rfl rfl (Nat.le_refl _) (Nat.le_refl _) ?_
  refine tm_b C to_Sc_enter rfl rfl (fun h => ?_) (fun h => ?_)
  · have hf := (if_pos h).symm.trans hf
    refine tm_wk (lv' := [some (.ref 1), some (.int x1), some (.int x2)]) ⟨Or.inr rfl, Or.inr rfl, Or.inr rfl, trivial⟩ ?_
    exact j_Sc_enter_b26 C G hf
  · have hf := (if_neg h).symm.trans hf
    refine tm_w C tfo_Sc to_Sc_enter 1 rfl rfl rfl ⟨rfl, trivial⟩ ?_
    refine tm_b C to_Sc_enter rfl rfl (fun h => ?_) (fun h => ?_)
    · have hf := (if_pos h).symm.trans hf
      refine tm_wk (lv' := [some (.ref 1), some (.int x1), some (.int x2)]) ⟨Or.inr rfl, Or.inr rfl, Or.inr rfl, trivial⟩ ?_
      exact j_Sc_enter_b26 C G hf
    · have hf := (if_neg h).symm.trans hf
      refine tm_w C tfo_Sc to_Sc_enter 2 rfl rfl rfl ⟨rfl, trivial⟩ ?_
      refine tm_b C to_Sc_enter rfl rfl (fun h => ?_) (fun h => ?_)
      · have hf := (if_pos h).symm.trans hf
        obtain ⟨c1, hf⟩ := tm_iteN hf
        obtain ⟨c2, hf⟩ := tm_iteN hf
        refine tm_w C tfo_Sc to_Sc_enter 29 rfl rfl rfl ⟨rfl, rfl, rfl, ⟨_, rfl, c1⟩, rfl, rfl, rfl, ⟨_, rfl, c2⟩, rfl, rfl, rfl, rfl, rfl, trivial⟩ ?_
        cases hf
        exact tm_ei C G to_Sc_enter rfl rfl (Nat.le_refl _) rfl ⟨rfl, rfl⟩
      · have hf := (if_neg h).symm.trans hf
        refine tm_wk (lv' := [some (.ref 1), some (.int x1), some (.int x2)]) ⟨Or.inr rfl, Or.inr rfl, Or.inr rfl, trivial⟩ ?_
        exact j_Sc_enter_b26 C G hf
set_option maxRecDepth 100000 in
theorem ct_Sc_enter {ex : List tm_Sh} {p0 : Int32} {p1 : Int32} {mI : tm_I} {mL : tm_L} {r : Int32 × tm_I × tm_L} (hf : f_Sc_enter p0 p1 mI mL = some r) : tm_M ty_Sc_enter 1 21 0 0 [.ref 1, .int p0, .int p1] (sh0 ++ ex, mI, mL, rr) (tm_is (some (.int r.1)) (sh0 ++ ex, r.2.1, r.2.2, rr)) := by
  refine tm_body (by decide) (Nat.le_of_ble_eq_true rfl) fun Γ C G => ?_
  exact j_Sc_enter_b0 C G hf
/-! Sc_leave -/
def f_Sc_leave_b16  (mI : tm_I) (mL : tm_L) : Option (Int32 × tm_I × tm_L) := some ((0 : Int32), mI, mL)
def f_Sc_leave_b0  (mI : tm_I) (mL : tm_L) : Option (Int32 × tm_I × tm_L) := if (mI 1 4) < (1 : Int32) then f_Sc_leave_b16 mI mL else if (mI 1 4) ≤ (4 : Int32) then if ¬ (((tm_up mI 1 4 ((mI 1 4) - (1 : Int32))) 1 4) < 0 ∨ 4 ≤ Int32.toNatClampNeg ((tm_up mI 1 4 ((mI 1 4) - (1 : Int32))) 1 4)) then if ¬ (((tm_up (tm_up mI 1 4 ((mI 1 4) - (1 : Int32))) 1 5 ((tm_up mI 1 4 ((mI 1 4) - (1 : Int32))) 8 (Int32.toNatClampNeg ((tm_up mI 1 4 ((mI 1 4) - (1 : Int32))) 1 4)))) 1 4) < 0 ∨ 4 ≤ Int32.toNatClampNeg ((tm_up (tm_up mI 1 4 ((mI 1 4) - (1 : Int32))) 1 5 ((tm_up mI 1 4 ((mI 1 4) - (1 : Int32))) 8 (Int32.toNatClampNeg ((tm_up mI 1 4 ((mI 1 4) - (1 : Int32))) 1 4)))) 1 4)) then some ((1 : Int32), tm_up (tm_up (tm_up mI 1 4 ((mI 1 4) - (1 : Int32))) 1 5 ((tm_up mI 1 4 ((mI 1 4) - (1 : Int32))) 8 (Int32.toNatClampNeg ((tm_up mI 1 4 ((mI 1 4) - (1 : Int32))) 1 4)))) 1 6 ((tm_up (tm_up mI 1 4 ((mI 1 4) - (1 : Int32))) 1 5 ((tm_up mI 1 4 ((mI 1 4) - (1 : Int32))) 8 (Int32.toNatClampNeg ((tm_up mI 1 4 ((mI 1 4) - (1 : Int32))) 1 4)))) 9 (Int32.toNatClampNeg ((tm_up (tm_up mI 1 4 ((mI 1 4) - (1 : Int32))) 1 5 ((tm_up mI 1 4 ((mI 1 4) - (1 : Int32))) 8 (Int32.toNatClampNeg ((tm_up mI 1 4 ((mI 1 4) - (1 : Int32))) 1 4)))) 1 4))), mL) else none else none else f_Sc_leave_b16 mI mL
abbrev f_Sc_leave  (mI : tm_I) (mL : tm_L) : Option (Int32 × tm_I × tm_L) := f_Sc_leave_b0  mI mL
set_option maxRecDepth 100000 in
set_option maxHeartbeats 4000000 in
theorem j_Sc_leave_b16 {Γ : tm_G} {ex : List tm_Sh} {av : List Value} {X0 : tm_X} {r : Int32 × tm_I × tm_L} (C : tm_C Γ ty_Sc_leave.1.cls ty_Sc_leave.2.1 ty_Sc_leave.2.2.1) (G : tm_Γ ty_Sc_leave 0 0 0 0 av X0 (tm_is (some (.int r.1)) (sh0 ++ ex, r.2.1, r.2.2, rr)) Γ) {mI : tm_I} {mL : tm_L} (hf : f_Sc_leave_b16  mI mL = some r) : tm_T Γ 1 0 0 16 [some (.ref 1)] [] (sh0 ++ ex) mI mL rr := by
  have Ro := G.ro
  unfold f_Sc_leave_b16 at hf
  refine tm_w C tfo_Sc to_Sc_leave 0 rfl rfl rfl trivial ?_
  cases hf
  exact tm_ei C G to_Sc_leave rfl rfl (Nat.le_refl _) rfl ⟨rfl, rfl⟩
set_option maxRecDepth 100000 in
set_option maxHeartbeats 4000000 in
theorem j_Sc_leave_b0 {Γ : tm_G} {ex : List tm_Sh} {av : List Value} {X0 : tm_X} {r : Int32 × tm_I × tm_L} (C : tm_C Γ ty_Sc_leave.1.cls ty_Sc_leave.2.1 ty_Sc_leave.2.2.1) (G : tm_Γ ty_Sc_leave 0 0 0 0 av X0 (tm_is (some (.int r.1)) (sh0 ++ ex, r.2.1, r.2.2, rr)) Γ) {mI : tm_I} {mL : tm_L} (hf : f_Sc_leave_b0  mI mL = some r) : tm_T Γ 1 0 0 0 [some (.ref 1)] [] (sh0 ++ ex) mI mL rr := by
  have Ro := G.ro
  unfold f_Sc_leave_b0 at hf
  refine tm_w C tfo_Sc to_Sc_leave 2 rfl rfl rfl ⟨rfl, trivial⟩ ?_
  refine tm_b C to_Sc_leave rfl rfl (fun h => ?_) (fun h => ?_)
  · have hf := (if_pos h).symm.trans hf
    refine tm_wk (lv' := [some (.ref 1)]) ⟨Or.inr rfl, trivial⟩ ?_
    exact j_Sc_leave_b16 C G hf
  · have hf := (if_neg h).symm.trans hf
    refine tm_w C tfo_Sc to_Sc_leave 2 rfl rfl rfl ⟨rfl, trivial⟩ ?_
    refine tm_b C to_Sc_leave rfl rfl (fun h => ?_) (fun h => ?_)
    · have hf := (if_pos h).symm.trans hf
      obtain ⟨c1, hf⟩ := tm_iteN hf
      obtain ⟨c2, hf⟩ := tm_iteN hf
      refine tm_w C tfo_Sc to_Sc_leave 20 rfl rfl rfl ⟨rfl, rfl, rfl, rfl, ⟨_, rfl, c1⟩, rfl, rfl, rfl, ⟨_, rfl, c2⟩, rfl, trivial⟩ ?_
      cases hf
      exact tm_ei C G to_Sc_leave rfl rfl (Nat.le_refl _) rfl ⟨rfl, rfl⟩
    · have hf := (if_neg h).symm.trans hf
      refine tm_wk (lv' := [some (.ref 1)]) ⟨Or.inr rfl, trivial⟩ ?_
      exact j_Sc_leave_b16 C G hf
set_option maxRecDepth 100000 in
theorem ct_Sc_leave {ex : List tm_Sh}  {mI : tm_I} {mL : tm_L} {r : Int32 × tm_I × tm_L} (hf : f_Sc_leave  mI mL = some r) : tm_M ty_Sc_leave 0 0 0 0 [.ref 1] (sh0 ++ ex, mI, mL, rr) (tm_is (some (.int r.1)) (sh0 ++ ex, r.2.1, r.2.2, rr)) := by
  refine tm_body (by decide) (Nat.le_of_ble_eq_true rfl) fun Γ C G => ?_
  exact j_Sc_leave_b0 C G hf
/-! Sc_formSize -/
def f_Sc_formSize_b33 (r2 : Int32 → tm_I → tm_L → Option (Int32 × tm_I × tm_L)) (x1 : Int32) (mI : tm_I) (mL : tm_L) : Option (Int32 × tm_I × tm_L) := r2 (x1 + (1 : Int32)) mI mL
def f_Sc_formSize_l2 : Nat → Int32 → tm_I → tm_L → Option (Int32 × tm_I × tm_L)
  | 0, _, _, _ => none
  | n + 1, x1, mI, mL => if (4096 : Int32) ≤ x1 then some ((-1 : Int32), mI, mL) else (f_Sc_ahead x1 mI mL).bind fun v1 => if ¬ v1.1 = (94 : Int32) then f_Sc_formSize_b33 (f_Sc_formSize_l2 n) x1 v1.2.1 v1.2.2 else (f_Sc_ahead (x1 + (1 : Int32)) v1.2.1 v1.2.2).bind fun v2 => if ¬ v2.1 = (90 : Int32) then f_Sc_formSize_b33 (f_Sc_formSize_l2 n) x1 v2.2.1 v2.2.2 else some (x1, v2.2.1, v2.2.2)
def f_Sc_formSize_b0  (mI : tm_I) (mL : tm_L) : Option (Int32 × tm_I × tm_L) := f_Sc_formSize_l2 tm_F (0 : Int32) mI mL
abbrev f_Sc_formSize  (mI : tm_I) (mL : tm_L) : Option (Int32 × tm_I × tm_L) := f_Sc_formSize_b0  mI mL
set_option maxRecDepth 100000 in
set_option maxHeartbeats 4000000 in
theorem j_Sc_formSize_b33 {Γ : tm_G} {ex : List tm_Sh} {av : List Value} {X0 : tm_X} {r2 : Int32 → tm_I → tm_L → Option (Int32 × tm_I × tm_L)} {r : Int32 × tm_I × tm_L} (C : tm_C Γ ty_Sc_formSize.1.cls ty_Sc_formSize.2.1 ty_Sc_formSize.2.2.1) (G : tm_Γ ty_Sc_formSize 2 43 0 0 av X0 (tm_is (some (.int r.1)) (sh0 ++ ex, r.2.1, r.2.2, rr)) Γ) (H2 : ∀ (x1 : Int32) (mI : tm_I) (mL : tm_L), r2 x1 mI mL = some r → tm_T Γ 2 0 0 2 [some (.ref 1), some (.int x1)] [] (sh0 ++ ex) mI mL rr) {x1 : Int32} {mI : tm_I} {mL : tm_L} (hf : f_Sc_formSize_b33 r2 x1 mI mL = some r) : tm_T Γ 2 0 0 33 [some (.ref 1), some (.int x1)] [] (sh0 ++ ex) mI mL rr := by
  have Ro := G.ro
  unfold f_Sc_formSize_b33 at hf
  refine tm_w C tfo_Sc to_Sc_formSize 1 rfl rfl rfl trivial ?_
  refine tm_wk (lv' := [some (.ref 1), some (.int (x1 + (1 : Int32)))]) ⟨Or.inr rfl, Or.inr rfl, trivial⟩ ?_
  exact H2 _ _ _ hf
set_option maxRecDepth 100000 in
set_option maxHeartbeats 4000000 in
theorem j_Sc_formSize_l2 {Γ : tm_G} {ex : List tm_Sh} {av : List Value} {X0 : tm_X} {r : Int32 × tm_I × tm_L} (C : tm_C Γ ty_Sc_formSize.1.cls ty_Sc_formSize.2.1 ty_Sc_formSize.2.2.1) (G : tm_Γ ty_Sc_formSize 2 43 0 0 av X0 (tm_is (some (.int r.1)) (sh0 ++ ex, r.2.1, r.2.2, rr)) Γ) : ∀ (n : Nat) (x1 : Int32) (mI : tm_I) (mL : tm_L), f_Sc_formSize_l2 n x1 mI mL = some r → tm_T Γ 2 0 0 2 [some (.ref 1), some (.int x1)] [] (sh0 ++ ex) mI mL rr := by
  have Ro := G.ro
  intro n
  induction n with
  | zero => intro x1 mI mL hf; cases hf
  | succ n ih =>
    intro x1 mI mL hf
    rw [f_Sc_formSize_l2] at hf
    refine tm_w C tfo_Sc to_Sc_formSize 1 rfl rfl rfl trivial ?_
    refine tm_b C to_Sc_formSize rfl rfl (fun h => ?_) (fun h => ?_)
    · have hf := (if_pos h).symm.trans hf
      refine tm_w C tfo_Sc to_Sc_formSize 0 rfl rfl rfl trivial ?_
      cases hf
      exact tm_ei C G to_Sc_formSize rfl rfl (Nat.le_refl _) rfl ⟨rfl, rfl⟩
    · have hf := (if_neg h).symm.trans hf
      refine tm_w C tfo_Sc to_Sc_formSize 1 rfl rfl rfl trivial ?_
      obtain ⟨v1, hv1, hf⟩ := Option.bind_eq_some_iff.mp hf
      refine tm_cV C Ro to_Sc_formSize tl_Sc_43 rfl (ct_Sc_ahead hv1) rfl rfl rfl rfl rfl rfl rfl (Nat.le_refl _) (Nat.le_refl _) ?_
      refine tm_w C tfo_Sc to_Sc_formSize 0 rfl rfl rfl trivial ?_
      refine tm_b C to_Sc_formSize rfl rfl (fun h => ?_) (fun h => ?_)
      · have hf := (if_pos h).symm.trans hf
        refine tm_wk (lv' := [some (.ref 1), some (.int x1)]) ⟨Or.inr rfl, Or.inr rfl, trivial⟩ ?_
        exact j_Sc_formSize_b33 C G (ih) hf
      · have hf := (if_neg h).symm.trans hf
        refine tm_w C tfo_Sc to_Sc_formSize 3 rfl rfl rfl trivial ?_
        obtain ⟨v2, hv2, hf⟩ := Option.bind_eq_some_iff.mp hf
        refine tm_cV C Ro to_Sc_formSize tl_Sc_43 rfl (ct_Sc_ahead hv2) rfl rfl rfl rfl rfl rfl rfl (Nat.le_refl _) (Nat.le_refl _) ?_
        refine tm_w C tfo_Sc to_Sc_formSize 0 rfl rfl rfl trivial ?_
        refine tm_b C to_Sc_formSize rfl rfl (fun h => ?_) (fun h => ?_)
        · have hf := (if_pos h).symm.trans hf
          refine tm_wk (lv' := [some (.ref 1), some (.int x1)]) ⟨Or.inr rfl, Or.inr rfl, trivial⟩ ?_
          exact j_Sc_formSize_b33 C G (ih) hf
        · have hf := (if_neg h).symm.trans hf
          refine tm_w C tfo_Sc to_Sc_formSize 0 rfl rfl rfl trivial ?_
          cases hf
          exact tm_ei C G to_Sc_formSize rfl rfl (Nat.le_refl _) rfl ⟨rfl, rfl⟩
set_option maxRecDepth 100000 in
set_option maxHeartbeats 4000000 in
theorem j_Sc_formSize_b0 {Γ : tm_G} {ex : List tm_Sh} {av : List Value} {X0 : tm_X} {r : Int32 × tm_I × tm_L} (C : tm_C Γ ty_Sc_formSize.1.cls ty_Sc_formSize.2.1 ty_Sc_formSize.2.2.1) (G : tm_Γ ty_Sc_formSize 2 43 0 0 av X0 (tm_is (some (.int r.1)) (sh0 ++ ex, r.2.1, r.2.2, rr)) Γ) {mI : tm_I} {mL : tm_L} (hf : f_Sc_formSize_b0  mI mL = some r) : tm_T Γ 2 0 0 0 [some (.ref 1), none] [] (sh0 ++ ex) mI mL rr := by
  have Ro := G.ro
  unfold f_Sc_formSize_b0 at hf
  refine tm_w C tfo_Sc to_Sc_formSize 1 rfl rfl rfl trivial ?_
  refine tm_wk (lv' := [some (.ref 1), some (.int (0 : Int32))]) ⟨Or.inr rfl, Or.inr rfl, trivial⟩ ?_
  exact j_Sc_formSize_l2 C G _ _ _ _ hf
set_option maxRecDepth 100000 in
theorem ct_Sc_formSize {ex : List tm_Sh}  {mI : tm_I} {mL : tm_L} {r : Int32 × tm_I × tm_L} (hf : f_Sc_formSize  mI mL = some r) : tm_M ty_Sc_formSize 2 43 0 0 [.ref 1] (sh0 ++ ex, mI, mL, rr) (tm_is (some (.int r.1)) (sh0 ++ ex, r.2.1, r.2.2, rr)) := by
  refine tm_body (by decide) (Nat.le_of_ble_eq_true rfl) fun Γ C G => ?_
  exact j_Sc_formSize_b0 C G hf
/-! Sc_keepForm -/
def f_Sc_keepForm_l10 : Nat → Int32 → Int32 → Int32 → tm_I → tm_L → Option (Int32 × tm_I × tm_L)
  | 0, _, _, _, _, _ => none
  | n + 1, x1, x2, x3, mI, mL => if x2 ≤ x3 then (f_Sc_skip (x2 + (2 : Int32)) mI mL).bind fun v1 => some (0, v1.2.1, v1.2.2) else (f_Sc_ahead x3 mI mL).bind fun v2 => (f_Ro_add 5 x1 v2.1 v2.2.1 v2.2.2).bind fun v3 => (f_Sc_keepForm_l10 n) x1 x2 (x3 + (1 : Int32)) v3.2.1 v3.2.2
def f_Sc_keepForm_b0 (x1 : Int32) (x2 : Int32) (mI : tm_I) (mL : tm_L) : Option (Int32 × tm_I × tm_L) := (f_Ro_clear 5 x1 mI mL).bind fun v4 => f_Sc_keepForm_l10 tm_F x1 x2 (0 : Int32) v4.2.1 v4.2.2
abbrev f_Sc_keepForm (p0 : Int32) (p1 : Int32) (mI : tm_I) (mL : tm_L) : Option (Int32 × tm_I × tm_L) := f_Sc_keepForm_b0 p0 p1 mI mL
set_option maxRecDepth 100000 in
set_option maxHeartbeats 4000000 in
theorem j_Sc_keepForm_l10 {Γ : tm_G} {ex : List tm_Sh} {av : List Value} {X0 : tm_X} {r : Int32 × tm_I × tm_L} (C : tm_C Γ ty_Sc_keepForm.1.cls ty_Sc_keepForm.2.1 ty_Sc_keepForm.2.2.1) (G : tm_Γ ty_Sc_keepForm 2 43 0 0 av X0 (tm_is none (sh0 ++ ex, r.2.1, r.2.2, rr)) Γ) : ∀ (n : Nat) (x1 : Int32) (x2 : Int32) (x3 : Int32) (mI : tm_I) (mL : tm_L), f_Sc_keepForm_l10 n x1 x2 x3 mI mL = some r → tm_T Γ 4 0 0 10 [some (.ref 1), some (.int x1), some (.int x2), some (.int x3)] [] (sh0 ++ ex) mI mL rr := by
  have Ro := G.ro
  intro n
  induction n with
  | zero => intro x1 x2 x3 mI mL hf; cases hf
  | succ n ih =>
    intro x1 x2 x3 mI mL hf
    rw [f_Sc_keepForm_l10] at hf
    refine tm_w C tfo_Sc to_Sc_keepForm 1 rfl rfl rfl trivial ?_
    refine tm_b C to_Sc_keepForm rfl rfl (fun h => ?_) (fun h => ?_)
    · have hf := (if_pos h).symm.trans hf
      refine tm_w C tfo_Sc to_Sc_keepForm 3 rfl rfl rfl trivial ?_
      obtain ⟨v1, hv1, hf⟩ := Option.bind_eq_some_iff.mp hf
      refine tm_cV C Ro to_Sc_keepForm tl_Sc_61 rfl (ct_Sc_skip hv1) rfl rfl rfl rfl rfl rfl rfl (Nat.le_refl _) (Nat.le_refl _) ?_
      cases hf
      exact tm_ev C G to_Sc_keepForm rfl rfl (Nat.le_refl _) ⟨rfl, rfl⟩
    · have hf := (if_neg h).symm.trans hf
      refine tm_w C tfo_Sc to_Sc_keepForm 4 rfl rfl rfl ⟨rfl, trivial⟩ ?_
      obtain ⟨v2, hv2, hf⟩ := Option.bind_eq_some_iff.mp hf
      refine tm_cV C Ro to_Sc_keepForm tl_Sc_43 rfl (ct_Sc_ahead hv2) rfl rfl rfl rfl rfl rfl rfl (Nat.le_refl _) (Nat.le_refl _) ?_
      obtain ⟨v3, hv3, hf⟩ := Option.bind_eq_some_iff.mp hf
      refine tm_cV C Ro to_Sc_keepForm tl_Sc_57 rfl (ct_Ro_add isRo_5 hv3) rfl rfl rfl rfl rfl rfl rfl (Nat.le_refl _) (Nat.le_refl _) ?_
      refine tm_w C tfo_Sc to_Sc_keepForm 2 rfl rfl rfl trivial ?_
      refine tm_wk (lv' := [some (.ref 1), some (.int x1), some (.int x2), some (.int (x3 + (1 : Int32)))]) ⟨Or.inr rfl, Or.inr rfl, Or.inr rfl, Or.inr rfl, trivial⟩ ?_
      exact ih _ _ _ _ _ hf
set_option maxRecDepth 100000 in
set_option maxHeartbeats 4000000 in
theorem j_Sc_keepForm_b0 {Γ : tm_G} {ex : List tm_Sh} {av : List Value} {X0 : tm_X} {r : Int32 × tm_I × tm_L} (C : tm_C Γ ty_Sc_keepForm.1.cls ty_Sc_keepForm.2.1 ty_Sc_keepForm.2.2.1) (G : tm_Γ ty_Sc_keepForm 2 43 0 0 av X0 (tm_is none (sh0 ++ ex, r.2.1, r.2.2, rr)) Γ) {x1 : Int32} {x2 : Int32} {mI : tm_I} {mL : tm_L} (hf : f_Sc_keepForm_b0 x1 x2 mI mL = some r) : tm_T Γ 4 0 0 0 [some (.ref 1), some (.int x1), some (.int x2), none] [] (sh0 ++ ex) mI mL rr := by
  have Ro := G.ro
  unfold f_Sc_keepForm_b0 at hf
  refine tm_w C tfo_Sc to_Sc_keepForm 2 rfl rfl rfl ⟨rfl, trivial⟩ ?_
  obtain ⟨v4, hv4, hf⟩ := Option.bind_eq_some_iff.mp hf
  refine tm_cV C Ro to_Sc_keepForm tl_Sc_53 rfl (ct_Ro_clear isRo_5 hv4) rfl rfl rfl rfl rfl rfl rfl (Nat.le_refl _) (Nat.le_refl _) ?_
  refine tm_w C tfo_Sc to_Sc_keepForm 1 rfl rfl rfl trivial ?_
  refine tm_wk (lv' := [some (.ref 1), some (.int x1), some (.int x2), some (.int (0 : Int32))]) ⟨Or.inr rfl, Or.inr rfl, Or.inr rfl, Or.inr rfl, trivial⟩ ?_
  exact j_Sc_keepForm_l10 C G _ _ _ _ _ _ hf
set_option maxRecDepth 100000 in
theorem ct_Sc_keepForm {ex : List tm_Sh} {p0 : Int32} {p1 : Int32} {mI : tm_I} {mL : tm_L} {r : Int32 × tm_I × tm_L} (hf : f_Sc_keepForm p0 p1 mI mL = some r) : tm_M ty_Sc_keepForm 2 43 0 0 [.ref 1, .int p0, .int p1] (sh0 ++ ex, mI, mL, rr) (tm_is none (sh0 ++ ex, r.2.1, r.2.2, rr)) := by
  refine tm_body (by decide) (Nat.le_of_ble_eq_true rfl) fun Γ C G => ?_
  exact j_Sc_keepForm_b0 C G hf
