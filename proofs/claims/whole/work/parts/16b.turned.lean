/-! Sc_rewind -/
def f_Sc_rewind_b0  (mI : tm_I) (mL : tm_L) : Option (Int32 × tm_I × tm_L) := some (0, tm_up (tm_up mI 1 4 (0 : Int32)) 1 6 (0 : Int32), mL)
abbrev f_Sc_rewind  (mI : tm_I) (mL : tm_L) : Option (Int32 × tm_I × tm_L) := f_Sc_rewind_b0  mI mL
set_option maxRecDepth 100000 in
set_option maxHeartbeats 4000000 in
theorem j_Sc_rewind_b0 {Γ : tm_G} {ex : List tm_Sh} {av : List Value} {X0 : tm_X} {r : Int32 × tm_I × tm_L} (C : tm_C Γ ty_Sc_rewind.1.cls ty_Sc_rewind.2.1 ty_Sc_rewind.2.2.1) (G : tm_Γ ty_Sc_rewind 0 0 0 0 av X0 (tm_is none (sh0 ++ ex, r.2.1, r.2.2, rr)) Γ) {mI : tm_I} {mL : tm_L} (hf : f_Sc_rewind_b0  mI mL = some r) : tm_T Γ 1 0 0 0 [some (.ref 1)] [] (sh0 ++ ex) mI mL rr := by
  have Ro := G.ro
  unfold f_Sc_rewind_b0 at hf
  refine tm_w C tfo_Sc to_Sc_rewind 5 rfl rfl rfl ⟨rfl, rfl, trivial⟩ ?_
  cases hf
  exact tm_ev C G to_Sc_rewind rfl rfl (Nat.le_refl _) ⟨rfl, rfl⟩
set_option maxRecDepth 100000 in
theorem ct_Sc_rewind {ex : List tm_Sh}  {mI : tm_I} {mL : tm_L} {r : Int32 × tm_I × tm_L} (hf : f_Sc_rewind  mI mL = some r) : tm_M ty_Sc_rewind 0 0 0 0 [.ref 1] (sh0 ++ ex, mI, mL, rr) (tm_is none (sh0 ++ ex, r.2.1, r.2.2, rr)) := by
  refine tm_body (by decide) (Nat.le_of_ble_eq_true rfl) fun Γ C G => ?_
  exact j_Sc_rewind_b0 C G hf
/-! Sc_skip -/
def f_Sc_skip_b0 (x1 : Int32) (mI : tm_I) (mL : tm_L) : Option (Int32 × tm_I × tm_L) := some (0, tm_up mI 1 6 ((mI 1 6) + x1), mL)
abbrev f_Sc_skip (p0 : Int32) (mI : tm_I) (mL : tm_L) : Option (Int32 × tm_I × tm_L) := f_Sc_skip_b0 p0 mI mL
set_option maxRecDepth 100000 in
set_option maxHeartbeats 4000000 in
theorem j_Sc_skip_b0 {Γ : tm_G} {ex : List tm_Sh} {av : List Value} {X0 : tm_X} {r : Int32 × tm_I × tm_L} (C : tm_C Γ ty_Sc_skip.1.cls ty_Sc_skip.2.1 ty_Sc_skip.2.2.1) (G : tm_Γ ty_Sc_skip 0 0 0 0 av X0 (tm_is none (sh0 ++ ex, r.2.1, r.2.2, rr)) Γ) {x1 : Int32} {mI : tm_I} {mL : tm_L} (hf : f_Sc_skip_b0 x1 mI mL = some r) : tm_T Γ 2 0 0 0 [some (.ref 1), some (.int x1)] [] (sh0 ++ ex) mI mL rr := by
  have Ro := G.ro
  unfold f_Sc_skip_b0 at hf
  refine tm_w C tfo_Sc to_Sc_skip 5 rfl rfl rfl ⟨rfl, rfl, trivial⟩ ?_
  cases hf
  exact tm_ev C G to_Sc_skip rfl rfl (Nat.le_refl _) ⟨rfl, rfl⟩
set_option maxRecDepth 100000 in
theorem ct_Sc_skip {ex : List tm_Sh} {p0 : Int32} {mI : tm_I} {mL : tm_L} {r : Int32 × tm_I × tm_L} (hf : f_Sc_skip p0 mI mL = some r) : tm_M ty_Sc_skip 0 0 0 0 [.ref 1, .int p0] (sh0 ++ ex, mI, mL, rr) (tm_is none (sh0 ++ ex, r.2.1, r.2.2, rr)) := by
  refine tm_body (by decide) (Nat.le_of_ble_eq_true rfl) fun Γ C G => ?_
  exact j_Sc_skip_b0 C G hf
/-! La_isDigit -/
def f_La_isDigit_b17 (x0 : Int32) (s0 : Int32) (mI : tm_I) (mL : tm_L) : Option (Int32 × tm_I × tm_L) := if s0 = 0 ∨ s0 = 1 then some (s0, mI, mL) else none
def f_La_isDigit_b16 (x0 : Int32) (mI : tm_I) (mL : tm_L) : Option (Int32 × tm_I × tm_L) := f_La_isDigit_b17 x0 (0 : Int32) mI mL
def f_La_isDigit_b0 (x0 : Int32) (mI : tm_I) (mL : tm_L) : Option (Int32 × tm_I × tm_L) := if x0 < (48 : Int32) then f_La_isDigit_b16 x0 mI mL else if (57 : Int32) < x0 then f_La_isDigit_b16 x0 mI mL else f_La_isDigit_b17 x0 (1 : Int32) mI mL
abbrev f_La_isDigit (p0 : Int32) (mI : tm_I) (mL : tm_L) : Option (Int32 × tm_I × tm_L) := f_La_isDigit_b0 p0 mI mL
set_option maxRecDepth 100000 in
set_option maxHeartbeats 4000000 in
theorem j_La_isDigit_b17 {Γ : tm_G} {ex : List tm_Sh} {av : List Value} {X0 : tm_X} {r : Int32 × tm_I × tm_L} (C : tm_C Γ ty_La_isDigit.1.cls ty_La_isDigit.2.1 ty_La_isDigit.2.2.1) (G : tm_Γ ty_La_isDigit 0 0 0 0 av X0 (tm_is (some (.int r.1)) (sh0 ++ ex, r.2.1, r.2.2, rr)) Γ) {x0 : Int32} {s0 : Int32} {mI : tm_I} {mL : tm_L} (hf : f_La_isDigit_b17 x0 s0 mI mL = some r) : tm_T Γ 1 0 0 17 [some (.int x0)] [.int s0] (sh0 ++ ex) mI mL rr := by
  have Ro := G.ro
  unfold f_La_isDigit_b17 at hf
  obtain ⟨c1, hf⟩ := tm_iteN hf
  cases hf
  exact tm_ei C G to_La_isDigit rfl rfl (Nat.le_refl _) (tm_nz c1) ⟨rfl, rfl⟩
set_option maxRecDepth 100000 in
set_option maxHeartbeats 4000000 in
theorem j_La_isDigit_b16 {Γ : tm_G} {ex : List tm_Sh} {av : List Value} {X0 : tm_X} {r : Int32 × tm_I × tm_L} (C : tm_C Γ ty_La_isDigit.1.cls ty_La_isDigit.2.1 ty_La_isDigit.2.2.1) (G : tm_Γ ty_La_isDigit 0 0 0 0 av X0 (tm_is (some (.int r.1)) (sh0 ++ ex, r.2.1, r.2.2, rr)) Γ) {x0 : Int32} {mI : tm_I} {mL : tm_L} (hf : f_La_isDigit_b16 x0 mI mL = some r) : tm_T Γ 1 0 0 16 [some (.int x0)] [] (sh0 ++ ex) mI mL rr := by
  have Ro := G.ro
  unfold f_La_isDigit_b16 at hf
  refine tm_w C tfo_La to_La_isDigit 0 rfl rfl rfl trivial ?_
  refine tm_wk (lv' := [some (.int x0)]) ⟨Or.inr rfl, trivial⟩ ?_
  exact j_La_isDigit_b17 C G hf
set_option maxRecDepth 100000 in
set_option maxHeartbeats 4000000 in
theorem j_La_isDigit_b0 {Γ : tm_G} {ex : List tm_Sh} {av : List Value} {X0 : tm_X} {r : Int32 × tm_I × tm_L} (C : tm_C Γ ty_La_isDigit.1.cls ty_La_isDigit.2.1 ty_La_isDigit.2.2.1) (G : tm_Γ ty_La_isDigit 0 0 0 0 av X0 (tm_is (some (.int r.1)) (sh0 ++ ex, r.2.1, r.2.2, rr)) Γ) {x0 : Int32} {mI : tm_I} {mL : tm_L} (hf : f_La_isDigit_b0 x0 mI mL = some r) : tm_T Γ 1 0 0 0 [some (.int x0)] [] (sh0 ++ ex) mI mL rr := by
  have Ro := G.ro
  unfold f_La_isDigit_b0 at hf
  refine tm_w C tfo_La to_La_isDigit 1 rfl rfl rfl trivial ?_
  refine tm_b C to_La_isDigit rfl rfl (fun h => ?_) (fun h => ?_)
  · have hf := (if_pos h).symm.trans hf
    refine tm_wk (lv' := [some (.int x0)]) ⟨Or.inr rfl, trivial⟩ ?_
    exact j_La_isDigit_b16 C G hf
  · have hf := (if_neg h).symm.trans hf
    refine tm_w C tfo_La to_La_isDigit 1 rfl rfl rfl trivial ?_
    refine tm_b C to_La_isDigit rfl rfl (fun h => ?_) (fun h => ?_)
    · have hf := (if_pos h).symm.trans hf
      refine tm_wk (lv' := [some (.int x0)]) ⟨Or.inr rfl, trivial⟩ ?_
      exact j_La_isDigit_b16 C G hf
    · have hf := (if_neg h).symm.trans hf
      refine tm_w C tfo_La to_La_isDigit 1 rfl rfl rfl trivial ?_
      refine tm_wk (lv' := [some (.int x0)]) ⟨Or.inr rfl, trivial⟩ ?_
      exact j_La_isDigit_b17 C G hf
set_option maxRecDepth 100000 in
theorem ct_La_isDigit {ex : List tm_Sh} {p0 : Int32} {mI : tm_I} {mL : tm_L} {r : Int32 × tm_I × tm_L} (hf : f_La_isDigit p0 mI mL = some r) : tm_M ty_La_isDigit 0 0 0 0 [.int p0] (sh0 ++ ex, mI, mL, rr) (tm_is (some (.int r.1)) (sh0 ++ ex, r.2.1, r.2.2, rr)) := by
  refine tm_body (by decide) (Nat.le_of_ble_eq_true rfl) fun Γ C G => ?_
  exact j_La_isDigit_b0 C G hf
/-! La_tenTo -/
def f_La_tenTo_b26 (x0 : Int32) (x1 : Int32) (x2 : Int32) (mI : tm_I) (mL : tm_L) : Option (Int32 × tm_I × tm_L) := some (x1, mI, mL)
def f_La_tenTo_l4 : Nat → Int32 → Int32 → Int32 → tm_I → tm_L → Option (Int32 × tm_I × tm_L)
  | 0, _, _, _, _, _ => none
  | n + 1, x0, x1, x2, mI, mL => if x0 ≤ x2 then f_La_tenTo_b26 x0 x1 x2 mI mL else if (9 : Int32) ≤ x2 then f_La_tenTo_b26 x0 x1 x2 mI mL else (f_La_tenTo_l4 n) x0 (x1 * (10 : Int32)) (x2 + (1 : Int32)) mI mL
def f_La_tenTo_b0 (x0 : Int32) (mI : tm_I) (mL : tm_L) : Option (Int32 × tm_I × tm_L) := f_La_tenTo_l4 tm_F x0 (1 : Int32) (0 : Int32) mI mL
abbrev f_La_tenTo (p0 : Int32) (mI : tm_I) (mL : tm_L) : Option (Int32 × tm_I × tm_L) := f_La_tenTo_b0 p0 mI mL
set_option maxRecDepth 100000 in
set_option maxHeartbeats 4000000 in
theorem j_La_tenTo_b26 {Γ : tm_G} {ex : List tm_Sh} {av : List Value} {X0 : tm_X} {r : Int32 × tm_I × tm_L} (C : tm_C Γ ty_La_tenTo.1.cls ty_La_tenTo.2.1 ty_La_tenTo.2.2.1) (G : tm_Γ ty_La_tenTo 0 0 0 0 av X0 (tm_is (some (.int r.1)) (sh0 ++ ex, r.2.1, r.2.2, rr)) Γ) {x0 : Int32} {x1 : Int32} {x2 : Int32} {mI : tm_I} {mL : tm_L} (hf : f_La_tenTo_b26 x0 x1 x2 mI mL = some r) : tm_T Γ 3 0 0 26 [some (.int x0), some (.int x1), some (.int x2)] [] (sh0 ++ ex) mI mL rr := by
  have Ro := G.ro
  unfold f_La_tenTo_b26 at hf
  refine tm_w C tfo_La to_La_tenTo 0 rfl rfl rfl trivial ?_
  cases hf
  exact tm_ei C G to_La_tenTo rfl rfl (Nat.le_refl _) rfl ⟨rfl, rfl⟩
set_option maxRecDepth 100000 in
set_option maxHeartbeats 4000000 in
theorem j_La_tenTo_l4 {Γ : tm_G} {ex : List tm_Sh} {av : List Value} {X0 : tm_X} {r : Int32 × tm_I × tm_L} (C : tm_C Γ ty_La_tenTo.1.cls ty_La_tenTo.2.1 ty_La_tenTo.2.2.1) (G : tm_Γ ty_La_tenTo 0 0 0 0 av X0 (tm_is (some (.int r.1)) (sh0 ++ ex, r.2.1, r.2.2, rr)) Γ) : ∀ (n : Nat) (x0 : Int32) (x1 : Int32) (x2 : Int32) (mI : tm_I) (mL : tm_L), f_La_tenTo_l4 n x0 x1 x2 mI mL = some r → tm_T Γ 3 0 0 4 [some (.int x0), some (.int x1), some (.int x2)] [] (sh0 ++ ex) mI mL rr := by
  have Ro := G.ro
  intro n
  induction n with
  | zero => intro x0 x1 x2 mI mL hf; cases hf
  | succ n ih =>
    intro x0 x1 x2 mI mL hf
    rw [f_La_tenTo_l4] at hf
    refine tm_w C tfo_La to_La_tenTo 1 rfl rfl rfl trivial ?_
    refine tm_b C to_La_tenTo rfl rfl (fun h => ?_) (fun h => ?_)
    · have hf := (if_pos h).symm.trans hf
      refine tm_wk (lv' := [some (.int x0), some (.int x1), some (.int x2)]) ⟨Or.inr rfl, Or.inr rfl, Or.inr rfl, trivial⟩ ?_
      exact j_La_tenTo_b26 C G hf
    · have hf := (if_neg h).symm.trans hf
      refine tm_w C tfo_La to_La_tenTo 1 rfl rfl rfl trivial ?_
      refine tm_b C to_La_tenTo rfl rfl (fun h => ?_) (fun h => ?_)
      · have hf := (if_pos h).symm.trans hf
        refine tm_wk (lv' := [some (.int x0), some (.int x1), some (.int x2)]) ⟨Or.inr rfl, Or.inr rfl, Or.inr rfl, trivial⟩ ?_
        exact j_La_tenTo_b26 C G hf
      · have hf := (if_neg h).symm.trans hf
        refine tm_w C tfo_La to_La_tenTo 5 rfl rfl rfl trivial ?_
        refine tm_wk (lv' := [some (.int x0), some (.int (x1 * (10 : Int32))), some (.int (x2 + (1 : Int32)))]) ⟨Or.inr rfl, Or.inr rfl, Or.inr rfl, trivial⟩ ?_
        exact ih _ _ _ _ _ hf
set_option maxRecDepth 100000 in
set_option maxHeartbeats 4000000 in
theorem j_La_tenTo_b0 {Γ : tm_G} {ex : List tm_Sh} {av : List Value} {X0 : tm_X} {r : Int32 × tm_I × tm_L} (C : tm_C Γ ty_La_tenTo.1.cls ty_La_tenTo.2.1 ty_La_tenTo.2.2.1) (G : tm_Γ ty_La_tenTo 0 0 0 0 av X0 (tm_is (some (.int r.1)) (sh0 ++ ex, r.2.1, r.2.2, rr)) Γ) {x0 : Int32} {mI : tm_I} {mL : tm_L} (hf : f_La_tenTo_b0 x0 mI mL = some r) : tm_T Γ 3 0 0 0 [some (.int x0), none, none] [] (sh0 ++ ex) mI mL rr := by
  have Ro := G.ro
  unfold f_La_tenTo_b0 at hf
  refine tm_w C tfo_La to_La_tenTo 3 rfl rfl rfl trivial ?_
  refine tm_wk (lv' := [some (.int x0), some (.int (1 : Int32)), some (.int (0 : Int32))]) ⟨Or.inr rfl, Or.inr rfl, Or.inr rfl, trivial⟩ ?_
  exact j_La_tenTo_l4 C G _ _ _ _ _ _ hf
set_option maxRecDepth 100000 in
theorem ct_La_tenTo {ex : List tm_Sh} {p0 : Int32} {mI : tm_I} {mL : tm_L} {r : Int32 × tm_I × tm_L} (hf : f_La_tenTo p0 mI mL = some r) : tm_M ty_La_tenTo 0 0 0 0 [.int p0] (sh0 ++ ex, mI, mL, rr) (tm_is (some (.int r.1)) (sh0 ++ ex, r.2.1, r.2.2, rr)) := by
  refine tm_body (by decide) (Nat.le_of_ble_eq_true rfl) fun Γ C G => ?_
  exact j_La_tenTo_b0 C G hf
/-! La_hexValue -/
def f_La_hexValue_b55 (x0 : Int32) (s0 : Int32) (mI : tm_I) (mL : tm_L) : Option (Int32 × tm_I × tm_L) := some (s0, mI, mL)
def f_La_hexValue_b54 (x0 : Int32) (mI : tm_I) (mL : tm_L) : Option (Int32 × tm_I × tm_L) := f_La_hexValue_b55 x0 (-1 : Int32) mI mL
def f_La_hexValue_b32 (x0 : Int32) (mI : tm_I) (mL : tm_L) : Option (Int32 × tm_I × tm_L) := if x0 < (97 : Int32) then f_La_hexValue_b54 x0 mI mL else if (102 : Int32) < x0 then f_La_hexValue_b54 x0 mI mL else f_La_hexValue_b55 x0 ((x0 - (97 : Int32)) + (10 : Int32)) mI mL
def f_La_hexValue_b0 (x0 : Int32) (mI : tm_I) (mL : tm_L) : Option (Int32 × tm_I × tm_L) := (f_La_isDigit x0 mI mL).bind fun v1 => if v1.1 = 0 then if x0 < (65 : Int32) then f_La_hexValue_b32 x0 v1.2.1 v1.2.2 else if (70 : Int32) < x0 then f_La_hexValue_b32 x0 v1.2.1 v1.2.2 else some (((x0 - (65 : Int32)) + (10 : Int32)), v1.2.1, v1.2.2) else some ((x0 - (48 : Int32)), v1.2.1, v1.2.2)
abbrev f_La_hexValue (p0 : Int32) (mI : tm_I) (mL : tm_L) : Option (Int32 × tm_I × tm_L) := f_La_hexValue_b0 p0 mI mL
set_option maxRecDepth 100000 in
set_option maxHeartbeats 4000000 in
theorem j_La_hexValue_b55 {Γ : tm_G} {ex : List tm_Sh} {av : List Value} {X0 : tm_X} {r : Int32 × tm_I × tm_L} (C : tm_C Γ ty_La_hexValue.1.cls ty_La_hexValue.2.1 ty_La_hexValue.2.2.1) (G : tm_Γ ty_La_hexValue 1 20 0 0 av X0 (tm_is (some (.int r.1)) (sh0 ++ ex, r.2.1, r.2.2, rr)) Γ) {x0 : Int32} {s0 : Int32} {mI : tm_I} {mL : tm_L} (hf : f_La_hexValue_b55 x0 s0 mI mL = some r) : tm_T Γ 1 0 0 55 [some (.int x0)] [.int s0] (sh0 ++ ex) mI mL rr := by
  have Ro := G.ro
  unfold f_La_hexValue_b55 at hf
  cases hf
  exact tm_ei C G to_La_hexValue rfl rfl (Nat.le_refl _) rfl ⟨rfl, rfl⟩
set_option maxRecDepth 100000 in
set_option maxHeartbeats 4000000 in
theorem j_La_hexValue_b54 {Γ : tm_G} {ex : List tm_Sh} {av : List Value} {X0 : tm_X} {r : Int32 × tm_I × tm_L} (C : tm_C Γ ty_La_hexValue.1.cls ty_La_hexValue.2.1 ty_La_hexValue.2.2.1) (G : tm_Γ ty_La_hexValue 1 20 0 0 av X0 (tm_is (some (.int r.1)) (sh0 ++ ex, r.2.1, r.2.2, rr)) Γ) {x0 : Int32} {mI : tm_I} {mL : tm_L} (hf : f_La_hexValue_b54 x0 mI mL = some r) : tm_T Γ 1 0 0 54 [some (.int x0)] [] (sh0 ++ ex) mI mL rr := by
  have Ro := G.ro
  unfold f_La_hexValue_b54 at hf
  refine tm_w C tfo_La to_La_hexValue 0 rfl rfl rfl trivial ?_
  refine tm_wk (lv' := [some (.int x0)]) ⟨Or.inr rfl, trivial⟩ ?_
  exact j_La_hexValue_b55 C G hf
set_option maxRecDepth 100000 in
set_option maxHeartbeats 4000000 in
theorem j_La_hexValue_b32 {Γ : tm_G} {ex : List tm_Sh} {av : List Value} {X0 : tm_X} {r : Int32 × tm_I × tm_L} (C : tm_C Γ ty_La_hexValue.1.cls ty_La_hexValue.2.1 ty_La_hexValue.2.2.1) (G : tm_Γ ty_La_hexValue 1 20 0 0 av X0 (tm_is (some (.int r.1)) (sh0 ++ ex, r.2.1, r.2.2, rr)) Γ) {x0 : Int32} {mI : tm_I} {mL : tm_L} (hf : f_La_hexValue_b32 x0 mI mL = some r) : tm_T Γ 1 0 0 32 [some (.int x0)] [] (sh0 ++ ex) mI mL rr := by
  have Ro := G.ro
  unfold f_La_hexValue_b32 at hf
  refine tm_w C tfo_La to_La_hexValue 1 rfl rfl rfl trivial ?_
  refine tm_b C to_La_hexValue rfl rfl (fun h => ?_) (fun h => ?_)
  · have hf := (if_pos h).symm.trans hf
    refine tm_wk (lv' := [some (.int x0)]) ⟨Or.inr rfl, trivial⟩ ?_
    exact j_La_hexValue_b54 C G hf
  · have hf := (if_neg h).symm.trans hf
    refine tm_w C tfo_La to_La_hexValue 1 rfl rfl rfl trivial ?_
    refine tm_b C to_La_hexValue rfl rfl (fun h => ?_) (fun h => ?_)
    · have hf := (if_pos h).symm.trans hf
      refine tm_wk (lv' := [some (.int x0)]) ⟨Or.inr rfl, trivial⟩ ?_
      exact j_La_hexValue_b54 C G hf
    · have hf := (if_neg h).symm.trans hf
      refine tm_w C tfo_La to_La_hexValue 5 rfl rfl rfl trivial ?_
      refine tm_wk (lv' := [some (.int x0)]) ⟨Or.inr rfl, trivial⟩ ?_
      exact j_La_hexValue_b55 C G hf
set_option maxRecDepth 100000 in
set_option maxHeartbeats 4000000 in
theorem j_La_hexValue_b0 {Γ : tm_G} {ex : List tm_Sh} {av : List Value} {X0 : tm_X} {r : Int32 × tm_I × tm_L} (C : tm_C Γ ty_La_hexValue.1.cls ty_La_hexValue.2.1 ty_La_hexValue.2.2.1) (G : tm_Γ ty_La_hexValue 1 20 0 0 av X0 (tm_is (some (.int r.1)) (sh0 ++ ex, r.2.1, r.2.2, rr)) Γ) {x0 : Int32} {mI : tm_I} {mL : tm_L} (hf : f_La_hexValue_b0 x0 mI mL = some r) : tm_T Γ 1 0 0 0 [some (.int x0)] [] (sh0 ++ ex) mI mL rr := by
  have Ro := G.ro
  unfold f_La_hexValue_b0 at hf
  refine tm_w C tfo_La to_La_hexValue 0 rfl rfl rfl trivial ?_
  obtain ⟨v1, hv1, hf⟩ := Option.bind_eq_some_iff.mp hf
  refine tm_cS C Ro to_La_hexValue tl_La_244 rfl (ct_La_isDigit hv1) rfl rfl rfl rfl rfl (Nat.le_refl _) (Nat.le_refl _) ?_
  refine tm_b C to_La_hexValue rfl rfl (fun h => ?_) (fun h => ?_)
  · have hf := (if_pos h).symm.trans hf
    refine tm_w C tfo_La to_La_hexValue 1 rfl rfl rfl trivial ?_
    refine tm_b C to_La_hexValue rfl rfl (fun h => ?_) (fun h => ?_)
    · have hf := (if_pos h).symm.trans hf
      refine tm_wk (lv' := [some (.int x0)]) ⟨Or.inr rfl, trivial⟩ ?_
      exact j_La_hexValue_b32 C G hf
    · have hf := (if_neg h).symm.trans hf
      refine tm_w C tfo_La to_La_hexValue 1 rfl rfl rfl trivial ?_
      refine tm_b C to_La_hexValue rfl rfl (fun h => ?_) (fun h => ?_)
      · have hf := (if_pos h).symm.trans hf
        refine tm_wk (lv' := [some (.int x0)]) ⟨Or.inr rfl, trivial⟩ ?_
        exact j_La_hexValue_b32 C G hf
      · have hf := (if_neg h).symm.trans hf
        refine tm_w C tfo_La to_La_hexValue 4 rfl rfl rfl trivial ?_
        cases hf
        exact tm_ei C G to_La_hexValue rfl rfl (Nat.le_refl _) rfl ⟨rfl, rfl⟩
  · have hf := (if_neg h).symm.trans hf
    refine tm_w C tfo_La to_La_hexValue 2 rfl rfl rfl trivial ?_
    cases hf
    exact tm_ei C G to_La_hexValue rfl rfl (Nat.le_refl _) rfl ⟨rfl, rfl⟩
set_option maxRecDepth 100000 in
theorem ct_La_hexValue {ex : List tm_Sh} {p0 : Int32} {mI : tm_I} {mL : tm_L} {r : Int32 × tm_I × tm_L} (hf : f_La_hexValue p0 mI mL = some r) : tm_M ty_La_hexValue 1 20 0 0 [.int p0] (sh0 ++ ex, mI, mL, rr) (tm_is (some (.int r.1)) (sh0 ++ ex, r.2.1, r.2.2, rr)) := by
  refine tm_body (by decide) (Nat.le_of_ble_eq_true rfl) fun Γ C G => ?_
  exact j_La_hexValue_b0 C G hf
/-! La_isNear -/
def f_La_isNear_b19 (x0 : Int32) (s0 : Int32) (mI : tm_I) (mL : tm_L) : Option (Int32 × tm_I × tm_L) := if s0 = 0 ∨ s0 = 1 then some (s0, mI, mL) else none
def f_La_isNear_b18 (x0 : Int32) (mI : tm_I) (mL : tm_L) : Option (Int32 × tm_I × tm_L) := f_La_isNear_b19 x0 (0 : Int32) mI mL
def f_La_isNear_b0 (x0 : Int32) (mI : tm_I) (mL : tm_L) : Option (Int32 × tm_I × tm_L) := if x0 < (-4096 : Int32) then f_La_isNear_b18 x0 mI mL else if (4096 : Int32) < x0 then f_La_isNear_b18 x0 mI mL else f_La_isNear_b19 x0 (1 : Int32) mI mL
abbrev f_La_isNear (p0 : Int32) (mI : tm_I) (mL : tm_L) : Option (Int32 × tm_I × tm_L) := f_La_isNear_b0 p0 mI mL
set_option maxRecDepth 100000 in
set_option maxHeartbeats 4000000 in
theorem j_La_isNear_b19 {Γ : tm_G} {ex : List tm_Sh} {av : List Value} {X0 : tm_X} {r : Int32 × tm_I × tm_L} (C : tm_C Γ ty_La_isNear.1.cls ty_La_isNear.2.1 ty_La_isNear.2.2.1) (G : tm_Γ ty_La_isNear 0 0 0 0 av X0 (tm_is (some (.int r.1)) (sh0 ++ ex, r.2.1, r.2.2, rr)) Γ) {x0 : Int32} {s0 : Int32} {mI : tm_I} {mL : tm_L} (hf : f_La_isNear_b19 x0 s0 mI mL = some r) : tm_T Γ 1 0 0 19 [some (.int x0)] [.int s0] (sh0 ++ ex) mI mL rr := by
  have Ro := G.ro
  unfold f_La_isNear_b19 at hf
  obtain ⟨c1, hf⟩ := tm_iteN hf
  cases hf
  exact tm_ei C G to_La_isNear rfl rfl (Nat.le_refl _) (tm_nz c1) ⟨rfl, rfl⟩
set_option maxRecDepth 100000 in
set_option maxHeartbeats 4000000 in
theorem j_La_isNear_b18 {Γ : tm_G} {ex : List tm_Sh} {av : List Value} {X0 : tm_X} {r : Int32 × tm_I × tm_L} (C : tm_C Γ ty_La_isNear.1.cls ty_La_isNear.2.1 ty_La_isNear.2.2.1) (G : tm_Γ ty_La_isNear 0 0 0 0 av X0 (tm_is (some (.int r.1)) (sh0 ++ ex, r.2.1, r.2.2, rr)) Γ) {x0 : Int32} {mI : tm_I} {mL : tm_L} (hf : f_La_isNear_b18 x0 mI mL = some r) : tm_T Γ 1 0 0 18 [some (.int x0)] [] (sh0 ++ ex) mI mL rr := by
  have Ro := G.ro
  unfold f_La_isNear_b18 at hf
  refine tm_w C tfo_La to_La_isNear 0 rfl rfl rfl trivial ?_
  refine tm_wk (lv' := [some (.int x0)]) ⟨Or.inr rfl, trivial⟩ ?_
  exact j_La_isNear_b19 C G hf
set_option maxRecDepth 100000 in
set_option maxHeartbeats 4000000 in
theorem j_La_isNear_b0 {Γ : tm_G} {ex : List tm_Sh} {av : List Value} {X0 : tm_X} {r : Int32 × tm_I × tm_L} (C : tm_C Γ ty_La_isNear.1.cls ty_La_isNear.2.1 ty_La_isNear.2.2.1) (G : tm_Γ ty_La_isNear 0 0 0 0 av X0 (tm_is (some (.int r.1)) (sh0 ++ ex, r.2.1, r.2.2, rr)) Γ) {x0 : Int32} {mI : tm_I} {mL : tm_L} (hf : f_La_isNear_b0 x0 mI mL = some r) : tm_T Γ 1 0 0 0 [some (.int x0)] [] (sh0 ++ ex) mI mL rr := by
  have Ro := G.ro
  unfold f_La_isNear_b0 at hf
  refine tm_w C tfo_La to_La_isNear 1 rfl rfl rfl trivial ?_
  refine tm_b C to_La_isNear rfl rfl (fun h => ?_) (fun h => ?_)
  · have hf := (if_pos h).symm.trans hf
    refine tm_wk (lv' := [some (.int x0)]) ⟨Or.inr rfl, trivial⟩ ?_
    exact j_La_isNear_b18 C G hf
  · have hf := (if_neg h).symm.trans hf
    refine tm_w C tfo_La to_La_isNear 1 rfl rfl rfl trivial ?_
    refine tm_b C to_La_isNear rfl rfl (fun h => ?_) (fun h => ?_)
    · have hf := (if_pos h).symm.trans hf
      refine tm_wk (lv' := [some (.int x0)]) ⟨Or.inr rfl, trivial⟩ ?_
      exact j_La_isNear_b18 C G hf
    · have hf := (if_neg h).symm.trans hf
      refine tm_w C tfo_La to_La_isNear 1 rfl rfl rfl trivial ?_
      refine tm_wk (lv' := [some (.int x0)]) ⟨Or.inr rfl, trivial⟩ ?_
      exact j_La_isNear_b19 C G hf
set_option maxRecDepth 100000 in
theorem ct_La_isNear {ex : List tm_Sh} {p0 : Int32} {mI : tm_I} {mL : tm_L} {r : Int32 × tm_I × tm_L} (hf : f_La_isNear p0 mI mL = some r) : tm_M ty_La_isNear 0 0 0 0 [.int p0] (sh0 ++ ex, mI, mL, rr) (tm_is (some (.int r.1)) (sh0 ++ ex, r.2.1, r.2.2, rr)) := by
  refine tm_body (by decide) (Nat.le_of_ble_eq_true rfl) fun Γ C G => ?_
  exact j_La_isNear_b0 C G hf
/-! Fo_get -/
def f_Fo_get_b23 (o : Nat) (x1 : Int32) (s0 : Int32) (mI : tm_I) (mL : tm_L) : Option (Int32 × tm_I × tm_L) := some (s0, mI, mL)
def f_Fo_get_b22 (o : Nat) (x1 : Int32) (mI : tm_I) (mL : tm_L) : Option (Int32 × tm_I × tm_L) := f_Fo_get_b23 o x1 (0 : Int32) mI mL
def f_Fo_get_b0 (o : Nat) (x1 : Int32) (mI : tm_I) (mL : tm_L) : Option (Int32 × tm_I × tm_L) := if x1 < 0 then f_Fo_get_b22 o x1 mI mL else if (Int32.ofNat (tm_len (rr o 0))) ≤ x1 then f_Fo_get_b22 o x1 mI mL else if ¬ (x1 < 0 ∨ (tm_len (rr o 0)) ≤ Int32.toNatClampNeg x1) then f_Fo_get_b23 o x1 (mI (rr o 0) (Int32.toNatClampNeg x1)) mI mL else none
abbrev f_Fo_get (o : Nat) (p0 : Int32) (mI : tm_I) (mL : tm_L) : Option (Int32 × tm_I × tm_L) := f_Fo_get_b0 o p0 mI mL
set_option maxRecDepth 100000 in
set_option maxHeartbeats 4000000 in
theorem j_Fo_get_b23 {Γ : tm_G} {ex : List tm_Sh} {av : List Value} {X0 : tm_X} {o : Nat} (ho : isFo o) {r : Int32 × tm_I × tm_L} (C : tm_C Γ ty_Fo_get.1.cls ty_Fo_get.2.1 ty_Fo_get.2.2.1) (G : tm_Γ ty_Fo_get 0 0 0 0 av X0 (tm_is (some (.int r.1)) (sh0 ++ ex, r.2.1, r.2.2, rr)) Γ) {x1 : Int32} {s0 : Int32} {mI : tm_I} {mL : tm_L} (hf : f_Fo_get_b23 o x1 s0 mI mL = some r) : tm_T Γ 2 0 0 23 [some (.ref o), some (.int x1)] [.int s0] (sh0 ++ ex) mI mL rr := by
  have Ro := G.ro
  unfold f_Fo_get_b23 at hf
  rcases ho with rfl | rfl | rfl | rfl
  · cases hf
    exact tm_ei C G to_Fo_get rfl rfl (Nat.le_refl _) rfl ⟨rfl, rfl⟩
  · cases hf
    exact tm_ei C G to_Fo_get rfl rfl (Nat.le_refl _) rfl ⟨rfl, rfl⟩
  · cases hf
    exact tm_ei C G to_Fo_get rfl rfl (Nat.le_refl _) rfl ⟨rfl, rfl⟩
  · cases hf
    exact tm_ei C G to_Fo_get rfl rfl (Nat.le_refl _) rfl ⟨rfl, rfl⟩
set_option maxRecDepth 100000 in
set_option maxHeartbeats 4000000 in
theorem j_Fo_get_b22 {Γ : tm_G} {ex : List tm_Sh} {av : List Value} {X0 : tm_X} {o : Nat} (ho : isFo o) {r : Int32 × tm_I × tm_L} (C : tm_C Γ ty_Fo_get.1.cls ty_Fo_get.2.1 ty_Fo_get.2.2.1) (G : tm_Γ ty_Fo_get 0 0 0 0 av X0 (tm_is (some (.int r.1)) (sh0 ++ ex, r.2.1, r.2.2, rr)) Γ) {x1 : Int32} {mI : tm_I} {mL : tm_L} (hf : f_Fo_get_b22 o x1 mI mL = some r) : tm_T Γ 2 0 0 22 [some (.ref o), some (.int x1)] [] (sh0 ++ ex) mI mL rr := by
  have Ro := G.ro
  unfold f_Fo_get_b22 at hf
  rcases ho with rfl | rfl | rfl | rfl
  · refine tm_w C tfo_Fo to_Fo_get 0 rfl rfl rfl trivial ?_
    refine tm_wk (lv' := [some (.ref 17), some (.int x1)]) ⟨Or.inr rfl, Or.inr rfl, trivial⟩ ?_
    exact j_Fo_get_b23 isFo_17 C G hf
  · refine tm_w C tfo_Fo to_Fo_get 0 rfl rfl rfl trivial ?_
    refine tm_wk (lv' := [some (.ref 30), some (.int x1)]) ⟨Or.inr rfl, Or.inr rfl, trivial⟩ ?_
    exact j_Fo_get_b23 isFo_30 C G hf
  · refine tm_w C tfo_Fo to_Fo_get 0 rfl rfl rfl trivial ?_
    refine tm_wk (lv' := [some (.ref 32), some (.int x1)]) ⟨Or.inr rfl, Or.inr rfl, trivial⟩ ?_
    exact j_Fo_get_b23 isFo_32 C G hf
  · refine tm_w C tfo_Fo to_Fo_get 0 rfl rfl rfl trivial ?_
    refine tm_wk (lv' := [some (.ref 34), some (.int x1)]) ⟨Or.inr rfl, Or.inr rfl, trivial⟩ ?_
    exact j_Fo_get_b23 isFo_34 C G hf
set_option maxRecDepth 100000 in
set_option maxHeartbeats 4000000 in
theorem j_Fo_get_b0 {Γ : tm_G} {ex : List tm_Sh} {av : List Value} {X0 : tm_X} {o : Nat} (ho : isFo o) {r : Int32 × tm_I × tm_L} (C : tm_C Γ ty_Fo_get.1.cls ty_Fo_get.2.1 ty_Fo_get.2.2.1) (G : tm_Γ ty_Fo_get 0 0 0 0 av X0 (tm_is (some (.int r.1)) (sh0 ++ ex, r.2.1, r.2.2, rr)) Γ) {x1 : Int32} {mI : tm_I} {mL : tm_L} (hf : f_Fo_get_b0 o x1 mI mL = some r) : tm_T Γ 2 0 0 0 [some (.ref o), some (.int x1)] [] (sh0 ++ ex) mI mL rr := by
  have Ro := G.ro
  unfold f_Fo_get_b0 at hf
  rcases ho with rfl | rfl | rfl | rfl
  · refine tm_w C tfo_Fo to_Fo_get 0 rfl rfl rfl trivial ?_
    refine tm_b C to_Fo_get rfl rfl (fun h => ?_) (fun h => ?_)
    · have hf := (if_pos h).symm.trans hf
      refine tm_wk (lv' := [some (.ref 17), some (.int x1)]) ⟨Or.inr rfl, Or.inr rfl, trivial⟩ ?_
      exact j_Fo_get_b22 isFo_17 C G hf
    · have hf := (if_neg h).symm.trans hf
      refine tm_w C tfo_Fo to_Fo_get 3 rfl rfl rfl ⟨rfl, trivial⟩ ?_
      refine tm_b C to_Fo_get rfl rfl (fun h => ?_) (fun h => ?_)
      · have hf := (if_pos h).symm.trans hf
        refine tm_wk (lv' := [some (.ref 17), some (.int x1)]) ⟨Or.inr rfl, Or.inr rfl, trivial⟩ ?_
        exact j_Fo_get_b22 isFo_17 C G hf
      · have hf := (if_neg h).symm.trans hf
        obtain ⟨c1, hf⟩ := tm_iteN hf
        refine tm_w C tfo_Fo to_Fo_get 4 rfl rfl rfl ⟨rfl, ⟨_, rfl, c1⟩, trivial⟩ ?_
        refine tm_wk (lv' := [some (.ref 17), some (.int x1)]) ⟨Or.inr rfl, Or.inr rfl, trivial⟩ ?_
        exact j_Fo_get_b23 isFo_17 C G hf
  · refine tm_w C tfo_Fo to_Fo_get 0 rfl rfl rfl trivial ?_
    refine tm_b C to_Fo_get rfl rfl (fun h => ?_) (fun h => ?_)
    · have hf := (if_pos h).symm.trans hf
      refine tm_wk (lv' := [some (.ref 30), some (.int x1)]) ⟨Or.inr rfl, Or.inr rfl, trivial⟩ ?_
      exact j_Fo_get_b22 isFo_30 C G hf
    · have hf := (if_neg h).symm.trans hf
      refine tm_w C tfo_Fo to_Fo_get 3 rfl rfl rfl ⟨rfl, trivial⟩ ?_
      refine tm_b C to_Fo_get rfl rfl (fun h => ?_) (fun h => ?_)
      · have hf := (if_pos h).symm.trans hf
        refine tm_wk (lv' := [some (.ref 30), some (.int x1)]) ⟨Or.inr rfl, Or.inr rfl, trivial⟩ ?_
        exact j_Fo_get_b22 isFo_30 C G hf
      · have hf := (if_neg h).symm.trans hf
        obtain ⟨c1, hf⟩ := tm_iteN hf
        refine tm_w C tfo_Fo to_Fo_get 4 rfl rfl rfl ⟨rfl, ⟨_, rfl, c1⟩, trivial⟩ ?_
        refine tm_wk (lv' := [some (.ref 30), some (.int x1)]) ⟨Or.inr rfl, Or.inr rfl, trivial⟩ ?_
        exact j_Fo_get_b23 isFo_30 C G hf
  · refine tm_w C tfo_Fo to_Fo_get 0 rfl rfl rfl trivial ?_
    refine tm_b C to_Fo_get rfl rfl (fun h => ?_) (fun h => ?_)
    · have hf := (if_pos h).symm.trans hf
      refine tm_wk (lv' := [some (.ref 32), some (.int x1)]) ⟨Or.inr rfl, Or.inr rfl, trivial⟩ ?_
      exact j_Fo_get_b22 isFo_32 C G hf
    · have hf := (if_neg h).symm.trans hf
      refine tm_w C tfo_Fo to_Fo_get 3 rfl rfl rfl ⟨rfl, trivial⟩ ?_
      refine tm_b C to_Fo_get rfl rfl (fun h => ?_) (fun h => ?_)
      · have hf := (if_pos h).symm.trans hf
        refine tm_wk (lv' := [some (.ref 32), some (.int x1)]) ⟨Or.inr rfl, Or.inr rfl, trivial⟩ ?_
        exact j_Fo_get_b22 isFo_32 C G hf
      · have hf := (if_neg h).symm.trans hf
        obtain ⟨c1, hf⟩ := tm_iteN hf
        refine tm_w C tfo_Fo to_Fo_get 4 rfl rfl rfl ⟨rfl, ⟨_, rfl, c1⟩, trivial⟩ ?_
        refine tm_wk (lv' := [some (.ref 32), some (.int x1)]) ⟨Or.inr rfl, Or.inr rfl, trivial⟩ ?_
        exact j_Fo_get_b23 isFo_32 C G hf
  · refine tm_w C tfo_Fo to_Fo_get 0 rfl rfl rfl trivial ?_
    refine tm_b C to_Fo_get rfl rfl (fun h => ?_) (fun h => ?_)
    · have hf := (if_pos h).symm.trans hf
      refine tm_wk (lv' := [some (.ref 34), some (.int x1)]) ⟨Or.inr rfl, Or.inr rfl, trivial⟩ ?_
      exact j_Fo_get_b22 isFo_34 C G hf
    · have hf := (if_neg h).symm.trans hf
      refine tm_w C tfo_Fo to_Fo_get 3 rfl rfl rfl ⟨rfl, trivial⟩ ?_
      refine tm_b C to_Fo_get rfl rfl (fun h => ?_) (fun h => ?_)
      · have hf := (if_pos h).symm.trans hf
        refine tm_wk (lv' := [some (.ref 34), some (.int x1)]) ⟨Or.inr rfl, Or.inr rfl, trivial⟩ ?_
        exact j_Fo_get_b22 isFo_34 C G hf
      · have hf := (if_neg h).symm.trans hf
        obtain ⟨c1, hf⟩ := tm_iteN hf
        refine tm_w C tfo_Fo to_Fo_get 4 rfl rfl rfl ⟨rfl, ⟨_, rfl, c1⟩, trivial⟩ ?_
        refine tm_wk (lv' := [some (.ref 34), some (.int x1)]) ⟨Or.inr rfl, Or.inr rfl, trivial⟩ ?_
        exact j_Fo_get_b23 isFo_34 C G hf
set_option maxRecDepth 100000 in
theorem ct_Fo_get {ex : List tm_Sh} {o : Nat} (ho : isFo o) {p0 : Int32} {mI : tm_I} {mL : tm_L} {r : Int32 × tm_I × tm_L} (hf : f_Fo_get o p0 mI mL = some r) : tm_M ty_Fo_get 0 0 0 0 [.ref o, .int p0] (sh0 ++ ex, mI, mL, rr) (tm_is (some (.int r.1)) (sh0 ++ ex, r.2.1, r.2.2, rr)) := by
  refine tm_body (by decide) (Nat.le_of_ble_eq_true rfl) fun Γ C G => ?_
  exact j_Fo_get_b0 ho C G hf
/-! Fo_set -/
def f_Fo_set_b20 (o : Nat) (x1 : Int32) (x2 : Int32) (mI : tm_I) (mL : tm_L) : Option (Int32 × tm_I × tm_L) := some (0, mI, mL)
def f_Fo_set_b0 (o : Nat) (x1 : Int32) (x2 : Int32) (mI : tm_I) (mL : tm_L) : Option (Int32 × tm_I × tm_L) := if x1 < 0 then f_Fo_set_b20 o x1 x2 mI mL else if (Int32.ofNat (tm_len (rr o 0))) ≤ x1 then f_Fo_set_b20 o x1 x2 mI mL else if ¬ (x1 < 0 ∨ (tm_len (rr o 0)) ≤ Int32.toNatClampNeg x1) then f_Fo_set_b20 o x1 x2 (tm_up mI (rr o 0) (Int32.toNatClampNeg x1) x2) mL else none
abbrev f_Fo_set (o : Nat) (p0 : Int32) (p1 : Int32) (mI : tm_I) (mL : tm_L) : Option (Int32 × tm_I × tm_L) := f_Fo_set_b0 o p0 p1 mI mL
set_option maxRecDepth 100000 in
set_option maxHeartbeats 4000000 in
theorem j_Fo_set_b20 {Γ : tm_G} {ex : List tm_Sh} {av : List Value} {X0 : tm_X} {o : Nat} (ho : isFo o) {r : Int32 × tm_I × tm_L} (C : tm_C Γ ty_Fo_set.1.cls ty_Fo_set.2.1 ty_Fo_set.2.2.1) (G : tm_Γ ty_Fo_set 0 0 0 0 av X0 (tm_is none (sh0 ++ ex, r.2.1, r.2.2, rr)) Γ) {x1 : Int32} {x2 : Int32} {mI : tm_I} {mL : tm_L} (hf : f_Fo_set_b20 o x1 x2 mI mL = some r) : tm_T Γ 3 0 0 20 [some (.ref o), some (.int x1), some (.int x2)] [] (sh0 ++ ex) mI mL rr := by
  have Ro := G.ro
  unfold f_Fo_set_b20 at hf
  rcases ho with rfl | rfl | rfl | rfl
  · cases hf
    exact tm_ev C G to_Fo_set rfl rfl (Nat.le_refl _) ⟨rfl, rfl⟩
  · cases hf
    exact tm_ev C G to_Fo_set rfl rfl (Nat.le_refl _) ⟨rfl, rfl⟩
  · cases hf
    exact tm_ev C G to_Fo_set rfl rfl (Nat.le_refl _) ⟨rfl, rfl⟩
  · cases hf
    exact tm_ev C G to_Fo_set rfl rfl (Nat.le_refl _) ⟨rfl, rfl⟩
set_option maxRecDepth 100000 in
set_option maxHeartbeats 4000000 in
theorem j_Fo_set_b0 {Γ : tm_G} {ex : List tm_Sh} {av : List Value} {X0 : tm_X} {o : Nat} (ho : isFo o) {r : Int32 × tm_I × tm_L} (C : tm_C Γ ty_Fo_set.1.cls ty_Fo_set.2.1 ty_Fo_set.2.2.1) (G : tm_Γ ty_Fo_set 0 0 0 0 av X0 (tm_is none (sh0 ++ ex, r.2.1, r.2.2, rr)) Γ) {x1 : Int32} {x2 : Int32} {mI : tm_I} {mL : tm_L} (hf : f_Fo_set_b0 o x1 x2 mI mL = some r) : tm_T Γ 3 0 0 0 [some (.ref o), some (.int x1), some (.int x2)] [] (sh0 ++ ex) mI mL rr := by
  have Ro := G.ro
  unfold f_Fo_set_b0 at hf
  rcases ho with rfl | rfl | rfl | rfl
  · refine tm_w C tfo_Fo to_Fo_set 0 rfl rfl rfl trivial ?_
    refine tm_b C to_Fo_set rfl rfl (fun h => ?_) (fun h => ?_)
    · have hf := (if_pos h).symm.trans hf
      refine tm_wk (lv' := [some (.ref 17), some (.int x1), some (.int x2)]) ⟨Or.inr rfl, Or.inr rfl, Or.inr rfl, trivial⟩ ?_
      exact j_Fo_set_b20 isFo_17 C G hf
    · have hf := (if_neg h).symm.trans hf
      refine tm_w C tfo_Fo to_Fo_set 3 rfl rfl rfl ⟨rfl, trivial⟩ ?_
      refine tm_b C to_Fo_set rfl rfl (fun h => ?_) (fun h => ?_)
      · have hf := (if_pos h).symm.trans hf
        refine tm_wk (lv' := [some (.ref 17), some (.int x1), some (.int x2)]) ⟨Or.inr rfl, Or.inr rfl, Or.inr rfl, trivial⟩ ?_
        exact j_Fo_set_b20 isFo_17 C G hf
      · have hf := (if_neg h).symm.trans hf
        obtain ⟨c1, hf⟩ := tm_iteN hf
        refine tm_w C tfo_Fo to_Fo_set 4 rfl rfl rfl ⟨rfl, ⟨_, rfl, c1⟩, trivial⟩ ?_
        refine tm_wk (lv' := [some (.ref 17), some (.int x1), some (.int x2)]) ⟨Or.inr rfl, Or.inr rfl, Or.inr rfl, trivial⟩ ?_
        exact j_Fo_set_b20 isFo_17 C G hf
  · refine tm_w C tfo_Fo to_Fo_set 0 rfl rfl rfl trivial ?_
    refine tm_b C to_Fo_set rfl rfl (fun h => ?_) (fun h => ?_)
    · have hf := (if_pos h).symm.trans hf
      refine tm_wk (lv' := [some (.ref 30), some (.int x1), some (.int x2)]) ⟨Or.inr rfl, Or.inr rfl, Or.inr rfl, trivial⟩ ?_
      exact j_Fo_set_b20 isFo_30 C G hf
    · have hf := (if_neg h).symm.trans hf
      refine tm_w C tfo_Fo to_Fo_set 3 rfl rfl rfl ⟨rfl, trivial⟩ ?_
      refine tm_b C to_Fo_set rfl rfl (fun h => ?_) (fun h => ?_)
      · have hf := (if_pos h).symm.trans hf
        refine tm_wk (lv' := [some (.ref 30), some (.int x1), some (.int x2)]) ⟨Or.inr rfl, Or.inr rfl, Or.inr rfl, trivial⟩ ?_
        exact j_Fo_set_b20 isFo_30 C G hf
      · have hf := (if_neg h).symm.trans hf
        obtain ⟨c1, hf⟩ := tm_iteN hf
        refine tm_w C tfo_Fo to_Fo_set 4 rfl rfl rfl ⟨rfl, ⟨_, rfl, c1⟩, trivial⟩ ?_
        refine tm_wk (lv' := [some (.ref 30), some (.int x1), some (.int x2)]) ⟨Or.inr rfl, Or.inr rfl, Or.inr rfl, trivial⟩ ?_
        exact j_Fo_set_b20 isFo_30 C G hf
  · refine tm_w C tfo_Fo to_Fo_set 0 rfl rfl rfl trivial ?_
    refine tm_b C to_Fo_set rfl rfl (fun h => ?_) (fun h => ?_)
    · have hf := (if_pos h).symm.trans hf
      refine tm_wk (lv' := [some (.ref 32), some (.int x1), some (.int x2)]) ⟨Or.inr rfl, Or.inr rfl, Or.inr rfl, trivial⟩ ?_
      exact j_Fo_set_b20 isFo_32 C G hf
    · have hf := (if_neg h).symm.trans hf
      refine tm_w C tfo_Fo to_Fo_set 3 rfl rfl rfl ⟨rfl, trivial⟩ ?_
      refine tm_b C to_Fo_set rfl rfl (fun h => ?_) (fun h => ?_)
      · have hf := (if_pos h).symm.trans hf
        refine tm_wk (lv' := [some (.ref 32), some (.int x1), some (.int x2)]) ⟨Or.inr rfl, Or.inr rfl, Or.inr rfl, trivial⟩ ?_
        exact j_Fo_set_b20 isFo_32 C G hf
      · have hf := (if_neg h).symm.trans hf
        obtain ⟨c1, hf⟩ := tm_iteN hf
        refine tm_w C tfo_Fo to_Fo_set 4 rfl rfl rfl ⟨rfl, ⟨_, rfl, c1⟩, trivial⟩ ?_
        refine tm_wk (lv' := [some (.ref 32), some (.int x1), some (.int x2)]) ⟨Or.inr rfl, Or.inr rfl, Or.inr rfl, trivial⟩ ?_
        exact j_Fo_set_b20 isFo_32 C G hf
  · refine tm_w C tfo_Fo to_Fo_set 0 rfl rfl rfl trivial ?_
    refine tm_b C to_Fo_set rfl rfl (fun h => ?_) (fun h => ?_)
    · have hf := (if_pos h).symm.trans hf
      refine tm_wk (lv' := [some (.ref 34), some (.int x1), some (.int x2)]) ⟨Or.inr rfl, Or.inr rfl, Or.inr rfl, trivial⟩ ?_
      exact j_Fo_set_b20 isFo_34 C G hf
    · have hf := (if_neg h).symm.trans hf
      refine tm_w C tfo_Fo to_Fo_set 3 rfl rfl rfl ⟨rfl, trivial⟩ ?_
      refine tm_b C to_Fo_set rfl rfl (fun h => ?_) (fun h => ?_)
      · have hf := (if_pos h).symm.trans hf
        refine tm_wk (lv' := [some (.ref 34), some (.int x1), some (.int x2)]) ⟨Or.inr rfl, Or.inr rfl, Or.inr rfl, trivial⟩ ?_
        exact j_Fo_set_b20 isFo_34 C G hf
      · have hf := (if_neg h).symm.trans hf
        obtain ⟨c1, hf⟩ := tm_iteN hf
        refine tm_w C tfo_Fo to_Fo_set 4 rfl rfl rfl ⟨rfl, ⟨_, rfl, c1⟩, trivial⟩ ?_
        refine tm_wk (lv' := [some (.ref 34), some (.int x1), some (.int x2)]) ⟨Or.inr rfl, Or.inr rfl, Or.inr rfl, trivial⟩ ?_
        exact j_Fo_set_b20 isFo_34 C G hf
set_option maxRecDepth 100000 in
theorem ct_Fo_set {ex : List tm_Sh} {o : Nat} (ho : isFo o) {p0 : Int32} {p1 : Int32} {mI : tm_I} {mL : tm_L} {r : Int32 × tm_I × tm_L} (hf : f_Fo_set o p0 p1 mI mL = some r) : tm_M ty_Fo_set 0 0 0 0 [.ref o, .int p0, .int p1] (sh0 ++ ex, mI, mL, rr) (tm_is none (sh0 ++ ex, r.2.1, r.2.2, rr)) := by
  refine tm_body (by decide) (Nat.le_of_ble_eq_true rfl) fun Γ C G => ?_
  exact j_Fo_set_b0 ho C G hf
/-! Fo_setAll -/
def f_Fo_setAll_b0 (o : Nat) (x1 : Int32) (x2 : Int32) (x3 : Int32) (x4 : Int32) (mI : tm_I) (mL : tm_L) : Option (Int32 × tm_I × tm_L) := (f_Fo_set o (0 : Int32) x1 mI mL).bind fun v1 => (f_Fo_set o (1 : Int32) x2 v1.2.1 v1.2.2).bind fun v2 => (f_Fo_set o (2 : Int32) x3 v2.2.1 v2.2.2).bind fun v3 => (f_Fo_set o (3 : Int32) x4 v3.2.1 v3.2.2).bind fun v4 => some (0, v4.2.1, v4.2.2)
abbrev f_Fo_setAll (o : Nat) (p0 : Int32) (p1 : Int32) (p2 : Int32) (p3 : Int32) (mI : tm_I) (mL : tm_L) : Option (Int32 × tm_I × tm_L) := f_Fo_setAll_b0 o p0 p1 p2 p3 mI mL
set_option maxRecDepth 100000 in
set_option maxHeartbeats 4000000 in
theorem j_Fo_setAll_b0 {Γ : tm_G} {ex : List tm_Sh} {av : List Value} {X0 : tm_X} {o : Nat} (ho : isFo o) {r : Int32 × tm_I × tm_L} (C : tm_C Γ ty_Fo_setAll.1.cls ty_Fo_setAll.2.1 ty_Fo_setAll.2.2.1) (G : tm_Γ ty_Fo_setAll 1 22 0 0 av X0 (tm_is none (sh0 ++ ex, r.2.1, r.2.2, rr)) Γ) {x1 : Int32} {x2 : Int32} {x3 : Int32} {x4 : Int32} {mI : tm_I} {mL : tm_L} (hf : f_Fo_setAll_b0 o x1 x2 x3 x4 mI mL = some r) : tm_T Γ 5 0 0 0 [some (.ref o), some (.int x1), some (.int x2), some (.int x3), some (.int x4)] [] (sh0 ++ ex) mI mL rr := by
  have Ro := G.ro
  unfold f_Fo_setAll_b0 at hf
  rcases ho with rfl | rfl | rfl | rfl
  · refine tm_w C tfo_Fo to_Fo_setAll 2 rfl rfl rfl trivial ?_
    obtain ⟨v1, hv1, hf⟩ := Option.bind_eq_some_iff.mp hf
    refine tm_cV C Ro to_Fo_setAll tl_Fo_13 rfl (ct_Fo_set isFo_17 hv1) rfl rfl rfl rfl rfl rfl rfl (Nat.le_refl _) (Nat.le_refl _) ?_
    refine tm_w C tfo_Fo to_Fo_setAll 2 rfl rfl rfl trivial ?_
    obtain ⟨v2, hv2, hf⟩ := Option.bind_eq_some_iff.mp hf
    refine tm_cV C Ro to_Fo_setAll tl_Fo_13 rfl (ct_Fo_set isFo_17 hv2) rfl rfl rfl rfl rfl rfl rfl (Nat.le_refl _) (Nat.le_refl _) ?_
    refine tm_w C tfo_Fo to_Fo_setAll 2 rfl rfl rfl trivial ?_
    obtain ⟨v3, hv3, hf⟩ := Option.bind_eq_some_iff.mp hf
    refine tm_cV C Ro to_Fo_setAll tl_Fo_13 rfl (ct_Fo_set isFo_17 hv3) rfl rfl rfl rfl rfl rfl rfl (Nat.le_refl _) (Nat.le_refl _) ?_
    refine tm_w C tfo_Fo to_Fo_setAll 2 rfl rfl rfl trivial ?_
    obtain ⟨v4, hv4, hf⟩ := Option.bind_eq_some_iff.mp hf
    refine tm_cV C Ro to_Fo_setAll tl_Fo_13 rfl (ct_Fo_set isFo_17 hv4) rfl rfl rfl rfl rfl rfl rfl (Nat.le_refl _) (Nat.le_refl _) ?_
    cases hf
    exact tm_ev C G to_Fo_setAll rfl rfl (Nat.le_refl _) ⟨rfl, rfl⟩
  · refine tm_w C tfo_Fo to_Fo_setAll 2 rfl rfl rfl trivial ?_
    obtain ⟨v1, hv1, hf⟩ := Option.bind_eq_some_iff.mp hf
    refine tm_cV C Ro to_Fo_setAll tl_Fo_13 rfl (ct_Fo_set isFo_30 hv1) rfl rfl rfl rfl rfl rfl rfl (Nat.le_refl _) (Nat.le_refl _) ?_
    refine tm_w C tfo_Fo to_Fo_setAll 2 rfl rfl rfl trivial ?_
    obtain ⟨v2, hv2, hf⟩ := Option.bind_eq_some_iff.mp hf
    refine tm_cV C Ro to_Fo_setAll tl_Fo_13 rfl (ct_Fo_set isFo_30 hv2) rfl rfl rfl rfl rfl rfl rfl (Nat.le_refl _) (Nat.le_refl _) ?_
    refine tm_w C tfo_Fo to_Fo_setAll 2 rfl rfl rfl trivial ?_
    obtain ⟨v3, hv3, hf⟩ := Option.bind_eq_some_iff.mp hf
    refine tm_cV C Ro to_Fo_setAll tl_Fo_13 rfl (ct_Fo_set isFo_30 hv3) rfl rfl rfl rfl rfl rfl rfl (Nat.le_refl _) (Nat.le_refl _) ?_
    refine tm_w C tfo_Fo to_Fo_setAll 2 rfl rfl rfl trivial ?_
    obtain ⟨v4, hv4, hf⟩ := Option.bind_eq_some_iff.mp hf
    refine tm_cV C Ro to_Fo_setAll tl_Fo_13 rfl (ct_Fo_set isFo_30 hv4) rfl rfl rfl rfl rfl rfl rfl (Nat.le_refl _) (Nat.le_refl _) ?_
    cases hf
    exact tm_ev C G to_Fo_setAll rfl rfl (Nat.le_refl _) ⟨rfl, rfl⟩
  · refine tm_w C tfo_Fo to_Fo_setAll 2 rfl rfl rfl trivial ?_
    obtain ⟨v1, hv1, hf⟩ := Option.bind_eq_some_iff.mp hf
    refine tm_cV C Ro to_Fo_setAll tl_Fo_13 rfl (ct_Fo_set isFo_32 hv1) rfl rfl rfl rfl rfl rfl rfl (Nat.le_refl _) (Nat.le_refl _) ?_
    refine tm_w C tfo_Fo to_Fo_setAll 2 rfl rfl rfl trivial ?_
    obtain ⟨v2, hv2, hf⟩ := Option.bind_eq_some_iff.mp hf
    refine tm_cV C Ro to_Fo_setAll tl_Fo_13 rfl (ct_Fo_set isFo_32 hv2) rfl rfl rfl rfl rfl rfl rfl (Nat.le_refl _) (Nat.le_refl _) ?_
    refine tm_w C tfo_Fo to_Fo_setAll 2 rfl rfl rfl trivial ?_
    obtain ⟨v3, hv3, hf⟩ := Option.bind_eq_some_iff.mp hf
    refine tm_cV C Ro to_Fo_setAll tl_Fo_13 rfl (ct_Fo_set isFo_32 hv3) rfl rfl rfl rfl rfl rfl rfl (Nat.le_refl _) (Nat.le_refl _) ?_
    refine tm_w C tfo_Fo to_Fo_setAll 2 rfl rfl rfl trivial ?_
    obtain ⟨v4, hv4, hf⟩ := Option.bind_eq_some_iff.mp hf
    refine tm_cV C Ro to_Fo_setAll tl_Fo_13 rfl (ct_Fo_set isFo_32 hv4) rfl rfl rfl rfl rfl rfl rfl (Nat.le_refl _) (Nat.le_refl _) ?_
    cases hf
    exact tm_ev C G to_Fo_setAll rfl rfl (Nat.le_refl _) ⟨rfl, rfl⟩
  · refine tm_w C tfo_Fo to_Fo_setAll 2 rfl rfl rfl trivial ?_
    obtain ⟨v1, hv1, hf⟩ := Option.bind_eq_some_iff.mp hf
    refine tm_cV C Ro to_Fo_setAll tl_Fo_13 rfl (ct_Fo_set isFo_34 hv1) rfl rfl rfl rfl rfl rfl rfl (Nat.le_refl _) (Nat.le_refl _) ?_
    refine tm_w C tfo_Fo to_Fo_setAll 2 rfl rfl rfl trivial ?_
    obtain ⟨v2, hv2, hf⟩ := Option.bind_eq_some_iff.mp hf
    refine tm_cV C Ro to_Fo_setAll tl_Fo_13 rfl (ct_Fo_set isFo_34 hv2) rfl rfl rfl rfl rfl rfl rfl (Nat.le_refl _) (Nat.le_refl _) ?_
    refine tm_w C tfo_Fo to_Fo_setAll 2 rfl rfl rfl trivial ?_
    obtain ⟨v3, hv3, hf⟩ := Option.bind_eq_some_iff.mp hf
    refine tm_cV C Ro to_Fo_setAll tl_Fo_13 rfl (ct_Fo_set isFo_34 hv3) rfl rfl rfl rfl rfl rfl rfl (Nat.le_refl _) (Nat.le_refl _) ?_
    refine tm_w C tfo_Fo to_Fo_setAll 2 rfl rfl rfl trivial ?_
    obtain ⟨v4, hv4, hf⟩ := Option.bind_eq_some_iff.mp hf
    refine tm_cV C Ro to_Fo_setAll tl_Fo_13 rfl (ct_Fo_set isFo_34 hv4) rfl rfl rfl rfl rfl rfl rfl (Nat.le_refl _) (Nat.le_refl _) ?_
    cases hf
    exact tm_ev C G to_Fo_setAll rfl rfl (Nat.le_refl _) ⟨rfl, rfl⟩
set_option maxRecDepth 100000 in
theorem ct_Fo_setAll {ex : List tm_Sh} {o : Nat} (ho : isFo o) {p0 : Int32} {p1 : Int32} {p2 : Int32} {p3 : Int32} {mI : tm_I} {mL : tm_L} {r : Int32 × tm_I × tm_L} (hf : f_Fo_setAll o p0 p1 p2 p3 mI mL = some r) : tm_M ty_Fo_setAll 1 22 0 0 [.ref o, .int p0, .int p1, .int p2, .int p3] (sh0 ++ ex, mI, mL, rr) (tm_is none (sh0 ++ ex, r.2.1, r.2.2, rr)) := by
  refine tm_body (by decide) (Nat.le_of_ble_eq_true rfl) fun Γ C G => ?_
  exact j_Fo_setAll_b0 ho C G hf
/-! Fo_copy -/
def f_Fo_copy_32_17_b0  (mI : tm_I) (mL : tm_L) : Option (Int32 × tm_I × tm_L) := (f_Fo_get 17 (0 : Int32) mI mL).bind fun v1 => (f_Fo_get 17 (1 : Int32) v1.2.1 v1.2.2).bind fun v2 => (f_Fo_get 17 (2 : Int32) v2.2.1 v2.2.2).bind fun v3 => (f_Fo_get 17 (3 : Int32) v3.2.1 v3.2.2).bind fun v4 => (f_Fo_setAll 32 v1.1 v2.1 v3.1 v4.1 v4.2.1 v4.2.2).bind fun v5 => some (0, v5.2.1, v5.2.2)
abbrev f_Fo_copy_32_17  (mI : tm_I) (mL : tm_L) : Option (Int32 × tm_I × tm_L) := f_Fo_copy_32_17_b0  mI mL
set_option maxRecDepth 100000 in
set_option maxHeartbeats 4000000 in
theorem j_Fo_copy_32_17_b0 {Γ : tm_G} {ex : List tm_Sh} {av : List Value} {X0 : tm_X} {r : Int32 × tm_I × tm_L} (C : tm_C Γ ty_Fo_copy.1.cls ty_Fo_copy.2.1 ty_Fo_copy.2.2.1) (G : tm_Γ ty_Fo_copy 2 46 0 0 av X0 (tm_is none (sh0 ++ ex, r.2.1, r.2.2, rr)) Γ) {mI : tm_I} {mL : tm_L} (hf : f_Fo_copy_32_17_b0  mI mL = some r) : tm_T Γ 2 0 0 0 [some (.ref 32), some (.ref 17)] [] (sh0 ++ ex) mI mL rr := by
  have Ro := G.ro
  unfold f_Fo_copy_32_17_b0 at hf
  refine tm_w C tfo_Fo to_Fo_copy 2 rfl rfl rfl trivial ?_
  obtain ⟨v1, hv1, hf⟩ := Option.bind_eq_some_iff.mp hf
  refine tm_cV C Ro to_Fo_copy tl_Fo_17 rfl (ct_Fo_get isFo_17 hv1) rfl rfl rfl rfl rfl rfl rfl (Nat.le_refl _) (Nat.le_refl _) ?_
  refine tm_w C tfo_Fo to_Fo_copy 1 rfl rfl rfl trivial ?_
  obtain ⟨v2, hv2, hf⟩ := Option.bind_eq_some_iff.mp hf
  refine tm_cV C Ro to_Fo_copy tl_Fo_17 rfl (ct_Fo_get isFo_17 hv2) rfl rfl rfl rfl rfl rfl rfl (Nat.le_refl _) (Nat.le_refl _) ?_
  refine tm_w C tfo_Fo to_Fo_copy 1 rfl rfl rfl trivial ?_
  obtain ⟨v3, hv3, hf⟩ := Option.bind_eq_some_iff.mp hf
  refine tm_cV C Ro to_Fo_copy tl_Fo_17 rfl (ct_Fo_get isFo_17 hv3) rfl rfl rfl rfl rfl rfl rfl (Nat.le_refl _) (Nat.le_refl _) ?_
  refine tm_w C tfo_Fo to_Fo_copy 1 rfl rfl rfl trivial ?_
  obtain ⟨v4, hv4, hf⟩ := Option.bind_eq_some_iff.mp hf
  refine tm_cV C Ro to_Fo_copy tl_Fo_17 rfl (ct_Fo_get isFo_17 hv4) rfl rfl rfl rfl rfl rfl rfl (Nat.le_refl _) (Nat.le_refl _) ?_
  obtain ⟨v5, hv5, hf⟩ := Option.bind_eq_some_iff.mp hf
  refine tm_cV C Ro to_Fo_copy tl_Fo_21 rfl (ct_Fo_setAll isFo_32 hv5) rfl rfl rfl rfl rfl rfl rfl (Nat.le_refl _) (Nat.le_refl _) ?_
  cases hf
  exact tm_ev C G to_Fo_copy rfl rfl (Nat.le_refl _) ⟨rfl, rfl⟩
set_option maxRecDepth 100000 in
theorem ct_Fo_copy_32_17 {ex : List tm_Sh}  {mI : tm_I} {mL : tm_L} {r : Int32 × tm_I × tm_L} (hf : f_Fo_copy_32_17  mI mL = some r) : tm_M ty_Fo_copy 2 46 0 0 [.ref 32, .ref 17] (sh0 ++ ex, mI, mL, rr) (tm_is none (sh0 ++ ex, r.2.1, r.2.2, rr)) := by
  refine tm_body (by decide) (Nat.le_of_ble_eq_true rfl) fun Γ C G => ?_
  exact j_Fo_copy_32_17_b0 C G hf
/-! Fo_copy -/
def f_Fo_copy_30_17_b0  (mI : tm_I) (mL : tm_L) : Option (Int32 × tm_I × tm_L) := (f_Fo_get 17 (0 : Int32) mI mL).bind fun v1 => (f_Fo_get 17 (1 : Int32) v1.2.1 v1.2.2).bind fun v2 => (f_Fo_get 17 (2 : Int32) v2.2.1 v2.2.2).bind fun v3 => (f_Fo_get 17 (3 : Int32) v3.2.1 v3.2.2).bind fun v4 => (f_Fo_setAll 30 v1.1 v2.1 v3.1 v4.1 v4.2.1 v4.2.2).bind fun v5 => some (0, v5.2.1, v5.2.2)
abbrev f_Fo_copy_30_17  (mI : tm_I) (mL : tm_L) : Option (Int32 × tm_I × tm_L) := f_Fo_copy_30_17_b0  mI mL
set_option maxRecDepth 100000 in
set_option maxHeartbeats 4000000 in
theorem j_Fo_copy_30_17_b0 {Γ : tm_G} {ex : List tm_Sh} {av : List Value} {X0 : tm_X} {r : Int32 × tm_I × tm_L} (C : tm_C Γ ty_Fo_copy.1.cls ty_Fo_copy.2.1 ty_Fo_copy.2.2.1) (G : tm_Γ ty_Fo_copy 2 46 0 0 av X0 (tm_is none (sh0 ++ ex, r.2.1, r.2.2, rr)) Γ) {mI : tm_I} {mL : tm_L} (hf : f_Fo_copy_30_17_b0  mI mL = some r) : tm_T Γ 2 0 0 0 [some (.ref 30), some (.ref 17)] [] (sh0 ++ ex) mI mL rr := by
  have Ro := G.ro
  unfold f_Fo_copy_30_17_b0 at hf
  refine tm_w C tfo_Fo to_Fo_copy 2 rfl rfl rfl trivial ?_
  obtain ⟨v1, hv1, hf⟩ := Option.bind_eq_some_iff.mp hf
  refine tm_cV C Ro to_Fo_copy tl_Fo_17 rfl (ct_Fo_get isFo_17 hv1) rfl rfl rfl rfl rfl rfl rfl (Nat.le_refl _) (Nat.le_refl _) ?_
  refine tm_w C tfo_Fo to_Fo_copy 1 rfl rfl rfl trivial ?_
  obtain ⟨v2, hv2, hf⟩ := Option.bind_eq_some_iff.mp hf
  refine tm_cV C Ro to_Fo_copy tl_Fo_17 rfl (ct_Fo_get isFo_17 hv2) rfl rfl rfl rfl rfl rfl rfl (Nat.le_refl _) (Nat.le_refl _) ?_
  refine tm_w C tfo_Fo to_Fo_copy 1 rfl rfl rfl trivial ?_
  obtain ⟨v3, hv3, hf⟩ := Option.bind_eq_some_iff.mp hf
  refine tm_cV C Ro to_Fo_copy tl_Fo_17 rfl (ct_Fo_get isFo_17 hv3) rfl rfl rfl rfl rfl rfl rfl (Nat.le_refl _) (Nat.le_refl _) ?_
  refine tm_w C tfo_Fo to_Fo_copy 1 rfl rfl rfl trivial ?_
  obtain ⟨v4, hv4, hf⟩ := Option.bind_eq_some_iff.mp hf
  refine tm_cV C Ro to_Fo_copy tl_Fo_17 rfl (ct_Fo_get isFo_17 hv4) rfl rfl rfl rfl rfl rfl rfl (Nat.le_refl _) (Nat.le_refl _) ?_
  obtain ⟨v5, hv5, hf⟩ := Option.bind_eq_some_iff.mp hf
  refine tm_cV C Ro to_Fo_copy tl_Fo_21 rfl (ct_Fo_setAll isFo_30 hv5) rfl rfl rfl rfl rfl rfl rfl (Nat.le_refl _) (Nat.le_refl _) ?_
  cases hf
  exact tm_ev C G to_Fo_copy rfl rfl (Nat.le_refl _) ⟨rfl, rfl⟩
set_option maxRecDepth 100000 in
theorem ct_Fo_copy_30_17 {ex : List tm_Sh}  {mI : tm_I} {mL : tm_L} {r : Int32 × tm_I × tm_L} (hf : f_Fo_copy_30_17  mI mL = some r) : tm_M ty_Fo_copy 2 46 0 0 [.ref 30, .ref 17] (sh0 ++ ex, mI, mL, rr) (tm_is none (sh0 ++ ex, r.2.1, r.2.2, rr)) := by
  refine tm_body (by decide) (Nat.le_of_ble_eq_true rfl) fun Γ C G => ?_
  exact j_Fo_copy_30_17_b0 C G hf
/-! Fo_copy -/
def f_Fo_copy_17_32_b0  (mI : tm_I) (mL : tm_L) : Option (Int32 × tm_I × tm_L) := (f_Fo_get 32 (0 : Int32) mI mL).bind fun v1 => (f_Fo_get 32 (1 : Int32) v1.2.1 v1.2.2).bind fun v2 => (f_Fo_get 32 (2 : Int32) v2.2.1 v2.2.2).bind fun v3 => (f_Fo_get 32 (3 : Int32) v3.2.1 v3.2.2).bind fun v4 => (f_Fo_setAll 17 v1.1 v2.1 v3.1 v4.1 v4.2.1 v4.2.2).bind fun v5 => some (0, v5.2.1, v5.2.2)
abbrev f_Fo_copy_17_32  (mI : tm_I) (mL : tm_L) : Option (Int32 × tm_I × tm_L) := f_Fo_copy_17_32_b0  mI mL
set_option maxRecDepth 100000 in
set_option maxHeartbeats 4000000 in
theorem j_Fo_copy_17_32_b0 {Γ : tm_G} {ex : List tm_Sh} {av : List Value} {X0 : tm_X} {r : Int32 × tm_I × tm_L} (C : tm_C Γ ty_Fo_copy.1.cls ty_Fo_copy.2.1 ty_Fo_copy.2.2.1) (G : tm_Γ ty_Fo_copy 2 46 0 0 av X0 (tm_is none (sh0 ++ ex, r.2.1, r.2.2, rr)) Γ) {mI : tm_I} {mL : tm_L} (hf : f_Fo_copy_17_32_b0  mI mL = some r) : tm_T Γ 2 0 0 0 [some (.ref 17), some (.ref 32)] [] (sh0 ++ ex) mI mL rr := by
  have Ro := G.ro
  unfold f_Fo_copy_17_32_b0 at hf
  refine tm_w C tfo_Fo to_Fo_copy 2 rfl rfl rfl trivial ?_
  obtain ⟨v1, hv1, hf⟩ := Option.bind_eq_some_iff.mp hf
  refine tm_cV C Ro to_Fo_copy tl_Fo_17 rfl (ct_Fo_get isFo_32 hv1) rfl rfl rfl rfl rfl rfl rfl (Nat.le_refl _) (Nat.le_refl _) ?_
  refine tm_w C tfo_Fo to_Fo_copy 1 rfl rfl rfl trivial ?_
  obtain ⟨v2, hv2, hf⟩ := Option.bind_eq_some_iff.mp hf
  refine tm_cV C Ro to_Fo_copy tl_Fo_17 rfl (ct_Fo_get isFo_32 hv2) rfl rfl rfl rfl rfl rfl rfl (Nat.le_refl _) (Nat.le_refl _) ?_
  refine tm_w C tfo_Fo to_Fo_copy 1 rfl rfl rfl trivial ?_
  obtain ⟨v3, hv3, hf⟩ := Option.bind_eq_some_iff.mp hf
  refine tm_cV C Ro to_Fo_copy tl_Fo_17 rfl (ct_Fo_get isFo_32 hv3) rfl rfl rfl rfl rfl rfl rfl (Nat.le_refl _) (Nat.le_refl _) ?_
  refine tm_w C tfo_Fo to_Fo_copy 1 rfl rfl rfl trivial ?_
  obtain ⟨v4, hv4, hf⟩ := Option.bind_eq_some_iff.mp hf
  refine tm_cV C Ro to_Fo_copy tl_Fo_17 rfl (ct_Fo_get isFo_32 hv4) rfl rfl rfl rfl rfl rfl rfl (Nat.le_refl _) (Nat.le_refl _) ?_
  obtain ⟨v5, hv5, hf⟩ := Option.bind_eq_some_iff.mp hf
  refine tm_cV C Ro to_Fo_copy tl_Fo_21 rfl (ct_Fo_setAll isFo_17 hv5) rfl rfl rfl rfl rfl rfl rfl (Nat.le_refl _) (Nat.le_refl _) ?_
  cases hf
  exact tm_ev C G to_Fo_copy rfl rfl (Nat.le_refl _) ⟨rfl, rfl⟩
set_option maxRecDepth 100000 in
theorem ct_Fo_copy_17_32 {ex : List tm_Sh}  {mI : tm_I} {mL : tm_L} {r : Int32 × tm_I × tm_L} (hf : f_Fo_copy_17_32  mI mL = some r) : tm_M ty_Fo_copy 2 46 0 0 [.ref 17, .ref 32] (sh0 ++ ex, mI, mL, rr) (tm_is none (sh0 ++ ex, r.2.1, r.2.2, rr)) := by
  refine tm_body (by decide) (Nat.le_of_ble_eq_true rfl) fun Γ C G => ?_
  exact j_Fo_copy_17_32_b0 C G hf
/-! Ro_size -/
def f_Ro_size_b23 (o : Nat) (x1 : Int32) (s0 : Int32) (mI : tm_I) (mL : tm_L) : Option (Int32 × tm_I × tm_L) := some (s0, mI, mL)
def f_Ro_size_b22 (o : Nat) (x1 : Int32) (mI : tm_I) (mL : tm_L) : Option (Int32 × tm_I × tm_L) := f_Ro_size_b23 o x1 (0 : Int32) mI mL
def f_Ro_size_b0 (o : Nat) (x1 : Int32) (mI : tm_I) (mL : tm_L) : Option (Int32 × tm_I × tm_L) := if x1 < 0 then f_Ro_size_b22 o x1 mI mL else if (Int32.ofNat (tm_len (rr o 2))) ≤ x1 then f_Ro_size_b22 o x1 mI mL else if ¬ (x1 < 0 ∨ (tm_len (rr o 2)) ≤ Int32.toNatClampNeg x1) then f_Ro_size_b23 o x1 (mI (rr o 2) (Int32.toNatClampNeg x1)) mI mL else none
abbrev f_Ro_size (o : Nat) (p0 : Int32) (mI : tm_I) (mL : tm_L) : Option (Int32 × tm_I × tm_L) := f_Ro_size_b0 o p0 mI mL
set_option maxRecDepth 100000 in
set_option maxHeartbeats 4000000 in
theorem j_Ro_size_b23 {Γ : tm_G} {ex : List tm_Sh} {av : List Value} {X0 : tm_X} {o : Nat} (ho : isRo o) {r : Int32 × tm_I × tm_L} (C : tm_C Γ ty_Ro_size.1.cls ty_Ro_size.2.1 ty_Ro_size.2.2.1) (G : tm_Γ ty_Ro_size 0 0 0 0 av X0 (tm_is (some (.int r.1)) (sh0 ++ ex, r.2.1, r.2.2, rr)) Γ) {x1 : Int32} {s0 : Int32} {mI : tm_I} {mL : tm_L} (hf : f_Ro_size_b23 o x1 s0 mI mL = some r) : tm_T Γ 2 0 0 23 [some (.ref o), some (.int x1)] [.int s0] (sh0 ++ ex) mI mL rr := by
  have Ro := G.ro
  unfold f_Ro_size_b23 at hf
  rcases ho with rfl | rfl | rfl | rfl | rfl | rfl
  · cases hf
    exact tm_ei C G to_Ro_size rfl rfl (Nat.le_refl _) rfl ⟨rfl, rfl⟩
  · cases hf
    exact tm_ei C G to_Ro_size rfl rfl (Nat.le_refl _) rfl ⟨rfl, rfl⟩
  · cases hf
    exact tm_ei C G to_Ro_size rfl rfl (Nat.le_refl _) rfl ⟨rfl, rfl⟩
  · cases hf
    exact tm_ei C G to_Ro_size rfl rfl (Nat.le_refl _) rfl ⟨rfl, rfl⟩
  · cases hf
    exact tm_ei C G to_Ro_size rfl rfl (Nat.le_refl _) rfl ⟨rfl, rfl⟩
  · cases hf
    exact tm_ei C G to_Ro_size rfl rfl (Nat.le_refl _) rfl ⟨rfl, rfl⟩
set_option maxRecDepth 100000 in
set_option maxHeartbeats 4000000 in
theorem j_Ro_size_b22 {Γ : tm_G} {ex : List tm_Sh} {av : List Value} {X0 : tm_X} {o : Nat} (ho : isRo o) {r : Int32 × tm_I × tm_L} (C : tm_C Γ ty_Ro_size.1.cls ty_Ro_size.2.1 ty_Ro_size.2.2.1) (G : tm_Γ ty_Ro_size 0 0 0 0 av X0 (tm_is (some (.int r.1)) (sh0 ++ ex, r.2.1, r.2.2, rr)) Γ) {x1 : Int32} {mI : tm_I} {mL : tm_L} (hf : f_Ro_size_b22 o x1 mI mL = some r) : tm_T Γ 2 0 0 22 [some (.ref o), some (.int x1)] [] (sh0 ++ ex) mI mL rr := by
  have Ro := G.ro
  unfold f_Ro_size_b22 at hf
  rcases ho with rfl | rfl | rfl | rfl | rfl | rfl
  · refine tm_w C tfo_Ro to_Ro_size 0 rfl rfl rfl trivial ?_
    refine tm_wk (lv' := [some (.ref 2), some (.int x1)]) ⟨Or.inr rfl, Or.inr rfl, trivial⟩ ?_
    exact j_Ro_size_b23 isRo_2 C G hf
  · refine tm_w C tfo_Ro to_Ro_size 0 rfl rfl rfl trivial ?_
    refine tm_wk (lv' := [some (.ref 5), some (.int x1)]) ⟨Or.inr rfl, Or.inr rfl, trivial⟩ ?_
    exact j_Ro_size_b23 isRo_5 C G hf
  · refine tm_w C tfo_Ro to_Ro_size 0 rfl rfl rfl trivial ?_
    refine tm_wk (lv' := [some (.ref 10), some (.int x1)]) ⟨Or.inr rfl, Or.inr rfl, trivial⟩ ?_
    exact j_Ro_size_b23 isRo_10 C G hf
  · refine tm_w C tfo_Ro to_Ro_size 0 rfl rfl rfl trivial ?_
    refine tm_wk (lv' := [some (.ref 13), some (.int x1)]) ⟨Or.inr rfl, Or.inr rfl, trivial⟩ ?_
    exact j_Ro_size_b23 isRo_13 C G hf
  · refine tm_w C tfo_Ro to_Ro_size 0 rfl rfl rfl trivial ?_
    refine tm_wk (lv' := [some (.ref 23), some (.int x1)]) ⟨Or.inr rfl, Or.inr rfl, trivial⟩ ?_
    exact j_Ro_size_b23 isRo_23 C G hf
  · refine tm_w C tfo_Ro to_Ro_size 0 rfl rfl rfl trivial ?_
    refine tm_wk (lv' := [some (.ref 27), some (.int x1)]) ⟨Or.inr rfl, Or.inr rfl, trivial⟩ ?_
    exact j_Ro_size_b23 isRo_27 C G hf
set_option maxRecDepth 100000 in
set_option maxHeartbeats 4000000 in
theorem j_Ro_size_b0 {Γ : tm_G} {ex : List tm_Sh} {av : List Value} {X0 : tm_X} {o : Nat} (ho : isRo o) {r : Int32 × tm_I × tm_L} (C : tm_C Γ ty_Ro_size.1.cls ty_Ro_size.2.1 ty_Ro_size.2.2.1) (G : tm_Γ ty_Ro_size 0 0 0 0 av X0 (tm_is (some (.int r.1)) (sh0 ++ ex, r.2.1, r.2.2, rr)) Γ) {x1 : Int32} {mI : tm_I} {mL : tm_L} (hf : f_Ro_size_b0 o x1 mI mL = some r) : tm_T Γ 2 0 0 0 [some (.ref o), some (.int x1)] [] (sh0 ++ ex) mI mL rr := by
  have Ro := G.ro
  unfold f_Ro_size_b0 at hf
  rcases ho with rfl | rfl | rfl | rfl | rfl | rfl
  · refine tm_w C tfo_Ro to_Ro_size 0 rfl rfl rfl trivial ?_
    refine tm_b C to_Ro_size rfl rfl (fun h => ?_) (fun h => ?_)
    · have hf := (if_pos h).symm.trans hf
      refine tm_wk (lv' := [some (.ref 2), some (.int x1)]) ⟨Or.inr rfl, Or.inr rfl, trivial⟩ ?_
      exact j_Ro_size_b22 isRo_2 C G hf
    · have hf := (if_neg h).symm.trans hf
      refine tm_w C tfo_Ro to_Ro_size 3 rfl rfl rfl ⟨rfl, trivial⟩ ?_
      refine tm_b C to_Ro_size rfl rfl (fun h => ?_) (fun h => ?_)
      · have hf := (if_pos h).symm.trans hf
        refine tm_wk (lv' := [some (.ref 2), some (.int x1)]) ⟨Or.inr rfl, Or.inr rfl, trivial⟩ ?_
        exact j_Ro_size_b22 isRo_2 C G hf
      · have hf := (if_neg h).symm.trans hf
        obtain ⟨c1, hf⟩ := tm_iteN hf
        refine tm_w C tfo_Ro to_Ro_size 4 rfl rfl rfl ⟨rfl, ⟨_, rfl, c1⟩, trivial⟩ ?_
        refine tm_wk (lv' := [some (.ref 2), some (.int x1)]) ⟨Or.inr rfl, Or.inr rfl, trivial⟩ ?_
        exact j_Ro_size_b23 isRo_2 C G hf
  · refine tm_w C tfo_Ro to_Ro_size 0 rfl rfl rfl trivial ?_
    refine tm_b C to_Ro_size rfl rfl (fun h => ?_) (fun h => ?_)
    · have hf := (if_pos h).symm.trans hf
      refine tm_wk (lv' := [some (.ref 5), some (.int x1)]) ⟨Or.inr rfl, Or.inr rfl, trivial⟩ ?_
      exact j_Ro_size_b22 isRo_5 C G hf
    · have hf := (if_neg h).symm.trans hf
      refine tm_w C tfo_Ro to_Ro_size 3 rfl rfl rfl ⟨rfl, trivial⟩ ?_
      refine tm_b C to_Ro_size rfl rfl (fun h => ?_) (fun h => ?_)
      · have hf := (if_pos h).symm.trans hf
        refine tm_wk (lv' := [some (.ref 5), some (.int x1)]) ⟨Or.inr rfl, Or.inr rfl, trivial⟩ ?_
        exact j_Ro_size_b22 isRo_5 C G hf
      · have hf := (if_neg h).symm.trans hf
        obtain ⟨c1, hf⟩ := tm_iteN hf
        refine tm_w C tfo_Ro to_Ro_size 4 rfl rfl rfl ⟨rfl, ⟨_, rfl, c1⟩, trivial⟩ ?_
        refine tm_wk (lv' := [some (.ref 5), some (.int x1)]) ⟨Or.inr rfl, Or.inr rfl, trivial⟩ ?_
        exact j_Ro_size_b23 isRo_5 C G hf
  · refine tm_w C tfo_Ro to_Ro_size 0 rfl rfl rfl trivial ?_
    refine tm_b C to_Ro_size rfl rfl (fun h => ?_) (fun h => ?_)
    · have hf := (if_pos h).symm.trans hf
      refine tm_wk (lv' := [some (.ref 10), some (.int x1)]) ⟨Or.inr rfl, Or.inr rfl, trivial⟩ ?_
      exact j_Ro_size_b22 isRo_10 C G hf
    · have hf := (if_neg h).symm.trans hf
      refine tm_w C tfo_Ro to_Ro_size 3 rfl rfl rfl ⟨rfl, trivial⟩ ?_
      refine tm_b C to_Ro_size rfl rfl (fun h => ?_) (fun h => ?_)
      · have hf := (if_pos h).symm.trans hf
        refine tm_wk (lv' := [some (.ref 10), some (.int x1)]) ⟨Or.inr rfl, Or.inr rfl, trivial⟩ ?_
        exact j_Ro_size_b22 isRo_10 C G hf
      · have hf := (if_neg h).symm.trans hf
        obtain ⟨c1, hf⟩ := tm_iteN hf
        refine tm_w C tfo_Ro to_Ro_size 4 rfl rfl rfl ⟨rfl, ⟨_, rfl, c1⟩, trivial⟩ ?_
        refine tm_wk (lv' := [some (.ref 10), some (.int x1)]) ⟨Or.inr rfl, Or.inr rfl, trivial⟩ ?_
        exact j_Ro_size_b23 isRo_10 C G hf
  · refine tm_w C tfo_Ro to_Ro_size 0 rfl rfl rfl trivial ?_
    refine tm_b C to_Ro_size rfl rfl (fun h => ?_) (fun h => ?_)
    · have hf := (if_pos h).symm.trans hf
      refine tm_wk (lv' := [some (.ref 13), some (.int x1)]) ⟨Or.inr rfl, Or.inr rfl, trivial⟩ ?_
      exact j_Ro_size_b22 isRo_13 C G hf
    · have hf := (if_neg h).symm.trans hf
      refine tm_w C tfo_Ro to_Ro_size 3 rfl rfl rfl ⟨rfl, trivial⟩ ?_
      refine tm_b C to_Ro_size rfl rfl (fun h => ?_) (fun h => ?_)
      · have hf := (if_pos h).symm.trans hf
        refine tm_wk (lv' := [some (.ref 13), some (.int x1)]) ⟨Or.inr rfl, Or.inr rfl, trivial⟩ ?_
        exact j_Ro_size_b22 isRo_13 C G hf
      · have hf := (if_neg h).symm.trans hf
        obtain ⟨c1, hf⟩ := tm_iteN hf
        refine tm_w C tfo_Ro to_Ro_size 4 rfl rfl rfl ⟨rfl, ⟨_, rfl, c1⟩, trivial⟩ ?_
        refine tm_wk (lv' := [some (.ref 13), some (.int x1)]) ⟨Or.inr rfl, Or.inr rfl, trivial⟩ ?_
        exact j_Ro_size_b23 isRo_13 C G hf
  · refine tm_w C tfo_Ro to_Ro_size 0 rfl rfl rfl trivial ?_
    refine tm_b C to_Ro_size rfl rfl (fun h => ?_) (fun h => ?_)
    · have hf := (if_pos h).symm.trans hf
      refine tm_wk (lv' := [some (.ref 23), some (.int x1)]) ⟨Or.inr rfl, Or.inr rfl, trivial⟩ ?_
      exact j_Ro_size_b22 isRo_23 C G hf
    · have hf := (if_neg h).symm.trans hf
      refine tm_w C tfo_Ro to_Ro_size 3 rfl rfl rfl ⟨rfl, trivial⟩ ?_
      refine tm_b C to_Ro_size rfl rfl (fun h => ?_) (fun h => ?_)
      · have hf := (if_pos h).symm.trans hf
        refine tm_wk (lv' := [some (.ref 23), some (.int x1)]) ⟨Or.inr rfl, Or.inr rfl, trivial⟩ ?_
        exact j_Ro_size_b22 isRo_23 C G hf
      · have hf := (if_neg h).symm.trans hf
        obtain ⟨c1, hf⟩ := tm_iteN hf
        refine tm_w C tfo_Ro to_Ro_size 4 rfl rfl rfl ⟨rfl, ⟨_, rfl, c1⟩, trivial⟩ ?_
        refine tm_wk (lv' := [some (.ref 23), some (.int x1)]) ⟨Or.inr rfl, Or.inr rfl, trivial⟩ ?_
        exact j_Ro_size_b23 isRo_23 C G hf
  · refine tm_w C tfo_Ro to_Ro_size 0 rfl rfl rfl trivial ?_
    refine tm_b C to_Ro_size rfl rfl (fun h => ?_) (fun h => ?_)
    · have hf := (if_pos h).symm.trans hf
      refine tm_wk (lv' := [some (.ref 27), some (.int x1)]) ⟨Or.inr rfl, Or.inr rfl, trivial⟩ ?_
      exact j_Ro_size_b22 isRo_27 C G hf
    · have hf := (if_neg h).symm.trans hf
      refine tm_w C tfo_Ro to_Ro_size 3 rfl rfl rfl ⟨rfl, trivial⟩ ?_
      refine tm_b C to_Ro_size rfl rfl (fun h => ?_) (fun h => ?_)
      · have hf := (if_pos h).symm.trans hf
        refine tm_wk (lv' := [some (.ref 27), some (.int x1)]) ⟨Or.inr rfl, Or.inr rfl, trivial⟩ ?_
        exact j_Ro_size_b22 isRo_27 C G hf
      · have hf := (if_neg h).symm.trans hf
        obtain ⟨c1, hf⟩ := tm_iteN hf
        refine tm_w C tfo_Ro to_Ro_size 4 rfl rfl rfl ⟨rfl, ⟨_, rfl, c1⟩, trivial⟩ ?_
        refine tm_wk (lv' := [some (.ref 27), some (.int x1)]) ⟨Or.inr rfl, Or.inr rfl, trivial⟩ ?_
        exact j_Ro_size_b23 isRo_27 C G hf
set_option maxRecDepth 100000 in
theorem ct_Ro_size {ex : List tm_Sh} {o : Nat} (ho : isRo o) {p0 : Int32} {mI : tm_I} {mL : tm_L} {r : Int32 × tm_I × tm_L} (hf : f_Ro_size o p0 mI mL = some r) : tm_M ty_Ro_size 0 0 0 0 [.ref o, .int p0] (sh0 ++ ex, mI, mL, rr) (tm_is (some (.int r.1)) (sh0 ++ ex, r.2.1, r.2.2, rr)) := by
  refine tm_body (by decide) (Nat.le_of_ble_eq_true rfl) fun Γ C G => ?_
  exact j_Ro_size_b0 ho C G hf
/-! Ro_at -/
def f_Ro_at_b27 (o : Nat) (x1 : Int32) (x2 : Int32) (mI : tm_I) (mL : tm_L) : Option (Int32 × tm_I × tm_L) := some ((-1 : Int32), mI, mL)
def f_Ro_at_b0 (o : Nat) (x1 : Int32) (x2 : Int32) (mI : tm_I) (mL : tm_L) : Option (Int32 × tm_I × tm_L) := if x1 < 0 then f_Ro_at_b27 o x1 x2 mI mL else if (Int32.ofNat (tm_len (rr o 2))) ≤ x1 then f_Ro_at_b27 o x1 x2 mI mL else if x2 < 0 then f_Ro_at_b27 o x1 x2 mI mL else if ¬ (x1 < 0 ∨ (tm_len (rr o 2)) ≤ Int32.toNatClampNeg x1) then if x2 < (mI (rr o 2) (Int32.toNatClampNeg x1)) then if ¬ (((x1 * (mI o 1)) + (x2 / (8 : Int32))) < 0 ∨ (tm_len (rr o 3)) ≤ Int32.toNatClampNeg ((x1 * (mI o 1)) + (x2 / (8 : Int32)))) then some (((Int64.toInt32 ((Int64.toUInt64 (mL (rr o 3) (Int32.toNatClampNeg ((x1 * (mI o 1)) + (x2 / (8 : Int32))))) >>> ((Int32.toInt64 ((x2 - x2 / (8 : Int32) * (8 : Int32)) * (8 : Int32))).toUInt64 &&& Int64.toUInt64 63)).toInt64)) &&& (255 : Int32)), mI, mL) else none else f_Ro_at_b27 o x1 x2 mI mL else none
abbrev f_Ro_at (o : Nat) (p0 : Int32) (p1 : Int32) (mI : tm_I) (mL : tm_L) : Option (Int32 × tm_I × tm_L) := f_Ro_at_b0 o p0 p1 mI mL
set_option maxRecDepth 100000 in
set_option maxHeartbeats 4000000 in
theorem j_Ro_at_b27 {Γ : tm_G} {ex : List tm_Sh} {av : List Value} {X0 : tm_X} {o : Nat} (ho : isRo o) {r : Int32 × tm_I × tm_L} (C : tm_C Γ ty_Ro_at.1.cls ty_Ro_at.2.1 ty_Ro_at.2.2.1) (G : tm_Γ ty_Ro_at 0 0 0 0 av X0 (tm_is (some (.int r.1)) (sh0 ++ ex, r.2.1, r.2.2, rr)) Γ) {x1 : Int32} {x2 : Int32} {mI : tm_I} {mL : tm_L} (hf : f_Ro_at_b27 o x1 x2 mI mL = some r) : tm_T Γ 3 0 0 27 [some (.ref o), some (.int x1), some (.int x2)] [] (sh0 ++ ex) mI mL rr := by
  have Ro := G.ro
  unfold f_Ro_at_b27 at hf
  rcases ho with rfl | rfl | rfl | rfl | rfl | rfl
  · refine tm_w C tfo_Ro to_Ro_at 0 rfl rfl rfl trivial ?_
    cases hf
    exact tm_ei C G to_Ro_at rfl rfl (Nat.le_refl _) rfl ⟨rfl, rfl⟩
  · refine tm_w C tfo_Ro to_Ro_at 0 rfl rfl rfl trivial ?_
    cases hf
    exact tm_ei C G to_Ro_at rfl rfl (Nat.le_refl _) rfl ⟨rfl, rfl⟩
  · refine tm_w C tfo_Ro to_Ro_at 0 rfl rfl rfl trivial ?_
    cases hf
    exact tm_ei C G to_Ro_at rfl rfl (Nat.le_refl _) rfl ⟨rfl, rfl⟩
  · refine tm_w C tfo_Ro to_Ro_at 0 rfl rfl rfl trivial ?_
    cases hf
    exact tm_ei C G to_Ro_at rfl rfl (Nat.le_refl _) rfl ⟨rfl, rfl⟩
  · refine tm_w C tfo_Ro to_Ro_at 0 rfl rfl rfl trivial ?_
    cases hf
    exact tm_ei C G to_Ro_at rfl rfl (Nat.le_refl _) rfl ⟨rfl, rfl⟩
  · refine tm_w C tfo_Ro to_Ro_at 0 rfl rfl rfl trivial ?_
    cases hf
    exact tm_ei C G to_Ro_at rfl rfl (Nat.le_refl _) rfl ⟨rfl, rfl⟩
set_option maxRecDepth 100000 in
set_option maxHeartbeats 4000000 in
theorem j_Ro_at_b0 {Γ : tm_G} {ex : List tm_Sh} {av : List Value} {X0 : tm_X} {o : Nat} (ho : isRo o) {r : Int32 × tm_I × tm_L} (C : tm_C Γ ty_Ro_at.1.cls ty_Ro_at.2.1 ty_Ro_at.2.2.1) (G : tm_Γ ty_Ro_at 0 0 0 0 av X0 (tm_is (some (.int r.1)) (sh0 ++ ex, r.2.1, r.2.2, rr)) Γ) {x1 : Int32} {x2 : Int32} {mI : tm_I} {mL : tm_L} (hf : f_Ro_at_b0 o x1 x2 mI mL = some r) : tm_T Γ 3 0 0 0 [some (.ref o), some (.int x1), some (.int x2)] [] (sh0 ++ ex) mI mL rr := by
  have Ro := G.ro
  unfold f_Ro_at_b0 at hf
  rcases ho with rfl | rfl | rfl | rfl | rfl | rfl
  · refine tm_w C tfo_Ro to_Ro_at 0 rfl rfl rfl trivial ?_
    refine tm_b C to_Ro_at rfl rfl (fun h => ?_) (fun h => ?_)
    · have hf := (if_pos h).symm.trans hf
      refine tm_wk (lv' := [some (.ref 2), some (.int x1), some (.int x2)]) ⟨Or.inr rfl, Or.inr rfl, Or.inr rfl, trivial⟩ ?_
      exact j_Ro_at_b27 isRo_2 C G hf
    · have hf := (if_neg h).symm.trans hf
      refine tm_w C tfo_Ro to_Ro_at 3 rfl rfl rfl ⟨rfl, trivial⟩ ?_
      refine tm_b C to_Ro_at rfl rfl (fun h => ?_) (fun h => ?_)
      · have hf := (if_pos h).symm.trans hf
        refine tm_wk (lv' := [some (.ref 2), some (.int x1), some (.int x2)]) ⟨Or.inr rfl, Or.inr rfl, Or.inr rfl, trivial⟩ ?_
        exact j_Ro_at_b27 isRo_2 C G hf
      · have hf := (if_neg h).symm.trans hf
        refine tm_w C tfo_Ro to_Ro_at 0 rfl rfl rfl trivial ?_
        refine tm_b C to_Ro_at rfl rfl (fun h => ?_) (fun h => ?_)
        · have hf := (if_pos h).symm.trans hf
          refine tm_wk (lv' := [some (.ref 2), some (.int x1), some (.int x2)]) ⟨Or.inr rfl, Or.inr rfl, Or.inr rfl, trivial⟩ ?_
          exact j_Ro_at_b27 isRo_2 C G hf
        · have hf := (if_neg h).symm.trans hf
          obtain ⟨c1, hf⟩ := tm_iteN hf
          refine tm_w C tfo_Ro to_Ro_at 4 rfl rfl rfl ⟨rfl, ⟨_, rfl, c1⟩, trivial⟩ ?_
          refine tm_b C to_Ro_at rfl rfl (fun h => ?_) (fun h => ?_)
          · have hf := (if_pos h).symm.trans hf
            obtain ⟨c2, hf⟩ := tm_iteN hf
            refine tm_w C tfo_Ro to_Ro_at 19 rfl rfl rfl ⟨rfl, rfl, (by decide), ⟨_, rfl, c2⟩, (by decide), trivial⟩ ?_
            cases hf
            exact tm_ei C G to_Ro_at rfl rfl (Nat.le_refl _) rfl ⟨rfl, rfl⟩
          · have hf := (if_neg h).symm.trans hf
            refine tm_wk (lv' := [some (.ref 2), some (.int x1), some (.int x2)]) ⟨Or.inr rfl, Or.inr rfl, Or.inr rfl, trivial⟩ ?_
            exact j_Ro_at_b27 isRo_2 C G hf
  · refine tm_w C tfo_Ro to_Ro_at 0 rfl rfl rfl trivial ?_
    refine tm_b C to_Ro_at rfl rfl (fun h => ?_) (fun h => ?_)
    · have hf := (if_pos h).symm.trans hf
      refine tm_wk (lv' := [some (.ref 5), some (.int x1), some (.int x2)]) ⟨Or.inr rfl, Or.inr rfl, Or.inr rfl, trivial⟩ ?_
      exact j_Ro_at_b27 isRo_5 C G hf
    · have hf := (if_neg h).symm.trans hf
      refine tm_w C tfo_Ro to_Ro_at 3 rfl rfl rfl ⟨rfl, trivial⟩ ?_
      refine tm_b C to_Ro_at rfl rfl (fun h => ?_) (fun h => ?_)
      · have hf := (if_pos h).symm.trans hf
        refine tm_wk (lv' := [some (.ref 5), some (.int x1), some (.int x2)]) ⟨Or.inr rfl, Or.inr rfl, Or.inr rfl, trivial⟩ ?_
        exact j_Ro_at_b27 isRo_5 C G hf
      · have hf := (if_neg h).symm.trans hf
        refine tm_w C tfo_Ro to_Ro_at 0 rfl rfl rfl trivial ?_
        refine tm_b C to_Ro_at rfl rfl (fun h => ?_) (fun h => ?_)
        · have hf := (if_pos h).symm.trans hf
          refine tm_wk (lv' := [some (.ref 5), some (.int x1), some (.int x2)]) ⟨Or.inr rfl, Or.inr rfl, Or.inr rfl, trivial⟩ ?_
          exact j_Ro_at_b27 isRo_5 C G hf
        · have hf := (if_neg h).symm.trans hf
          obtain ⟨c1, hf⟩ := tm_iteN hf
          refine tm_w C tfo_Ro to_Ro_at 4 rfl rfl rfl ⟨rfl, ⟨_, rfl, c1⟩, trivial⟩ ?_
          refine tm_b C to_Ro_at rfl rfl (fun h => ?_) (fun h => ?_)
          · have hf := (if_pos h).symm.trans hf
            obtain ⟨c2, hf⟩ := tm_iteN hf
            refine tm_w C tfo_Ro to_Ro_at 19 rfl rfl rfl ⟨rfl, rfl, (by decide), ⟨_, rfl, c2⟩, (by decide), trivial⟩ ?_
            cases hf
            exact tm_ei C G to_Ro_at rfl rfl (Nat.le_refl _) rfl ⟨rfl, rfl⟩
          · have hf := (if_neg h).symm.trans hf
            refine tm_wk (lv' := [some (.ref 5), some (.int x1), some (.int x2)]) ⟨Or.inr rfl, Or.inr rfl, Or.inr rfl, trivial⟩ ?_
            exact j_Ro_at_b27 isRo_5 C G hf
  · refine tm_w C tfo_Ro to_Ro_at 0 rfl rfl rfl trivial ?_
    refine tm_b C to_Ro_at rfl rfl (fun h => ?_) (fun h => ?_)
    · have hf := (if_pos h).symm.trans hf
      refine tm_wk (lv' := [some (.ref 10), some (.int x1), some (.int x2)]) ⟨Or.inr rfl, Or.inr rfl, Or.inr rfl, trivial⟩ ?_
      exact j_Ro_at_b27 isRo_10 C G hf
    · have hf := (if_neg h).symm.trans hf
      refine tm_w C tfo_Ro to_Ro_at 3 rfl rfl rfl ⟨rfl, trivial⟩ ?_
      refine tm_b C to_Ro_at rfl rfl (fun h => ?_) (fun h => ?_)
      · have hf := (if_pos h).symm.trans hf
        refine tm_wk (lv' := [some (.ref 10), some (.int x1), some (.int x2)]) ⟨Or.inr rfl, Or.inr rfl, Or.inr rfl, trivial⟩ ?_
        exact j_Ro_at_b27 isRo_10 C G hf
      · have hf := (if_neg h).symm.trans hf
        refine tm_w C tfo_Ro to_Ro_at 0 rfl rfl rfl trivial ?_
        refine tm_b C to_Ro_at rfl rfl (fun h => ?_) (fun h => ?_)
        · have hf := (if_pos h).symm.trans hf
          refine tm_wk (lv' := [some (.ref 10), some (.int x1), some (.int x2)]) ⟨Or.inr rfl, Or.inr rfl, Or.inr rfl, trivial⟩ ?_
          exact j_Ro_at_b27 isRo_10 C G hf
        · have hf := (if_neg h).symm.trans hf
          obtain ⟨c1, hf⟩ := tm_iteN hf
          refine tm_w C tfo_Ro to_Ro_at 4 rfl rfl rfl ⟨rfl, ⟨_, rfl, c1⟩, trivial⟩ ?_
          refine tm_b C to_Ro_at rfl rfl (fun h => ?_) (fun h => ?_)
          · have hf := (if_pos h).symm.trans hf
            obtain ⟨c2, hf⟩ := tm_iteN hf
            refine tm_w C tfo_Ro to_Ro_at 19 rfl rfl rfl ⟨rfl, rfl, (by decide), ⟨_, rfl, c2⟩, (by decide), trivial⟩ ?_
            cases hf
            exact tm_ei C G to_Ro_at rfl rfl (Nat.le_refl _) rfl ⟨rfl, rfl⟩
          · have hf := (if_neg h).symm.trans hf
            refine tm_wk (lv' := [some (.ref 10), some (.int x1), some (.int x2)]) ⟨Or.inr rfl, Or.inr rfl, Or.inr rfl, trivial⟩ ?_
            exact j_Ro_at_b27 isRo_10 C G hf
  · refine tm_w C tfo_Ro to_Ro_at 0 rfl rfl rfl trivial ?_
    refine tm_b C to_Ro_at rfl rfl (fun h => ?_) (fun h => ?_)
    · have hf := (if_pos h).symm.trans hf
      refine tm_wk (lv' := [some (.ref 13), some (.int x1), some (.int x2)]) ⟨Or.inr rfl, Or.inr rfl, Or.inr rfl, trivial⟩ ?_
      exact j_Ro_at_b27 isRo_13 C G hf
    · have hf := (if_neg h).symm.trans hf
      refine tm_w C tfo_Ro to_Ro_at 3 rfl rfl rfl ⟨rfl, trivial⟩ ?_
      refine tm_b C to_Ro_at rfl rfl (fun h => ?_) (fun h => ?_)
      · have hf := (if_pos h).symm.trans hf
        refine tm_wk (lv' := [some (.ref 13), some (.int x1), some (.int x2)]) ⟨Or.inr rfl, Or.inr rfl, Or.inr rfl, trivial⟩ ?_
        exact j_Ro_at_b27 isRo_13 C G hf
      · have hf := (if_neg h).symm.trans hf
        refine tm_w C tfo_Ro to_Ro_at 0 rfl rfl rfl trivial ?_
        refine tm_b C to_Ro_at rfl rfl (fun h => ?_) (fun h => ?_)
        · have hf := (if_pos h).symm.trans hf
          refine tm_wk (lv' := [some (.ref 13), some (.int x1), some (.int x2)]) ⟨Or.inr rfl, Or.inr rfl, Or.inr rfl, trivial⟩ ?_
          exact j_Ro_at_b27 isRo_13 C G hf
        · have hf := (if_neg h).symm.trans hf
          obtain ⟨c1, hf⟩ := tm_iteN hf
          refine tm_w C tfo_Ro to_Ro_at 4 rfl rfl rfl ⟨rfl, ⟨_, rfl, c1⟩, trivial⟩ ?_
          refine tm_b C to_Ro_at rfl rfl (fun h => ?_) (fun h => ?_)
          · have hf := (if_pos h).symm.trans hf
            obtain ⟨c2, hf⟩ := tm_iteN hf
            refine tm_w C tfo_Ro to_Ro_at 19 rfl rfl rfl ⟨rfl, rfl, (by decide), ⟨_, rfl, c2⟩, (by decide), trivial⟩ ?_
            cases hf
            exact tm_ei C G to_Ro_at rfl rfl (Nat.le_refl _) rfl ⟨rfl, rfl⟩
          · have hf := (if_neg h).symm.trans hf
            refine tm_wk (lv' := [some (.ref 13), some (.int x1), some (.int x2)]) ⟨Or.inr rfl, Or.inr rfl, Or.inr rfl, trivial⟩ ?_
            exact j_Ro_at_b27 isRo_13 C G hf
  · refine tm_w C tfo_Ro to_Ro_at 0 rfl rfl rfl trivial ?_
    refine tm_b C to_Ro_at rfl rfl (fun h => ?_) (fun h => ?_)
    · have hf := (if_pos h).symm.trans hf
      refine tm_wk (lv' := [some (.ref 23), some (.int x1), some (.int x2)]) ⟨Or.inr rfl, Or.inr rfl, Or.inr rfl, trivial⟩ ?_
      exact j_Ro_at_b27 isRo_23 C G hf
    · have hf := (if_neg h).symm.trans hf
      refine tm_w C tfo_Ro to_Ro_at 3 rfl rfl rfl ⟨rfl, trivial⟩ ?_
      refine tm_b C to_Ro_at rfl rfl (fun h => ?_) (fun h => ?_)
      · have hf := (if_pos h).symm.trans hf
        refine tm_wk (lv' := [some (.ref 23), some (.int x1), some (.int x2)]) ⟨Or.inr rfl, Or.inr rfl, Or.inr rfl, trivial⟩ ?_
        exact j_Ro_at_b27 isRo_23 C G hf
      · have hf := (if_neg h).symm.trans hf
        refine tm_w C tfo_Ro to_Ro_at 0 rfl rfl rfl trivial ?_
        refine tm_b C to_Ro_at rfl rfl (fun h => ?_) (fun h => ?_)
        · have hf := (if_pos h).symm.trans hf
          refine tm_wk (lv' := [some (.ref 23), some (.int x1), some (.int x2)]) ⟨Or.inr rfl, Or.inr rfl, Or.inr rfl, trivial⟩ ?_
          exact j_Ro_at_b27 isRo_23 C G hf
        · have hf := (if_neg h).symm.trans hf
          obtain ⟨c1, hf⟩ := tm_iteN hf
          refine tm_w C tfo_Ro to_Ro_at 4 rfl rfl rfl ⟨rfl, ⟨_, rfl, c1⟩, trivial⟩ ?_
          refine tm_b C to_Ro_at rfl rfl (fun h => ?_) (fun h => ?_)
          · have hf := (if_pos h).symm.trans hf
            obtain ⟨c2, hf⟩ := tm_iteN hf
            refine tm_w C tfo_Ro to_Ro_at 19 rfl rfl rfl ⟨rfl, rfl, (by decide), ⟨_, rfl, c2⟩, (by decide), trivial⟩ ?_
            cases hf
            exact tm_ei C G to_Ro_at rfl rfl (Nat.le_refl _) rfl ⟨rfl, rfl⟩
          · have hf := (if_neg h).symm.trans hf
            refine tm_wk (lv' := [some (.ref 23), some (.int x1), some (.int x2)]) ⟨Or.inr rfl, Or.inr rfl, Or.inr rfl, trivial⟩ ?_
            exact j_Ro_at_b27 isRo_23 C G hf
  · refine tm_w C tfo_Ro to_Ro_at 0 rfl rfl rfl trivial ?_
    refine tm_b C to_Ro_at rfl rfl (fun h => ?_) (fun h => ?_)
    · have hf := (if_pos h).symm.trans hf
      refine tm_wk (lv' := [some (.ref 27), some (.int x1), some (.int x2)]) ⟨Or.inr rfl, Or.inr rfl, Or.inr rfl, trivial⟩ ?_
      exact j_Ro_at_b27 isRo_27 C G hf
    · have hf := (if_neg h).symm.trans hf
      refine tm_w C tfo_Ro to_Ro_at 3 rfl rfl rfl ⟨rfl, trivial⟩ ?_
      refine tm_b C to_Ro_at rfl rfl (fun h => ?_) (fun h => ?_)
      · have hf := (if_pos h).symm.trans hf
        refine tm_wk (lv' := [some (.ref 27), some (.int x1), some (.int x2)]) ⟨Or.inr rfl, Or.inr rfl, Or.inr rfl, trivial⟩ ?_
        exact j_Ro_at_b27 isRo_27 C G hf
      · have hf := (if_neg h).symm.trans hf
        refine tm_w C tfo_Ro to_Ro_at 0 rfl rfl rfl trivial ?_
        refine tm_b C to_Ro_at rfl rfl (fun h => ?_) (fun h => ?_)
        · have hf := (if_pos h).symm.trans hf
          refine tm_wk (lv' := [some (.ref 27), some (.int x1), some (.int x2)]) ⟨Or.inr rfl, Or.inr rfl, Or.inr rfl, trivial⟩ ?_
          exact j_Ro_at_b27 isRo_27 C G hf
        · have hf := (if_neg h).symm.trans hf
          obtain ⟨c1, hf⟩ := tm_iteN hf
          refine tm_w C tfo_Ro to_Ro_at 4 rfl rfl rfl ⟨rfl, ⟨_, rfl, c1⟩, trivial⟩ ?_
          refine tm_b C to_Ro_at rfl rfl (fun h => ?_) (fun h => ?_)
          · have hf := (if_pos h).symm.trans hf
            obtain ⟨c2, hf⟩ := tm_iteN hf
            refine tm_w C tfo_Ro to_Ro_at 19 rfl rfl rfl ⟨rfl, rfl, (by decide), ⟨_, rfl, c2⟩, (by decide), trivial⟩ ?_
            cases hf
            exact tm_ei C G to_Ro_at rfl rfl (Nat.le_refl _) rfl ⟨rfl, rfl⟩
          · have hf := (if_neg h).symm.trans hf
            refine tm_wk (lv' := [some (.ref 27), some (.int x1), some (.int x2)]) ⟨Or.inr rfl, Or.inr rfl, Or.inr rfl, trivial⟩ ?_
            exact j_Ro_at_b27 isRo_27 C G hf
set_option maxRecDepth 100000 in
theorem ct_Ro_at {ex : List tm_Sh} {o : Nat} (ho : isRo o) {p0 : Int32} {p1 : Int32} {mI : tm_I} {mL : tm_L} {r : Int32 × tm_I × tm_L} (hf : f_Ro_at o p0 p1 mI mL = some r) : tm_M ty_Ro_at 0 0 0 0 [.ref o, .int p0, .int p1] (sh0 ++ ex, mI, mL, rr) (tm_is (some (.int r.1)) (sh0 ++ ex, r.2.1, r.2.2, rr)) := by
  refine tm_body (by decide) (Nat.le_of_ble_eq_true rfl) fun Γ C G => ?_
  exact j_Ro_at_b0 ho C G hf
/-! Ro_add -/
def f_Ro_add_b26 (o : Nat) (x1 : Int32) (x2 : Int32) (mI : tm_I) (mL : tm_L) : Option (Int32 × tm_I × tm_L) := some ((0 : Int32), mI, mL)
def f_Ro_add_b0 (o : Nat) (x1 : Int32) (x2 : Int32) (mI : tm_I) (mL : tm_L) : Option (Int32 × tm_I × tm_L) := if x1 < 0 then f_Ro_add_b26 o x1 x2 mI mL else if (Int32.ofNat (tm_len (rr o 2))) ≤ x1 then f_Ro_add_b26 o x1 x2 mI mL else if ¬ (x1 < 0 ∨ (tm_len (rr o 2)) ≤ Int32.toNatClampNeg x1) then if (mI (rr o 2) (Int32.toNatClampNeg x1)) < (mI o 0) then if ¬ (x1 < 0 ∨ (tm_len (rr o 2)) ≤ Int32.toNatClampNeg x1) then if ¬ (((x1 * (mI o 1)) + ((mI (rr o 2) (Int32.toNatClampNeg x1)) / (8 : Int32))) < 0 ∨ (tm_len (rr o 3)) ≤ Int32.toNatClampNeg ((x1 * (mI o 1)) + ((mI (rr o 2) (Int32.toNatClampNeg x1)) / (8 : Int32)))) then if ¬ (((x1 * (mI o 1)) + ((mI (rr o 2) (Int32.toNatClampNeg x1)) / (8 : Int32))) < 0 ∨ (tm_len (rr o 3)) ≤ Int32.toNatClampNeg ((x1 * (mI o 1)) + ((mI (rr o 2) (Int32.toNatClampNeg x1)) / (8 : Int32)))) then if ¬ (x1 < 0 ∨ (tm_len (rr o 2)) ≤ Int32.toNatClampNeg x1) then some ((1 : Int32), tm_up mI (rr o 2) (Int32.toNatClampNeg x1) ((mI (rr o 2) (Int32.toNatClampNeg x1)) + (1 : Int32)), tm_up mL (rr o 3) (Int32.toNatClampNeg ((x1 * (mI o 1)) + ((mI (rr o 2) (Int32.toNatClampNeg x1)) / (8 : Int32)))) (((mL (rr o 3) (Int32.toNatClampNeg ((x1 * (mI o 1)) + ((mI (rr o 2) (Int32.toNatClampNeg x1)) / (8 : Int32))))) &&& (((255 : Int64) <<< (Int32.toInt64 (((mI (rr o 2) (Int32.toNatClampNeg x1)) - (mI (rr o 2) (Int32.toNatClampNeg x1)) / (8 : Int32) * (8 : Int32)) * (8 : Int32)) &&& 63)) ^^^ (-1 : Int64))) ||| ((Int32.toInt64 (x2 &&& (255 : Int32))) <<< (Int32.toInt64 (((mI (rr o 2) (Int32.toNatClampNeg x1)) - (mI (rr o 2) (Int32.toNatClampNeg x1)) / (8 : Int32) * (8 : Int32)) * (8 : Int32)) &&& 63)))) else none else none else none else none else f_Ro_add_b26 o x1 x2 mI mL else none
abbrev f_Ro_add (o : Nat) (p0 : Int32) (p1 : Int32) (mI : tm_I) (mL : tm_L) : Option (Int32 × tm_I × tm_L) := f_Ro_add_b0 o p0 p1 mI mL
set_option maxRecDepth 100000 in
set_option maxHeartbeats 4000000 in
theorem j_Ro_add_b26 {Γ : tm_G} {ex : List tm_Sh} {av : List Value} {X0 : tm_X} {o : Nat} (ho : isRo o) {r : Int32 × tm_I × tm_L} (C : tm_C Γ ty_Ro_add.1.cls ty_Ro_add.2.1 ty_Ro_add.2.2.1) (G : tm_Γ ty_Ro_add 0 0 0 0 av X0 (tm_is (some (.int r.1)) (sh0 ++ ex, r.2.1, r.2.2, rr)) Γ) {x1 : Int32} {x2 : Int32} {mI : tm_I} {mL : tm_L} (hf : f_Ro_add_b26 o x1 x2 mI mL = some r) : tm_T Γ 6 0 0 26 [some (.ref o), some (.int x1), some (.int x2), none, none, none] [] (sh0 ++ ex) mI mL rr := by
  have Ro := G.ro
  unfold f_Ro_add_b26 at hf
  rcases ho with rfl | rfl | rfl | rfl | rfl | rfl
  · refine tm_w C tfo_Ro to_Ro_add 0 rfl rfl rfl trivial ?_
    cases hf
    exact tm_ei C G to_Ro_add rfl rfl (Nat.le_refl _) rfl ⟨rfl, rfl⟩
  · refine tm_w C tfo_Ro to_Ro_add 0 rfl rfl rfl trivial ?_
    cases hf
    exact tm_ei C G to_Ro_add rfl rfl (Nat.le_refl _) rfl ⟨rfl, rfl⟩
  · refine tm_w C tfo_Ro to_Ro_add 0 rfl rfl rfl trivial ?_
    cases hf
    exact tm_ei C G to_Ro_add rfl rfl (Nat.le_refl _) rfl ⟨rfl, rfl⟩
  · refine tm_w C tfo_Ro to_Ro_add 0 rfl rfl rfl trivial ?_
    cases hf
    exact tm_ei C G to_Ro_add rfl rfl (Nat.le_refl _) rfl ⟨rfl, rfl⟩
  · refine tm_w C tfo_Ro to_Ro_add 0 rfl rfl rfl trivial ?_
    cases hf
    exact tm_ei C G to_Ro_add rfl rfl (Nat.le_refl _) rfl ⟨rfl, rfl⟩
  · refine tm_w C tfo_Ro to_Ro_add 0 rfl rfl rfl trivial ?_
    cases hf
    exact tm_ei C G to_Ro_add rfl rfl (Nat.le_refl _) rfl ⟨rfl, rfl⟩
set_option maxRecDepth 100000 in
set_option maxHeartbeats 4000000 in
theorem j_Ro_add_b0 {Γ : tm_G} {ex : List tm_Sh} {av : List Value} {X0 : tm_X} {o : Nat} (ho : isRo o) {r : Int32 × tm_I × tm_L} (C : tm_C Γ ty_Ro_add.1.cls ty_Ro_add.2.1 ty_Ro_add.2.2.1) (G : tm_Γ ty_Ro_add 0 0 0 0 av X0 (tm_is (some (.int r.1)) (sh0 ++ ex, r.2.1, r.2.2, rr)) Γ) {x1 : Int32} {x2 : Int32} {mI : tm_I} {mL : tm_L} (hf : f_Ro_add_b0 o x1 x2 mI mL = some r) : tm_T Γ 6 0 0 0 [some (.ref o), some (.int x1), some (.int x2), none, none, none] [] (sh0 ++ ex) mI mL rr := by
  have Ro := G.ro
  unfold f_Ro_add_b0 at hf
  rcases ho with rfl | rfl | rfl | rfl | rfl | rfl
  · refine tm_w C tfo_Ro to_Ro_add 0 rfl rfl rfl trivial ?_
    refine tm_b C to_Ro_add rfl rfl (fun h => ?_) (fun h => ?_)
    · have hf := (if_pos h).symm.trans hf
      refine tm_wk (lv' := [some (.ref 2), some (.int x1), some (.int x2), none, none, none]) ⟨Or.inr rfl, Or.inr rfl, Or.inr rfl, Or.inl rfl, Or.inl rfl, Or.inl rfl, trivial⟩ ?_
      exact j_Ro_add_b26 isRo_2 C G hf
    · have hf := (if_neg h).symm.trans hf
      refine tm_w C tfo_Ro to_Ro_add 3 rfl rfl rfl ⟨rfl, trivial⟩ ?_
      refine tm_b C to_Ro_add rfl rfl (fun h => ?_) (fun h => ?_)
      · have hf := (if_pos h).symm.trans hf
        refine tm_wk (lv' := [some (.ref 2), some (.int x1), some (.int x2), none, none, none]) ⟨Or.inr rfl, Or.inr rfl, Or.inr rfl, Or.inl rfl, Or.inl rfl, Or.inl rfl, trivial⟩ ?_
        exact j_Ro_add_b26 isRo_2 C G hf
      · have hf := (if_neg h).symm.trans hf
        obtain ⟨c1, hf⟩ := tm_iteN hf
        refine tm_w C tfo_Ro to_Ro_add 5 rfl rfl rfl ⟨rfl, ⟨_, rfl, c1⟩, rfl, trivial⟩ ?_
        refine tm_b C to_Ro_add rfl rfl (fun h => ?_) (fun h => ?_)
        · have hf := (if_pos h).symm.trans hf
          obtain ⟨c2, hf⟩ := tm_iteN hf
          obtain ⟨c3, hf⟩ := tm_iteN hf
          refine tm_w C tfo_Ro to_Ro_add 26 rfl rfl rfl ⟨rfl, ⟨_, rfl, c2⟩, rfl, (by decide), (by decide), rfl, rfl, ⟨_, rfl, c3⟩, trivial⟩ ?_
          refine tm_ldc2 (v := (255 : Int64)) C (tm_in 587 (by decide +kernel) rfl) (tm_get_d to_Ro_add rfl) ?_
          refine tm_w C tfo_Ro to_Ro_add 1 rfl rfl rfl trivial ?_
          refine tm_ldc2 (v := (-1 : Int64)) C (tm_in 588 (by decide +kernel) rfl) (tm_get_d to_Ro_add rfl) ?_
          obtain ⟨c4, hf⟩ := tm_iteN hf
          obtain ⟨c5, hf⟩ := tm_iteN hf
          refine tm_w C tfo_Ro to_Ro_add 17 rfl rfl rfl ⟨⟨_, rfl, c4⟩, rfl, ⟨_, rfl, c5⟩, trivial⟩ ?_
          cases hf
          exact tm_ei C G to_Ro_add rfl rfl (Nat.le_refl _) rfl ⟨rfl, rfl⟩
        · have hf := (if_neg h).symm.trans hf
          refine tm_wk (lv' := [some (.ref 2), some (.int x1), some (.int x2), none, none, none]) ⟨Or.inr rfl, Or.inr rfl, Or.inr rfl, Or.inl rfl, Or.inl rfl, Or.inl rfl, trivial⟩ ?_
          exact j_Ro_add_b26 isRo_2 C G hf
  · refine tm_w C tfo_Ro to_Ro_add 0 rfl rfl rfl trivial ?_
    refine tm_b C to_Ro_add rfl rfl (fun h => ?_) (fun h => ?_)
    · have hf := (if_pos h).symm.trans hf
      refine tm_wk (lv' := [some (.ref 5), some (.int x1), some (.int x2), none, none, none]) ⟨Or.inr rfl, Or.inr rfl, Or.inr rfl, Or.inl rfl, Or.inl rfl, Or.inl rfl, trivial⟩ ?_
      exact j_Ro_add_b26 isRo_5 C G hf
    · have hf := (if_neg h).symm.trans hf
      refine tm_w C tfo_Ro to_Ro_add 3 rfl rfl rfl ⟨rfl, trivial⟩ ?_
      refine tm_b C to_Ro_add rfl rfl (fun h => ?_) (fun h => ?_)
      · have hf := (if_pos h).symm.trans hf
        refine tm_wk (lv' := [some (.ref 5), some (.int x1), some (.int x2), none, none, none]) ⟨Or.inr rfl, Or.inr rfl, Or.inr rfl, Or.inl rfl, Or.inl rfl, Or.inl rfl, trivial⟩ ?_
        exact j_Ro_add_b26 isRo_5 C G hf
      · have hf := (if_neg h).symm.trans hf
        obtain ⟨c1, hf⟩ := tm_iteN hf
        refine tm_w C tfo_Ro to_Ro_add 5 rfl rfl rfl ⟨rfl, ⟨_, rfl, c1⟩, rfl, trivial⟩ ?_
        refine tm_b C to_Ro_add rfl rfl (fun h => ?_) (fun h => ?_)
        · have hf := (if_pos h).symm.trans hf
          obtain ⟨c2, hf⟩ := tm_iteN hf
          obtain ⟨c3, hf⟩ := tm_iteN hf
          refine tm_w C tfo_Ro to_Ro_add 26 rfl rfl rfl ⟨rfl, ⟨_, rfl, c2⟩, rfl, (by decide), (by decide), rfl, rfl, ⟨_, rfl, c3⟩, trivial⟩ ?_
          refine tm_ldc2 (v := (255 : Int64)) C (tm_in 587 (by decide +kernel) rfl) (tm_get_d to_Ro_add rfl) ?_
          refine tm_w C tfo_Ro to_Ro_add 1 rfl rfl rfl trivial ?_
          refine tm_ldc2 (v := (-1 : Int64)) C (tm_in 588 (by decide +kernel) rfl) (tm_get_d to_Ro_add rfl) ?_
          obtain ⟨c4, hf⟩ := tm_iteN hf
          obtain ⟨c5, hf⟩ := tm_iteN hf
          refine tm_w C tfo_Ro to_Ro_add 17 rfl rfl rfl ⟨⟨_, rfl, c4⟩, rfl, ⟨_, rfl, c5⟩, trivial⟩ ?_
          cases hf
          exact tm_ei C G to_Ro_add rfl rfl (Nat.le_refl _) rfl ⟨rfl, rfl⟩
        · have hf := (if_neg h).symm.trans hf
          refine tm_wk (lv' := [some (.ref 5), some (.int x1), some (.int x2), none, none, none]) ⟨Or.inr rfl, Or.inr rfl, Or.inr rfl, Or.inl rfl, Or.inl rfl, Or.inl rfl, trivial⟩ ?_
          exact j_Ro_add_b26 isRo_5 C G hf
  · refine tm_w C tfo_Ro to_Ro_add 0 rfl rfl rfl trivial ?_
    refine tm_b C to_Ro_add rfl rfl (fun h => ?_) (fun h => ?_)
    · have hf := (if_pos h).symm.trans hf
      refine tm_wk (lv' := [some (.ref 10), some (.int x1), some (.int x2), none, none, none]) ⟨Or.inr rfl, Or.inr rfl, Or.inr rfl, Or.inl rfl, Or.inl rfl, Or.inl rfl, trivial⟩ ?_
      exact j_Ro_add_b26 isRo_10 C G hf
    · have hf := (if_neg h).symm.trans hf
      refine tm_w C tfo_Ro to_Ro_add 3 rfl rfl rfl ⟨rfl, trivial⟩ ?_
      refine tm_b C to_Ro_add rfl rfl (fun h => ?_) (fun h => ?_)
      · have hf := (if_pos h).symm.trans hf
        refine tm_wk (lv' := [some (.ref 10), some (.int x1), some (.int x2), none, none, none]) ⟨Or.inr rfl, Or.inr rfl, Or.inr rfl, Or.inl rfl, Or.inl rfl, Or.inl rfl, trivial⟩ ?_
        exact j_Ro_add_b26 isRo_10 C G hf
      · have hf := (if_neg h).symm.trans hf
        obtain ⟨c1, hf⟩ := tm_iteN hf
        refine tm_w C tfo_Ro to_Ro_add 5 rfl rfl rfl ⟨rfl, ⟨_, rfl, c1⟩, rfl, trivial⟩ ?_
        refine tm_b C to_Ro_add rfl rfl (fun h => ?_) (fun h => ?_)
        · have hf := (if_pos h).symm.trans hf
          obtain ⟨c2, hf⟩ := tm_iteN hf
          obtain ⟨c3, hf⟩ := tm_iteN hf
          refine tm_w C tfo_Ro to_Ro_add 26 rfl rfl rfl ⟨rfl, ⟨_, rfl, c2⟩, rfl, (by decide), (by decide), rfl, rfl, ⟨_, rfl, c3⟩, trivial⟩ ?_
          refine tm_ldc2 (v := (255 : Int64)) C (tm_in 587 (by decide +kernel) rfl) (tm_get_d to_Ro_add rfl) ?_
          refine tm_w C tfo_Ro to_Ro_add 1 rfl rfl rfl trivial ?_
          refine tm_ldc2 (v := (-1 : Int64)) C (tm_in 588 (by decide +kernel) rfl) (tm_get_d to_Ro_add rfl) ?_
          obtain ⟨c4, hf⟩ := tm_iteN hf
          obtain ⟨c5, hf⟩ := tm_iteN hf
          refine tm_w C tfo_Ro to_Ro_add 17 rfl rfl rfl ⟨⟨_, rfl, c4⟩, rfl, ⟨_, rfl, c5⟩, trivial⟩ ?_
          cases hf
          exact tm_ei C G to_Ro_add rfl rfl (Nat.le_refl _) rfl ⟨rfl, rfl⟩
        · have hf := (if_neg h).symm.trans hf
          refine tm_wk (lv' := [some (.ref 10), some (.int x1), some (.int x2), none, none, none]) ⟨Or.inr rfl, Or.inr rfl, Or.inr rfl, Or.inl rfl, Or.inl rfl, Or.inl rfl, trivial⟩ ?_
          exact j_Ro_add_b26 isRo_10 C G hf
  · refine tm_w C tfo_Ro to_Ro_add 0 rfl rfl rfl trivial ?_
    refine tm_b C to_Ro_add rfl rfl (fun h => ?_) (fun h => ?_)
    · have hf := (if_pos h).symm.trans hf
      refine tm_wk (lv' := [some (.ref 13), some (.int x1), some (.int x2), none, none, none]) ⟨Or.inr rfl, Or.inr rfl, Or.inr rfl, Or.inl rfl, Or.inl rfl, Or.inl rfl, trivial⟩ ?_
      exact j_Ro_add_b26 isRo_13 C G hf
    · have hf := (if_neg h).symm.trans hf
      refine tm_w C tfo_Ro to_Ro_add 3 rfl rfl rfl ⟨rfl, trivial⟩ ?_
      refine tm_b C to_Ro_add rfl rfl (fun h => ?_) (fun h => ?_)
      · have hf := (if_pos h).symm.trans hf
        refine tm_wk (lv' := [some (.ref 13), some (.int x1), some (.int x2), none, none, none]) ⟨Or.inr rfl, Or.inr rfl, Or.inr rfl, Or.inl rfl, Or.inl rfl, Or.inl rfl, trivial⟩ ?_
        exact j_Ro_add_b26 isRo_13 C G hf
      · have hf := (if_neg h).symm.trans hf
        obtain ⟨c1, hf⟩ := tm_iteN hf
        refine tm_w C tfo_Ro to_Ro_add 5 rfl rfl rfl ⟨rfl, ⟨_, rfl, c1⟩, rfl, trivial⟩ ?_
        refine tm_b C to_Ro_add rfl rfl (fun h => ?_) (fun h => ?_)
        · have hf := (if_pos h).symm.trans hf
          obtain ⟨c2, hf⟩ := tm_iteN hf
          obtain ⟨c3, hf⟩ := tm_iteN hf
          refine tm_w C tfo_Ro to_Ro_add 26 rfl rfl rfl ⟨rfl, ⟨_, rfl, c2⟩, rfl, (by decide), (by decide), rfl, rfl, ⟨_, rfl, c3⟩, trivial⟩ ?_
          refine tm_ldc2 (v := (255 : Int64)) C (tm_in 587 (by decide +kernel) rfl) (tm_get_d to_Ro_add rfl) ?_
          refine tm_w C tfo_Ro to_Ro_add 1 rfl rfl rfl trivial ?_
          refine tm_ldc2 (v := (-1 : Int64)) C (tm_in 588 (by decide +kernel) rfl) (tm_get_d to_Ro_add rfl) ?_
          obtain ⟨c4, hf⟩ := tm_iteN hf
          obtain ⟨c5, hf⟩ := tm_iteN hf
          refine tm_w C tfo_Ro to_Ro_add 17 rfl rfl rfl ⟨⟨_, rfl, c4⟩, rfl, ⟨_, rfl, c5⟩, trivial⟩ ?_
          cases hf
          exact tm_ei C G to_Ro_add rfl rfl (Nat.le_refl _) rfl ⟨rfl, rfl⟩
        · have hf := (if_neg h).symm.trans hf
          refine tm_wk (lv' := [some (.ref 13), some (.int x1), some (.int x2), none, none, none]) ⟨Or.inr rfl, Or.inr rfl, Or.inr rfl, Or.inl rfl, Or.inl rfl, Or.inl rfl, trivial⟩ ?_
          exact j_Ro_add_b26 isRo_13 C G hf
  · refine tm_w C tfo_Ro to_Ro_add 0 rfl rfl rfl trivial ?_
    refine tm_b C to_Ro_add rfl rfl (fun h => ?_) (fun h => ?_)
    · have hf := (if_pos h).symm.trans hf
      refine tm_wk (lv' := [some (.ref 23), some (.int x1), some (.int x2), none, none, none]) ⟨Or.inr rfl, Or.inr rfl, Or.inr rfl, Or.inl rfl, Or.inl rfl, Or.inl rfl, trivial⟩ ?_
      exact j_Ro_add_b26 isRo_23 C G hf
    · have hf := (if_neg h).symm.trans hf
      refine tm_w C tfo_Ro to_Ro_add 3 rfl rfl rfl ⟨rfl, trivial⟩ ?_
      refine tm_b C to_Ro_add rfl rfl (fun h => ?_) (fun h => ?_)
      · have hf := (if_pos h).symm.trans hf
        refine tm_wk (lv' := [some (.ref 23), some (.int x1), some (.int x2), none, none, none]) ⟨Or.inr rfl, Or.inr rfl, Or.inr rfl, Or.inl rfl, Or.inl rfl, Or.inl rfl, trivial⟩ ?_
        exact j_Ro_add_b26 isRo_23 C G hf
      · have hf := (if_neg h).symm.trans hf
        obtain ⟨c1, hf⟩ := tm_iteN hf
        refine tm_w C tfo_Ro to_Ro_add 5 rfl rfl rfl ⟨rfl, ⟨_, rfl, c1⟩, rfl, trivial⟩ ?_
        refine tm_b C to_Ro_add rfl rfl (fun h => ?_) (fun h => ?_)
        · have hf := (if_pos h).symm.trans hf
          obtain ⟨c2, hf⟩ := tm_iteN hf
          obtain ⟨c3, hf⟩ := tm_iteN hf
          refine tm_w C tfo_Ro to_Ro_add 26 rfl rfl rfl ⟨rfl, ⟨_, rfl, c2⟩, rfl, (by decide), (by decide), rfl, rfl, ⟨_, rfl, c3⟩, trivial⟩ ?_
          refine tm_ldc2 (v := (255 : Int64)) C (tm_in 587 (by decide +kernel) rfl) (tm_get_d to_Ro_add rfl) ?_
          refine tm_w C tfo_Ro to_Ro_add 1 rfl rfl rfl trivial ?_
          refine tm_ldc2 (v := (-1 : Int64)) C (tm_in 588 (by decide +kernel) rfl) (tm_get_d to_Ro_add rfl) ?_
          obtain ⟨c4, hf⟩ := tm_iteN hf
          obtain ⟨c5, hf⟩ := tm_iteN hf
          refine tm_w C tfo_Ro to_Ro_add 17 rfl rfl rfl ⟨⟨_, rfl, c4⟩, rfl, ⟨_, rfl, c5⟩, trivial⟩ ?_
          cases hf
          exact tm_ei C G to_Ro_add rfl rfl (Nat.le_refl _) rfl ⟨rfl, rfl⟩
        · have hf := (if_neg h).symm.trans hf
          refine tm_wk (lv' := [some (.ref 23), some (.int x1), some (.int x2), none, none, none]) ⟨Or.inr rfl, Or.inr rfl, Or.inr rfl, Or.inl rfl, Or.inl rfl, Or.inl rfl, trivial⟩ ?_
          exact j_Ro_add_b26 isRo_23 C G hf
  · refine tm_w C tfo_Ro to_Ro_add 0 rfl rfl rfl trivial ?_
    refine tm_b C to_Ro_add rfl rfl (fun h => ?_) (fun h => ?_)
    · have hf := (if_pos h).symm.trans hf
      refine tm_wk (lv' := [some (.ref 27), some (.int x1), some (.int x2), none, none, none]) ⟨Or.inr rfl, Or.inr rfl, Or.inr rfl, Or.inl rfl, Or.inl rfl, Or.inl rfl, trivial⟩ ?_
      exact j_Ro_add_b26 isRo_27 C G hf
    · have hf := (if_neg h).symm.trans hf
      refine tm_w C tfo_Ro to_Ro_add 3 rfl rfl rfl ⟨rfl, trivial⟩ ?_
      refine tm_b C to_Ro_add rfl rfl (fun h => ?_) (fun h => ?_)
      · have hf := (if_pos h).symm.trans hf
        refine tm_wk (lv' := [some (.ref 27), some (.int x1), some (.int x2), none, none, none]) ⟨Or.inr rfl, Or.inr rfl, Or.inr rfl, Or.inl rfl, Or.inl rfl, Or.inl rfl, trivial⟩ ?_
        exact j_Ro_add_b26 isRo_27 C G hf
      · have hf := (if_neg h).symm.trans hf
        obtain ⟨c1, hf⟩ := tm_iteN hf
        refine tm_w C tfo_Ro to_Ro_add 5 rfl rfl rfl ⟨rfl, ⟨_, rfl, c1⟩, rfl, trivial⟩ ?_
        refine tm_b C to_Ro_add rfl rfl (fun h => ?_) (fun h => ?_)
        · have hf := (if_pos h).symm.trans hf
          obtain ⟨c2, hf⟩ := tm_iteN hf
          obtain ⟨c3, hf⟩ := tm_iteN hf
          refine tm_w C tfo_Ro to_Ro_add 26 rfl rfl rfl ⟨rfl, ⟨_, rfl, c2⟩, rfl, (by decide), (by decide), rfl, rfl, ⟨_, rfl, c3⟩, trivial⟩ ?_
          refine tm_ldc2 (v := (255 : Int64)) C (tm_in 587 (by decide +kernel) rfl) (tm_get_d to_Ro_add rfl) ?_
          refine tm_w C tfo_Ro to_Ro_add 1 rfl rfl rfl trivial ?_
          refine tm_ldc2 (v := (-1 : Int64)) C (tm_in 588 (by decide +kernel) rfl) (tm_get_d to_Ro_add rfl) ?_
          obtain ⟨c4, hf⟩ := tm_iteN hf
          obtain ⟨c5, hf⟩ := tm_iteN hf
          refine tm_w C tfo_Ro to_Ro_add 17 rfl rfl rfl ⟨⟨_, rfl, c4⟩, rfl, ⟨_, rfl, c5⟩, trivial⟩ ?_
          cases hf
          exact tm_ei C G to_Ro_add rfl rfl (Nat.le_refl _) rfl ⟨rfl, rfl⟩
        · have hf := (if_neg h).symm.trans hf
          refine tm_wk (lv' := [some (.ref 27), some (.int x1), some (.int x2), none, none, none]) ⟨Or.inr rfl, Or.inr rfl, Or.inr rfl, Or.inl rfl, Or.inl rfl, Or.inl rfl, trivial⟩ ?_
          exact j_Ro_add_b26 isRo_27 C G hf
set_option maxRecDepth 100000 in
theorem ct_Ro_add {ex : List tm_Sh} {o : Nat} (ho : isRo o) {p0 : Int32} {p1 : Int32} {mI : tm_I} {mL : tm_L} {r : Int32 × tm_I × tm_L} (hf : f_Ro_add o p0 p1 mI mL = some r) : tm_M ty_Ro_add 0 0 0 0 [.ref o, .int p0, .int p1] (sh0 ++ ex, mI, mL, rr) (tm_is (some (.int r.1)) (sh0 ++ ex, r.2.1, r.2.2, rr)) := by
  refine tm_body (by decide) (Nat.le_of_ble_eq_true rfl) fun Γ C G => ?_
  exact j_Ro_add_b0 ho C G hf
/-! Ro_clear -/
def f_Ro_clear_b20 (o : Nat) (x1 : Int32) (mI : tm_I) (mL : tm_L) : Option (Int32 × tm_I × tm_L) := some (0, mI, mL)
def f_Ro_clear_b0 (o : Nat) (x1 : Int32) (mI : tm_I) (mL : tm_L) : Option (Int32 × tm_I × tm_L) := if x1 < 0 then f_Ro_clear_b20 o x1 mI mL else if (Int32.ofNat (tm_len (rr o 2))) ≤ x1 then f_Ro_clear_b20 o x1 mI mL else if ¬ (x1 < 0 ∨ (tm_len (rr o 2)) ≤ Int32.toNatClampNeg x1) then f_Ro_clear_b20 o x1 (tm_up mI (rr o 2) (Int32.toNatClampNeg x1) (0 : Int32)) mL else none
abbrev f_Ro_clear (o : Nat) (p0 : Int32) (mI : tm_I) (mL : tm_L) : Option (Int32 × tm_I × tm_L) := f_Ro_clear_b0 o p0 mI mL
set_option maxRecDepth 100000 in
set_option maxHeartbeats 4000000 in
theorem j_Ro_clear_b20 {Γ : tm_G} {ex : List tm_Sh} {av : List Value} {X0 : tm_X} {o : Nat} (ho : isRo o) {r : Int32 × tm_I × tm_L} (C : tm_C Γ ty_Ro_clear.1.cls ty_Ro_clear.2.1 ty_Ro_clear.2.2.1) (G : tm_Γ ty_Ro_clear 0 0 0 0 av X0 (tm_is none (sh0 ++ ex, r.2.1, r.2.2, rr)) Γ) {x1 : Int32} {mI : tm_I} {mL : tm_L} (hf : f_Ro_clear_b20 o x1 mI mL = some r) : tm_T Γ 2 0 0 20 [some (.ref o), some (.int x1)] [] (sh0 ++ ex) mI mL rr := by
  have Ro := G.ro
  unfold f_Ro_clear_b20 at hf
  rcases ho with rfl | rfl | rfl | rfl | rfl | rfl
  · cases hf
    exact tm_ev C G to_Ro_clear rfl rfl (Nat.le_refl _) ⟨rfl, rfl⟩
  · cases hf
    exact tm_ev C G to_Ro_clear rfl rfl (Nat.le_refl _) ⟨rfl, rfl⟩
  · cases hf
    exact tm_ev C G to_Ro_clear rfl rfl (Nat.le_refl _) ⟨rfl, rfl⟩
  · cases hf
    exact tm_ev C G to_Ro_clear rfl rfl (Nat.le_refl _) ⟨rfl, rfl⟩
  · cases hf
    exact tm_ev C G to_Ro_clear rfl rfl (Nat.le_refl _) ⟨rfl, rfl⟩
  · cases hf
    exact tm_ev C G to_Ro_clear rfl rfl (Nat.le_refl _) ⟨rfl, rfl⟩
set_option maxRecDepth 100000 in
set_option maxHeartbeats 4000000 in
theorem j_Ro_clear_b0 {Γ : tm_G} {ex : List tm_Sh} {av : List Value} {X0 : tm_X} {o : Nat} (ho : isRo o) {r : Int32 × tm_I × tm_L} (C : tm_C Γ ty_Ro_clear.1.cls ty_Ro_clear.2.1 ty_Ro_clear.2.2.1) (G : tm_Γ ty_Ro_clear 0 0 0 0 av X0 (tm_is none (sh0 ++ ex, r.2.1, r.2.2, rr)) Γ) {x1 : Int32} {mI : tm_I} {mL : tm_L} (hf : f_Ro_clear_b0 o x1 mI mL = some r) : tm_T Γ 2 0 0 0 [some (.ref o), some (.int x1)] [] (sh0 ++ ex) mI mL rr := by
  have Ro := G.ro
  unfold f_Ro_clear_b0 at hf
  rcases ho with rfl | rfl | rfl | rfl | rfl | rfl
  · refine tm_w C tfo_Ro to_Ro_clear 0 rfl rfl rfl trivial ?_
    refine tm_b C to_Ro_clear rfl rfl (fun h => ?_) (fun h => ?_)
    · have hf := (if_pos h).symm.trans hf
      refine tm_wk (lv' := [some (.ref 2), some (.int x1)]) ⟨Or.inr rfl, Or.inr rfl, trivial⟩ ?_
      exact j_Ro_clear_b20 isRo_2 C G hf
    · have hf := (if_neg h).symm.trans hf
      refine tm_w C tfo_Ro to_Ro_clear 3 rfl rfl rfl ⟨rfl, trivial⟩ ?_
      refine tm_b C to_Ro_clear rfl rfl (fun h => ?_) (fun h => ?_)
      · have hf := (if_pos h).symm.trans hf
        refine tm_wk (lv' := [some (.ref 2), some (.int x1)]) ⟨Or.inr rfl, Or.inr rfl, trivial⟩ ?_
        exact j_Ro_clear_b20 isRo_2 C G hf
      · have hf := (if_neg h).symm.trans hf
        obtain ⟨c1, hf⟩ := tm_iteN hf
        refine tm_w C tfo_Ro to_Ro_clear 4 rfl rfl rfl ⟨rfl, ⟨_, rfl, c1⟩, trivial⟩ ?_
        refine tm_wk (lv' := [some (.ref 2), some (.int x1)]) ⟨Or.inr rfl, Or.inr rfl, trivial⟩ ?_
        exact j_Ro_clear_b20 isRo_2 C G hf
  · refine tm_w C tfo_Ro to_Ro_clear 0 rfl rfl rfl trivial ?_
    refine tm_b C to_Ro_clear rfl rfl (fun h => ?_) (fun h => ?_)
    · have hf := (if_pos h).symm.trans hf
      refine tm_wk (lv' := [some (.ref 5), some (.int x1)]) ⟨Or.inr rfl, Or.inr rfl, trivial⟩ ?_
      exact j_Ro_clear_b20 isRo_5 C G hf
    · have hf := (if_neg h).symm.trans hf
      refine tm_w C tfo_Ro to_Ro_clear 3 rfl rfl rfl ⟨rfl, trivial⟩ ?_
      refine tm_b C to_Ro_clear rfl rfl (fun h => ?_) (fun h => ?_)
      · have hf := (if_pos h).symm.trans hf
        refine tm_wk (lv' := [some (.ref 5), some (.int x1)]) ⟨Or.inr rfl, Or.inr rfl, trivial⟩ ?_
        exact j_Ro_clear_b20 isRo_5 C G hf
      · have hf := (if_neg h).symm.trans hf
        obtain ⟨c1, hf⟩ := tm_iteN hf
        refine tm_w C tfo_Ro to_Ro_clear 4 rfl rfl rfl ⟨rfl, ⟨_, rfl, c1⟩, trivial⟩ ?_
        refine tm_wk (lv' := [some (.ref 5), some (.int x1)]) ⟨Or.inr rfl, Or.inr rfl, trivial⟩ ?_
        exact j_Ro_clear_b20 isRo_5 C G hf
  · refine tm_w C tfo_Ro to_Ro_clear 0 rfl rfl rfl trivial ?_
    refine tm_b C to_Ro_clear rfl rfl (fun h => ?_) (fun h => ?_)
    · have hf := (if_pos h).symm.trans hf
      refine tm_wk (lv' := [some (.ref 10), some (.int x1)]) ⟨Or.inr rfl, Or.inr rfl, trivial⟩ ?_
      exact j_Ro_clear_b20 isRo_10 C G hf
    · have hf := (if_neg h).symm.trans hf
      refine tm_w C tfo_Ro to_Ro_clear 3 rfl rfl rfl ⟨rfl, trivial⟩ ?_
      refine tm_b C to_Ro_clear rfl rfl (fun h => ?_) (fun h => ?_)
      · have hf := (if_pos h).symm.trans hf
        refine tm_wk (lv' := [some (.ref 10), some (.int x1)]) ⟨Or.inr rfl, Or.inr rfl, trivial⟩ ?_
        exact j_Ro_clear_b20 isRo_10 C G hf
      · have hf := (if_neg h).symm.trans hf
        obtain ⟨c1, hf⟩ := tm_iteN hf
        refine tm_w C tfo_Ro to_Ro_clear 4 rfl rfl rfl ⟨rfl, ⟨_, rfl, c1⟩, trivial⟩ ?_
        refine tm_wk (lv' := [some (.ref 10), some (.int x1)]) ⟨Or.inr rfl, Or.inr rfl, trivial⟩ ?_
        exact j_Ro_clear_b20 isRo_10 C G hf
  · refine tm_w C tfo_Ro to_Ro_clear 0 rfl rfl rfl trivial ?_
    refine tm_b C to_Ro_clear rfl rfl (fun h => ?_) (fun h => ?_)
    · have hf := (if_pos h).symm.trans hf
      refine tm_wk (lv' := [some (.ref 13), some (.int x1)]) ⟨Or.inr rfl, Or.inr rfl, trivial⟩ ?_
      exact j_Ro_clear_b20 isRo_13 C G hf
    · have hf := (if_neg h).symm.trans hf
      refine tm_w C tfo_Ro to_Ro_clear 3 rfl rfl rfl ⟨rfl, trivial⟩ ?_
      refine tm_b C to_Ro_clear rfl rfl (fun h => ?_) (fun h => ?_)
      · have hf := (if_pos h).symm.trans hf
        refine tm_wk (lv' := [some (.ref 13), some (.int x1)]) ⟨Or.inr rfl, Or.inr rfl, trivial⟩ ?_
        exact j_Ro_clear_b20 isRo_13 C G hf
      · have hf := (if_neg h).symm.trans hf
        obtain ⟨c1, hf⟩ := tm_iteN hf
        refine tm_w C tfo_Ro to_Ro_clear 4 rfl rfl rfl ⟨rfl, ⟨_, rfl, c1⟩, trivial⟩ ?_
        refine tm_wk (lv' := [some (.ref 13), some (.int x1)]) ⟨Or.inr rfl, Or.inr rfl, trivial⟩ ?_
        exact j_Ro_clear_b20 isRo_13 C G hf
  · refine tm_w C tfo_Ro to_Ro_clear 0 rfl rfl rfl trivial ?_
    refine tm_b C to_Ro_clear rfl rfl (fun h => ?_) (fun h => ?_)
    · have hf := (if_pos h).symm.trans hf
      refine tm_wk (lv' := [some (.ref 23), some (.int x1)]) ⟨Or.inr rfl, Or.inr rfl, trivial⟩ ?_
      exact j_Ro_clear_b20 isRo_23 C G hf
    · have hf := (if_neg h).symm.trans hf
      refine tm_w C tfo_Ro to_Ro_clear 3 rfl rfl rfl ⟨rfl, trivial⟩ ?_
      refine tm_b C to_Ro_clear rfl rfl (fun h => ?_) (fun h => ?_)
      · have hf := (if_pos h).symm.trans hf
        refine tm_wk (lv' := [some (.ref 23), some (.int x1)]) ⟨Or.inr rfl, Or.inr rfl, trivial⟩ ?_
        exact j_Ro_clear_b20 isRo_23 C G hf
      · have hf := (if_neg h).symm.trans hf
        obtain ⟨c1, hf⟩ := tm_iteN hf
        refine tm_w C tfo_Ro to_Ro_clear 4 rfl rfl rfl ⟨rfl, ⟨_, rfl, c1⟩, trivial⟩ ?_
        refine tm_wk (lv' := [some (.ref 23), some (.int x1)]) ⟨Or.inr rfl, Or.inr rfl, trivial⟩ ?_
        exact j_Ro_clear_b20 isRo_23 C G hf
  · refine tm_w C tfo_Ro to_Ro_clear 0 rfl rfl rfl trivial ?_
    refine tm_b C to_Ro_clear rfl rfl (fun h => ?_) (fun h => ?_)
    · have hf := (if_pos h).symm.trans hf
      refine tm_wk (lv' := [some (.ref 27), some (.int x1)]) ⟨Or.inr rfl, Or.inr rfl, trivial⟩ ?_
      exact j_Ro_clear_b20 isRo_27 C G hf
    · have hf := (if_neg h).symm.trans hf
      refine tm_w C tfo_Ro to_Ro_clear 3 rfl rfl rfl ⟨rfl, trivial⟩ ?_
      refine tm_b C to_Ro_clear rfl rfl (fun h => ?_) (fun h => ?_)
      · have hf := (if_pos h).symm.trans hf
        refine tm_wk (lv' := [some (.ref 27), some (.int x1)]) ⟨Or.inr rfl, Or.inr rfl, trivial⟩ ?_
        exact j_Ro_clear_b20 isRo_27 C G hf
      · have hf := (if_neg h).symm.trans hf
        obtain ⟨c1, hf⟩ := tm_iteN hf
        refine tm_w C tfo_Ro to_Ro_clear 4 rfl rfl rfl ⟨rfl, ⟨_, rfl, c1⟩, trivial⟩ ?_
        refine tm_wk (lv' := [some (.ref 27), some (.int x1)]) ⟨Or.inr rfl, Or.inr rfl, trivial⟩ ?_
        exact j_Ro_clear_b20 isRo_27 C G hf
set_option maxRecDepth 100000 in
theorem ct_Ro_clear {ex : List tm_Sh} {o : Nat} (ho : isRo o) {p0 : Int32} {mI : tm_I} {mL : tm_L} {r : Int32 × tm_I × tm_L} (hf : f_Ro_clear o p0 mI mL = some r) : tm_M ty_Ro_clear 0 0 0 0 [.ref o, .int p0] (sh0 ++ ex, mI, mL, rr) (tm_is none (sh0 ++ ex, r.2.1, r.2.2, rr)) := by
  refine tm_body (by decide) (Nat.le_of_ble_eq_true rfl) fun Γ C G => ?_
  exact j_Ro_clear_b0 ho C G hf
/-! Ro_copy -/
def f_Ro_copy_10_13_b26 (x1 : Int32) (x3 : Int32) (mI : tm_I) (mL : tm_L) : Option (Int32 × tm_I × tm_L) := some (0, mI, mL)
def f_Ro_copy_10_13_b0 (x1 : Int32) (x3 : Int32) (mI : tm_I) (mL : tm_L) : Option (Int32 × tm_I × tm_L) := if x1 < 0 then f_Ro_copy_10_13_b26 x1 x3 mI mL else if (Int32.ofNat 10) ≤ x1 then f_Ro_copy_10_13_b26 x1 x3 mI mL else if x3 < 0 then f_Ro_copy_10_13_b26 x1 x3 mI mL else if x3 < (Int32.ofNat 1) then if ¬ (x3 < 0 ∨ 1 ≤ Int32.toNatClampNeg x3) then (f_Ma_min (mI 14 (Int32.toNatClampNeg x3)) (mI 10 0) mI mL).bind fun v1 => if ¬ (x3 * (v1.2.1 13 1)) < 0 ∧ ¬ (x1 * (v1.2.1 10 1)) < 0 ∧ ¬ ((v1.1 + (7 : Int32)) / (8 : Int32)) < 0 ∧ Int32.toNatClampNeg (x3 * (v1.2.1 13 1)) + Int32.toNatClampNeg ((v1.1 + (7 : Int32)) / (8 : Int32)) ≤ 25 ∧ Int32.toNatClampNeg (x1 * (v1.2.1 10 1)) + Int32.toNatClampNeg ((v1.1 + (7 : Int32)) / (8 : Int32)) ≤ 250 then if ¬ (x1 < 0 ∨ 10 ≤ Int32.toNatClampNeg x1) then some (0, tm_up v1.2.1 11 (Int32.toNatClampNeg x1) v1.1, tm_cpy v1.2.2 15 12 (Int32.toNatClampNeg (x3 * (v1.2.1 13 1))) (Int32.toNatClampNeg (x1 * (v1.2.1 10 1))) (Int32.toNatClampNeg ((v1.1 + (7 : Int32)) / (8 : Int32)))) else none else none else none else f_Ro_copy_10_13_b26 x1 x3 mI mL
abbrev f_Ro_copy_10_13 (p0 : Int32) (p2 : Int32) (mI : tm_I) (mL : tm_L) : Option (Int32 × tm_I × tm_L) := f_Ro_copy_10_13_b0 p0 p2 mI mL
set_option maxRecDepth 100000 in
set_option maxHeartbeats 4000000 in
theorem j_Ro_copy_10_13_b26 {Γ : tm_G} {ex : List tm_Sh} {av : List Value} {X0 : tm_X} {r : Int32 × tm_I × tm_L} (C : tm_C Γ ty_Ro_copy.1.cls ty_Ro_copy.2.1 ty_Ro_copy.2.2.1) (G : tm_Γ ty_Ro_copy 1 26 0 0 av X0 (tm_is none (sh0 ++ ex, r.2.1, r.2.2, rr)) Γ) {x1 : Int32} {x3 : Int32} {mI : tm_I} {mL : tm_L} (hf : f_Ro_copy_10_13_b26 x1 x3 mI mL = some r) : tm_T Γ 5 0 0 26 [some (.ref 10), some (.int x1), some (.ref 13), some (.int x3), none] [] (sh0 ++ ex) mI mL rr := by
  have Ro := G.ro
  unfold f_Ro_copy_10_13_b26 at hf
  cases hf
  exact tm_ev C G to_Ro_copy rfl rfl (Nat.le_refl _) ⟨rfl, rfl⟩
set_option maxRecDepth 100000 in
set_option maxHeartbeats 4000000 in
theorem j_Ro_copy_10_13_b0 {Γ : tm_G} {ex : List tm_Sh} {av : List Value} {X0 : tm_X} {r : Int32 × tm_I × tm_L} (C : tm_C Γ ty_Ro_copy.1.cls ty_Ro_copy.2.1 ty_Ro_copy.2.2.1) (G : tm_Γ ty_Ro_copy 1 26 0 0 av X0 (tm_is none (sh0 ++ ex, r.2.1, r.2.2, rr)) Γ) {x1 : Int32} {x3 : Int32} {mI : tm_I} {mL : tm_L} (hf : f_Ro_copy_10_13_b0 x1 x3 mI mL = some r) : tm_T Γ 5 0 0 0 [some (.ref 10), some (.int x1), some (.ref 13), some (.int x3), none] [] (sh0 ++ ex) mI mL rr := by
  have Ro := G.ro
  unfold f_Ro_copy_10_13_b0 at hf
  refine tm_w C tfo_Ro to_Ro_copy 0 rfl rfl rfl trivial ?_
  refine tm_b C to_Ro_copy rfl rfl (fun h => ?_) (fun h => ?_)
  · have hf := (if_pos h).symm.trans hf
    refine tm_wk (lv' := [some (.ref 10), some (.int x1), some (.ref 13), some (.int x3), none]) ⟨Or.inr rfl, Or.inr rfl, Or.inr rfl, Or.inr rfl, Or.inl rfl, trivial⟩ ?_
    exact j_Ro_copy_10_13_b26 C G hf
  · have hf := (if_neg h).symm.trans hf
    refine tm_w C tfo_Ro to_Ro_copy 3 rfl rfl rfl ⟨rfl, trivial⟩ ?_
    refine tm_b C to_Ro_copy rfl rfl (fun h => ?_) (fun h => ?_)
    · have hf := (if_pos h).symm.trans hf
      refine tm_wk (lv' := [some (.ref 10), some (.int x1), some (.ref 13), some (.int x3), none]) ⟨Or.inr rfl, Or.inr rfl, Or.inr rfl, Or.inr rfl, Or.inl rfl, trivial⟩ ?_
      exact j_Ro_copy_10_13_b26 C G hf
    · have hf := (if_neg h).symm.trans hf
      refine tm_w C tfo_Ro to_Ro_copy 0 rfl rfl rfl trivial ?_
      refine tm_b C to_Ro_copy rfl rfl (fun h => ?_) (fun h => ?_)
      · have hf := (if_pos h).symm.trans hf
        refine tm_wk (lv' := [some (.ref 10), some (.int x1), some (.ref 13), some (.int x3), none]) ⟨Or.inr rfl, Or.inr rfl, Or.inr rfl, Or.inr rfl, Or.inl rfl, trivial⟩ ?_
        exact j_Ro_copy_10_13_b26 C G hf
      · have hf := (if_neg h).symm.trans hf
        refine tm_w C tfo_Ro to_Ro_copy 3 rfl rfl rfl ⟨rfl, trivial⟩ ?_
        refine tm_b C to_Ro_copy rfl rfl (fun h => ?_) (fun h => ?_)
        · have hf := (if_pos h).symm.trans hf
          obtain ⟨c1, hf⟩ := tm_iteN hf
          refine tm_w C tfo_Ro to_Ro_copy 5 rfl rfl rfl ⟨rfl, ⟨_, rfl, c1⟩, rfl, trivial⟩ ?_
          obtain ⟨v1, hv1, hf⟩ := Option.bind_eq_some_iff.mp hf
          refine tm_cS C Ro to_Ro_copy tl_Ro_36 rfl (ct_Ma_min hv1) rfl rfl rfl rfl rfl (Nat.le_refl _) (Nat.le_refl _) ?_
          refine tm_w C tfo_Ro to_Ro_copy 17 rfl rfl rfl ⟨rfl, rfl, rfl, rfl, (by decide), trivial⟩ ?_
          obtain ⟨⟨c21, c22, c23, c24, c25⟩, hf⟩ := tm_iteN hf
          refine tm_copyL C Ro (tm_in 622 (by decide +kernel) rfl) (tm_in 624 (by decide +kernel) rfl) (tm_in 623 (by decide +kernel) rfl) (tm_in 77 (by decide +kernel) rfl) rfl rfl c21 c22 c23 c24 c25 (by decide) ⟨by decide, by decide⟩ (tm_get_d to_Ro_copy rfl) ?_
          obtain ⟨c3, hf⟩ := tm_iteN hf
          refine tm_w C tfo_Ro to_Ro_copy 4 rfl rfl rfl ⟨rfl, ⟨_, rfl, c3⟩, trivial⟩ ?_
          cases hf
          exact tm_ev C G to_Ro_copy rfl rfl (Nat.le_refl _) ⟨rfl, rfl⟩
        · have hf := (if_neg h).symm.trans hf
          refine tm_wk (lv' := [some (.ref 10), some (.int x1), some (.ref 13), some (.int x3), none]) ⟨Or.inr rfl, Or.inr rfl, Or.inr rfl, Or.inr rfl, Or.inl rfl, trivial⟩ ?_
          exact j_Ro_copy_10_13_b26 C G hf
set_option maxRecDepth 100000 in
theorem ct_Ro_copy_10_13 {ex : List tm_Sh} {p0 : Int32} {p2 : Int32} {mI : tm_I} {mL : tm_L} {r : Int32 × tm_I × tm_L} (hf : f_Ro_copy_10_13 p0 p2 mI mL = some r) : tm_M ty_Ro_copy 1 26 0 0 [.ref 10, .int p0, .ref 13, .int p2] (sh0 ++ ex, mI, mL, rr) (tm_is none (sh0 ++ ex, r.2.1, r.2.2, rr)) := by
  refine tm_body (by decide) (Nat.le_of_ble_eq_true rfl) fun Γ C G => ?_
  exact j_Ro_copy_10_13_b0 C G hf
/-! Ro_copy -/
def f_Ro_copy_27_13_b26 (x1 : Int32) (x3 : Int32) (mI : tm_I) (mL : tm_L) : Option (Int32 × tm_I × tm_L) := some (0, mI, mL)
def f_Ro_copy_27_13_b0 (x1 : Int32) (x3 : Int32) (mI : tm_I) (mL : tm_L) : Option (Int32 × tm_I × tm_L) := if x1 < 0 then f_Ro_copy_27_13_b26 x1 x3 mI mL else if (Int32.ofNat 1) ≤ x1 then f_Ro_copy_27_13_b26 x1 x3 mI mL else if x3 < 0 then f_Ro_copy_27_13_b26 x1 x3 mI mL else if x3 < (Int32.ofNat 1) then if ¬ (x3 < 0 ∨ 1 ≤ Int32.toNatClampNeg x3) then (f_Ma_min (mI 14 (Int32.toNatClampNeg x3)) (mI 27 0) mI mL).bind fun v1 => if ¬ (x3 * (v1.2.1 13 1)) < 0 ∧ ¬ (x1 * (v1.2.1 27 1)) < 0 ∧ ¬ ((v1.1 + (7 : Int32)) / (8 : Int32)) < 0 ∧ Int32.toNatClampNeg (x3 * (v1.2.1 13 1)) + Int32.toNatClampNeg ((v1.1 + (7 : Int32)) / (8 : Int32)) ≤ 25 ∧ Int32.toNatClampNeg (x1 * (v1.2.1 27 1)) + Int32.toNatClampNeg ((v1.1 + (7 : Int32)) / (8 : Int32)) ≤ 25 then if ¬ (x1 < 0 ∨ 1 ≤ Int32.toNatClampNeg x1) then some (0, tm_up v1.2.1 28 (Int32.toNatClampNeg x1) v1.1, tm_cpy v1.2.2 15 29 (Int32.toNatClampNeg (x3 * (v1.2.1 13 1))) (Int32.toNatClampNeg (x1 * (v1.2.1 27 1))) (Int32.toNatClampNeg ((v1.1 + (7 : Int32)) / (8 : Int32)))) else none else none else none else f_Ro_copy_27_13_b26 x1 x3 mI mL
abbrev f_Ro_copy_27_13 (p0 : Int32) (p2 : Int32) (mI : tm_I) (mL : tm_L) : Option (Int32 × tm_I × tm_L) := f_Ro_copy_27_13_b0 p0 p2 mI mL
set_option maxRecDepth 100000 in
set_option maxHeartbeats 4000000 in
theorem j_Ro_copy_27_13_b26 {Γ : tm_G} {ex : List tm_Sh} {av : List Value} {X0 : tm_X} {r : Int32 × tm_I × tm_L} (C : tm_C Γ ty_Ro_copy.1.cls ty_Ro_copy.2.1 ty_Ro_copy.2.2.1) (G : tm_Γ ty_Ro_copy 1 26 0 0 av X0 (tm_is none (sh0 ++ ex, r.2.1, r.2.2, rr)) Γ) {x1 : Int32} {x3 : Int32} {mI : tm_I} {mL : tm_L} (hf : f_Ro_copy_27_13_b26 x1 x3 mI mL = some r) : tm_T Γ 5 0 0 26 [some (.ref 27), some (.int x1), some (.ref 13), some (.int x3), none] [] (sh0 ++ ex) mI mL rr := by
  have Ro := G.ro
  unfold f_Ro_copy_27_13_b26 at hf
  cases hf
  exact tm_ev C G to_Ro_copy rfl rfl (Nat.le_refl _) ⟨rfl, rfl⟩
set_option maxRecDepth 100000 in
set_option maxHeartbeats 4000000 in
theorem j_Ro_copy_27_13_b0 {Γ : tm_G} {ex : List tm_Sh} {av : List Value} {X0 : tm_X} {r : Int32 × tm_I × tm_L} (C : tm_C Γ ty_Ro_copy.1.cls ty_Ro_copy.2.1 ty_Ro_copy.2.2.1) (G : tm_Γ ty_Ro_copy 1 26 0 0 av X0 (tm_is none (sh0 ++ ex, r.2.1, r.2.2, rr)) Γ) {x1 : Int32} {x3 : Int32} {mI : tm_I} {mL : tm_L} (hf : f_Ro_copy_27_13_b0 x1 x3 mI mL = some r) : tm_T Γ 5 0 0 0 [some (.ref 27), some (.int x1), some (.ref 13), some (.int x3), none] [] (sh0 ++ ex) mI mL rr := by
  have Ro := G.ro
  unfold f_Ro_copy_27_13_b0 at hf
  refine tm_w C tfo_Ro to_Ro_copy 0 rfl rfl rfl trivial ?_
  refine tm_b C to_Ro_copy rfl rfl (fun h => ?_) (fun h => ?_)
  · have hf := (if_pos h).symm.trans hf
    refine tm_wk (lv' := [some (.ref 27), some (.int x1), some (.ref 13), some (.int x3), none]) ⟨Or.inr rfl, Or.inr rfl, Or.inr rfl, Or.inr rfl, Or.inl rfl, trivial⟩ ?_
    exact j_Ro_copy_27_13_b26 C G hf
  · have hf := (if_neg h).symm.trans hf
    refine tm_w C tfo_Ro to_Ro_copy 3 rfl rfl rfl ⟨rfl, trivial⟩ ?_
    refine tm_b C to_Ro_copy rfl rfl (fun h => ?_) (fun h => ?_)
    · have hf := (if_pos h).symm.trans hf
      refine tm_wk (lv' := [some (.ref 27), some (.int x1), some (.ref 13), some (.int x3), none]) ⟨Or.inr rfl, Or.inr rfl, Or.inr rfl, Or.inr rfl, Or.inl rfl, trivial⟩ ?_
      exact j_Ro_copy_27_13_b26 C G hf
    · have hf := (if_neg h).symm.trans hf
      refine tm_w C tfo_Ro to_Ro_copy 0 rfl rfl rfl trivial ?_
      refine tm_b C to_Ro_copy rfl rfl (fun h => ?_) (fun h => ?_)
      · have hf := (if_pos h).symm.trans hf
        refine tm_wk (lv' := [some (.ref 27), some (.int x1), some (.ref 13), some (.int x3), none]) ⟨Or.inr rfl, Or.inr rfl, Or.inr rfl, Or.inr rfl, Or.inl rfl, trivial⟩ ?_
        exact j_Ro_copy_27_13_b26 C G hf
      · have hf := (if_neg h).symm.trans hf
        refine tm_w C tfo_Ro to_Ro_copy 3 rfl rfl rfl ⟨rfl, trivial⟩ ?_
        refine tm_b C to_Ro_copy rfl rfl (fun h => ?_) (fun h => ?_)
        · have hf := (if_pos h).symm.trans hf
          obtain ⟨c1, hf⟩ := tm_iteN hf
          refine tm_w C tfo_Ro to_Ro_copy 5 rfl rfl rfl ⟨rfl, ⟨_, rfl, c1⟩, rfl, trivial⟩ ?_
          obtain ⟨v1, hv1, hf⟩ := Option.bind_eq_some_iff.mp hf
          refine tm_cS C Ro to_Ro_copy tl_Ro_36 rfl (ct_Ma_min hv1) rfl rfl rfl rfl rfl (Nat.le_refl _) (Nat.le_refl _) ?_
          refine tm_w C tfo_Ro to_Ro_copy 17 rfl rfl rfl ⟨rfl, rfl, rfl, rfl, (by decide), trivial⟩ ?_
          obtain ⟨⟨c21, c22, c23, c24, c25⟩, hf⟩ := tm_iteN hf
          refine tm_copyL C Ro (tm_in 622 (by decide +kernel) rfl) (tm_in 624 (by decide +kernel) rfl) (tm_in 623 (by decide +kernel) rfl) (tm_in 77 (by decide +kernel) rfl) rfl rfl c21 c22 c23 c24 c25 (by decide) ⟨by decide, by decide⟩ (tm_get_d to_Ro_copy rfl) ?_
          obtain ⟨c3, hf⟩ := tm_iteN hf
          refine tm_w C tfo_Ro to_Ro_copy 4 rfl rfl rfl ⟨rfl, ⟨_, rfl, c3⟩, trivial⟩ ?_
          cases hf
          exact tm_ev C G to_Ro_copy rfl rfl (Nat.le_refl _) ⟨rfl, rfl⟩
        · have hf := (if_neg h).symm.trans hf
          refine tm_wk (lv' := [some (.ref 27), some (.int x1), some (.ref 13), some (.int x3), none]) ⟨Or.inr rfl, Or.inr rfl, Or.inr rfl, Or.inr rfl, Or.inl rfl, trivial⟩ ?_
          exact j_Ro_copy_27_13_b26 C G hf
set_option maxRecDepth 100000 in
theorem ct_Ro_copy_27_13 {ex : List tm_Sh} {p0 : Int32} {p2 : Int32} {mI : tm_I} {mL : tm_L} {r : Int32 × tm_I × tm_L} (hf : f_Ro_copy_27_13 p0 p2 mI mL = some r) : tm_M ty_Ro_copy 1 26 0 0 [.ref 27, .int p0, .ref 13, .int p2] (sh0 ++ ex, mI, mL, rr) (tm_is none (sh0 ++ ex, r.2.1, r.2.2, rr)) := by
  refine tm_body (by decide) (Nat.le_of_ble_eq_true rfl) fun Γ C G => ?_
  exact j_Ro_copy_27_13_b0 C G hf
/-! Ro_copy -/
def f_Ro_copy_27_10_b26 (x1 : Int32) (x3 : Int32) (mI : tm_I) (mL : tm_L) : Option (Int32 × tm_I × tm_L) := some (0, mI, mL)
def f_Ro_copy_27_10_b0 (x1 : Int32) (x3 : Int32) (mI : tm_I) (mL : tm_L) : Option (Int32 × tm_I × tm_L) := if x1 < 0 then f_Ro_copy_27_10_b26 x1 x3 mI mL else if (Int32.ofNat 1) ≤ x1 then f_Ro_copy_27_10_b26 x1 x3 mI mL else if x3 < 0 then f_Ro_copy_27_10_b26 x1 x3 mI mL else if x3 < (Int32.ofNat 10) then if ¬ (x3 < 0 ∨ 10 ≤ Int32.toNatClampNeg x3) then (f_Ma_min (mI 11 (Int32.toNatClampNeg x3)) (mI 27 0) mI mL).bind fun v1 => if ¬ (x3 * (v1.2.1 10 1)) < 0 ∧ ¬ (x1 * (v1.2.1 27 1)) < 0 ∧ ¬ ((v1.1 + (7 : Int32)) / (8 : Int32)) < 0 ∧ Int32.toNatClampNeg (x3 * (v1.2.1 10 1)) + Int32.toNatClampNeg ((v1.1 + (7 : Int32)) / (8 : Int32)) ≤ 250 ∧ Int32.toNatClampNeg (x1 * (v1.2.1 27 1)) + Int32.toNatClampNeg ((v1.1 + (7 : Int32)) / (8 : Int32)) ≤ 25 then if ¬ (x1 < 0 ∨ 1 ≤ Int32.toNatClampNeg x1) then some (0, tm_up v1.2.1 28 (Int32.toNatClampNeg x1) v1.1, tm_cpy v1.2.2 12 29 (Int32.toNatClampNeg (x3 * (v1.2.1 10 1))) (Int32.toNatClampNeg (x1 * (v1.2.1 27 1))) (Int32.toNatClampNeg ((v1.1 + (7 : Int32)) / (8 : Int32)))) else none else none else none else f_Ro_copy_27_10_b26 x1 x3 mI mL
abbrev f_Ro_copy_27_10 (p0 : Int32) (p2 : Int32) (mI : tm_I) (mL : tm_L) : Option (Int32 × tm_I × tm_L) := f_Ro_copy_27_10_b0 p0 p2 mI mL
set_option maxRecDepth 100000 in
set_option maxHeartbeats 4000000 in
theorem j_Ro_copy_27_10_b26 {Γ : tm_G} {ex : List tm_Sh} {av : List Value} {X0 : tm_X} {r : Int32 × tm_I × tm_L} (C : tm_C Γ ty_Ro_copy.1.cls ty_Ro_copy.2.1 ty_Ro_copy.2.2.1) (G : tm_Γ ty_Ro_copy 1 26 0 0 av X0 (tm_is none (sh0 ++ ex, r.2.1, r.2.2, rr)) Γ) {x1 : Int32} {x3 : Int32} {mI : tm_I} {mL : tm_L} (hf : f_Ro_copy_27_10_b26 x1 x3 mI mL = some r) : tm_T Γ 5 0 0 26 [some (.ref 27), some (.int x1), some (.ref 10), some (.int x3), none] [] (sh0 ++ ex) mI mL rr := by
  have Ro := G.ro
  unfold f_Ro_copy_27_10_b26 at hf
  cases hf
  exact tm_ev C G to_Ro_copy rfl rfl (Nat.le_refl _) ⟨rfl, rfl⟩
set_option maxRecDepth 100000 in
set_option maxHeartbeats 4000000 in
theorem j_Ro_copy_27_10_b0 {Γ : tm_G} {ex : List tm_Sh} {av : List Value} {X0 : tm_X} {r : Int32 × tm_I × tm_L} (C : tm_C Γ ty_Ro_copy.1.cls ty_Ro_copy.2.1 ty_Ro_copy.2.2.1) (G : tm_Γ ty_Ro_copy 1 26 0 0 av X0 (tm_is none (sh0 ++ ex, r.2.1, r.2.2, rr)) Γ) {x1 : Int32} {x3 : Int32} {mI : tm_I} {mL : tm_L} (hf : f_Ro_copy_27_10_b0 x1 x3 mI mL = some r) : tm_T Γ 5 0 0 0 [some (.ref 27), some (.int x1), some (.ref 10), some (.int x3), none] [] (sh0 ++ ex) mI mL rr := by
  have Ro := G.ro
  unfold f_Ro_copy_27_10_b0 at hf
  refine tm_w C tfo_Ro to_Ro_copy 0 rfl rfl rfl trivial ?_
  refine tm_b C to_Ro_copy rfl rfl (fun h => ?_) (fun h => ?_)
  · have hf := (if_pos h).symm.trans hf
    refine tm_wk (lv' := [some (.ref 27), some (.int x1), some (.ref 10), some (.int x3), none]) ⟨Or.inr rfl, Or.inr rfl, Or.inr rfl, Or.inr rfl, Or.inl rfl, trivial⟩ ?_
    exact j_Ro_copy_27_10_b26 C G hf
  · have hf := (if_neg h).symm.trans hf
    refine tm_w C tfo_Ro to_Ro_copy 3 rfl rfl rfl ⟨rfl, trivial⟩ ?_
    refine tm_b C to_Ro_copy rfl rfl (fun h => ?_) (fun h => ?_)
    · have hf := (if_pos h).symm.trans hf
      refine tm_wk (lv' := [some (.ref 27), some (.int x1), some (.ref 10), some (.int x3), none]) ⟨Or.inr rfl, Or.inr rfl, Or.inr rfl, Or.inr rfl, Or.inl rfl, trivial⟩ ?_
      exact j_Ro_copy_27_10_b26 C G hf
    · have hf := (if_neg h).symm.trans hf
      refine tm_w C tfo_Ro to_Ro_copy 0 rfl rfl rfl trivial ?_
      refine tm_b C to_Ro_copy rfl rfl (fun h => ?_) (fun h => ?_)
      · have hf := (if_pos h).symm.trans hf
        refine tm_wk (lv' := [some (.ref 27), some (.int x1), some (.ref 10), some (.int x3), none]) ⟨Or.inr rfl, Or.inr rfl, Or.inr rfl, Or.inr rfl, Or.inl rfl, trivial⟩ ?_
        exact j_Ro_copy_27_10_b26 C G hf
      · have hf := (if_neg h).symm.trans hf
        refine tm_w C tfo_Ro to_Ro_copy 3 rfl rfl rfl ⟨rfl, trivial⟩ ?_
        refine tm_b C to_Ro_copy rfl rfl (fun h => ?_) (fun h => ?_)
        · have hf := (if_pos h).symm.trans hf
          obtain ⟨c1, hf⟩ := tm_iteN hf
          refine tm_w C tfo_Ro to_Ro_copy 5 rfl rfl rfl ⟨rfl, ⟨_, rfl, c1⟩, rfl, trivial⟩ ?_
          obtain ⟨v1, hv1, hf⟩ := Option.bind_eq_some_iff.mp hf
          refine tm_cS C Ro to_Ro_copy tl_Ro_36 rfl (ct_Ma_min hv1) rfl rfl rfl rfl rfl (Nat.le_refl _) (Nat.le_refl _) ?_
          refine tm_w C tfo_Ro to_Ro_copy 17 rfl rfl rfl ⟨rfl, rfl, rfl, rfl, (by decide), trivial⟩ ?_
          obtain ⟨⟨c21, c22, c23, c24, c25⟩, hf⟩ := tm_iteN hf
          refine tm_copyL C Ro (tm_in 622 (by decide +kernel) rfl) (tm_in 624 (by decide +kernel) rfl) (tm_in 623 (by decide +kernel) rfl) (tm_in 77 (by decide +kernel) rfl) rfl rfl c21 c22 c23 c24 c25 (by decide) ⟨by decide, by decide⟩ (tm_get_d to_Ro_copy rfl) ?_
          obtain ⟨c3, hf⟩ := tm_iteN hf
          refine tm_w C tfo_Ro to_Ro_copy 4 rfl rfl rfl ⟨rfl, ⟨_, rfl, c3⟩, trivial⟩ ?_
          cases hf
          exact tm_ev C G to_Ro_copy rfl rfl (Nat.le_refl _) ⟨rfl, rfl⟩
        · have hf := (if_neg h).symm.trans hf
          refine tm_wk (lv' := [some (.ref 27), some (.int x1), some (.ref 10), some (.int x3), none]) ⟨Or.inr rfl, Or.inr rfl, Or.inr rfl, Or.inr rfl, Or.inl rfl, trivial⟩ ?_
          exact j_Ro_copy_27_10_b26 C G hf
set_option maxRecDepth 100000 in
theorem ct_Ro_copy_27_10 {ex : List tm_Sh} {p0 : Int32} {p2 : Int32} {mI : tm_I} {mL : tm_L} {r : Int32 × tm_I × tm_L} (hf : f_Ro_copy_27_10 p0 p2 mI mL = some r) : tm_M ty_Ro_copy 1 26 0 0 [.ref 27, .int p0, .ref 10, .int p2] (sh0 ++ ex, mI, mL, rr) (tm_is none (sh0 ++ ex, r.2.1, r.2.2, rr)) := by
  refine tm_body (by decide) (Nat.le_of_ble_eq_true rfl) fun Γ C G => ?_
  exact j_Ro_copy_27_10_b0 C G hf
/-! Ro_copy -/
def f_Ro_copy_23_27_b26 (x1 : Int32) (x3 : Int32) (mI : tm_I) (mL : tm_L) : Option (Int32 × tm_I × tm_L) := some (0, mI, mL)
def f_Ro_copy_23_27_b0 (x1 : Int32) (x3 : Int32) (mI : tm_I) (mL : tm_L) : Option (Int32 × tm_I × tm_L) := if x1 < 0 then f_Ro_copy_23_27_b26 x1 x3 mI mL else if (Int32.ofNat 120) ≤ x1 then f_Ro_copy_23_27_b26 x1 x3 mI mL else if x3 < 0 then f_Ro_copy_23_27_b26 x1 x3 mI mL else if x3 < (Int32.ofNat 1) then if ¬ (x3 < 0 ∨ 1 ≤ Int32.toNatClampNeg x3) then (f_Ma_min (mI 28 (Int32.toNatClampNeg x3)) (mI 23 0) mI mL).bind fun v1 => if ¬ (x3 * (v1.2.1 27 1)) < 0 ∧ ¬ (x1 * (v1.2.1 23 1)) < 0 ∧ ¬ ((v1.1 + (7 : Int32)) / (8 : Int32)) < 0 ∧ Int32.toNatClampNeg (x3 * (v1.2.1 27 1)) + Int32.toNatClampNeg ((v1.1 + (7 : Int32)) / (8 : Int32)) ≤ 25 ∧ Int32.toNatClampNeg (x1 * (v1.2.1 23 1)) + Int32.toNatClampNeg ((v1.1 + (7 : Int32)) / (8 : Int32)) ≤ 3000 then if ¬ (x1 < 0 ∨ 120 ≤ Int32.toNatClampNeg x1) then some (0, tm_up v1.2.1 24 (Int32.toNatClampNeg x1) v1.1, tm_cpy v1.2.2 29 25 (Int32.toNatClampNeg (x3 * (v1.2.1 27 1))) (Int32.toNatClampNeg (x1 * (v1.2.1 23 1))) (Int32.toNatClampNeg ((v1.1 + (7 : Int32)) / (8 : Int32)))) else none else none else none else f_Ro_copy_23_27_b26 x1 x3 mI mL
abbrev f_Ro_copy_23_27 (p0 : Int32) (p2 : Int32) (mI : tm_I) (mL : tm_L) : Option (Int32 × tm_I × tm_L) := f_Ro_copy_23_27_b0 p0 p2 mI mL
set_option maxRecDepth 100000 in
set_option maxHeartbeats 4000000 in
theorem j_Ro_copy_23_27_b26 {Γ : tm_G} {ex : List tm_Sh} {av : List Value} {X0 : tm_X} {r : Int32 × tm_I × tm_L} (C : tm_C Γ ty_Ro_copy.1.cls ty_Ro_copy.2.1 ty_Ro_copy.2.2.1) (G : tm_Γ ty_Ro_copy 1 26 0 0 av X0 (tm_is none (sh0 ++ ex, r.2.1, r.2.2, rr)) Γ) {x1 : Int32} {x3 : Int32} {mI : tm_I} {mL : tm_L} (hf : f_Ro_copy_23_27_b26 x1 x3 mI mL = some r) : tm_T Γ 5 0 0 26 [some (.ref 23), some (.int x1), some (.ref 27), some (.int x3), none] [] (sh0 ++ ex) mI mL rr := by
  have Ro := G.ro
  unfold f_Ro_copy_23_27_b26 at hf
  cases hf
  exact tm_ev C G to_Ro_copy rfl rfl (Nat.le_refl _) ⟨rfl, rfl⟩
set_option maxRecDepth 100000 in
set_option maxHeartbeats 4000000 in
theorem j_Ro_copy_23_27_b0 {Γ : tm_G} {ex : List tm_Sh} {av : List Value} {X0 : tm_X} {r : Int32 × tm_I × tm_L} (C : tm_C Γ ty_Ro_copy.1.cls ty_Ro_copy.2.1 ty_Ro_copy.2.2.1) (G : tm_Γ ty_Ro_copy 1 26 0 0 av X0 (tm_is none (sh0 ++ ex, r.2.1, r.2.2, rr)) Γ) {x1 : Int32} {x3 : Int32} {mI : tm_I} {mL : tm_L} (hf : f_Ro_copy_23_27_b0 x1 x3 mI mL = some r) : tm_T Γ 5 0 0 0 [some (.ref 23), some (.int x1), some (.ref 27), some (.int x3), none] [] (sh0 ++ ex) mI mL rr := by
  have Ro := G.ro
  unfold f_Ro_copy_23_27_b0 at hf
  refine tm_w C tfo_Ro to_Ro_copy 0 rfl rfl rfl trivial ?_
  refine tm_b C to_Ro_copy rfl rfl (fun h => ?_) (fun h => ?_)
  · have hf := (if_pos h).symm.trans hf
    refine tm_wk (lv' := [some (.ref 23), some (.int x1), some (.ref 27), some (.int x3), none]) ⟨Or.inr rfl, Or.inr rfl, Or.inr rfl, Or.inr rfl, Or.inl rfl, trivial⟩ ?_
    exact j_Ro_copy_23_27_b26 C G hf
  · have hf := (if_neg h).symm.trans hf
    refine tm_w C tfo_Ro to_Ro_copy 3 rfl rfl rfl ⟨rfl, trivial⟩ ?_
    refine tm_b C to_Ro_copy rfl rfl (fun h => ?_) (fun h => ?_)
    · have hf := (if_pos h).symm.trans hf
      refine tm_wk (lv' := [some (.ref 23), some (.int x1), some (.ref 27), some (.int x3), none]) ⟨Or.inr rfl, Or.inr rfl, Or.inr rfl, Or.inr rfl, Or.inl rfl, trivial⟩ ?_
      exact j_Ro_copy_23_27_b26 C G hf
    · have hf := (if_neg h).symm.trans hf
      refine tm_w C tfo_Ro to_Ro_copy 0 rfl rfl rfl trivial ?_
      refine tm_b C to_Ro_copy rfl rfl (fun h => ?_) (fun h => ?_)
      · have hf := (if_pos h).symm.trans hf
        refine tm_wk (lv' := [some (.ref 23), some (.int x1), some (.ref 27), some (.int x3), none]) ⟨Or.inr rfl, Or.inr rfl, Or.inr rfl, Or.inr rfl, Or.inl rfl, trivial⟩ ?_
        exact j_Ro_copy_23_27_b26 C G hf
      · have hf := (if_neg h).symm.trans hf
        refine tm_w C tfo_Ro to_Ro_copy 3 rfl rfl rfl ⟨rfl, trivial⟩ ?_
        refine tm_b C to_Ro_copy rfl rfl (fun h => ?_) (fun h => ?_)
        · have hf := (if_pos h).symm.trans hf
          obtain ⟨c1, hf⟩ := tm_iteN hf
          refine tm_w C tfo_Ro to_Ro_copy 5 rfl rfl rfl ⟨rfl, ⟨_, rfl, c1⟩, rfl, trivial⟩ ?_
          obtain ⟨v1, hv1, hf⟩ := Option.bind_eq_some_iff.mp hf
          refine tm_cS C Ro to_Ro_copy tl_Ro_36 rfl (ct_Ma_min hv1) rfl rfl rfl rfl rfl (Nat.le_refl _) (Nat.le_refl _) ?_
          refine tm_w C tfo_Ro to_Ro_copy 17 rfl rfl rfl ⟨rfl, rfl, rfl, rfl, (by decide), trivial⟩ ?_
          obtain ⟨⟨c21, c22, c23, c24, c25⟩, hf⟩ := tm_iteN hf
          refine tm_copyL C Ro (tm_in 622 (by decide +kernel) rfl) (tm_in 624 (by decide +kernel) rfl) (tm_in 623 (by decide +kernel) rfl) (tm_in 77 (by decide +kernel) rfl) rfl rfl c21 c22 c23 c24 c25 (by decide) ⟨by decide, by decide⟩ (tm_get_d to_Ro_copy rfl) ?_
          obtain ⟨c3, hf⟩ := tm_iteN hf
          refine tm_w C tfo_Ro to_Ro_copy 4 rfl rfl rfl ⟨rfl, ⟨_, rfl, c3⟩, trivial⟩ ?_
          cases hf
          exact tm_ev C G to_Ro_copy rfl rfl (Nat.le_refl _) ⟨rfl, rfl⟩
        · have hf := (if_neg h).symm.trans hf
          refine tm_wk (lv' := [some (.ref 23), some (.int x1), some (.ref 27), some (.int x3), none]) ⟨Or.inr rfl, Or.inr rfl, Or.inr rfl, Or.inr rfl, Or.inl rfl, trivial⟩ ?_
          exact j_Ro_copy_23_27_b26 C G hf
set_option maxRecDepth 100000 in
theorem ct_Ro_copy_23_27 {ex : List tm_Sh} {p0 : Int32} {p2 : Int32} {mI : tm_I} {mL : tm_L} {r : Int32 × tm_I × tm_L} (hf : f_Ro_copy_23_27 p0 p2 mI mL = some r) : tm_M ty_Ro_copy 1 26 0 0 [.ref 23, .int p0, .ref 27, .int p2] (sh0 ++ ex, mI, mL, rr) (tm_is none (sh0 ++ ex, r.2.1, r.2.2, rr)) := by
  refine tm_body (by decide) (Nat.le_of_ble_eq_true rfl) fun Γ C G => ?_
  exact j_Ro_copy_23_27_b0 C G hf
