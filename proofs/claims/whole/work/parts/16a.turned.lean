/-! Ma_max -/
def f_Ma_max_b10 (x0 : Int32) (x1 : Int32) (s0 : Int32) (mI : tm_I) (mL : tm_L) : Option (Int32 × tm_I × tm_L) := some (s0, mI, mL)
def f_Ma_max_b0 (x0 : Int32) (x1 : Int32) (mI : tm_I) (mL : tm_L) : Option (Int32 × tm_I × tm_L) := if x0 < x1 then f_Ma_max_b10 x0 x1 x1 mI mL else f_Ma_max_b10 x0 x1 x0 mI mL
abbrev f_Ma_max (p0 : Int32) (p1 : Int32) (mI : tm_I) (mL : tm_L) : Option (Int32 × tm_I × tm_L) := f_Ma_max_b0 p0 p1 mI mL
set_option maxRecDepth 100000 in
set_option maxHeartbeats 4000000 in
theorem j_Ma_max_b10 {Γ : tm_G} {sh : List tm_Sh} {mR : tm_R} {av : List Value} {X0 : tm_X} {r : Int32 × tm_I × tm_L} (C : tm_C Γ ty_Ma_max.1.cls ty_Ma_max.2.1 ty_Ma_max.2.2.1) (G : tm_Γ ty_Ma_max 0 0 0 0 av X0 (tm_is (some (.int r.1)) (sh, r.2.1, r.2.2, mR)) Γ) {x0 : Int32} {x1 : Int32} {s0 : Int32} {mI : tm_I} {mL : tm_L} (hf : f_Ma_max_b10 x0 x1 s0 mI mL = some r) : tm_T Γ 2 0 0 10 [some (.int x0), some (.int x1)] [.int s0] sh mI mL mR := by
  have Ro := G.ro
  unfold f_Ma_max_b10 at hf
  cases hf
  exact tm_ei C G to_Ma_max rfl rfl (Nat.le_refl _) rfl ⟨rfl, rfl⟩
set_option maxRecDepth 100000 in
set_option maxHeartbeats 4000000 in
theorem j_Ma_max_b0 {Γ : tm_G} {sh : List tm_Sh} {mR : tm_R} {av : List Value} {X0 : tm_X} {r : Int32 × tm_I × tm_L} (C : tm_C Γ ty_Ma_max.1.cls ty_Ma_max.2.1 ty_Ma_max.2.2.1) (G : tm_Γ ty_Ma_max 0 0 0 0 av X0 (tm_is (some (.int r.1)) (sh, r.2.1, r.2.2, mR)) Γ) {x0 : Int32} {x1 : Int32} {mI : tm_I} {mL : tm_L} (hf : f_Ma_max_b0 x0 x1 mI mL = some r) : tm_T Γ 2 0 0 0 [some (.int x0), some (.int x1)] [] sh mI mL mR := by
  have Ro := G.ro
  unfold f_Ma_max_b0 at hf
  refine tm_w C tfo_none to_Ma_max 1 rfl rfl rfl trivial ?_
  refine tm_b C to_Ma_max rfl rfl (fun h => ?_) (fun h => ?_)
  · have hf := (if_pos h).symm.trans hf
    refine tm_w C tfo_none to_Ma_max 0 rfl rfl rfl trivial ?_
    refine tm_wk (lv' := [some (.int x0), some (.int x1)]) ⟨Or.inr rfl, Or.inr rfl, trivial⟩ ?_
    exact j_Ma_max_b10 C G hf
  · have hf := (if_neg h).symm.trans hf
    refine tm_w C tfo_none to_Ma_max 1 rfl rfl rfl trivial ?_
    refine tm_wk (lv' := [some (.int x0), some (.int x1)]) ⟨Or.inr rfl, Or.inr rfl, trivial⟩ ?_
    exact j_Ma_max_b10 C G hf
set_option maxRecDepth 100000 in
theorem ct_Ma_max {sh : List tm_Sh} {mR : tm_R} {p0 : Int32} {p1 : Int32} {mI : tm_I} {mL : tm_L} {r : Int32 × tm_I × tm_L} (hf : f_Ma_max p0 p1 mI mL = some r) : tm_M ty_Ma_max 0 0 0 0 [.int p0, .int p1] (sh, mI, mL, mR) (tm_is (some (.int r.1)) (sh, r.2.1, r.2.2, mR)) := by
  refine tm_bodyF (by decide +kernel) (Nat.le_of_ble_eq_true rfl) fun Γ C G => ?_
  exact j_Ma_max_b0 C G hf
/-! Ma_min -/
def f_Ma_min_b10 (x0 : Int32) (x1 : Int32) (s0 : Int32) (mI : tm_I) (mL : tm_L) : Option (Int32 × tm_I × tm_L) := some (s0, mI, mL)
def f_Ma_min_b0 (x0 : Int32) (x1 : Int32) (mI : tm_I) (mL : tm_L) : Option (Int32 × tm_I × tm_L) := if x1 < x0 then f_Ma_min_b10 x0 x1 x1 mI mL else f_Ma_min_b10 x0 x1 x0 mI mL
abbrev f_Ma_min (p0 : Int32) (p1 : Int32) (mI : tm_I) (mL : tm_L) : Option (Int32 × tm_I × tm_L) := f_Ma_min_b0 p0 p1 mI mL
set_option maxRecDepth 100000 in
set_option maxHeartbeats 4000000 in
theorem j_Ma_min_b10 {Γ : tm_G} {sh : List tm_Sh} {mR : tm_R} {av : List Value} {X0 : tm_X} {r : Int32 × tm_I × tm_L} (C : tm_C Γ ty_Ma_min.1.cls ty_Ma_min.2.1 ty_Ma_min.2.2.1) (G : tm_Γ ty_Ma_min 0 0 0 0 av X0 (tm_is (some (.int r.1)) (sh, r.2.1, r.2.2, mR)) Γ) {x0 : Int32} {x1 : Int32} {s0 : Int32} {mI : tm_I} {mL : tm_L} (hf : f_Ma_min_b10 x0 x1 s0 mI mL = some r) : tm_T Γ 2 0 0 10 [some (.int x0), some (.int x1)] [.int s0] sh mI mL mR := by
  have Ro := G.ro
  unfold f_Ma_min_b10 at hf
  cases hf
  exact tm_ei C G to_Ma_min rfl rfl (Nat.le_refl _) rfl ⟨rfl, rfl⟩
set_option maxRecDepth 100000 in
set_option maxHeartbeats 4000000 in
theorem j_Ma_min_b0 {Γ : tm_G} {sh : List tm_Sh} {mR : tm_R} {av : List Value} {X0 : tm_X} {r : Int32 × tm_I × tm_L} (C : tm_C Γ ty_Ma_min.1.cls ty_Ma_min.2.1 ty_Ma_min.2.2.1) (G : tm_Γ ty_Ma_min 0 0 0 0 av X0 (tm_is (some (.int r.1)) (sh, r.2.1, r.2.2, mR)) Γ) {x0 : Int32} {x1 : Int32} {mI : tm_I} {mL : tm_L} (hf : f_Ma_min_b0 x0 x1 mI mL = some r) : tm_T Γ 2 0 0 0 [some (.int x0), some (.int x1)] [] sh mI mL mR := by
  have Ro := G.ro
  unfold f_Ma_min_b0 at hf
  refine tm_w C tfo_none to_Ma_min 1 rfl rfl rfl trivial ?_
  refine tm_b C to_Ma_min rfl rfl (fun h => ?_) (fun h => ?_)
  · have hf := (if_pos h).symm.trans hf
    refine tm_w C tfo_none to_Ma_min 0 rfl rfl rfl trivial ?_
    refine tm_wk (lv' := [some (.int x0), some (.int x1)]) ⟨Or.inr rfl, Or.inr rfl, trivial⟩ ?_
    exact j_Ma_min_b10 C G hf
  · have hf := (if_neg h).symm.trans hf
    refine tm_w C tfo_none to_Ma_min 1 rfl rfl rfl trivial ?_
    refine tm_wk (lv' := [some (.int x0), some (.int x1)]) ⟨Or.inr rfl, Or.inr rfl, trivial⟩ ?_
    exact j_Ma_min_b10 C G hf
set_option maxRecDepth 100000 in
theorem ct_Ma_min {sh : List tm_Sh} {mR : tm_R} {p0 : Int32} {p1 : Int32} {mI : tm_I} {mL : tm_L} {r : Int32 × tm_I × tm_L} (hf : f_Ma_min p0 p1 mI mL = some r) : tm_M ty_Ma_min 0 0 0 0 [.int p0, .int p1] (sh, mI, mL, mR) (tm_is (some (.int r.1)) (sh, r.2.1, r.2.2, mR)) := by
  refine tm_bodyF (by decide +kernel) (Nat.le_of_ble_eq_true rfl) fun Γ C G => ?_
  exact j_Ma_min_b0 C G hf
/-! Ma_floorMod -/
def f_Ma_floorMod_b18 (x0 : Int32) (x1 : Int32) (x2 : Int32) (mI : tm_I) (mL : tm_L) : Option (Int32 × tm_I × tm_L) := some (x2, mI, mL)
def f_Ma_floorMod_b0 (x0 : Int32) (x1 : Int32) (mI : tm_I) (mL : tm_L) : Option (Int32 × tm_I × tm_L) := if ¬ x1 = 0 then if 0 ≤ (x0 ^^^ x1) then f_Ma_floorMod_b18 x0 x1 (x0 - x0 / x1 * x1) mI mL else if (x0 - x0 / x1 * x1) = 0 then f_Ma_floorMod_b18 x0 x1 (x0 - x0 / x1 * x1) mI mL else some (((x0 - x0 / x1 * x1) + x1), mI, mL) else none
abbrev f_Ma_floorMod (p0 : Int32) (p1 : Int32) (mI : tm_I) (mL : tm_L) : Option (Int32 × tm_I × tm_L) := f_Ma_floorMod_b0 p0 p1 mI mL
set_option maxRecDepth 100000 in
set_option maxHeartbeats 4000000 in
theorem j_Ma_floorMod_b18 {Γ : tm_G} {sh : List tm_Sh} {mR : tm_R} {av : List Value} {X0 : tm_X} {r : Int32 × tm_I × tm_L} (C : tm_C Γ ty_Ma_floorMod.1.cls ty_Ma_floorMod.2.1 ty_Ma_floorMod.2.2.1) (G : tm_Γ ty_Ma_floorMod 0 0 0 0 av X0 (tm_is (some (.int r.1)) (sh, r.2.1, r.2.2, mR)) Γ) {x0 : Int32} {x1 : Int32} {x2 : Int32} {mI : tm_I} {mL : tm_L} (hf : f_Ma_floorMod_b18 x0 x1 x2 mI mL = some r) : tm_T Γ 3 0 0 18 [some (.int x0), some (.int x1), some (.int x2)] [] sh mI mL mR := by
  have Ro := G.ro
  unfold f_Ma_floorMod_b18 at hf
  refine tm_w C tfo_none to_Ma_floorMod 0 rfl rfl rfl trivial ?_
  cases hf
  exact tm_ei C G to_Ma_floorMod rfl rfl (Nat.le_refl _) rfl ⟨rfl, rfl⟩
set_option maxRecDepth 100000 in
set_option maxHeartbeats 4000000 in
theorem j_Ma_floorMod_b0 {Γ : tm_G} {sh : List tm_Sh} {mR : tm_R} {av : List Value} {X0 : tm_X} {r : Int32 × tm_I × tm_L} (C : tm_C Γ ty_Ma_floorMod.1.cls ty_Ma_floorMod.2.1 ty_Ma_floorMod.2.2.1) (G : tm_Γ ty_Ma_floorMod 0 0 0 0 av X0 (tm_is (some (.int r.1)) (sh, r.2.1, r.2.2, mR)) Γ) {x0 : Int32} {x1 : Int32} {mI : tm_I} {mL : tm_L} (hf : f_Ma_floorMod_b0 x0 x1 mI mL = some r) : tm_T Γ 3 0 0 0 [some (.int x0), some (.int x1), none] [] sh mI mL mR := by
  have Ro := G.ro
  unfold f_Ma_floorMod_b0 at hf
  obtain ⟨c1, hf⟩ := tm_iteN hf
  refine tm_w C tfo_none to_Ma_floorMod 6 rfl rfl rfl ⟨c1, trivial⟩ ?_
  refine tm_b C to_Ma_floorMod rfl rfl (fun h => ?_) (fun h => ?_)
  · have hf := (if_pos h).symm.trans hf
    refine tm_wk (lv' := [some (.int x0), some (.int x1), some (.int (x0 - x0 / x1 * x1))]) ⟨Or.inr rfl, Or.inr rfl, Or.inr rfl, trivial⟩ ?_
    exact j_Ma_floorMod_b18 C G hf
  · have hf := (if_neg h).symm.trans hf
    refine tm_w C tfo_none to_Ma_floorMod 0 rfl rfl rfl trivial ?_
    refine tm_b C to_Ma_floorMod rfl rfl (fun h => ?_) (fun h => ?_)
    · have hf := (if_pos h).symm.trans hf
      refine tm_wk (lv' := [some (.int x0), some (.int x1), some (.int (x0 - x0 / x1 * x1))]) ⟨Or.inr rfl, Or.inr rfl, Or.inr rfl, trivial⟩ ?_
      exact j_Ma_floorMod_b18 C G hf
    · have hf := (if_neg h).symm.trans hf
      refine tm_w C tfo_none to_Ma_floorMod 2 rfl rfl rfl trivial ?_
      cases hf
      exact tm_ei C G to_Ma_floorMod rfl rfl (Nat.le_refl _) rfl ⟨rfl, rfl⟩
set_option maxRecDepth 100000 in
theorem ct_Ma_floorMod {sh : List tm_Sh} {mR : tm_R} {p0 : Int32} {p1 : Int32} {mI : tm_I} {mL : tm_L} {r : Int32 × tm_I × tm_L} (hf : f_Ma_floorMod p0 p1 mI mL = some r) : tm_M ty_Ma_floorMod 0 0 0 0 [.int p0, .int p1] (sh, mI, mL, mR) (tm_is (some (.int r.1)) (sh, r.2.1, r.2.2, mR)) := by
  refine tm_bodyF (by decide +kernel) (Nat.le_of_ble_eq_true rfl) fun Γ C G => ?_
  exact j_Ma_floorMod_b0 C G hf
