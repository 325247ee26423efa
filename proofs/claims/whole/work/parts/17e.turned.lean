/-! Mo_test -/
def f_Mo_test_b206 (x1 : Int32) (x2 : Int32) (s0 : Int32) (mI : tm_I) (mL : tm_L) : Option (Int32 × tm_I × tm_L) := some (s0, mI, mL)
def f_Mo_test_b205 (x1 : Int32) (x2 : Int32) (mI : tm_I) (mL : tm_L) : Option (Int32 × tm_I × tm_L) := f_Mo_test_b206 x1 x2 x2 mI mL
def f_Mo_test_b186 (x1 : Int32) (x2 : Int32) (mI : tm_I) (mL : tm_L) : Option (Int32 × tm_I × tm_L) := if ¬ x2 = 0 then f_Mo_test_b205 x1 x2 mI mL else if ¬ (mI 39 11) = (2000 : Int32) then f_Mo_test_b205 x1 x2 mI mL else f_Mo_test_b206 x1 x2 (10 : Int32) mI mL
def f_Mo_test_b183 (x1 : Int32) (x2 : Int32) (mI : tm_I) (mL : tm_L) : Option (Int32 × tm_I × tm_L) := f_Mo_test_b186 x1 (10 : Int32) mI mL
def f_Mo_test_b140 (x1 : Int32) (x2 : Int32) (mI : tm_I) (mL : tm_L) : Option (Int32 × tm_I × tm_L) := if ¬ x2 = 0 then f_Mo_test_b186 x1 x2 mI mL else if ¬ x1 = (69 : Int32) then f_Mo_test_b186 x1 x2 mI mL else if (12 : Int32) < ((mI 39 35) + (mI 39 21)) then f_Mo_test_b183 x1 x2 mI mL else if ((mI 39 37) + ((mI 39 21) * (mI 39 26))) ≤ (120 : Int32) then f_Mo_test_b186 x1 x2 mI mL else f_Mo_test_b183 x1 x2 mI mL
def f_Mo_test_b137 (x1 : Int32) (x2 : Int32) (mI : tm_I) (mL : tm_L) : Option (Int32 × tm_I × tm_L) := f_Mo_test_b140 x1 (9 : Int32) mI mL
def f_Mo_test_b105 (x1 : Int32) (x2 : Int32) (mI : tm_I) (mL : tm_L) : Option (Int32 × tm_I × tm_L) := if ¬ x2 = 0 then f_Mo_test_b140 x1 x2 mI mL else if ¬ x1 = (85 : Int32) then f_Mo_test_b140 x1 x2 mI mL else if ¬ ((0 : Int32) < 0 ∨ 4 ≤ Int32.toNatClampNeg (0 : Int32)) then if ¬ ((mI 46 (Int32.toNatClampNeg (0 : Int32))) < 0 ∨ 8 ≤ Int32.toNatClampNeg (mI 46 (Int32.toNatClampNeg (0 : Int32)))) then if (mI 42 (Int32.toNatClampNeg (mI 46 (Int32.toNatClampNeg (0 : Int32))))) = 0 then f_Mo_test_b137 x1 x2 mI mL else if ¬ (mI 39 9) = (4 : Int32) then f_Mo_test_b140 x1 x2 mI mL else f_Mo_test_b137 x1 x2 mI mL else none else none
def f_Mo_test_b90 (x1 : Int32) (x2 : Int32) (mI : tm_I) (mL : tm_L) : Option (Int32 × tm_I × tm_L) := if ¬ x2 = 0 then f_Mo_test_b105 x1 x2 mI mL else if ¬ x1 = (59 : Int32) then f_Mo_test_b105 x1 x2 mI mL else (f_Mo_tryField mI mL).bind fun v1 => f_Mo_test_b105 x1 v1.1 v1.2.1 v1.2.2
def f_Mo_test_b87 (x1 : Int32) (x2 : Int32) (mI : tm_I) (mL : tm_L) : Option (Int32 × tm_I × tm_L) := f_Mo_test_b90 x1 (7 : Int32) mI mL
def f_Mo_test_b60 (x1 : Int32) (x2 : Int32) (mI : tm_I) (mL : tm_L) : Option (Int32 × tm_I × tm_L) := if ¬ x2 = 0 then f_Mo_test_b90 x1 x2 mI mL else if ¬ x1 = (83 : Int32) then f_Mo_test_b90 x1 x2 mI mL else (f_Mo_formSize mI mL).bind fun v2 => if v2.1 < 0 then f_Mo_test_b87 x1 x2 v2.2.1 v2.2.2 else (f_Mo_formSize v2.2.1 v2.2.2).bind fun v3 => if v3.1 ≤ (400 : Int32) then f_Mo_test_b90 x1 x2 v3.2.1 v3.2.2 else f_Mo_test_b87 x1 x2 v3.2.1 v3.2.2
def f_Mo_test_b55 (x1 : Int32) (x2 : Int32) (mI : tm_I) (mL : tm_L) : Option (Int32 × tm_I × tm_L) := (f_Mo_takeData mI mL).bind fun v4 => f_Mo_test_b60 x1 v4.1 v4.2.1 v4.2.2
def f_Mo_test_b38 (x1 : Int32) (x2 : Int32) (s0 : Int32) (mI : tm_I) (mL : tm_L) : Option (Int32 × tm_I × tm_L) := if ¬ s0 = 0 then f_Mo_test_b60 x1 s0 mI mL else if x1 = (88 : Int32) then f_Mo_test_b55 x1 s0 mI mL else if ¬ x1 = (75 : Int32) then f_Mo_test_b60 x1 s0 mI mL else f_Mo_test_b55 x1 s0 mI mL
def f_Mo_test_b0 (x1 : Int32) (mI : tm_I) (mL : tm_L) : Option (Int32 × tm_I × tm_L) := (f_Mo_numbers x1 mI mL).bind fun v5 => if 0 ≤ v5.1 then (f_Mo_mayStand x1 v5.2.1 v5.2.2).bind fun v6 => if ¬ v6.1 = 0 then (f_Mo_takeNumbers x1 v6.2.1 v6.2.2).bind fun v7 => if ¬ v7.1 = 0 then f_Mo_test_b38 x1 v7.1 v7.1 v7.2.1 v7.2.2 else (f_Mo_testRanges x1 v7.2.1 v7.2.2).bind fun v8 => f_Mo_test_b38 x1 v7.1 v8.1 v8.2.1 v8.2.2 else some ((3 : Int32), v6.2.1, v6.2.2) else some ((2 : Int32), v5.2.1, v5.2.2)
abbrev f_Mo_test (p0 : Int32) (mI : tm_I) (mL : tm_L) : Option (Int32 × tm_I × tm_L) := f_Mo_test_b0 p0 mI mL
set_option maxRecDepth 100000 in
set_option maxHeartbeats 4000000 in
theorem j_Mo_test_b206 {Γ : tm_G} {ex : List tm_Sh} {av : List Value} {X0 : tm_X} {r : Int32 × tm_I × tm_L} (C : tm_C Γ ty_Mo_test.1.cls ty_Mo_test.2.1 ty_Mo_test.2.2.1) (G : tm_Γ ty_Mo_test 8 195 0 0 av X0 (tm_is (some (.int r.1)) (sh0 ++ ex, r.2.1, r.2.2, rr)) Γ) {x1 : Int32} {x2 : Int32} {s0 : Int32} {mI : tm_I} {mL : tm_L} (hf : f_Mo_test_b206 x1 x2 s0 mI mL = some r) : tm_T Γ 3 0 0 206 [some (.ref 39), some (.int x1), some (.int x2)] [.int s0] (sh0 ++ ex) mI mL rr := by
  have Ro := G.ro
  unfold f_Mo_test_b206 at hf
  cases hf
  exact tm_ei C G to_Mo_test rfl rfl (Nat.le_refl _) rfl ⟨rfl, rfl⟩
set_option maxRecDepth 100000 in
set_option maxHeartbeats 4000000 in
theorem j_Mo_test_b205 {Γ : tm_G} {ex : List tm_Sh} {av : List Value} {X0 : tm_X} {r : Int32 × tm_I × tm_L} (C : tm_C Γ ty_Mo_test.1.cls ty_Mo_test.2.1 ty_Mo_test.2.2.1) (G : tm_Γ ty_Mo_test 8 195 0 0 av X0 (tm_is (some (.int r.1)) (sh0 ++ ex, r.2.1, r.2.2, rr)) Γ) {x1 : Int32} {x2 : Int32} {mI : tm_I} {mL : tm_L} (hf : f_Mo_test_b205 x1 x2 mI mL = some r) : tm_T Γ 3 0 0 205 [some (.ref 39), some (.int x1), some (.int x2)] [] (sh0 ++ ex) mI mL rr := by
  have Ro := G.ro
  unfold f_Mo_test_b205 at hf
  refine tm_w C tfo_Mo to_Mo_test 0 rfl rfl rfl trivial ?_
  refine tm_wk (lv' := [some (.ref 39), some (.int x1), some (.int x2)]) ⟨Or.inr rfl, Or.inr rfl, Or.inr rfl, trivial⟩ ?_
  exact j_Mo_test_b206 C G hf
set_option maxRecDepth 100000 in
set_option maxHeartbeats 4000000 in
theorem j_Mo_test_b186 {Γ : tm_G} {ex : List tm_Sh} {av : List Value} {X0 : tm_X} {r : Int32 × tm_I × tm_L} (C : tm_C Γ ty_Mo_test.1.cls ty_Mo_test.2.1 ty_Mo_test.2.2.1) (G : tm_Γ ty_Mo_test 8 195 0 0 av X0 (tm_is (some (.int r.1)) (sh0 ++ ex, r.2.1, r.2.2, rr)) Γ) {x1 : Int32} {x2 : Int32} {mI : tm_I} {mL : tm_L} (hf : f_Mo_test_b186 x1 x2 mI mL = some r) : tm_T Γ 3 0 0 186 [some (.ref 39), some (.int x1), some (.int x2)] [] (sh0 ++ ex) mI mL rr := by
  have Ro := G.ro
  unfold f_Mo_test_b186 at hf
  refine tm_w C tfo_Mo to_Mo_test 0 rfl rfl rfl trivial ?_
  refine tm_b C to_Mo_test rfl rfl (fun h => ?_) (fun h => ?_)
  · have hf := (if_pos h).symm.trans hf
    refine tm_wk (lv' := [some (.ref 39), some (.int x1), some (.int x2)]) ⟨Or.inr rfl, Or.inr rfl, Or.inr rfl, trivial⟩ ?_
    exact j_Mo_test_b205 C G hf
  · have hf := (if_neg h).symm.trans hf
    refine tm_w C tfo_Mo to_Mo_test 2 rfl rfl rfl ⟨rfl, trivial⟩ ?_
    refine tm_b C to_Mo_test rfl rfl (fun h => ?_) (fun h => ?_)
    · have hf := (if_pos h).symm.trans hf
      refine tm_wk (lv' := [some (.ref 39), some (.int x1), some (.int x2)]) ⟨Or.inr rfl, Or.inr rfl, Or.inr rfl, trivial⟩ ?_
      exact j_Mo_test_b205 C G hf
    · have hf := (if_neg h).symm.trans hf
      refine tm_w C tfo_Mo to_Mo_test 1 rfl rfl rfl trivial ?_
      refine tm_wk (lv' := [some (.ref 39), some (.int x1), some (.int x2)]) ⟨Or.inr rfl, Or.inr rfl, Or.inr rfl, trivial⟩ ?_
      exact j_Mo_test_b206 C G hf
set_option maxRecDepth 100000 in
set_option maxHeartbeats 4000000 in
theorem j_Mo_test_b183 {Γ : tm_G} {ex : List tm_Sh} {av : List Value} {X0 : tm_X} {r : Int32 × tm_I × tm_L} (C : tm_C Γ ty_Mo_test.1.cls ty_Mo_test.2.1 ty_Mo_test.2.2.1) (G : tm_Γ ty_Mo_test 8 195 0 0 av X0 (tm_is (some (.int r.1)) (sh0 ++ ex, r.2.1, r.2.2, rr)) Γ) {x1 : Int32} {x2 : Int32} {mI : tm_I} {mL : tm_L} (hf : f_Mo_test_b183 x1 x2 mI mL = some r) : tm_T Γ 3 0 0 183 [some (.ref 39), some (.int x1), some (.int x2)] [] (sh0 ++ ex) mI mL rr := by
  have Ro := G.ro
  unfold f_Mo_test_b183 at hf
  refine tm_w C tfo_Mo to_Mo_test 1 rfl rfl rfl trivial ?_
  refine tm_wk (lv' := [some (.ref 39), some (.int x1), some (.int (10 : Int32))]) ⟨Or.inr rfl, Or.inr rfl, Or.inr rfl, trivial⟩ ?_
  exact j_Mo_test_b186 C G hf
set_option maxRecDepth 100000 in
set_option maxHeartbeats 4000000 in
theorem j_Mo_test_b140 {Γ : tm_G} {ex : List tm_Sh} {av : List Value} {X0 : tm_X} {r : Int32 × tm_I × tm_L} (C : tm_C Γ ty_Mo_test.1.cls ty_Mo_test.2.1 ty_Mo_test.2.2.1) (G : tm_Γ ty_Mo_test 8 195 0 0 av X0 (tm_is (some (.int r.1)) (sh0 ++ ex, r.2.1, r.2.2, rr)) Γ) {x1 : Int32} {x2 : Int32} {mI : tm_I} {mL : tm_L} (hf : f_Mo_test_b140 x1 x2 mI mL = some r) : tm_T Γ 3 0 0 140 [some (.ref 39), some (.int x1), some (.int x2)] [] (sh0 ++ ex) mI mL rr := by
  have Ro := G.ro
  unfold f_Mo_test_b140 at hf
  refine tm_w C tfo_Mo to_Mo_test 0 rfl rfl rfl trivial ?_
  refine tm_b C to_Mo_test rfl rfl (fun h => ?_) (fun h => ?_)
  · have hf := (if_pos h).symm.trans hf
    refine tm_wk (lv' := [some (.ref 39), some (.int x1), some (.int x2)]) ⟨Or.inr rfl, Or.inr rfl, Or.inr rfl, trivial⟩ ?_
    exact j_Mo_test_b186 C G hf
  · have hf := (if_neg h).symm.trans hf
    refine tm_w C tfo_Mo to_Mo_test 1 rfl rfl rfl trivial ?_
    refine tm_b C to_Mo_test rfl rfl (fun h => ?_) (fun h => ?_)
    · have hf := (if_pos h).symm.trans hf
      refine tm_wk (lv' := [some (.ref 39), some (.int x1), some (.int x2)]) ⟨Or.inr rfl, Or.inr rfl, Or.inr rfl, trivial⟩ ?_
      exact j_Mo_test_b186 C G hf
    · have hf := (if_neg h).symm.trans hf
      refine tm_w C tfo_Mo to_Mo_test 5 rfl rfl rfl ⟨rfl, rfl, trivial⟩ ?_
      refine tm_b C to_Mo_test rfl rfl (fun h => ?_) (fun h => ?_)
      · have hf := (if_pos h).symm.trans hf
        refine tm_wk (lv' := [some (.ref 39), some (.int x1), some (.int x2)]) ⟨Or.inr rfl, Or.inr rfl, Or.inr rfl, trivial⟩ ?_
        exact j_Mo_test_b183 C G hf
      · have hf := (if_neg h).symm.trans hf
        refine tm_w C tfo_Mo to_Mo_test 8 rfl rfl rfl ⟨rfl, rfl, rfl, trivial⟩ ?_
        refine tm_b C to_Mo_test rfl rfl (fun h => ?_) (fun h => ?_)
        · have hf := (if_pos h).symm.trans hf
          refine tm_wk (lv' := [some (.ref 39), some (.int x1), some (.int x2)]) ⟨Or.inr rfl, Or.inr rfl, Or.inr rfl, trivial⟩ ?_
          exact j_Mo_test_b186 C G hf
        · have hf := (if_neg h).symm.trans hf
          refine tm_wk (lv' := [some (.ref 39), some (.int x1), some (.int x2)]) ⟨Or.inr rfl, Or.inr rfl, Or.inr rfl, trivial⟩ ?_
          exact j_Mo_test_b183 C G hf
set_option maxRecDepth 100000 in
set_option maxHeartbeats 4000000 in
theorem j_Mo_test_b137 {Γ : tm_G} {ex : List tm_Sh} {av : List Value} {X0 : tm_X} {r : Int32 × tm_I × tm_L} (C : tm_C Γ ty_Mo_test.1.cls ty_Mo_test.2.1 ty_Mo_test.2.2.1) (G : tm_Γ ty_Mo_test 8 195 0 0 av X0 (tm_is (some (.int r.1)) (sh0 ++ ex, r.2.1, r.2.2, rr)) Γ) {x1 : Int32} {x2 : Int32} {mI : tm_I} {mL : tm_L} (hf : f_Mo_test_b137 x1 x2 mI mL = some r) : tm_T Γ 3 0 0 137 [some (.ref 39), some (.int x1), some (.int x2)] [] (sh0 ++ ex) mI mL rr := by
  have Ro := G.ro
  unfold f_Mo_test_b137 at hf
  refine tm_w C tfo_Mo to_Mo_test 1 rfl rfl rfl trivial ?_
  refine tm_wk (lv' := [some (.ref 39), some (.int x1), some (.int (9 : Int32))]) ⟨Or.inr rfl, Or.inr rfl, Or.inr rfl, trivial⟩ ?_
  exact j_Mo_test_b140 C G hf
set_option maxRecDepth 100000 in
set_option maxHeartbeats 4000000 in
theorem j_Mo_test_b105 {Γ : tm_G} {ex : List tm_Sh} {av : List Value} {X0 : tm_X} {r : Int32 × tm_I × tm_L} (C : tm_C Γ ty_Mo_test.1.cls ty_Mo_test.2.1 ty_Mo_test.2.2.1) (G : tm_Γ ty_Mo_test 8 195 0 0 av X0 (tm_is (some (.int r.1)) (sh0 ++ ex, r.2.1, r.2.2, rr)) Γ) {x1 : Int32} {x2 : Int32} {mI : tm_I} {mL : tm_L} (hf : f_Mo_test_b105 x1 x2 mI mL = some r) : tm_T Γ 3 0 0 105 [some (.ref 39), some (.int x1), some (.int x2)] [] (sh0 ++ ex) mI mL rr := by
  have Ro := G.ro
  unfold f_Mo_test_b105 at hf
  refine tm_w C tfo_Mo to_Mo_test 0 rfl rfl rfl trivial ?_
  refine tm_b C to_Mo_test rfl rfl (fun h => ?_) (fun h => ?_)
  · have hf := (if_pos h).symm.trans hf
    refine tm_wk (lv' := [some (.ref 39), some (.int x1), some (.int x2)]) ⟨Or.inr rfl, Or.inr rfl, Or.inr rfl, trivial⟩ ?_
    exact j_Mo_test_b140 C G hf
  · have hf := (if_neg h).symm.trans hf
    refine tm_w C tfo_Mo to_Mo_test 1 rfl rfl rfl trivial ?_
    refine tm_b C to_Mo_test rfl rfl (fun h => ?_) (fun h => ?_)
    · have hf := (if_pos h).symm.trans hf
      refine tm_wk (lv' := [some (.ref 39), some (.int x1), some (.int x2)]) ⟨Or.inr rfl, Or.inr rfl, Or.inr rfl, trivial⟩ ?_
      exact j_Mo_test_b140 C G hf
    · have hf := (if_neg h).symm.trans hf
      obtain ⟨c1, hf⟩ := tm_iteN hf
      obtain ⟨c2, hf⟩ := tm_iteN hf
      refine tm_w C tfo_Mo to_Mo_test 6 rfl rfl rfl ⟨rfl, rfl, ⟨_, rfl, c1⟩, ⟨_, rfl, c2⟩, trivial⟩ ?_
      refine tm_b C to_Mo_test rfl rfl (fun h => ?_) (fun h => ?_)
      · have hf := (if_pos h).symm.trans hf
        refine tm_wk (lv' := [some (.ref 39), some (.int x1), some (.int x2)]) ⟨Or.inr rfl, Or.inr rfl, Or.inr rfl, trivial⟩ ?_
        exact j_Mo_test_b137 C G hf
      · have hf := (if_neg h).symm.trans hf
        refine tm_w C tfo_Mo to_Mo_test 2 rfl rfl rfl ⟨rfl, trivial⟩ ?_
        refine tm_b C to_Mo_test rfl rfl (fun h => ?_) (fun h => ?_)
        · have hf := (if_pos h).symm.trans hf
          refine tm_wk (lv' := [some (.ref 39), some (.int x1), some (.int x2)]) ⟨Or.inr rfl, Or.inr rfl, Or.inr rfl, trivial⟩ ?_
          exact j_Mo_test_b140 C G hf
        · have hf := (if_neg h).symm.trans hf
          refine tm_wk (lv' := [some (.ref 39), some (.int x1), some (.int x2)]) ⟨Or.inr rfl, Or.inr rfl, Or.inr rfl, trivial⟩ ?_
          exact j_Mo_test_b137 C G hf
set_option maxRecDepth 100000 in
set_option maxHeartbeats 4000000 in
theorem j_Mo_test_b90 {Γ : tm_G} {ex : List tm_Sh} {av : List Value} {X0 : tm_X} {r : Int32 × tm_I × tm_L} (C : tm_C Γ ty_Mo_test.1.cls ty_Mo_test.2.1 ty_Mo_test.2.2.1) (G : tm_Γ ty_Mo_test 8 195 0 0 av X0 (tm_is (some (.int r.1)) (sh0 ++ ex, r.2.1, r.2.2, rr)) Γ) {x1 : Int32} {x2 : Int32} {mI : tm_I} {mL : tm_L} (hf : f_Mo_test_b90 x1 x2 mI mL = some r) : tm_T Γ 3 0 0 90 [some (.ref 39), some (.int x1), some (.int x2)] [] (sh0 ++ ex) mI mL rr := by
  have Ro := G.ro
  unfold f_Mo_test_b90 at hf
  refine tm_w C tfo_Mo to_Mo_test 0 rfl rfl rfl trivial ?_
  refine tm_b C to_Mo_test rfl rfl (fun h => ?_) (fun h => ?_)
  · have hf := (if_pos h).symm.trans hf
    refine tm_wk (lv' := [some (.ref 39), some (.int x1), some (.int x2)]) ⟨Or.inr rfl, Or.inr rfl, Or.inr rfl, trivial⟩ ?_
    exact j_Mo_test_b105 C G hf
  · have hf := (if_neg h).symm.trans hf
    refine tm_w C tfo_Mo to_Mo_test 1 rfl rfl rfl trivial ?_
    refine tm_b C to_Mo_test rfl rfl (fun h => ?_) (fun h => ?_)
    · have hf := (if_pos h).symm.trans hf
      refine tm_wk (lv' := [some (.ref 39), some (.int x1), some (.int x2)]) ⟨Or.inr rfl, Or.inr rfl, Or.inr rfl, trivial⟩ ?_
      exact j_Mo_test_b105 C G hf
    · have hf := (if_neg h).symm.trans hf
      refine tm_w C tfo_Mo to_Mo_test 0 rfl rfl rfl trivial ?_
      obtain ⟨v1, hv1, hf⟩ := Option.bind_eq_some_iff.mp hf
      refine tm_cV C Ro to_Mo_test tl_Mo_201 rfl (ct_Mo_tryField hv1) rfl rfl rfl rfl rfl rfl rfl (Nat.le_refl _) (Nat.le_refl _) ?_
      refine tm_w C tfo_Mo to_Mo_test 0 rfl rfl rfl trivial ?_
      refine tm_wk (lv' := [some (.ref 39), some (.int x1), some (.int v1.1)]) ⟨Or.inr rfl, Or.inr rfl, Or.inr rfl, trivial⟩ ?_
      exact j_Mo_test_b105 C G hf
set_option maxRecDepth 100000 in
set_option maxHeartbeats 4000000 in
theorem j_Mo_test_b87 {Γ : tm_G} {ex : List tm_Sh} {av : List Value} {X0 : tm_X} {r : Int32 × tm_I × tm_L} (C : tm_C Γ ty_Mo_test.1.cls ty_Mo_test.2.1 ty_Mo_test.2.2.1) (G : tm_Γ ty_Mo_test 8 195 0 0 av X0 (tm_is (some (.int r.1)) (sh0 ++ ex, r.2.1, r.2.2, rr)) Γ) {x1 : Int32} {x2 : Int32} {mI : tm_I} {mL : tm_L} (hf : f_Mo_test_b87 x1 x2 mI mL = some r) : tm_T Γ 3 0 0 87 [some (.ref 39), some (.int x1), some (.int x2)] [] (sh0 ++ ex) mI mL rr := by
  have Ro := G.ro
  unfold f_Mo_test_b87 at hf
  refine tm_w C tfo_Mo to_Mo_test 1 rfl rfl rfl trivial ?_
  refine tm_wk (lv' := [some (.ref 39), some (.int x1), some (.int (7 : Int32))]) ⟨Or.inr rfl, Or.inr rfl, Or.inr rfl, trivial⟩ ?_
  exact j_Mo_test_b90 C G hf
set_option maxRecDepth 100000 in
set_option maxHeartbeats 4000000 in
theorem j_Mo_test_b60 {Γ : tm_G} {ex : List tm_Sh} {av : List Value} {X0 : tm_X} {r : Int32 × tm_I × tm_L} (C : tm_C Γ ty_Mo_test.1.cls ty_Mo_test.2.1 ty_Mo_test.2.2.1) (G : tm_Γ ty_Mo_test 8 195 0 0 av X0 (tm_is (some (.int r.1)) (sh0 ++ ex, r.2.1, r.2.2, rr)) Γ) {x1 : Int32} {x2 : Int32} {mI : tm_I} {mL : tm_L} (hf : f_Mo_test_b60 x1 x2 mI mL = some r) : tm_T Γ 3 0 0 60 [some (.ref 39), some (.int x1), some (.int x2)] [] (sh0 ++ ex) mI mL rr := by
  have Ro := G.ro
  unfold f_Mo_test_b60 at hf
  refine tm_w C tfo_Mo to_Mo_test 0 rfl rfl rfl trivial ?_
  refine tm_b C to_Mo_test rfl rfl (fun h => ?_) (fun h => ?_)
  · have hf := (if_pos h).symm.trans hf
    refine tm_wk (lv' := [some (.ref 39), some (.int x1), some (.int x2)]) ⟨Or.inr rfl, Or.inr rfl, Or.inr rfl, trivial⟩ ?_
    exact j_Mo_test_b90 C G hf
  · have hf := (if_neg h).symm.trans hf
    refine tm_w C tfo_Mo to_Mo_test 1 rfl rfl rfl trivial ?_
    refine tm_b C to_Mo_test rfl rfl (fun h => ?_) (fun h => ?_)
    · have hf := (if_pos h).symm.trans hf
      refine tm_wk (lv' := [some (.ref 39), some (.int x1), some (.int x2)]) ⟨Or.inr rfl, Or.inr rfl, Or.inr rfl, trivial⟩ ?_
      exact j_Mo_test_b90 C G hf
    · have hf := (if_neg h).symm.trans hf
      refine tm_w C tfo_Mo to_Mo_test 0 rfl rfl rfl trivial ?_
      obtain ⟨v2, hv2, hf⟩ := Option.bind_eq_some_iff.mp hf
      refine tm_cV C Ro to_Mo_test tl_Mo_198 rfl (ct_Mo_formSize hv2) rfl rfl rfl rfl rfl rfl rfl (Nat.le_refl _) (Nat.le_refl _) ?_
      refine tm_b C to_Mo_test rfl rfl (fun h => ?_) (fun h => ?_)
      · have hf := (if_pos h).symm.trans hf
        refine tm_wk (lv' := [some (.ref 39), some (.int x1), some (.int x2)]) ⟨Or.inr rfl, Or.inr rfl, Or.inr rfl, trivial⟩ ?_
        exact j_Mo_test_b87 C G hf
      · have hf := (if_neg h).symm.trans hf
        refine tm_w C tfo_Mo to_Mo_test 0 rfl rfl rfl trivial ?_
        obtain ⟨v3, hv3, hf⟩ := Option.bind_eq_some_iff.mp hf
        refine tm_cV C Ro to_Mo_test tl_Mo_198 rfl (ct_Mo_formSize hv3) rfl rfl rfl rfl rfl rfl rfl (Nat.le_refl _) (Nat.le_refl _) ?_
        refine tm_w C tfo_Mo to_Mo_test 0 rfl rfl rfl trivial ?_
        refine tm_b C to_Mo_test rfl rfl (fun h => ?_) (fun h => ?_)
        · have hf := (if_pos h).symm.trans hf
          refine tm_wk (lv' := [some (.ref 39), some (.int x1), some (.int x2)]) ⟨Or.inr rfl, Or.inr rfl, Or.inr rfl, trivial⟩ ?_
          exact j_Mo_test_b90 C G hf
        · have hf := (if_neg h).symm.trans hf
          refine tm_wk (lv' := [some (.ref 39), some (.int x1), some (.int x2)]) ⟨Or.inr rfl, Or.inr rfl, Or.inr rfl, trivial⟩ ?_
          exact j_Mo_test_b87 C G hf
set_option maxRecDepth 100000 in
set_option maxHeartbeats 4000000 in
theorem j_Mo_test_b55 {Γ : tm_G} {ex : List tm_Sh} {av : List Value} {X0 : tm_X} {r : Int32 × tm_I × tm_L} (C : tm_C Γ ty_Mo_test.1.cls ty_Mo_test.2.1 ty_Mo_test.2.2.1) (G : tm_Γ ty_Mo_test 8 195 0 0 av X0 (tm_is (some (.int r.1)) (sh0 ++ ex, r.2.1, r.2.2, rr)) Γ) {x1 : Int32} {x2 : Int32} {mI : tm_I} {mL : tm_L} (hf : f_Mo_test_b55 x1 x2 mI mL = some r) : tm_T Γ 3 0 0 55 [some (.ref 39), some (.int x1), some (.int x2)] [] (sh0 ++ ex) mI mL rr := by
  have Ro := G.ro
  unfold f_Mo_test_b55 at hf
  refine tm_w C tfo_Mo to_Mo_test 0 rfl rfl rfl trivial ?_
  obtain ⟨v4, hv4, hf⟩ := Option.bind_eq_some_iff.mp hf
  refine tm_cV C Ro to_Mo_test tl_Mo_195 rfl (ct_Mo_takeData hv4) rfl rfl rfl rfl rfl rfl rfl (Nat.le_refl _) (Nat.le_refl _) ?_
  refine tm_w C tfo_Mo to_Mo_test 0 rfl rfl rfl trivial ?_
  refine tm_wk (lv' := [some (.ref 39), some (.int x1), some (.int v4.1)]) ⟨Or.inr rfl, Or.inr rfl, Or.inr rfl, trivial⟩ ?_
  exact j_Mo_test_b60 C G hf
set_option maxRecDepth 100000 in
set_option maxHeartbeats 4000000 in
theorem j_Mo_test_b38 {Γ : tm_G} {ex : List tm_Sh} {av : List Value} {X0 : tm_X} {r : Int32 × tm_I × tm_L} (C : tm_C Γ ty_Mo_test.1.cls ty_Mo_test.2.1 ty_Mo_test.2.2.1) (G : tm_Γ ty_Mo_test 8 195 0 0 av X0 (tm_is (some (.int r.1)) (sh0 ++ ex, r.2.1, r.2.2, rr)) Γ) {x1 : Int32} {x2 : Int32} {s0 : Int32} {mI : tm_I} {mL : tm_L} (hf : f_Mo_test_b38 x1 x2 s0 mI mL = some r) : tm_T Γ 3 0 0 38 [some (.ref 39), some (.int x1), some (.int x2)] [.int s0] (sh0 ++ ex) mI mL rr := by
  have Ro := G.ro
  unfold f_Mo_test_b38 at hf
  refine tm_w C tfo_Mo to_Mo_test 1 rfl rfl rfl trivial ?_
  refine tm_b C to_Mo_test rfl rfl (fun h => ?_) (fun h => ?_)
  · have hf := (if_pos h).symm.trans hf
    refine tm_wk (lv' := [some (.ref 39), some (.int x1), some (.int s0)]) ⟨Or.inr rfl, Or.inr rfl, Or.inr rfl, trivial⟩ ?_
    exact j_Mo_test_b60 C G hf
  · have hf := (if_neg h).symm.trans hf
    refine tm_w C tfo_Mo to_Mo_test 1 rfl rfl rfl trivial ?_
    refine tm_b C to_Mo_test rfl rfl (fun h => ?_) (fun h => ?_)
    · have hf := (if_pos h).symm.trans hf
      refine tm_wk (lv' := [some (.ref 39), some (.int x1), some (.int s0)]) ⟨Or.inr rfl, Or.inr rfl, Or.inr rfl, trivial⟩ ?_
      exact j_Mo_test_b55 C G hf
    · have hf := (if_neg h).symm.trans hf
      refine tm_w C tfo_Mo to_Mo_test 1 rfl rfl rfl trivial ?_
      refine tm_b C to_Mo_test rfl rfl (fun h => ?_) (fun h => ?_)
      · have hf := (if_pos h).symm.trans hf
        refine tm_wk (lv' := [some (.ref 39), some (.int x1), some (.int s0)]) ⟨Or.inr rfl, Or.inr rfl, Or.inr rfl, trivial⟩ ?_
        exact j_Mo_test_b60 C G hf
      · have hf := (if_neg h).symm.trans hf
        refine tm_wk (lv' := [some (.ref 39), some (.int x1), some (.int s0)]) ⟨Or.inr rfl, Or.inr rfl, Or.inr rfl, trivial⟩ ?_
        exact j_Mo_test_b55 C G hf
set_option maxRecDepth 100000 in
set_option maxHeartbeats 4000000 in
theorem j_Mo_test_b0 {Γ : tm_G} {ex : List tm_Sh} {av : List Value} {X0 : tm_X} {r : Int32 × tm_I × tm_L} (C : tm_C Γ ty_Mo_test.1.cls ty_Mo_test.2.1 ty_Mo_test.2.2.1) (G : tm_Γ ty_Mo_test 8 195 0 0 av X0 (tm_is (some (.int r.1)) (sh0 ++ ex, r.2.1, r.2.2, rr)) Γ) {x1 : Int32} {mI : tm_I} {mL : tm_L} (hf : f_Mo_test_b0 x1 mI mL = some r) : tm_T Γ 3 0 0 0 [some (.ref 39), some (.int x1), none] [] (sh0 ++ ex) mI mL rr := by
  have Ro := G.ro
  unfold f_Mo_test_b0 at hf
  refine tm_w C tfo_Mo to_Mo_test 0 rfl rfl rfl trivial ?_
  obtain ⟨v5, hv5, hf⟩ := Option.bind_eq_some_iff.mp hf
  refine tm_cS C Ro to_Mo_test tl_Mo_88 rfl (ct_Mo_numbers hv5) rfl rfl rfl rfl rfl (Nat.le_refl _) (Nat.le_refl _) ?_
  refine tm_b C to_Mo_test rfl rfl (fun h => ?_) (fun h => ?_)
  · have hf := (if_pos h).symm.trans hf
    refine tm_w C tfo_Mo to_Mo_test 1 rfl rfl rfl trivial ?_
    obtain ⟨v6, hv6, hf⟩ := Option.bind_eq_some_iff.mp hf
    refine tm_cV C Ro to_Mo_test tl_Mo_186 rfl (ct_Mo_mayStand hv6) rfl rfl rfl rfl rfl rfl rfl (Nat.le_refl _) (Nat.le_refl _) ?_
    refine tm_b C to_Mo_test rfl rfl (fun h => ?_) (fun h => ?_)
    · have hf := (if_pos h).symm.trans hf
      refine tm_w C tfo_Mo to_Mo_test 1 rfl rfl rfl trivial ?_
      obtain ⟨v7, hv7, hf⟩ := Option.bind_eq_some_iff.mp hf
      refine tm_cV C Ro to_Mo_test tl_Mo_189 rfl (ct_Mo_takeNumbers hv7) rfl rfl rfl rfl rfl rfl rfl (Nat.le_refl _) (Nat.le_refl _) ?_
      refine tm_w C tfo_Mo to_Mo_test 1 rfl rfl rfl trivial ?_
      refine tm_b C to_Mo_test rfl rfl (fun h => ?_) (fun h => ?_)
      · have hf := (if_pos h).symm.trans hf
        refine tm_w C tfo_Mo to_Mo_test 0 rfl rfl rfl trivial ?_
        refine tm_wk (lv' := [some (.ref 39), some (.int x1), some (.int v7.1)]) ⟨Or.inr rfl, Or.inr rfl, Or.inr rfl, trivial⟩ ?_
        exact j_Mo_test_b38 C G hf
      · have hf := (if_neg h).symm.trans hf
        refine tm_w C tfo_Mo to_Mo_test 1 rfl rfl rfl trivial ?_
        obtain ⟨v8, hv8, hf⟩ := Option.bind_eq_some_iff.mp hf
        refine tm_cV C Ro to_Mo_test tl_Mo_192 rfl (ct_Mo_testRanges hv8) rfl rfl rfl rfl rfl rfl rfl (Nat.le_refl _) (Nat.le_refl _) ?_
        refine tm_w C tfo_Mo to_Mo_test 0 rfl rfl rfl trivial ?_
        refine tm_wk (lv' := [some (.ref 39), some (.int x1), some (.int v7.1)]) ⟨Or.inr rfl, Or.inr rfl, Or.inr rfl, trivial⟩ ?_
        exact j_Mo_test_b38 C G hf
    · have hf := (if_neg h).symm.trans hf
      refine tm_w C tfo_Mo to_Mo_test 0 rfl rfl rfl trivial ?_
      cases hf
      exact tm_ei C G to_Mo_test rfl rfl (Nat.le_refl _) rfl ⟨rfl, rfl⟩
  · have hf := (if_neg h).symm.trans hf
    refine tm_w C tfo_Mo to_Mo_test 0 rfl rfl rfl trivial ?_
    cases hf
    exact tm_ei C G to_Mo_test rfl rfl (Nat.le_refl _) rfl ⟨rfl, rfl⟩
set_option maxRecDepth 100000 in
theorem ct_Mo_test {ex : List tm_Sh} {p0 : Int32} {mI : tm_I} {mL : tm_L} {r : Int32 × tm_I × tm_L} (hf : f_Mo_test p0 mI mL = some r) : tm_M ty_Mo_test 8 195 0 0 [.ref 39, .int p0] (sh0 ++ ex, mI, mL, rr) (tm_is (some (.int r.1)) (sh0 ++ ex, r.2.1, r.2.2, rr)) := by
  refine tm_body (by decide) (Nat.le_of_ble_eq_true rfl) fun Γ C G => ?_
  exact j_Mo_test_b0 C G hf
/-! Mo_storeForm -/
def f_Mo_storeForm_l19 : Nat → Int32 → Int32 → tm_I → tm_L → Option (Int32 × tm_I × tm_L)
  | 0, _, _, _, _ => none
  | n + 1, x1, x2, mI, mL => if ¬ (x1 < 0 ∨ 8 ≤ Int32.toNatClampNeg x1) then if (mI 42 (Int32.toNatClampNeg x1)) ≤ x2 then some (0, tm_up mI 39 8 ((mI 39 8) - (2 : Int32)), mL) else (f_Mo_next mI mL).bind fun v1 => if ¬ ((((400 : Int32) * x1) + x2) < 0 ∨ 3200 ≤ Int32.toNatClampNeg (((400 : Int32) * x1) + x2)) then (f_Mo_storeForm_l19 n) x1 (x2 + (1 : Int32)) (tm_up v1.2.1 41 (Int32.toNatClampNeg (((400 : Int32) * x1) + x2)) v1.1) v1.2.2 else none else none
def f_Mo_storeForm_b0  (mI : tm_I) (mL : tm_L) : Option (Int32 × tm_I × tm_L) := if ¬ ((0 : Int32) < 0 ∨ 4 ≤ Int32.toNatClampNeg (0 : Int32)) then (f_Mo_formSize mI mL).bind fun v2 => if ¬ ((mI 46 (Int32.toNatClampNeg (0 : Int32))) < 0 ∨ 8 ≤ Int32.toNatClampNeg (mI 46 (Int32.toNatClampNeg (0 : Int32)))) then f_Mo_storeForm_l19 tm_F (mI 46 (Int32.toNatClampNeg (0 : Int32))) (0 : Int32) (tm_up v2.2.1 42 (Int32.toNatClampNeg (mI 46 (Int32.toNatClampNeg (0 : Int32)))) v2.1) v2.2.2 else none else none
abbrev f_Mo_storeForm  (mI : tm_I) (mL : tm_L) : Option (Int32 × tm_I × tm_L) := f_Mo_storeForm_b0  mI mL
set_option maxRecDepth 100000 in
set_option maxHeartbeats 4000000 in
theorem j_Mo_storeForm_l19 {Γ : tm_G} {ex : List tm_Sh} {av : List Value} {X0 : tm_X} {r : Int32 × tm_I × tm_L} (C : tm_C Γ ty_Mo_storeForm.1.cls ty_Mo_storeForm.2.1 ty_Mo_storeForm.2.2.1) (G : tm_Γ ty_Mo_storeForm 2 41 0 0 av X0 (tm_is none (sh0 ++ ex, r.2.1, r.2.2, rr)) Γ) : ∀ (n : Nat) (x1 : Int32) (x2 : Int32) (mI : tm_I) (mL : tm_L), f_Mo_storeForm_l19 n x1 x2 mI mL = some r → tm_T Γ 3 0 0 19 [some (.ref 39), some (.int x1), some (.int x2)] [] (sh0 ++ ex) mI mL rr := by
  have Ro := G.ro
  intro n
  induction n with
  | zero => intro x1 x2 mI mL hf; cases hf
  | succ n ih =>
    intro x1 x2 mI mL hf
    rw [f_Mo_storeForm_l19] at hf
    obtain ⟨c1, hf⟩ := tm_iteN hf
    refine tm_w C tfo_Mo to_Mo_storeForm 4 rfl rfl rfl ⟨rfl, ⟨_, rfl, c1⟩, trivial⟩ ?_
    refine tm_b C to_Mo_storeForm rfl rfl (fun h => ?_) (fun h => ?_)
    · have hf := (if_pos h).symm.trans hf
      refine tm_w C tfo_Mo to_Mo_storeForm 5 rfl rfl rfl ⟨rfl, rfl, trivial⟩ ?_
      cases hf
      exact tm_ev C G to_Mo_storeForm rfl rfl (Nat.le_refl _) ⟨rfl, rfl⟩
    · have hf := (if_neg h).symm.trans hf
      refine tm_w C tfo_Mo to_Mo_storeForm 7 rfl rfl rfl ⟨rfl, trivial⟩ ?_
      obtain ⟨v1, hv1, hf⟩ := Option.bind_eq_some_iff.mp hf
      refine tm_cV C Ro to_Mo_storeForm tl_Mo_95 rfl (ct_Mo_next hv1) rfl rfl rfl rfl rfl rfl rfl (Nat.le_refl _) (Nat.le_refl _) ?_
      obtain ⟨c2, hf⟩ := tm_iteN hf
      refine tm_w C tfo_Mo to_Mo_storeForm 2 rfl rfl rfl ⟨⟨_, rfl, c2⟩, trivial⟩ ?_
      refine tm_wk (lv' := [some (.ref 39), some (.int x1), some (.int (x2 + (1 : Int32)))]) ⟨Or.inr rfl, Or.inr rfl, Or.inr rfl, trivial⟩ ?_
      exact ih _ _ _ _ hf
set_option maxRecDepth 100000 in
set_option maxHeartbeats 4000000 in
theorem j_Mo_storeForm_b0 {Γ : tm_G} {ex : List tm_Sh} {av : List Value} {X0 : tm_X} {r : Int32 × tm_I × tm_L} (C : tm_C Γ ty_Mo_storeForm.1.cls ty_Mo_storeForm.2.1 ty_Mo_storeForm.2.2.1) (G : tm_Γ ty_Mo_storeForm 2 41 0 0 av X0 (tm_is none (sh0 ++ ex, r.2.1, r.2.2, rr)) Γ) {mI : tm_I} {mL : tm_L} (hf : f_Mo_storeForm_b0  mI mL = some r) : tm_T Γ 3 0 0 0 [some (.ref 39), none, none] [] (sh0 ++ ex) mI mL rr := by
  have Ro := G.ro
  unfold f_Mo_storeForm_b0 at hf
  obtain ⟨c3, hf⟩ := tm_iteN hf
  refine tm_w C tfo_Mo to_Mo_storeForm 8 rfl rfl rfl ⟨rfl, ⟨_, rfl, c3⟩, rfl, trivial⟩ ?_
  obtain ⟨v2, hv2, hf⟩ := Option.bind_eq_some_iff.mp hf
  refine tm_cV C Ro to_Mo_storeForm tl_Mo_198 rfl (ct_Mo_formSize hv2) rfl rfl rfl rfl rfl rfl rfl (Nat.le_refl _) (Nat.le_refl _) ?_
  obtain ⟨c4, hf⟩ := tm_iteN hf
  refine tm_w C tfo_Mo to_Mo_storeForm 2 rfl rfl rfl ⟨⟨_, rfl, c4⟩, trivial⟩ ?_
  refine tm_wk (lv' := [some (.ref 39), some (.int (mI 46 (Int32.toNatClampNeg (0 : Int32)))), some (.int (0 : Int32))]) ⟨Or.inr rfl, Or.inr rfl, Or.inr rfl, trivial⟩ ?_
  exact j_Mo_storeForm_l19 C G _ _ _ _ _ hf
set_option maxRecDepth 100000 in
theorem ct_Mo_storeForm {ex : List tm_Sh}  {mI : tm_I} {mL : tm_L} {r : Int32 × tm_I × tm_L} (hf : f_Mo_storeForm  mI mL = some r) : tm_M ty_Mo_storeForm 2 41 0 0 [.ref 39] (sh0 ++ ex, mI, mL, rr) (tm_is none (sh0 ++ ex, r.2.1, r.2.2, rr)) := by
  refine tm_body (by decide) (Nat.le_of_ble_eq_true rfl) fun Γ C G => ?_
  exact j_Mo_storeForm_b0 C G hf
/-! Mo_layForm -/
def f_Mo_layForm_l68 : Nat → Int32 → Int32 → tm_I → tm_L → Option (Int32 × tm_I × tm_L)
  | 0, _, _, _, _ => none
  | n + 1, x1, x2, mI, mL => if x2 < 0 then some (0, mI, mL) else if ¬ ((((400 : Int32) * x1) + x2) < 0 ∨ 3200 ≤ Int32.toNatClampNeg (((400 : Int32) * x1) + x2)) then if ¬ ((mI 39 8) < 0 ∨ 5800 ≤ Int32.toNatClampNeg (mI 39 8)) then (f_Mo_layForm_l68 n) x1 (x2 + (-1 : Int32)) (tm_up (tm_up mI 45 (Int32.toNatClampNeg (mI 39 8)) (mI 41 (Int32.toNatClampNeg (((400 : Int32) * x1) + x2)))) 39 8 (((tm_up mI 45 (Int32.toNatClampNeg (mI 39 8)) (mI 41 (Int32.toNatClampNeg (((400 : Int32) * x1) + x2)))) 39 8) + (1 : Int32))) mL else none else none
def f_Mo_layForm_b26 (x1 : Int32) (s1 : Int32) (mI : tm_I) (mL : tm_L) : Option (Int32 × tm_I × tm_L) := if ¬ (((tm_up (tm_up mI 39 10 s1) 39 9 (((tm_up mI 39 10 s1) 39 9) + (1 : Int32))) 39 8) < 0 ∨ 5800 ≤ Int32.toNatClampNeg ((tm_up (tm_up mI 39 10 s1) 39 9 (((tm_up mI 39 10 s1) 39 9) + (1 : Int32))) 39 8)) then if ¬ (x1 < 0 ∨ 8 ≤ Int32.toNatClampNeg x1) then f_Mo_layForm_l68 tm_F x1 (((tm_up (tm_up (tm_up (tm_up mI 39 10 s1) 39 9 (((tm_up mI 39 10 s1) 39 9) + (1 : Int32))) 45 (Int32.toNatClampNeg ((tm_up (tm_up mI 39 10 s1) 39 9 (((tm_up mI 39 10 s1) 39 9) + (1 : Int32))) 39 8)) (-1 : Int32)) 39 8 (((tm_up (tm_up (tm_up mI 39 10 s1) 39 9 (((tm_up mI 39 10 s1) 39 9) + (1 : Int32))) 45 (Int32.toNatClampNeg ((tm_up (tm_up mI 39 10 s1) 39 9 (((tm_up mI 39 10 s1) 39 9) + (1 : Int32))) 39 8)) (-1 : Int32)) 39 8) + (1 : Int32))) 42 (Int32.toNatClampNeg x1)) - (1 : Int32)) (tm_up (tm_up (tm_up (tm_up mI 39 10 s1) 39 9 (((tm_up mI 39 10 s1) 39 9) + (1 : Int32))) 45 (Int32.toNatClampNeg ((tm_up (tm_up mI 39 10 s1) 39 9 (((tm_up mI 39 10 s1) 39 9) + (1 : Int32))) 39 8)) (-1 : Int32)) 39 8 (((tm_up (tm_up (tm_up mI 39 10 s1) 39 9 (((tm_up mI 39 10 s1) 39 9) + (1 : Int32))) 45 (Int32.toNatClampNeg ((tm_up (tm_up mI 39 10 s1) 39 9 (((tm_up mI 39 10 s1) 39 9) + (1 : Int32))) 39 8)) (-1 : Int32)) 39 8) + (1 : Int32))) mL else none else none
def f_Mo_layForm_b0  (mI : tm_I) (mL : tm_L) : Option (Int32 × tm_I × tm_L) := if ¬ ((0 : Int32) < 0 ∨ 4 ≤ Int32.toNatClampNeg (0 : Int32)) then if ¬ (mI 39 9) = 0 then f_Mo_layForm_b26 (mI 46 (Int32.toNatClampNeg (0 : Int32))) (mI 39 10) mI mL else f_Mo_layForm_b26 (mI 46 (Int32.toNatClampNeg (0 : Int32))) (mI 39 12) mI mL else none
abbrev f_Mo_layForm  (mI : tm_I) (mL : tm_L) : Option (Int32 × tm_I × tm_L) := f_Mo_layForm_b0  mI mL
set_option maxRecDepth 100000 in
set_option maxHeartbeats 4000000 in
theorem j_Mo_layForm_l68 {Γ : tm_G} {ex : List tm_Sh} {av : List Value} {X0 : tm_X} {r : Int32 × tm_I × tm_L} (C : tm_C Γ ty_Mo_layForm.1.cls ty_Mo_layForm.2.1 ty_Mo_layForm.2.2.1) (G : tm_Γ ty_Mo_layForm 0 0 0 0 av X0 (tm_is none (sh0 ++ ex, r.2.1, r.2.2, rr)) Γ) : ∀ (n : Nat) (x1 : Int32) (x2 : Int32) (mI : tm_I) (mL : tm_L), f_Mo_layForm_l68 n x1 x2 mI mL = some r → tm_T Γ 3 0 0 68 [some (.ref 39), some (.int x1), some (.int x2)] [] (sh0 ++ ex) mI mL rr := by
  have Ro := G.ro
  intro n
  induction n with
  | zero => intro x1 x2 mI mL hf; cases hf
  | succ n ih =>
    intro x1 x2 mI mL hf
    rw [f_Mo_layForm_l68] at hf
    refine tm_w C tfo_Mo to_Mo_layForm 0 rfl rfl rfl trivial ?_
    refine tm_b C to_Mo_layForm rfl rfl (fun h => ?_) (fun h => ?_)
    · have hf := (if_pos h).symm.trans hf
      cases hf
      exact tm_ev C G to_Mo_layForm rfl rfl (Nat.le_refl _) ⟨rfl, rfl⟩
    · have hf := (if_neg h).symm.trans hf
      obtain ⟨c1, hf⟩ := tm_iteN hf
      obtain ⟨c2, hf⟩ := tm_iteN hf
      refine tm_w C tfo_Mo to_Mo_layForm 20 rfl rfl rfl ⟨rfl, rfl, rfl, ⟨_, rfl, c1⟩, ⟨_, rfl, c2⟩, rfl, rfl, trivial⟩ ?_
      refine tm_wk (lv' := [some (.ref 39), some (.int x1), some (.int (x2 + (-1 : Int32)))]) ⟨Or.inr rfl, Or.inr rfl, Or.inr rfl, trivial⟩ ?_
      exact ih _ _ _ _ hf
set_option maxRecDepth 100000 in
set_option maxHeartbeats 4000000 in
theorem j_Mo_layForm_b26 {Γ : tm_G} {ex : List tm_Sh} {av : List Value} {X0 : tm_X} {r : Int32 × tm_I × tm_L} (C : tm_C Γ ty_Mo_layForm.1.cls ty_Mo_layForm.2.1 ty_Mo_layForm.2.2.1) (G : tm_Γ ty_Mo_layForm 0 0 0 0 av X0 (tm_is none (sh0 ++ ex, r.2.1, r.2.2, rr)) Γ) {x1 : Int32} {s1 : Int32} {mI : tm_I} {mL : tm_L} (hf : f_Mo_layForm_b26 x1 s1 mI mL = some r) : tm_T Γ 3 0 0 26 [some (.ref 39), some (.int x1), none] [.int s1, .ref 39] (sh0 ++ ex) mI mL rr := by
  have Ro := G.ro
  unfold f_Mo_layForm_b26 at hf
  obtain ⟨c3, hf⟩ := tm_iteN hf
  obtain ⟨c4, hf⟩ := tm_iteN hf
  refine tm_w C tfo_Mo to_Mo_layForm 25 rfl rfl rfl ⟨rfl, rfl, rfl, rfl, rfl, ⟨_, rfl, c3⟩, rfl, rfl, rfl, ⟨_, rfl, c4⟩, trivial⟩ ?_
  refine tm_wk (lv' := [some (.ref 39), some (.int x1), some (.int (((tm_up (tm_up (tm_up (tm_up mI 39 10 s1) 39 9 (((tm_up mI 39 10 s1) 39 9) + (1 : Int32))) 45 (Int32.toNatClampNeg ((tm_up (tm_up mI 39 10 s1) 39 9 (((tm_up mI 39 10 s1) 39 9) + (1 : Int32))) 39 8)) (-1 : Int32)) 39 8 (((tm_up (tm_up (tm_up mI 39 10 s1) 39 9 (((tm_up mI 39 10 s1) 39 9) + (1 : Int32))) 45 (Int32.toNatClampNeg ((tm_up (tm_up mI 39 10 s1) 39 9 (((tm_up mI 39 10 s1) 39 9) + (1 : Int32))) 39 8)) (-1 : Int32)) 39 8) + (1 : Int32))) 42 (Int32.toNatClampNeg x1)) - (1 : Int32)))]) ⟨Or.inr rfl, Or.inr rfl, Or.inr rfl, trivial⟩ ?_
  exact j_Mo_layForm_l68 C G _ _ _ _ _ hf
set_option maxRecDepth 100000 in
set_option maxHeartbeats 4000000 in
theorem j_Mo_layForm_b0 {Γ : tm_G} {ex : List tm_Sh} {av : List Value} {X0 : tm_X} {r : Int32 × tm_I × tm_L} (C : tm_C Γ ty_Mo_layForm.1.cls ty_Mo_layForm.2.1 ty_Mo_layForm.2.2.1) (G : tm_Γ ty_Mo_layForm 0 0 0 0 av X0 (tm_is none (sh0 ++ ex, r.2.1, r.2.2, rr)) Γ) {mI : tm_I} {mL : tm_L} (hf : f_Mo_layForm_b0  mI mL = some r) : tm_T Γ 3 0 0 0 [some (.ref 39), none, none] [] (sh0 ++ ex) mI mL rr := by
  have Ro := G.ro
  unfold f_Mo_layForm_b0 at hf
  obtain ⟨c5, hf⟩ := tm_iteN hf
  refine tm_w C tfo_Mo to_Mo_layForm 7 rfl rfl rfl ⟨rfl, ⟨_, rfl, c5⟩, rfl, trivial⟩ ?_
  refine tm_b C to_Mo_layForm rfl rfl (fun h => ?_) (fun h => ?_)
  · have hf := (if_pos h).symm.trans hf
    refine tm_w C tfo_Mo to_Mo_layForm 1 rfl rfl rfl ⟨rfl, trivial⟩ ?_
    refine tm_wk (lv' := [some (.ref 39), some (.int (mI 46 (Int32.toNatClampNeg (0 : Int32)))), none]) ⟨Or.inr rfl, Or.inr rfl, Or.inl rfl, trivial⟩ ?_
    exact j_Mo_layForm_b26 C G hf
  · have hf := (if_neg h).symm.trans hf
    refine tm_w C tfo_Mo to_Mo_layForm 2 rfl rfl rfl ⟨rfl, trivial⟩ ?_
    refine tm_wk (lv' := [some (.ref 39), some (.int (mI 46 (Int32.toNatClampNeg (0 : Int32)))), none]) ⟨Or.inr rfl, Or.inr rfl, Or.inl rfl, trivial⟩ ?_
    exact j_Mo_layForm_b26 C G hf
set_option maxRecDepth 100000 in
theorem ct_Mo_layForm {ex : List tm_Sh}  {mI : tm_I} {mL : tm_L} {r : Int32 × tm_I × tm_L} (hf : f_Mo_layForm  mI mL = some r) : tm_M ty_Mo_layForm 0 0 0 0 [.ref 39] (sh0 ++ ex, mI, mL, rr) (tm_is none (sh0 ++ ex, r.2.1, r.2.2, rr)) := by
  refine tm_body (by decide) (Nat.le_of_ble_eq_true rfl) fun Γ C G => ?_
  exact j_Mo_layForm_b0 C G hf
/-! Mo_beginLabel -/
def f_Mo_beginLabel_b0  (mI : tm_I) (mL : tm_L) : Option (Int32 × tm_I × tm_L) := if ¬ ((0 : Int32) < 0 ∨ 4 ≤ Int32.toNatClampNeg (0 : Int32)) then if ¬ ((1 : Int32) < 0 ∨ 4 ≤ Int32.toNatClampNeg (1 : Int32)) then if ¬ ((0 : Int32) < 0 ∨ 4 ≤ Int32.toNatClampNeg (0 : Int32)) then if ¬ ((1 : Int32) < 0 ∨ 4 ≤ Int32.toNatClampNeg (1 : Int32)) then if ¬ ((2 : Int32) < 0 ∨ 4 ≤ Int32.toNatClampNeg (2 : Int32)) then if ¬ ((3 : Int32) < 0 ∨ 4 ≤ Int32.toNatClampNeg (3 : Int32)) then (f_Mo_newField (tm_up (tm_up (tm_up (tm_up (tm_up (tm_up (tm_up (tm_up (tm_up (tm_up (tm_up (tm_up mI 39 18 (1 : Int32)) 39 19 ((tm_up mI 39 18 (1 : Int32)) 46 (Int32.toNatClampNeg (0 : Int32)))) 39 20 ((tm_up (tm_up mI 39 18 (1 : Int32)) 39 19 ((tm_up mI 39 18 (1 : Int32)) 46 (Int32.toNatClampNeg (0 : Int32)))) 46 (Int32.toNatClampNeg (1 : Int32)))) 39 21 (1 : Int32)) 39 22 (0 : Int32)) 39 23 (0 : Int32)) 48 (Int32.toNatClampNeg (0 : Int32)) (0 : Int32)) 48 (Int32.toNatClampNeg (1 : Int32)) (1 : Int32)) 48 (Int32.toNatClampNeg (2 : Int32)) (1 : Int32)) 48 (Int32.toNatClampNeg (3 : Int32)) (0 : Int32)) 39 25 (0 : Int32)) 39 26 (0 : Int32)) mL).bind fun v1 => some (0, v1.2.1, v1.2.2) else none else none else none else none else none else none
abbrev f_Mo_beginLabel  (mI : tm_I) (mL : tm_L) : Option (Int32 × tm_I × tm_L) := f_Mo_beginLabel_b0  mI mL
set_option maxRecDepth 100000 in
set_option maxHeartbeats 4000000 in
theorem j_Mo_beginLabel_b0 {Γ : tm_G} {ex : List tm_Sh} {av : List Value} {X0 : tm_X} {r : Int32 × tm_I × tm_L} (C : tm_C Γ ty_Mo_beginLabel.1.cls ty_Mo_beginLabel.2.1 ty_Mo_beginLabel.2.2.1) (G : tm_Γ ty_Mo_beginLabel 1 21 0 0 av X0 (tm_is none (sh0 ++ ex, r.2.1, r.2.2, rr)) Γ) {mI : tm_I} {mL : tm_L} (hf : f_Mo_beginLabel_b0  mI mL = some r) : tm_T Γ 1 0 0 0 [some (.ref 39)] [] (sh0 ++ ex) mI mL rr := by
  have Ro := G.ro
  unfold f_Mo_beginLabel_b0 at hf
  obtain ⟨c1, hf⟩ := tm_iteN hf
  obtain ⟨c2, hf⟩ := tm_iteN hf
  obtain ⟨c3, hf⟩ := tm_iteN hf
  obtain ⟨c4, hf⟩ := tm_iteN hf
  obtain ⟨c5, hf⟩ := tm_iteN hf
  obtain ⟨c6, hf⟩ := tm_iteN hf
  refine tm_w C tfo_Mo to_Mo_beginLabel 50 rfl rfl rfl ⟨rfl, rfl, rfl, rfl, ⟨_, rfl, c1⟩, rfl, rfl, ⟨_, rfl, c2⟩, rfl, rfl, rfl, rfl, rfl, ⟨_, rfl, c3⟩, rfl, ⟨_, rfl, c4⟩, rfl, ⟨_, rfl, c5⟩, rfl, ⟨_, rfl, c6⟩, rfl, rfl, trivial⟩ ?_
  obtain ⟨v1, hv1, hf⟩ := Option.bind_eq_some_iff.mp hf
  refine tm_cV C Ro to_Mo_beginLabel tl_Mo_225 rfl (ct_Mo_newField hv1) rfl rfl rfl rfl rfl rfl rfl (Nat.le_refl _) (Nat.le_refl _) ?_
  cases hf
  exact tm_ev C G to_Mo_beginLabel rfl rfl (Nat.le_refl _) ⟨rfl, rfl⟩
set_option maxRecDepth 100000 in
theorem ct_Mo_beginLabel {ex : List tm_Sh}  {mI : tm_I} {mL : tm_L} {r : Int32 × tm_I × tm_L} (hf : f_Mo_beginLabel  mI mL = some r) : tm_M ty_Mo_beginLabel 1 21 0 0 [.ref 39] (sh0 ++ ex, mI, mL, rr) (tm_is none (sh0 ++ ex, r.2.1, r.2.2, rr)) := by
  refine tm_body (by decide) (Nat.le_of_ble_eq_true rfl) fun Γ C G => ?_
  exact j_Mo_beginLabel_b0 C G hf
/-! Mo_endLabel -/
def f_Mo_endLabel_l90 (r17 : Int32 → Int32 → tm_I → tm_L → Option (Int32 × tm_I × tm_L)) : Nat → Int32 → Int32 → Int32 → tm_I → tm_L → Option (Int32 × tm_I × tm_L)
  | 0, _, _, _, _, _ => none
  | n + 1, x1, x2, x3, mI, mL => if (mI 39 25) ≤ x3 then r17 x1 (x2 + (1 : Int32)) (tm_up mI 39 35 ((mI 39 35) + (1 : Int32))) mL else (f_Mo_makeField x3 x2 mI mL).bind fun v1 => (f_Mo_endLabel_l90 r17 n) x1 x2 (x3 + (1 : Int32)) v1.2.1 v1.2.2
def f_Mo_endLabel_l17 : Nat → Int32 → Int32 → tm_I → tm_L → Option (Int32 × tm_I × tm_L)
  | 0, _, _, _, _ => none
  | n + 1, x1, x2, mI, mL => if (mI 39 21) ≤ x2 then some (0, mI, mL) else if ¬ (((4 : Int32) * (mI 39 35)) < 0 ∨ 48 ≤ Int32.toNatClampNeg ((4 : Int32) * (mI 39 35))) then if ¬ ((((4 : Int32) * ((tm_up mI 54 (Int32.toNatClampNeg ((4 : Int32) * (mI 39 35))) (mI 39 19)) 39 35)) + (1 : Int32)) < 0 ∨ 48 ≤ Int32.toNatClampNeg (((4 : Int32) * ((tm_up mI 54 (Int32.toNatClampNeg ((4 : Int32) * (mI 39 35))) (mI 39 19)) 39 35)) + (1 : Int32))) then if ¬ ((((4 : Int32) * ((tm_up (tm_up mI 54 (Int32.toNatClampNeg ((4 : Int32) * (mI 39 35))) (mI 39 19)) 54 (Int32.toNatClampNeg (((4 : Int32) * ((tm_up mI 54 (Int32.toNatClampNeg ((4 : Int32) * (mI 39 35))) (mI 39 19)) 39 35)) + (1 : Int32))) ((tm_up mI 54 (Int32.toNatClampNeg ((4 : Int32) * (mI 39 35))) (mI 39 19)) 39 20)) 39 35)) + (2 : Int32)) < 0 ∨ 48 ≤ Int32.toNatClampNeg (((4 : Int32) * ((tm_up (tm_up mI 54 (Int32.toNatClampNeg ((4 : Int32) * (mI 39 35))) (mI 39 19)) 54 (Int32.toNatClampNeg (((4 : Int32) * ((tm_up mI 54 (Int32.toNatClampNeg ((4 : Int32) * (mI 39 35))) (mI 39 19)) 39 35)) + (1 : Int32))) ((tm_up mI 54 (Int32.toNatClampNeg ((4 : Int32) * (mI 39 35))) (mI 39 19)) 39 20)) 39 35)) + (2 : Int32))) then if ¬ ((((4 : Int32) * ((tm_up (tm_up (tm_up mI 54 (Int32.toNatClampNeg ((4 : Int32) * (mI 39 35))) (mI 39 19)) 54 (Int32.toNatClampNeg (((4 : Int32) * ((tm_up mI 54 (Int32.toNatClampNeg ((4 : Int32) * (mI 39 35))) (mI 39 19)) 39 35)) + (1 : Int32))) ((tm_up mI 54 (Int32.toNatClampNeg ((4 : Int32) * (mI 39 35))) (mI 39 19)) 39 20)) 54 (Int32.toNatClampNeg (((4 : Int32) * ((tm_up (tm_up mI 54 (Int32.toNatClampNeg ((4 : Int32) * (mI 39 35))) (mI 39 19)) 54 (Int32.toNatClampNeg (((4 : Int32) * ((tm_up mI 54 (Int32.toNatClampNeg ((4 : Int32) * (mI 39 35))) (mI 39 19)) 39 35)) + (1 : Int32))) ((tm_up mI 54 (Int32.toNatClampNeg ((4 : Int32) * (mI 39 35))) (mI 39 19)) 39 20)) 39 35)) + (2 : Int32))) ((tm_up (tm_up mI 54 (Int32.toNatClampNeg ((4 : Int32) * (mI 39 35))) (mI 39 19)) 54 (Int32.toNatClampNeg (((4 : Int32) * ((tm_up mI 54 (Int32.toNatClampNeg ((4 : Int32) * (mI 39 35))) (mI 39 19)) 39 35)) + (1 : Int32))) ((tm_up mI 54 (Int32.toNatClampNeg ((4 : Int32) * (mI 39 35))) (mI 39 19)) 39 20)) 39 37)) 39 35)) + (3 : Int32)) < 0 ∨ 48 ≤ Int32.toNatClampNeg (((4 : Int32) * ((tm_up (tm_up (tm_up mI 54 (Int32.toNatClampNeg ((4 : Int32) * (mI 39 35))) (mI 39 19)) 54 (Int32.toNatClampNeg (((4 : Int32) * ((tm_up mI 54 (Int32.toNatClampNeg ((4 : Int32) * (mI 39 35))) (mI 39 19)) 39 35)) + (1 : Int32))) ((tm_up mI 54 (Int32.toNatClampNeg ((4 : Int32) * (mI 39 35))) (mI 39 19)) 39 20)) 54 (Int32.toNatClampNeg (((4 : Int32) * ((tm_up (tm_up mI 54 (Int32.toNatClampNeg ((4 : Int32) * (mI 39 35))) (mI 39 19)) 54 (Int32.toNatClampNeg (((4 : Int32) * ((tm_up mI 54 (Int32.toNatClampNeg ((4 : Int32) * (mI 39 35))) (mI 39 19)) 39 35)) + (1 : Int32))) ((tm_up mI 54 (Int32.toNatClampNeg ((4 : Int32) * (mI 39 35))) (mI 39 19)) 39 20)) 39 35)) + (2 : Int32))) ((tm_up (tm_up mI 54 (Int32.toNatClampNeg ((4 : Int32) * (mI 39 35))) (mI 39 19)) 54 (Int32.toNatClampNeg (((4 : Int32) * ((tm_up mI 54 (Int32.toNatClampNeg ((4 : Int32) * (mI 39 35))) (mI 39 19)) 39 35)) + (1 : Int32))) ((tm_up mI 54 (Int32.toNatClampNeg ((4 : Int32) * (mI 39 35))) (mI 39 19)) 39 20)) 39 37)) 39 35)) + (3 : Int32))) then f_Mo_endLabel_l90 (f_Mo_endLabel_l17 n) tm_F x1 x2 (0 : Int32) (tm_up (tm_up (tm_up (tm_up mI 54 (Int32.toNatClampNeg ((4 : Int32) * (mI 39 35))) (mI 39 19)) 54 (Int32.toNatClampNeg (((4 : Int32) * ((tm_up mI 54 (Int32.toNatClampNeg ((4 : Int32) * (mI 39 35))) (mI 39 19)) 39 35)) + (1 : Int32))) ((tm_up mI 54 (Int32.toNatClampNeg ((4 : Int32) * (mI 39 35))) (mI 39 19)) 39 20)) 54 (Int32.toNatClampNeg (((4 : Int32) * ((tm_up (tm_up mI 54 (Int32.toNatClampNeg ((4 : Int32) * (mI 39 35))) (mI 39 19)) 54 (Int32.toNatClampNeg (((4 : Int32) * ((tm_up mI 54 (Int32.toNatClampNeg ((4 : Int32) * (mI 39 35))) (mI 39 19)) 39 35)) + (1 : Int32))) ((tm_up mI 54 (Int32.toNatClampNeg ((4 : Int32) * (mI 39 35))) (mI 39 19)) 39 20)) 39 35)) + (2 : Int32))) ((tm_up (tm_up mI 54 (Int32.toNatClampNeg ((4 : Int32) * (mI 39 35))) (mI 39 19)) 54 (Int32.toNatClampNeg (((4 : Int32) * ((tm_up mI 54 (Int32.toNatClampNeg ((4 : Int32) * (mI 39 35))) (mI 39 19)) 39 35)) + (1 : Int32))) ((tm_up mI 54 (Int32.toNatClampNeg ((4 : Int32) * (mI 39 35))) (mI 39 19)) 39 20)) 39 37)) 54 (Int32.toNatClampNeg (((4 : Int32) * ((tm_up (tm_up (tm_up mI 54 (Int32.toNatClampNeg ((4 : Int32) * (mI 39 35))) (mI 39 19)) 54 (Int32.toNatClampNeg (((4 : Int32) * ((tm_up mI 54 (Int32.toNatClampNeg ((4 : Int32) * (mI 39 35))) (mI 39 19)) 39 35)) + (1 : Int32))) ((tm_up mI 54 (Int32.toNatClampNeg ((4 : Int32) * (mI 39 35))) (mI 39 19)) 39 20)) 54 (Int32.toNatClampNeg (((4 : Int32) * ((tm_up (tm_up mI 54 (Int32.toNatClampNeg ((4 : Int32) * (mI 39 35))) (mI 39 19)) 54 (Int32.toNatClampNeg (((4 : Int32) * ((tm_up mI 54 (Int32.toNatClampNeg ((4 : Int32) * (mI 39 35))) (mI 39 19)) 39 35)) + (1 : Int32))) ((tm_up mI 54 (Int32.toNatClampNeg ((4 : Int32) * (mI 39 35))) (mI 39 19)) 39 20)) 39 35)) + (2 : Int32))) ((tm_up (tm_up mI 54 (Int32.toNatClampNeg ((4 : Int32) * (mI 39 35))) (mI 39 19)) 54 (Int32.toNatClampNeg (((4 : Int32) * ((tm_up mI 54 (Int32.toNatClampNeg ((4 : Int32) * (mI 39 35))) (mI 39 19)) 39 35)) + (1 : Int32))) ((tm_up mI 54 (Int32.toNatClampNeg ((4 : Int32) * (mI 39 35))) (mI 39 19)) 39 20)) 39 37)) 39 35)) + (3 : Int32))) x1) mL else none else none else none else none
def f_Mo_endLabel_b0  (mI : tm_I) (mL : tm_L) : Option (Int32 × tm_I × tm_L) := f_Mo_endLabel_l17 tm_F ((tm_up (tm_up mI 39 18 (0 : Int32)) 39 33 (1 : Int32)) 39 26) (0 : Int32) (tm_up (tm_up mI 39 18 (0 : Int32)) 39 33 (1 : Int32)) mL
abbrev f_Mo_endLabel  (mI : tm_I) (mL : tm_L) : Option (Int32 × tm_I × tm_L) := f_Mo_endLabel_b0  mI mL
set_option maxRecDepth 100000 in
set_option maxHeartbeats 4000000 in
theorem j_Mo_endLabel_l90 {Γ : tm_G} {ex : List tm_Sh} {av : List Value} {X0 : tm_X} {r17 : Int32 → Int32 → tm_I → tm_L → Option (Int32 × tm_I × tm_L)} {r : Int32 × tm_I × tm_L} (C : tm_C Γ ty_Mo_endLabel.1.cls ty_Mo_endLabel.2.1 ty_Mo_endLabel.2.2.1) (G : tm_Γ ty_Mo_endLabel 6 153 0 0 av X0 (tm_is none (sh0 ++ ex, r.2.1, r.2.2, rr)) Γ) (H17 : ∀ (x1 : Int32) (x2 : Int32) (mI : tm_I) (mL : tm_L), r17 x1 x2 mI mL = some r → tm_T Γ 4 0 0 17 [some (.ref 39), some (.int x1), some (.int x2), none] [] (sh0 ++ ex) mI mL rr) : ∀ (n : Nat) (x1 : Int32) (x2 : Int32) (x3 : Int32) (mI : tm_I) (mL : tm_L), f_Mo_endLabel_l90 r17 n x1 x2 x3 mI mL = some r → tm_T Γ 4 0 0 90 [some (.ref 39), some (.int x1), some (.int x2), some (.int x3)] [] (sh0 ++ ex) mI mL rr := by
  have Ro := G.ro
  intro n
  induction n with
  | zero => intro x1 x2 x3 mI mL hf; cases hf
  | succ n ih =>
    intro x1 x2 x3 mI mL hf
    rw [f_Mo_endLabel_l90] at hf
    refine tm_w C tfo_Mo to_Mo_endLabel 2 rfl rfl rfl ⟨rfl, trivial⟩ ?_
    refine tm_b C to_Mo_endLabel rfl rfl (fun h => ?_) (fun h => ?_)
    · have hf := (if_pos h).symm.trans hf
      refine tm_w C tfo_Mo to_Mo_endLabel 7 rfl rfl rfl ⟨rfl, rfl, trivial⟩ ?_
      refine tm_wk (lv' := [some (.ref 39), some (.int x1), some (.int (x2 + (1 : Int32))), none]) ⟨Or.inr rfl, Or.inr rfl, Or.inr rfl, Or.inl rfl, trivial⟩ ?_
      exact H17 _ _ _ _ hf
    · have hf := (if_neg h).symm.trans hf
      refine tm_w C tfo_Mo to_Mo_endLabel 2 rfl rfl rfl trivial ?_
      obtain ⟨v1, hv1, hf⟩ := Option.bind_eq_some_iff.mp hf
      refine tm_cV C Ro to_Mo_endLabel tl_Mo_139 rfl (ct_Mo_makeField hv1) rfl rfl rfl rfl rfl rfl rfl (Nat.le_refl _) (Nat.le_refl _) ?_
      refine tm_w C tfo_Mo to_Mo_endLabel 1 rfl rfl rfl trivial ?_
      refine tm_wk (lv' := [some (.ref 39), some (.int x1), some (.int x2), some (.int (x3 + (1 : Int32)))]) ⟨Or.inr rfl, Or.inr rfl, Or.inr rfl, Or.inr rfl, trivial⟩ ?_
      exact ih _ _ _ _ _ hf
set_option maxRecDepth 100000 in
set_option maxHeartbeats 4000000 in
theorem j_Mo_endLabel_l17 {Γ : tm_G} {ex : List tm_Sh} {av : List Value} {X0 : tm_X} {r : Int32 × tm_I × tm_L} (C : tm_C Γ ty_Mo_endLabel.1.cls ty_Mo_endLabel.2.1 ty_Mo_endLabel.2.2.1) (G : tm_Γ ty_Mo_endLabel 6 153 0 0 av X0 (tm_is none (sh0 ++ ex, r.2.1, r.2.2, rr)) Γ) : ∀ (n : Nat) (x1 : Int32) (x2 : Int32) (mI : tm_I) (mL : tm_L), f_Mo_endLabel_l17 n x1 x2 mI mL = some r → tm_T Γ 4 0 0 17 [some (.ref 39), some (.int x1), some (.int x2), none] [] (sh0 ++ ex) mI mL rr := by
  have Ro := G.ro
  intro n
  induction n with
  | zero => intro x1 x2 mI mL hf; cases hf
  | succ n ih =>
    intro x1 x2 mI mL hf
    rw [f_Mo_endLabel_l17] at hf
    refine tm_w C tfo_Mo to_Mo_endLabel 2 rfl rfl rfl ⟨rfl, trivial⟩ ?_
    refine tm_b C to_Mo_endLabel rfl rfl (fun h => ?_) (fun h => ?_)
    · have hf := (if_pos h).symm.trans hf
      cases hf
      exact tm_ev C G to_Mo_endLabel rfl rfl (Nat.le_refl _) ⟨rfl, rfl⟩
    · have hf := (if_neg h).symm.trans hf
      obtain ⟨c1, hf⟩ := tm_iteN hf
      obtain ⟨c2, hf⟩ := tm_iteN hf
      obtain ⟨c3, hf⟩ := tm_iteN hf
      obtain ⟨c4, hf⟩ := tm_iteN hf
      refine tm_w C tfo_Mo to_Mo_endLabel 42 rfl rfl rfl ⟨rfl, rfl, rfl, ⟨_, rfl, c1⟩, rfl, rfl, rfl, ⟨_, rfl, c2⟩, rfl, rfl, rfl, ⟨_, rfl, c3⟩, rfl, rfl, ⟨_, rfl, c4⟩, trivial⟩ ?_
      refine tm_wk (lv' := [some (.ref 39), some (.int x1), some (.int x2), some (.int (0 : Int32))]) ⟨Or.inr rfl, Or.inr rfl, Or.inr rfl, Or.inr rfl, trivial⟩ ?_
      exact j_Mo_endLabel_l90 C G (ih) _ _ _ _ _ _ hf
set_option maxRecDepth 100000 in
set_option maxHeartbeats 4000000 in
theorem j_Mo_endLabel_b0 {Γ : tm_G} {ex : List tm_Sh} {av : List Value} {X0 : tm_X} {r : Int32 × tm_I × tm_L} (C : tm_C Γ ty_Mo_endLabel.1.cls ty_Mo_endLabel.2.1 ty_Mo_endLabel.2.2.1) (G : tm_Γ ty_Mo_endLabel 6 153 0 0 av X0 (tm_is none (sh0 ++ ex, r.2.1, r.2.2, rr)) Γ) {mI : tm_I} {mL : tm_L} (hf : f_Mo_endLabel_b0  mI mL = some r) : tm_T Γ 4 0 0 0 [some (.ref 39), none, none, none] [] (sh0 ++ ex) mI mL rr := by
  have Ro := G.ro
  unfold f_Mo_endLabel_b0 at hf
  refine tm_w C tfo_Mo to_Mo_endLabel 10 rfl rfl rfl ⟨rfl, rfl, rfl, rfl, rfl, rfl, rfl, trivial⟩ ?_
  refine tm_wk (lv' := [some (.ref 39), some (.int ((tm_up (tm_up mI 39 18 (0 : Int32)) 39 33 (1 : Int32)) 39 26)), some (.int (0 : Int32)), none]) ⟨Or.inr rfl, Or.inr rfl, Or.inr rfl, Or.inl rfl, trivial⟩ ?_
  exact j_Mo_endLabel_l17 C G _ _ _ _ _ hf
set_option maxRecDepth 100000 in
theorem ct_Mo_endLabel {ex : List tm_Sh}  {mI : tm_I} {mL : tm_L} {r : Int32 × tm_I × tm_L} (hf : f_Mo_endLabel  mI mL = some r) : tm_M ty_Mo_endLabel 6 153 0 0 [.ref 39] (sh0 ++ ex, mI, mL, rr) (tm_is none (sh0 ++ ex, r.2.1, r.2.2, rr)) := by
  refine tm_body (by decide) (Nat.le_of_ble_eq_true rfl) fun Γ C G => ?_
  exact j_Mo_endLabel_b0 C G hf
/-! Mo_storeData -/
def f_Mo_storeData_b121 (r54 : Int32 → Int32 → Int32 → tm_I → tm_L → Option (Int32 × tm_I × tm_L)) (x1 : Int32) (x2 : Int32) (x3 : Int32) (mI : tm_I) (mL : tm_L) : Option (Int32 × tm_I × tm_L) := r54 x1 x2 (x3 + (1 : Int32)) mI mL
def f_Mo_storeData_b120 (r54 : Int32 → Int32 → Int32 → tm_I → tm_L → Option (Int32 × tm_I × tm_L)) (x1 : Int32) (x2 : Int32) (x3 : Int32) (s1 : Int32) (s2 : Int32) (mI : tm_I) (mL : tm_L) : Option (Int32 × tm_I × tm_L) := if ¬ (s1 < 0 ∨ 200 ≤ Int32.toNatClampNeg s1) then f_Mo_storeData_b121 r54 x1 x2 x3 (tm_up mI 51 (Int32.toNatClampNeg s1) s2) mL else none
def f_Mo_storeData_l54 : Nat → Int32 → Int32 → Int32 → tm_I → tm_L → Option (Int32 × tm_I × tm_L)
  | 0, _, _, _, _, _ => none
  | n + 1, x1, x2, x3, mI, mL => if (200 : Int32) ≤ x3 then some (0, mI, mL) else if ¬ x1 = (75 : Int32) then if ¬ x1 = (88 : Int32) then if ¬ ((((200 : Int32) * x2) + x3) < 0 ∨ 2000 ≤ Int32.toNatClampNeg (((200 : Int32) * x2) + x3)) then f_Mo_storeData_b120 (f_Mo_storeData_l54 n) x1 x2 x3 x3 (mI 43 (Int32.toNatClampNeg (((200 : Int32) * x2) + x3))) mI mL else none else if ¬ (x3 < 0 ∨ 200 ≤ Int32.toNatClampNeg x3) then f_Mo_storeData_b120 (f_Mo_storeData_l54 n) x1 x2 x3 x3 (mI 47 (Int32.toNatClampNeg x3)) mI mL else none else if ¬ (x3 < 0 ∨ 200 ≤ Int32.toNatClampNeg x3) then if ¬ ((((200 : Int32) * x2) + x3) < 0 ∨ 2000 ≤ Int32.toNatClampNeg (((200 : Int32) * x2) + x3)) then f_Mo_storeData_b121 (f_Mo_storeData_l54 n) x1 x2 x3 (tm_up mI 43 (Int32.toNatClampNeg (((200 : Int32) * x2) + x3)) (mI 47 (Int32.toNatClampNeg x3))) mL else none else none
def f_Mo_storeData_b52 (x1 : Int32) (x2 : Int32) (mI : tm_I) (mL : tm_L) : Option (Int32 × tm_I × tm_L) := f_Mo_storeData_l54 tm_F x1 x2 (0 : Int32) mI mL
def f_Mo_storeData_b51 (x1 : Int32) (x2 : Int32) (s1 : Int32) (s2 : Int32) (mI : tm_I) (mL : tm_L) : Option (Int32 × tm_I × tm_L) := if ¬ (s1 < 0 ∨ 16 ≤ Int32.toNatClampNeg s1) then f_Mo_storeData_b52 x1 x2 (tm_up mI 49 (Int32.toNatClampNeg s1) s2) mL else none
def f_Mo_storeData_b0 (x1 : Int32) (mI : tm_I) (mL : tm_L) : Option (Int32 × tm_I × tm_L) := if ¬ ((0 : Int32) < 0 ∨ 4 ≤ Int32.toNatClampNeg (0 : Int32)) then if ¬ x1 = (75 : Int32) then if ¬ x1 = (88 : Int32) then if ¬ ((mI 46 (Int32.toNatClampNeg (0 : Int32))) < 0 ∨ 10 ≤ Int32.toNatClampNeg (mI 46 (Int32.toNatClampNeg (0 : Int32)))) then f_Mo_storeData_b51 x1 (mI 46 (Int32.toNatClampNeg (0 : Int32))) (10 : Int32) (mI 44 (Int32.toNatClampNeg (mI 46 (Int32.toNatClampNeg (0 : Int32))))) mI mL else none else f_Mo_storeData_b51 x1 (mI 46 (Int32.toNatClampNeg (0 : Int32))) (10 : Int32) (mI 39 17) mI mL else if ¬ ((mI 46 (Int32.toNatClampNeg (0 : Int32))) < 0 ∨ 10 ≤ Int32.toNatClampNeg (mI 46 (Int32.toNatClampNeg (0 : Int32)))) then f_Mo_storeData_b52 x1 (mI 46 (Int32.toNatClampNeg (0 : Int32))) (tm_up mI 44 (Int32.toNatClampNeg (mI 46 (Int32.toNatClampNeg (0 : Int32)))) (mI 39 17)) mL else none else none
abbrev f_Mo_storeData (p0 : Int32) (mI : tm_I) (mL : tm_L) : Option (Int32 × tm_I × tm_L) := f_Mo_storeData_b0 p0 mI mL
set_option maxRecDepth 100000 in
set_option maxHeartbeats 4000000 in
theorem j_Mo_storeData_b121 {Γ : tm_G} {ex : List tm_Sh} {av : List Value} {X0 : tm_X} {r54 : Int32 → Int32 → Int32 → tm_I → tm_L → Option (Int32 × tm_I × tm_L)} {r : Int32 × tm_I × tm_L} (C : tm_C Γ ty_Mo_storeData.1.cls ty_Mo_storeData.2.1 ty_Mo_storeData.2.2.1) (G : tm_Γ ty_Mo_storeData 0 0 0 0 av X0 (tm_is none (sh0 ++ ex, r.2.1, r.2.2, rr)) Γ) (H54 : ∀ (x1 : Int32) (x2 : Int32) (x3 : Int32) (mI : tm_I) (mL : tm_L), r54 x1 x2 x3 mI mL = some r → tm_T Γ 4 0 0 54 [some (.ref 39), some (.int x1), some (.int x2), some (.int x3)] [] (sh0 ++ ex) mI mL rr) {x1 : Int32} {x2 : Int32} {x3 : Int32} {mI : tm_I} {mL : tm_L} (hf : f_Mo_storeData_b121 r54 x1 x2 x3 mI mL = some r) : tm_T Γ 4 0 0 121 [some (.ref 39), some (.int x1), some (.int x2), some (.int x3)] [] (sh0 ++ ex) mI mL rr := by
  have Ro := G.ro
  unfold f_Mo_storeData_b121 at hf
  refine tm_w C tfo_Mo to_Mo_storeData 1 rfl rfl rfl trivial ?_
  refine tm_wk (lv' := [some (.ref 39), some (.int x1), some (.int x2), some (.int (x3 + (1 : Int32)))]) ⟨Or.inr rfl, Or.inr rfl, Or.inr rfl, Or.inr rfl, trivial⟩ ?_
  exact H54 _ _ _ _ _ hf
set_option maxRecDepth 100000 in
set_option maxHeartbeats 4000000 in
theorem j_Mo_storeData_b120 {Γ : tm_G} {ex : List tm_Sh} {av : List Value} {X0 : tm_X} {r54 : Int32 → Int32 → Int32 → tm_I → tm_L → Option (Int32 × tm_I × tm_L)} {r : Int32 × tm_I × tm_L} (C : tm_C Γ ty_Mo_storeData.1.cls ty_Mo_storeData.2.1 ty_Mo_storeData.2.2.1) (G : tm_Γ ty_Mo_storeData 0 0 0 0 av X0 (tm_is none (sh0 ++ ex, r.2.1, r.2.2, rr)) Γ) (H54 : ∀ (x1 : Int32) (x2 : Int32) (x3 : Int32) (mI : tm_I) (mL : tm_L), r54 x1 x2 x3 mI mL = some r → tm_T Γ 4 0 0 54 [some (.ref 39), some (.int x1), some (.int x2), some (.int x3)] [] (sh0 ++ ex) mI mL rr) {x1 : Int32} {x2 : Int32} {x3 : Int32} {s1 : Int32} {s2 : Int32} {mI : tm_I} {mL : tm_L} (hf : f_Mo_storeData_b120 r54 x1 x2 x3 s1 s2 mI mL = some r) : tm_T Γ 4 0 0 120 [some (.ref 39), some (.int x1), some (.int x2), some (.int x3)] [.int s2, .int s1, .ref 51] (sh0 ++ ex) mI mL rr := by
  have Ro := G.ro
  unfold f_Mo_storeData_b120 at hf
  obtain ⟨c1, hf⟩ := tm_iteN hf
  refine tm_w C tfo_Mo to_Mo_storeData 0 rfl rfl rfl ⟨⟨_, rfl, c1⟩, trivial⟩ ?_
  refine tm_wk (lv' := [some (.ref 39), some (.int x1), some (.int x2), some (.int x3)]) ⟨Or.inr rfl, Or.inr rfl, Or.inr rfl, Or.inr rfl, trivial⟩ ?_
  exact j_Mo_storeData_b121 C G (H54) hf
set_option maxRecDepth 100000 in
set_option maxHeartbeats 4000000 in
theorem j_Mo_storeData_l54 {Γ : tm_G} {ex : List tm_Sh} {av : List Value} {X0 : tm_X} {r : Int32 × tm_I × tm_L} (C : tm_C Γ ty_Mo_storeData.1.cls ty_Mo_storeData.2.1 ty_Mo_storeData.2.2.1) (G : tm_Γ ty_Mo_storeData 0 0 0 0 av X0 (tm_is none (sh0 ++ ex, r.2.1, r.2.2, rr)) Γ) : ∀ (n : Nat) (x1 : Int32) (x2 : Int32) (x3 : Int32) (mI : tm_I) (mL : tm_L), f_Mo_storeData_l54 n x1 x2 x3 mI mL = some r → tm_T Γ 4 0 0 54 [some (.ref 39), some (.int x1), some (.int x2), some (.int x3)] [] (sh0 ++ ex) mI mL rr := by
  have Ro := G.ro
  intro n
  induction n with
  | zero => intro x1 x2 x3 mI mL hf; cases hf
  | succ n ih =>
    intro x1 x2 x3 mI mL hf
    rw [f_Mo_storeData_l54] at hf
    refine tm_w C tfo_Mo to_Mo_storeData 1 rfl rfl rfl trivial ?_
    refine tm_b C to_Mo_storeData rfl rfl (fun h => ?_) (fun h => ?_)
    · have hf := (if_pos h).symm.trans hf
      cases hf
      exact tm_ev C G to_Mo_storeData rfl rfl (Nat.le_refl _) ⟨rfl, rfl⟩
    · have hf := (if_neg h).symm.trans hf
      refine tm_w C tfo_Mo to_Mo_storeData 1 rfl rfl rfl trivial ?_
      refine tm_b C to_Mo_storeData rfl rfl (fun h => ?_) (fun h => ?_)
      · have hf := (if_pos h).symm.trans hf
        refine tm_w C tfo_Mo to_Mo_storeData 4 rfl rfl rfl ⟨rfl, trivial⟩ ?_
        refine tm_b C to_Mo_storeData rfl rfl (fun h => ?_) (fun h => ?_)
        · have hf := (if_pos h).symm.trans hf
          obtain ⟨c2, hf⟩ := tm_iteN hf
          refine tm_w C tfo_Mo to_Mo_storeData 7 rfl rfl rfl ⟨rfl, ⟨_, rfl, c2⟩, trivial⟩ ?_
          refine tm_wk (lv' := [some (.ref 39), some (.int x1), some (.int x2), some (.int x3)]) ⟨Or.inr rfl, Or.inr rfl, Or.inr rfl, Or.inr rfl, trivial⟩ ?_
          exact j_Mo_storeData_b120 C G (ih) hf
        · have hf := (if_neg h).symm.trans hf
          obtain ⟨c3, hf⟩ := tm_iteN hf
          refine tm_w C tfo_Mo to_Mo_storeData 4 rfl rfl rfl ⟨rfl, ⟨_, rfl, c3⟩, trivial⟩ ?_
          refine tm_wk (lv' := [some (.ref 39), some (.int x1), some (.int x2), some (.int x3)]) ⟨Or.inr rfl, Or.inr rfl, Or.inr rfl, Or.inr rfl, trivial⟩ ?_
          exact j_Mo_storeData_b120 C G (ih) hf
      · have hf := (if_neg h).symm.trans hf
        obtain ⟨c4, hf⟩ := tm_iteN hf
        obtain ⟨c5, hf⟩ := tm_iteN hf
        refine tm_w C tfo_Mo to_Mo_storeData 12 rfl rfl rfl ⟨rfl, rfl, ⟨_, rfl, c4⟩, ⟨_, rfl, c5⟩, trivial⟩ ?_
        refine tm_wk (lv' := [some (.ref 39), some (.int x1), some (.int x2), some (.int x3)]) ⟨Or.inr rfl, Or.inr rfl, Or.inr rfl, Or.inr rfl, trivial⟩ ?_
        exact j_Mo_storeData_b121 C G (ih) hf
set_option maxRecDepth 100000 in
set_option maxHeartbeats 4000000 in
theorem j_Mo_storeData_b52 {Γ : tm_G} {ex : List tm_Sh} {av : List Value} {X0 : tm_X} {r : Int32 × tm_I × tm_L} (C : tm_C Γ ty_Mo_storeData.1.cls ty_Mo_storeData.2.1 ty_Mo_storeData.2.2.1) (G : tm_Γ ty_Mo_storeData 0 0 0 0 av X0 (tm_is none (sh0 ++ ex, r.2.1, r.2.2, rr)) Γ) {x1 : Int32} {x2 : Int32} {mI : tm_I} {mL : tm_L} (hf : f_Mo_storeData_b52 x1 x2 mI mL = some r) : tm_T Γ 4 0 0 52 [some (.ref 39), some (.int x1), some (.int x2), none] [] (sh0 ++ ex) mI mL rr := by
  have Ro := G.ro
  unfold f_Mo_storeData_b52 at hf
  refine tm_w C tfo_Mo to_Mo_storeData 1 rfl rfl rfl trivial ?_
  refine tm_wk (lv' := [some (.ref 39), some (.int x1), some (.int x2), some (.int (0 : Int32))]) ⟨Or.inr rfl, Or.inr rfl, Or.inr rfl, Or.inr rfl, trivial⟩ ?_
  exact j_Mo_storeData_l54 C G _ _ _ _ _ _ hf
set_option maxRecDepth 100000 in
set_option maxHeartbeats 4000000 in
theorem j_Mo_storeData_b51 {Γ : tm_G} {ex : List tm_Sh} {av : List Value} {X0 : tm_X} {r : Int32 × tm_I × tm_L} (C : tm_C Γ ty_Mo_storeData.1.cls ty_Mo_storeData.2.1 ty_Mo_storeData.2.2.1) (G : tm_Γ ty_Mo_storeData 0 0 0 0 av X0 (tm_is none (sh0 ++ ex, r.2.1, r.2.2, rr)) Γ) {x1 : Int32} {x2 : Int32} {s1 : Int32} {s2 : Int32} {mI : tm_I} {mL : tm_L} (hf : f_Mo_storeData_b51 x1 x2 s1 s2 mI mL = some r) : tm_T Γ 4 0 0 51 [some (.ref 39), some (.int x1), some (.int x2), none] [.int s2, .int s1, .ref 49] (sh0 ++ ex) mI mL rr := by
  have Ro := G.ro
  unfold f_Mo_storeData_b51 at hf
  obtain ⟨c6, hf⟩ := tm_iteN hf
  refine tm_w C tfo_Mo to_Mo_storeData 0 rfl rfl rfl ⟨⟨_, rfl, c6⟩, trivial⟩ ?_
  refine tm_wk (lv' := [some (.ref 39), some (.int x1), some (.int x2), none]) ⟨Or.inr rfl, Or.inr rfl, Or.inr rfl, Or.inl rfl, trivial⟩ ?_
  exact j_Mo_storeData_b52 C G hf
set_option maxRecDepth 100000 in
set_option maxHeartbeats 4000000 in
theorem j_Mo_storeData_b0 {Γ : tm_G} {ex : List tm_Sh} {av : List Value} {X0 : tm_X} {r : Int32 × tm_I × tm_L} (C : tm_C Γ ty_Mo_storeData.1.cls ty_Mo_storeData.2.1 ty_Mo_storeData.2.2.1) (G : tm_Γ ty_Mo_storeData 0 0 0 0 av X0 (tm_is none (sh0 ++ ex, r.2.1, r.2.2, rr)) Γ) {x1 : Int32} {mI : tm_I} {mL : tm_L} (hf : f_Mo_storeData_b0 x1 mI mL = some r) : tm_T Γ 4 0 0 0 [some (.ref 39), some (.int x1), none, none] [] (sh0 ++ ex) mI mL rr := by
  have Ro := G.ro
  unfold f_Mo_storeData_b0 at hf
  obtain ⟨c7, hf⟩ := tm_iteN hf
  refine tm_w C tfo_Mo to_Mo_storeData 6 rfl rfl rfl ⟨rfl, ⟨_, rfl, c7⟩, trivial⟩ ?_
  refine tm_b C to_Mo_storeData rfl rfl (fun h => ?_) (fun h => ?_)
  · have hf := (if_pos h).symm.trans hf
    refine tm_w C tfo_Mo to_Mo_storeData 4 rfl rfl rfl ⟨rfl, trivial⟩ ?_
    refine tm_b C to_Mo_storeData rfl rfl (fun h => ?_) (fun h => ?_)
    · have hf := (if_pos h).symm.trans hf
      obtain ⟨c8, hf⟩ := tm_iteN hf
      refine tm_w C tfo_Mo to_Mo_storeData 3 rfl rfl rfl ⟨rfl, ⟨_, rfl, c8⟩, trivial⟩ ?_
      refine tm_wk (lv' := [some (.ref 39), some (.int x1), some (.int (mI 46 (Int32.toNatClampNeg (0 : Int32)))), none]) ⟨Or.inr rfl, Or.inr rfl, Or.inr rfl, Or.inl rfl, trivial⟩ ?_
      exact j_Mo_storeData_b51 C G hf
    · have hf := (if_neg h).symm.trans hf
      refine tm_w C tfo_Mo to_Mo_storeData 2 rfl rfl rfl ⟨rfl, trivial⟩ ?_
      refine tm_wk (lv' := [some (.ref 39), some (.int x1), some (.int (mI 46 (Int32.toNatClampNeg (0 : Int32)))), none]) ⟨Or.inr rfl, Or.inr rfl, Or.inr rfl, Or.inl rfl, trivial⟩ ?_
      exact j_Mo_storeData_b51 C G hf
  · have hf := (if_neg h).symm.trans hf
    obtain ⟨c9, hf⟩ := tm_iteN hf
    refine tm_w C tfo_Mo to_Mo_storeData 6 rfl rfl rfl ⟨rfl, rfl, ⟨_, rfl, c9⟩, trivial⟩ ?_
    refine tm_wk (lv' := [some (.ref 39), some (.int x1), some (.int (mI 46 (Int32.toNatClampNeg (0 : Int32)))), none]) ⟨Or.inr rfl, Or.inr rfl, Or.inr rfl, Or.inl rfl, trivial⟩ ?_
    exact j_Mo_storeData_b52 C G hf
set_option maxRecDepth 100000 in
theorem ct_Mo_storeData {ex : List tm_Sh} {p0 : Int32} {mI : tm_I} {mL : tm_L} {r : Int32 × tm_I × tm_L} (hf : f_Mo_storeData p0 mI mL = some r) : tm_M ty_Mo_storeData 0 0 0 0 [.ref 39, .int p0] (sh0 ++ ex, mI, mL, rr) (tm_is none (sh0 ++ ex, r.2.1, r.2.2, rr)) := by
  refine tm_body (by decide) (Nat.le_of_ble_eq_true rfl) fun Γ C G => ?_
  exact j_Mo_storeData_b0 C G hf
/-! Mo_set -/
def f_Mo_set_b205 (x1 : Int32) (mI : tm_I) (mL : tm_L) : Option (Int32 × tm_I × tm_L) := some (0, mI, mL)
def f_Mo_set_b204 (x1 : Int32) (x2 : Int32) (s1 : Int32) (s2 : Int32) (mI : tm_I) (mL : tm_L) : Option (Int32 × tm_I × tm_L) := if ¬ (s1 < 0 ∨ 16 ≤ Int32.toNatClampNeg s1) then f_Mo_set_b205 x1 (tm_up mI 49 (Int32.toNatClampNeg s1) s2) mL else none
def f_Mo_set_b174 (r131 : Int32 → Int32 → tm_I → tm_L → Option (Int32 × tm_I × tm_L)) (x1 : Int32) (x2 : Int32) (mI : tm_I) (mL : tm_L) : Option (Int32 × tm_I × tm_L) := r131 x1 (x2 + (1 : Int32)) mI mL
def f_Mo_set_l131 : Nat → Int32 → Int32 → tm_I → tm_L → Option (Int32 × tm_I × tm_L)
  | 0, _, _, _, _ => none
  | n + 1, x1, x2, mI, mL => (f_Mo_numbers x1 mI mL).bind fun v1 => if v1.1 ≤ x2 then if ¬ x1 = (68 : Int32) then (f_Mo_kindOf x1 v1.2.1 v1.2.2).bind fun v2 => f_Mo_set_b204 x1 x2 (0 : Int32) v2.1 v2.2.1 v2.2.2 else if ¬ ((0 : Int32) < 0 ∨ 16 ≤ Int32.toNatClampNeg (0 : Int32)) then f_Mo_set_b204 x1 x2 (0 : Int32) (v1.2.1 49 (Int32.toNatClampNeg (0 : Int32))) v1.2.1 v1.2.2 else none else if ¬ x1 = (68 : Int32) then if ¬ (x2 < 0 ∨ 4 ≤ Int32.toNatClampNeg x2) then if ¬ (((1 : Int32) + x2) < 0 ∨ 16 ≤ Int32.toNatClampNeg ((1 : Int32) + x2)) then f_Mo_set_b174 (f_Mo_set_l131 n) x1 x2 (tm_up v1.2.1 49 (Int32.toNatClampNeg ((1 : Int32) + x2)) (v1.2.1 46 (Int32.toNatClampNeg x2))) v1.2.2 else none else none else if ¬ (x2 < 0 ∨ 4 ≤ Int32.toNatClampNeg x2) then if ¬ (x2 < 0 ∨ 4 ≤ Int32.toNatClampNeg x2) then f_Mo_set_b174 (f_Mo_set_l131 n) x1 x2 (tm_up v1.2.1 48 (Int32.toNatClampNeg x2) (v1.2.1 46 (Int32.toNatClampNeg x2))) v1.2.2 else none else none
def f_Mo_set_b0 (x1 : Int32) (mI : tm_I) (mL : tm_L) : Option (Int32 × tm_I × tm_L) := if ¬ x1 = (72 : Int32) then if ¬ x1 = (67 : Int32) then if ¬ x1 = (79 : Int32) then if ¬ x1 = (82 : Int32) then if ¬ x1 = (35 : Int32) then f_Mo_set_l131 tm_F x1 (0 : Int32) mI mL else if ¬ ((8 : Int32) < 0 ∨ 16 ≤ Int32.toNatClampNeg (8 : Int32)) then if ¬ ((0 : Int32) < 0 ∨ 4 ≤ Int32.toNatClampNeg (0 : Int32)) then if ¬ ((9 : Int32) < 0 ∨ 16 ≤ Int32.toNatClampNeg (9 : Int32)) then f_Mo_set_b205 x1 (tm_up (tm_up mI 49 (Int32.toNatClampNeg (8 : Int32)) (1 : Int32)) 49 (Int32.toNatClampNeg (9 : Int32)) ((tm_up mI 49 (Int32.toNatClampNeg (8 : Int32)) (1 : Int32)) 46 (Int32.toNatClampNeg (0 : Int32)))) mL else none else none else none else if ¬ ((7 : Int32) < 0 ∨ 16 ≤ Int32.toNatClampNeg (7 : Int32)) then f_Mo_set_b205 x1 (tm_up mI 49 (Int32.toNatClampNeg (7 : Int32)) (2 : Int32)) mL else none else if ¬ ((0 : Int32) < 0 ∨ 4 ≤ Int32.toNatClampNeg (0 : Int32)) then if ¬ ((5 : Int32) < 0 ∨ 16 ≤ Int32.toNatClampNeg (5 : Int32)) then if ¬ ((1 : Int32) < 0 ∨ 4 ≤ Int32.toNatClampNeg (1 : Int32)) then if ¬ ((6 : Int32) < 0 ∨ 16 ≤ Int32.toNatClampNeg (6 : Int32)) then f_Mo_set_b205 x1 (tm_up (tm_up mI 49 (Int32.toNatClampNeg (5 : Int32)) (mI 46 (Int32.toNatClampNeg (0 : Int32)))) 49 (Int32.toNatClampNeg (6 : Int32)) ((tm_up mI 49 (Int32.toNatClampNeg (5 : Int32)) (mI 46 (Int32.toNatClampNeg (0 : Int32)))) 46 (Int32.toNatClampNeg (1 : Int32)))) mL else none else none else none else none else if ¬ ((0 : Int32) < 0 ∨ 4 ≤ Int32.toNatClampNeg (0 : Int32)) then f_Mo_set_b205 x1 (tm_up mI 39 21 (mI 46 (Int32.toNatClampNeg (0 : Int32)))) mL else none else if ¬ ((0 : Int32) < 0 ∨ 4 ≤ Int32.toNatClampNeg (0 : Int32)) then if ¬ ((1 : Int32) < 0 ∨ 4 ≤ Int32.toNatClampNeg (1 : Int32)) then f_Mo_set_b205 x1 (tm_up (tm_up mI 39 22 (mI 46 (Int32.toNatClampNeg (0 : Int32)))) 39 23 ((tm_up mI 39 22 (mI 46 (Int32.toNatClampNeg (0 : Int32)))) 46 (Int32.toNatClampNeg (1 : Int32)))) mL else none else none
abbrev f_Mo_set (p0 : Int32) (mI : tm_I) (mL : tm_L) : Option (Int32 × tm_I × tm_L) := f_Mo_set_b0 p0 mI mL
set_option maxRecDepth 100000 in
set_option maxHeartbeats 4000000 in
theorem j_Mo_set_b205 {Γ : tm_G} {ex : List tm_Sh} {av : List Value} {X0 : tm_X} {r : Int32 × tm_I × tm_L} (C : tm_C Γ ty_Mo_set.1.cls ty_Mo_set.2.1 ty_Mo_set.2.2.1) (G : tm_Γ ty_Mo_set 1 20 0 0 av X0 (tm_is none (sh0 ++ ex, r.2.1, r.2.2, rr)) Γ) {x1 : Int32} {mI : tm_I} {mL : tm_L} (hf : f_Mo_set_b205 x1 mI mL = some r) : tm_T Γ 3 0 0 205 [some (.ref 39), some (.int x1), none] [] (sh0 ++ ex) mI mL rr := by
  have Ro := G.ro
  unfold f_Mo_set_b205 at hf
  cases hf
  exact tm_ev C G to_Mo_set rfl rfl (Nat.le_refl _) ⟨rfl, rfl⟩
set_option maxRecDepth 100000 in
set_option maxHeartbeats 4000000 in
theorem j_Mo_set_b204 {Γ : tm_G} {ex : List tm_Sh} {av : List Value} {X0 : tm_X} {r : Int32 × tm_I × tm_L} (C : tm_C Γ ty_Mo_set.1.cls ty_Mo_set.2.1 ty_Mo_set.2.2.1) (G : tm_Γ ty_Mo_set 1 20 0 0 av X0 (tm_is none (sh0 ++ ex, r.2.1, r.2.2, rr)) Γ) {x1 : Int32} {x2 : Int32} {s1 : Int32} {s2 : Int32} {mI : tm_I} {mL : tm_L} (hf : f_Mo_set_b204 x1 x2 s1 s2 mI mL = some r) : tm_T Γ 3 0 0 204 [some (.ref 39), some (.int x1), some (.int x2)] [.int s2, .int s1, .ref 49] (sh0 ++ ex) mI mL rr := by
  have Ro := G.ro
  unfold f_Mo_set_b204 at hf
  obtain ⟨c1, hf⟩ := tm_iteN hf
  refine tm_w C tfo_Mo to_Mo_set 0 rfl rfl rfl ⟨⟨_, rfl, c1⟩, trivial⟩ ?_
  refine tm_wk (lv' := [some (.ref 39), some (.int x1), none]) ⟨Or.inr rfl, Or.inr rfl, Or.inl rfl, trivial⟩ ?_
  exact j_Mo_set_b205 C G hf
set_option maxRecDepth 100000 in
set_option maxHeartbeats 4000000 in
theorem j_Mo_set_b174 {Γ : tm_G} {ex : List tm_Sh} {av : List Value} {X0 : tm_X} {r131 : Int32 → Int32 → tm_I → tm_L → Option (Int32 × tm_I × tm_L)} {r : Int32 × tm_I × tm_L} (C : tm_C Γ ty_Mo_set.1.cls ty_Mo_set.2.1 ty_Mo_set.2.2.1) (G : tm_Γ ty_Mo_set 1 20 0 0 av X0 (tm_is none (sh0 ++ ex, r.2.1, r.2.2, rr)) Γ) (H131 : ∀ (x1 : Int32) (x2 : Int32) (mI : tm_I) (mL : tm_L), r131 x1 x2 mI mL = some r → tm_T Γ 3 0 0 131 [some (.ref 39), some (.int x1), some (.int x2)] [] (sh0 ++ ex) mI mL rr) {x1 : Int32} {x2 : Int32} {mI : tm_I} {mL : tm_L} (hf : f_Mo_set_b174 r131 x1 x2 mI mL = some r) : tm_T Γ 3 0 0 174 [some (.ref 39), some (.int x1), some (.int x2)] [] (sh0 ++ ex) mI mL rr := by
  have Ro := G.ro
  unfold f_Mo_set_b174 at hf
  refine tm_w C tfo_Mo to_Mo_set 1 rfl rfl rfl trivial ?_
  refine tm_wk (lv' := [some (.ref 39), some (.int x1), some (.int (x2 + (1 : Int32)))]) ⟨Or.inr rfl, Or.inr rfl, Or.inr rfl, trivial⟩ ?_
  exact H131 _ _ _ _ hf
set_option maxRecDepth 100000 in
set_option maxHeartbeats 4000000 in
theorem j_Mo_set_l131 {Γ : tm_G} {ex : List tm_Sh} {av : List Value} {X0 : tm_X} {r : Int32 × tm_I × tm_L} (C : tm_C Γ ty_Mo_set.1.cls ty_Mo_set.2.1 ty_Mo_set.2.2.1) (G : tm_Γ ty_Mo_set 1 20 0 0 av X0 (tm_is none (sh0 ++ ex, r.2.1, r.2.2, rr)) Γ) : ∀ (n : Nat) (x1 : Int32) (x2 : Int32) (mI : tm_I) (mL : tm_L), f_Mo_set_l131 n x1 x2 mI mL = some r → tm_T Γ 3 0 0 131 [some (.ref 39), some (.int x1), some (.int x2)] [] (sh0 ++ ex) mI mL rr := by
  have Ro := G.ro
  intro n
  induction n with
  | zero => intro x1 x2 mI mL hf; cases hf
  | succ n ih =>
    intro x1 x2 mI mL hf
    rw [f_Mo_set_l131] at hf
    refine tm_w C tfo_Mo to_Mo_set 1 rfl rfl rfl trivial ?_
    obtain ⟨v1, hv1, hf⟩ := Option.bind_eq_some_iff.mp hf
    refine tm_cS C Ro to_Mo_set tl_Mo_88 rfl (ct_Mo_numbers hv1) rfl rfl rfl rfl rfl (Nat.le_refl _) (Nat.le_refl _) ?_
    refine tm_b C to_Mo_set rfl rfl (fun h => ?_) (fun h => ?_)
    · have hf := (if_pos h).symm.trans hf
      refine tm_w C tfo_Mo to_Mo_set 4 rfl rfl rfl ⟨rfl, trivial⟩ ?_
      refine tm_b C to_Mo_set rfl rfl (fun h => ?_) (fun h => ?_)
      · have hf := (if_pos h).symm.trans hf
        refine tm_w C tfo_Mo to_Mo_set 0 rfl rfl rfl trivial ?_
        obtain ⟨v2, hv2, hf⟩ := Option.bind_eq_some_iff.mp hf
        refine tm_cS C Ro to_Mo_set tl_Mo_246 rfl (ct_Mo_kindOf hv2) rfl rfl rfl rfl rfl (Nat.le_refl _) (Nat.le_refl _) ?_
        refine tm_wk (lv' := [some (.ref 39), some (.int x1), some (.int x2)]) ⟨Or.inr rfl, Or.inr rfl, Or.inr rfl, trivial⟩ ?_
        exact j_Mo_set_b204 C G hf
      · have hf := (if_neg h).symm.trans hf
        obtain ⟨c2, hf⟩ := tm_iteN hf
        refine tm_w C tfo_Mo to_Mo_set 4 rfl rfl rfl ⟨rfl, ⟨_, rfl, c2⟩, trivial⟩ ?_
        refine tm_wk (lv' := [some (.ref 39), some (.int x1), some (.int x2)]) ⟨Or.inr rfl, Or.inr rfl, Or.inr rfl, trivial⟩ ?_
        exact j_Mo_set_b204 C G hf
    · have hf := (if_neg h).symm.trans hf
      refine tm_w C tfo_Mo to_Mo_set 1 rfl rfl rfl trivial ?_
      refine tm_b C to_Mo_set rfl rfl (fun h => ?_) (fun h => ?_)
      · have hf := (if_pos h).symm.trans hf
        obtain ⟨c3, hf⟩ := tm_iteN hf
        obtain ⟨c4, hf⟩ := tm_iteN hf
        refine tm_w C tfo_Mo to_Mo_set 9 rfl rfl rfl ⟨rfl, rfl, ⟨_, rfl, c3⟩, ⟨_, rfl, c4⟩, trivial⟩ ?_
        refine tm_wk (lv' := [some (.ref 39), some (.int x1), some (.int x2)]) ⟨Or.inr rfl, Or.inr rfl, Or.inr rfl, trivial⟩ ?_
        exact j_Mo_set_b174 C G (ih) hf
      · have hf := (if_neg h).symm.trans hf
        obtain ⟨c5, hf⟩ := tm_iteN hf
        obtain ⟨c6, hf⟩ := tm_iteN hf
        refine tm_w C tfo_Mo to_Mo_set 8 rfl rfl rfl ⟨rfl, rfl, ⟨_, rfl, c5⟩, ⟨_, rfl, c6⟩, trivial⟩ ?_
        refine tm_wk (lv' := [some (.ref 39), some (.int x1), some (.int x2)]) ⟨Or.inr rfl, Or.inr rfl, Or.inr rfl, trivial⟩ ?_
        exact j_Mo_set_b174 C G (ih) hf
set_option maxRecDepth 100000 in
set_option maxHeartbeats 4000000 in
theorem j_Mo_set_b0 {Γ : tm_G} {ex : List tm_Sh} {av : List Value} {X0 : tm_X} {r : Int32 × tm_I × tm_L} (C : tm_C Γ ty_Mo_set.1.cls ty_Mo_set.2.1 ty_Mo_set.2.2.1) (G : tm_Γ ty_Mo_set 1 20 0 0 av X0 (tm_is none (sh0 ++ ex, r.2.1, r.2.2, rr)) Γ) {x1 : Int32} {mI : tm_I} {mL : tm_L} (hf : f_Mo_set_b0 x1 mI mL = some r) : tm_T Γ 3 0 0 0 [some (.ref 39), some (.int x1), none] [] (sh0 ++ ex) mI mL rr := by
  have Ro := G.ro
  unfold f_Mo_set_b0 at hf
  refine tm_w C tfo_Mo to_Mo_set 1 rfl rfl rfl trivial ?_
  refine tm_b C to_Mo_set rfl rfl (fun h => ?_) (fun h => ?_)
  · have hf := (if_pos h).symm.trans hf
    refine tm_w C tfo_Mo to_Mo_set 1 rfl rfl rfl trivial ?_
    refine tm_b C to_Mo_set rfl rfl (fun h => ?_) (fun h => ?_)
    · have hf := (if_pos h).symm.trans hf
      refine tm_w C tfo_Mo to_Mo_set 1 rfl rfl rfl trivial ?_
      refine tm_b C to_Mo_set rfl rfl (fun h => ?_) (fun h => ?_)
      · have hf := (if_pos h).symm.trans hf
        refine tm_w C tfo_Mo to_Mo_set 1 rfl rfl rfl trivial ?_
        refine tm_b C to_Mo_set rfl rfl (fun h => ?_) (fun h => ?_)
        · have hf := (if_pos h).symm.trans hf
          refine tm_w C tfo_Mo to_Mo_set 1 rfl rfl rfl trivial ?_
          refine tm_b C to_Mo_set rfl rfl (fun h => ?_) (fun h => ?_)
          · have hf := (if_pos h).symm.trans hf
            refine tm_w C tfo_Mo to_Mo_set 1 rfl rfl rfl trivial ?_
            refine tm_wk (lv' := [some (.ref 39), some (.int x1), some (.int (0 : Int32))]) ⟨Or.inr rfl, Or.inr rfl, Or.inr rfl, trivial⟩ ?_
            exact j_Mo_set_l131 C G _ _ _ _ _ hf
          · have hf := (if_neg h).symm.trans hf
            obtain ⟨c7, hf⟩ := tm_iteN hf
            obtain ⟨c8, hf⟩ := tm_iteN hf
            obtain ⟨c9, hf⟩ := tm_iteN hf
            refine tm_w C tfo_Mo to_Mo_set 13 rfl rfl rfl ⟨rfl, ⟨_, rfl, c7⟩, rfl, rfl, ⟨_, rfl, c8⟩, ⟨_, rfl, c9⟩, trivial⟩ ?_
            refine tm_wk (lv' := [some (.ref 39), some (.int x1), none]) ⟨Or.inr rfl, Or.inr rfl, Or.inl rfl, trivial⟩ ?_
            exact j_Mo_set_b205 C G hf
        · have hf := (if_neg h).symm.trans hf
          obtain ⟨c10, hf⟩ := tm_iteN hf
          refine tm_w C tfo_Mo to_Mo_set 5 rfl rfl rfl ⟨rfl, ⟨_, rfl, c10⟩, trivial⟩ ?_
          refine tm_wk (lv' := [some (.ref 39), some (.int x1), none]) ⟨Or.inr rfl, Or.inr rfl, Or.inl rfl, trivial⟩ ?_
          exact j_Mo_set_b205 C G hf
      · have hf := (if_neg h).symm.trans hf
        obtain ⟨c11, hf⟩ := tm_iteN hf
        obtain ⟨c12, hf⟩ := tm_iteN hf
        obtain ⟨c13, hf⟩ := tm_iteN hf
        obtain ⟨c14, hf⟩ := tm_iteN hf
        refine tm_w C tfo_Mo to_Mo_set 16 rfl rfl rfl ⟨rfl, rfl, ⟨_, rfl, c11⟩, ⟨_, rfl, c12⟩, rfl, rfl, ⟨_, rfl, c13⟩, ⟨_, rfl, c14⟩, trivial⟩ ?_
        refine tm_wk (lv' := [some (.ref 39), some (.int x1), none]) ⟨Or.inr rfl, Or.inr rfl, Or.inl rfl, trivial⟩ ?_
        exact j_Mo_set_b205 C G hf
    · have hf := (if_neg h).symm.trans hf
      obtain ⟨c15, hf⟩ := tm_iteN hf
      refine tm_w C tfo_Mo to_Mo_set 6 rfl rfl rfl ⟨rfl, ⟨_, rfl, c15⟩, rfl, trivial⟩ ?_
      refine tm_wk (lv' := [some (.ref 39), some (.int x1), none]) ⟨Or.inr rfl, Or.inr rfl, Or.inl rfl, trivial⟩ ?_
      exact j_Mo_set_b205 C G hf
  · have hf := (if_neg h).symm.trans hf
    obtain ⟨c16, hf⟩ := tm_iteN hf
    obtain ⟨c17, hf⟩ := tm_iteN hf
    refine tm_w C tfo_Mo to_Mo_set 12 rfl rfl rfl ⟨rfl, ⟨_, rfl, c16⟩, rfl, rfl, ⟨_, rfl, c17⟩, rfl, trivial⟩ ?_
    refine tm_wk (lv' := [some (.ref 39), some (.int x1), none]) ⟨Or.inr rfl, Or.inr rfl, Or.inl rfl, trivial⟩ ?_
    exact j_Mo_set_b205 C G hf
set_option maxRecDepth 100000 in
theorem ct_Mo_set {ex : List tm_Sh} {p0 : Int32} {mI : tm_I} {mL : tm_L} {r : Int32 × tm_I × tm_L} (hf : f_Mo_set p0 mI mL = some r) : tm_M ty_Mo_set 1 20 0 0 [.ref 39, .int p0] (sh0 ++ ex, mI, mL, rr) (tm_is none (sh0 ++ ex, r.2.1, r.2.2, rr)) := by
  refine tm_body (by decide) (Nat.le_of_ble_eq_true rfl) fun Γ C G => ?_
  exact j_Mo_set_b0 C G hf
/-! Mo_obey -/
def f_Mo_obey_b207 (x1 : Int32) (mI : tm_I) (mL : tm_L) : Option (Int32 × tm_I × tm_L) := some (0, mI, mL)
def f_Mo_obey_b202 (x1 : Int32) (mI : tm_I) (mL : tm_L) : Option (Int32 × tm_I × tm_L) := (f_Mo_set x1 mI mL).bind fun v1 => f_Mo_obey_b207 x1 v1.2.1 v1.2.2
def f_Mo_obey_b143 (x1 : Int32) (mI : tm_I) (mL : tm_L) : Option (Int32 × tm_I × tm_L) := (f_Mo_storeData x1 mI mL).bind fun v2 => f_Mo_obey_b207 x1 v2.2.1 v2.2.2
def f_Mo_obey_b0 (x1 : Int32) (mI : tm_I) (mL : tm_L) : Option (Int32 × tm_I × tm_L) := if x1 = (59 : Int32) then (f_Mo_newField (tm_up (tm_up mI 39 25 ((mI 39 25) + (1 : Int32))) 39 26 (((tm_up mI 39 25 ((mI 39 25) + (1 : Int32))) 39 26) + ((tm_up mI 39 25 ((mI 39 25) + (1 : Int32))) 39 34))) mL).bind fun v3 => f_Mo_obey_b207 x1 v3.2.1 v3.2.2 else if x1 = (69 : Int32) then (f_Mo_endLabel mI mL).bind fun v4 => f_Mo_obey_b207 x1 v4.2.1 v4.2.2 else if x1 = (75 : Int32) then f_Mo_obey_b143 x1 mI mL else if x1 = (76 : Int32) then (f_Mo_beginLabel mI mL).bind fun v5 => f_Mo_obey_b207 x1 v5.2.1 v5.2.2 else if x1 = (83 : Int32) then (f_Mo_storeForm mI mL).bind fun v6 => f_Mo_obey_b207 x1 v6.2.1 v6.2.2 else if x1 = (85 : Int32) then (f_Mo_layForm mI mL).bind fun v7 => f_Mo_obey_b207 x1 v7.2.1 v7.2.2 else if x1 = (86 : Int32) then f_Mo_obey_b143 x1 mI mL else if x1 = (88 : Int32) then f_Mo_obey_b143 x1 mI mL else f_Mo_obey_b202 x1 mI mL
abbrev f_Mo_obey (p0 : Int32) (mI : tm_I) (mL : tm_L) : Option (Int32 × tm_I × tm_L) := f_Mo_obey_b0 p0 mI mL
set_option maxRecDepth 100000 in
set_option maxHeartbeats 4000000 in
theorem j_Mo_obey_b207 {Γ : tm_G} {ex : List tm_Sh} {av : List Value} {X0 : tm_X} {r : Int32 × tm_I × tm_L} (C : tm_C Γ ty_Mo_obey.1.cls ty_Mo_obey.2.1 ty_Mo_obey.2.2.1) (G : tm_Γ ty_Mo_obey 7 176 0 0 av X0 (tm_is none (sh0 ++ ex, r.2.1, r.2.2, rr)) Γ) {x1 : Int32} {mI : tm_I} {mL : tm_L} (hf : f_Mo_obey_b207 x1 mI mL = some r) : tm_T Γ 2 0 0 207 [some (.ref 39), some (.int x1)] [] (sh0 ++ ex) mI mL rr := by
  have Ro := G.ro
  unfold f_Mo_obey_b207 at hf
  cases hf
  exact tm_ev C G to_Mo_obey rfl rfl (Nat.le_refl _) ⟨rfl, rfl⟩
set_option maxRecDepth 100000 in
set_option maxHeartbeats 4000000 in
theorem j_Mo_obey_b202 {Γ : tm_G} {ex : List tm_Sh} {av : List Value} {X0 : tm_X} {r : Int32 × tm_I × tm_L} (C : tm_C Γ ty_Mo_obey.1.cls ty_Mo_obey.2.1 ty_Mo_obey.2.2.1) (G : tm_Γ ty_Mo_obey 7 176 0 0 av X0 (tm_is none (sh0 ++ ex, r.2.1, r.2.2, rr)) Γ) {x1 : Int32} {mI : tm_I} {mL : tm_L} (hf : f_Mo_obey_b202 x1 mI mL = some r) : tm_T Γ 2 0 0 202 [some (.ref 39), some (.int x1)] [] (sh0 ++ ex) mI mL rr := by
  have Ro := G.ro
  unfold f_Mo_obey_b202 at hf
  refine tm_w C tfo_Mo to_Mo_obey 1 rfl rfl rfl trivial ?_
  obtain ⟨v1, hv1, hf⟩ := Option.bind_eq_some_iff.mp hf
  refine tm_cV C Ro to_Mo_obey tl_Mo_243 rfl (ct_Mo_set hv1) rfl rfl rfl rfl rfl rfl rfl (Nat.le_refl _) (Nat.le_refl _) ?_
  refine tm_wk (lv' := [some (.ref 39), some (.int x1)]) ⟨Or.inr rfl, Or.inr rfl, trivial⟩ ?_
  exact j_Mo_obey_b207 C G hf
set_option maxRecDepth 100000 in
set_option maxHeartbeats 4000000 in
theorem j_Mo_obey_b143 {Γ : tm_G} {ex : List tm_Sh} {av : List Value} {X0 : tm_X} {r : Int32 × tm_I × tm_L} (C : tm_C Γ ty_Mo_obey.1.cls ty_Mo_obey.2.1 ty_Mo_obey.2.2.1) (G : tm_Γ ty_Mo_obey 7 176 0 0 av X0 (tm_is none (sh0 ++ ex, r.2.1, r.2.2, rr)) Γ) {x1 : Int32} {mI : tm_I} {mL : tm_L} (hf : f_Mo_obey_b143 x1 mI mL = some r) : tm_T Γ 2 0 0 143 [some (.ref 39), some (.int x1)] [] (sh0 ++ ex) mI mL rr := by
  have Ro := G.ro
  unfold f_Mo_obey_b143 at hf
  refine tm_w C tfo_Mo to_Mo_obey 1 rfl rfl rfl trivial ?_
  obtain ⟨v2, hv2, hf⟩ := Option.bind_eq_some_iff.mp hf
  refine tm_cV C Ro to_Mo_obey tl_Mo_231 rfl (ct_Mo_storeData hv2) rfl rfl rfl rfl rfl rfl rfl (Nat.le_refl _) (Nat.le_refl _) ?_
  refine tm_w C tfo_Mo to_Mo_obey 0 rfl rfl rfl trivial ?_
  refine tm_wk (lv' := [some (.ref 39), some (.int x1)]) ⟨Or.inr rfl, Or.inr rfl, trivial⟩ ?_
  exact j_Mo_obey_b207 C G hf
set_option maxRecDepth 100000 in
set_option maxHeartbeats 4000000 in
theorem j_Mo_obey_b0 {Γ : tm_G} {ex : List tm_Sh} {av : List Value} {X0 : tm_X} {r : Int32 × tm_I × tm_L} (C : tm_C Γ ty_Mo_obey.1.cls ty_Mo_obey.2.1 ty_Mo_obey.2.2.1) (G : tm_Γ ty_Mo_obey 7 176 0 0 av X0 (tm_is none (sh0 ++ ex, r.2.1, r.2.2, rr)) Γ) {x1 : Int32} {mI : tm_I} {mL : tm_L} (hf : f_Mo_obey_b0 x1 mI mL = some r) : tm_T Γ 2 0 0 0 [some (.ref 39), some (.int x1)] [] (sh0 ++ ex) mI mL rr := by
  have Ro := G.ro
  unfold f_Mo_obey_b0 at hf
  refine tm_w C tfo_Mo to_Mo_obey 0 rfl rfl rfl trivial ?_
  by_cases h59 : x1 = (59 : Int32)
  · have hf := (if_pos h59).symm.trans hf
    refine tm_swI (tgt := 172) C (tm_get_d to_Mo_obey rfl) (59 : Int32) (171) h59 (by decide) (by decide) (by decide) (by decide) ?_
    refine tm_w C tfo_Mo to_Mo_obey 13 rfl rfl rfl ⟨rfl, rfl, rfl, rfl, rfl, trivial⟩ ?_
    obtain ⟨v3, hv3, hf⟩ := Option.bind_eq_some_iff.mp hf
    refine tm_cV C Ro to_Mo_obey tl_Mo_225 rfl (ct_Mo_newField hv3) rfl rfl rfl rfl rfl rfl rfl (Nat.le_refl _) (Nat.le_refl _) ?_
    refine tm_w C tfo_Mo to_Mo_obey 0 rfl rfl rfl trivial ?_
    refine tm_wk (lv' := [some (.ref 39), some (.int x1)]) ⟨Or.inr rfl, Or.inr rfl, trivial⟩ ?_
    exact j_Mo_obey_b207 C G hf
  have hf := (if_neg h59).symm.trans hf
  by_cases h69 : x1 = (69 : Int32)
  · have hf := (if_pos h69).symm.trans hf
    refine tm_swI (tgt := 158) C (tm_get_d to_Mo_obey rfl) (69 : Int32) (157) h69 (by decide) (by decide) (by decide) (by decide) ?_
    refine tm_w C tfo_Mo to_Mo_obey 0 rfl rfl rfl trivial ?_
    obtain ⟨v4, hv4, hf⟩ := Option.bind_eq_some_iff.mp hf
    refine tm_cV C Ro to_Mo_obey tl_Mo_237 rfl (ct_Mo_endLabel hv4) rfl rfl rfl rfl rfl rfl rfl (Nat.le_refl _) (Nat.le_refl _) ?_
    refine tm_w C tfo_Mo to_Mo_obey 0 rfl rfl rfl trivial ?_
    refine tm_wk (lv' := [some (.ref 39), some (.int x1)]) ⟨Or.inr rfl, Or.inr rfl, trivial⟩ ?_
    exact j_Mo_obey_b207 C G hf
  have hf := (if_neg h69).symm.trans hf
  by_cases h75 : x1 = (75 : Int32)
  · have hf := (if_pos h75).symm.trans hf
    refine tm_swI (tgt := 143) C (tm_get_d to_Mo_obey rfl) (75 : Int32) (142) h75 (by decide) (by decide) (by decide) (by decide) ?_
    refine tm_wk (lv' := [some (.ref 39), some (.int x1)]) ⟨Or.inr rfl, Or.inr rfl, trivial⟩ ?_
    exact j_Mo_obey_b143 C G hf
  have hf := (if_neg h75).symm.trans hf
  by_cases h76 : x1 = (76 : Int32)
  · have hf := (if_pos h76).symm.trans hf
    refine tm_swI (tgt := 151) C (tm_get_d to_Mo_obey rfl) (76 : Int32) (150) h76 (by decide) (by decide) (by decide) (by decide) ?_
    refine tm_w C tfo_Mo to_Mo_obey 0 rfl rfl rfl trivial ?_
    obtain ⟨v5, hv5, hf⟩ := Option.bind_eq_some_iff.mp hf
    refine tm_cV C Ro to_Mo_obey tl_Mo_234 rfl (ct_Mo_beginLabel hv5) rfl rfl rfl rfl rfl rfl rfl (Nat.le_refl _) (Nat.le_refl _) ?_
    refine tm_w C tfo_Mo to_Mo_obey 0 rfl rfl rfl trivial ?_
    refine tm_wk (lv' := [some (.ref 39), some (.int x1)]) ⟨Or.inr rfl, Or.inr rfl, trivial⟩ ?_
    exact j_Mo_obey_b207 C G hf
  have hf := (if_neg h76).symm.trans hf
  by_cases h83 : x1 = (83 : Int32)
  · have hf := (if_pos h83).symm.trans hf
    refine tm_swI (tgt := 136) C (tm_get_d to_Mo_obey rfl) (83 : Int32) (135) h83 (by decide) (by decide) (by decide) (by decide) ?_
    refine tm_w C tfo_Mo to_Mo_obey 0 rfl rfl rfl trivial ?_
    obtain ⟨v6, hv6, hf⟩ := Option.bind_eq_some_iff.mp hf
    refine tm_cV C Ro to_Mo_obey tl_Mo_228 rfl (ct_Mo_storeForm hv6) rfl rfl rfl rfl rfl rfl rfl (Nat.le_refl _) (Nat.le_refl _) ?_
    refine tm_w C tfo_Mo to_Mo_obey 0 rfl rfl rfl trivial ?_
    refine tm_wk (lv' := [some (.ref 39), some (.int x1)]) ⟨Or.inr rfl, Or.inr rfl, trivial⟩ ?_
    exact j_Mo_obey_b207 C G hf
  have hf := (if_neg h83).symm.trans hf
  by_cases h85 : x1 = (85 : Int32)
  · have hf := (if_pos h85).symm.trans hf
    refine tm_swI (tgt := 165) C (tm_get_d to_Mo_obey rfl) (85 : Int32) (164) h85 (by decide) (by decide) (by decide) (by decide) ?_
    refine tm_w C tfo_Mo to_Mo_obey 0 rfl rfl rfl trivial ?_
    obtain ⟨v7, hv7, hf⟩ := Option.bind_eq_some_iff.mp hf
    refine tm_cV C Ro to_Mo_obey tl_Mo_240 rfl (ct_Mo_layForm hv7) rfl rfl rfl rfl rfl rfl rfl (Nat.le_refl _) (Nat.le_refl _) ?_
    refine tm_w C tfo_Mo to_Mo_obey 0 rfl rfl rfl trivial ?_
    refine tm_wk (lv' := [some (.ref 39), some (.int x1)]) ⟨Or.inr rfl, Or.inr rfl, trivial⟩ ?_
    exact j_Mo_obey_b207 C G hf
  have hf := (if_neg h85).symm.trans hf
  by_cases h86 : x1 = (86 : Int32)
  · have hf := (if_pos h86).symm.trans hf
    refine tm_swI (tgt := 143) C (tm_get_d to_Mo_obey rfl) (86 : Int32) (142) h86 (by decide) (by decide) (by decide) (by decide) ?_
    refine tm_wk (lv' := [some (.ref 39), some (.int x1)]) ⟨Or.inr rfl, Or.inr rfl, trivial⟩ ?_
    exact j_Mo_obey_b143 C G hf
  have hf := (if_neg h86).symm.trans hf
  by_cases h88 : x1 = (88 : Int32)
  · have hf := (if_pos h88).symm.trans hf
    refine tm_swI (tgt := 143) C (tm_get_d to_Mo_obey rfl) (88 : Int32) (142) h88 (by decide) (by decide) (by decide) (by decide) ?_
    refine tm_wk (lv' := [some (.ref 39), some (.int x1)]) ⟨Or.inr rfl, Or.inr rfl, trivial⟩ ?_
    exact j_Mo_obey_b143 C G hf
  have hf := (if_neg h88).symm.trans hf
  refine tm_swD (tgt := 202) C (tm_get_d to_Mo_obey rfl) [(59 : Int32), (69 : Int32), (75 : Int32), (76 : Int32), (83 : Int32), (85 : Int32), (86 : Int32), (88 : Int32)] (by decide) (by decide) (List.forall_mem_cons.mpr ⟨h59, List.forall_mem_cons.mpr ⟨h69, List.forall_mem_cons.mpr ⟨h75, List.forall_mem_cons.mpr ⟨h76, List.forall_mem_cons.mpr ⟨h83, List.forall_mem_cons.mpr ⟨h85, List.forall_mem_cons.mpr ⟨h86, List.forall_mem_cons.mpr ⟨h88, fun _ h => nomatch h⟩⟩⟩⟩⟩⟩⟩⟩) (by decide) ?_
  refine tm_wk (lv' := [some (.ref 39), some (.int x1)]) ⟨Or.inr rfl, Or.inr rfl, trivial⟩ ?_
  exact j_Mo_obey_b202 C G hf
set_option maxRecDepth 100000 in
theorem ct_Mo_obey {ex : List tm_Sh} {p0 : Int32} {mI : tm_I} {mL : tm_L} {r : Int32 × tm_I × tm_L} (hf : f_Mo_obey p0 mI mL = some r) : tm_M ty_Mo_obey 7 176 0 0 [.ref 39, .int p0] (sh0 ++ ex, mI, mL, rr) (tm_is none (sh0 ++ ex, r.2.1, r.2.2, rr)) := by
  refine tm_body (by decide) (Nat.le_of_ble_eq_true rfl) fun Γ C G => ?_
  exact j_Mo_obey_b0 C G hf
