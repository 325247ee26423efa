/-! Sh_clear -/
def f_Sh_clear_b0  (mI : tm_I) (mL : tm_L) : Option (Int32 × tm_I × tm_L) := some (0, tm_up (tm_up (tm_up (tm_up mI 20 3 (0 : Int32)) 20 4 (0 : Int32)) 20 5 (0 : Int32)) 20 6 (0 : Int32), mL)
abbrev f_Sh_clear  (mI : tm_I) (mL : tm_L) : Option (Int32 × tm_I × tm_L) := f_Sh_clear_b0  mI mL
set_option maxRecDepth 100000 in
set_option maxHeartbeats 4000000 in
theorem j_Sh_clear_b0 {Γ : tm_G} {ex : List tm_Sh} {av : List Value} {X0 : tm_X} {r : Int32 × tm_I × tm_L} (C : tm_C Γ ty_Sh_clear.1.cls ty_Sh_clear.2.1 ty_Sh_clear.2.2.1) (G : tm_Γ ty_Sh_clear 0 0 0 0 av X0 (tm_is none (sh0 ++ ex, r.2.1, r.2.2, rr)) Γ) {mI : tm_I} {mL : tm_L} (hf : f_Sh_clear_b0  mI mL = some r) : tm_T Γ 1 0 0 0 [some (.ref 20)] [] (sh0 ++ ex) mI mL rr := by
  have Ro := G.ro
  unfold f_Sh_clear_b0 at hf
  refine tm_w C tfo_Sh to_Sh_clear 11 rfl rfl rfl ⟨rfl, rfl, rfl, rfl, trivial⟩ ?_
  cases hf
  exact tm_ev C G to_Sh_clear rfl rfl (Nat.le_refl _) ⟨rfl, rfl⟩
set_option maxRecDepth 100000 in
theorem ct_Sh_clear {ex : List tm_Sh}  {mI : tm_I} {mL : tm_L} {r : Int32 × tm_I × tm_L} (hf : f_Sh_clear  mI mL = some r) : tm_M ty_Sh_clear 0 0 0 0 [.ref 20] (sh0 ++ ex, mI, mL, rr) (tm_is none (sh0 ++ ex, r.2.1, r.2.2, rr)) := by
  refine tm_body (by decide) (Nat.le_of_ble_eq_true rfl) fun Γ C G => ?_
  exact j_Sh_clear_b0 C G hf
/-! Sh_hasOrder -/
def f_Sh_hasOrder_b17 (x1 : Int32) (s0 : Int32) (mI : tm_I) (mL : tm_L) : Option (Int32 × tm_I × tm_L) := if s0 = 0 ∨ s0 = 1 then some (s0, mI, mL) else none
def f_Sh_hasOrder_b16 (x1 : Int32) (mI : tm_I) (mL : tm_L) : Option (Int32 × tm_I × tm_L) := f_Sh_hasOrder_b17 x1 (0 : Int32) mI mL
def f_Sh_hasOrder_b0 (x1 : Int32) (mI : tm_I) (mL : tm_L) : Option (Int32 × tm_I × tm_L) := if x1 < 0 then f_Sh_hasOrder_b16 x1 mI mL else if (mI 20 4) ≤ x1 then f_Sh_hasOrder_b16 x1 mI mL else f_Sh_hasOrder_b17 x1 (1 : Int32) mI mL
abbrev f_Sh_hasOrder (p0 : Int32) (mI : tm_I) (mL : tm_L) : Option (Int32 × tm_I × tm_L) := f_Sh_hasOrder_b0 p0 mI mL
set_option maxRecDepth 100000 in
set_option maxHeartbeats 4000000 in
theorem j_Sh_hasOrder_b17 {Γ : tm_G} {ex : List tm_Sh} {av : List Value} {X0 : tm_X} {r : Int32 × tm_I × tm_L} (C : tm_C Γ ty_Sh_hasOrder.1.cls ty_Sh_hasOrder.2.1 ty_Sh_hasOrder.2.2.1) (G : tm_Γ ty_Sh_hasOrder 0 0 0 0 av X0 (tm_is (some (.int r.1)) (sh0 ++ ex, r.2.1, r.2.2, rr)) Γ) {x1 : Int32} {s0 : Int32} {mI : tm_I} {mL : tm_L} (hf : f_Sh_hasOrder_b17 x1 s0 mI mL = some r) : tm_T Γ 2 0 0 17 [some (.ref 20), some (.int x1)] [.int s0] (sh0 ++ ex) mI mL rr := by
  have Ro := G.ro
  unfold f_Sh_hasOrder_b17 at hf
  obtain ⟨c1, hf⟩ := tm_iteN hf
  cases hf
  exact tm_ei C G to_Sh_hasOrder rfl rfl (Nat.le_refl _) (tm_nz c1) ⟨rfl, rfl⟩
set_option maxRecDepth 100000 in
set_option maxHeartbeats 4000000 in
theorem j_Sh_hasOrder_b16 {Γ : tm_G} {ex : List tm_Sh} {av : List Value} {X0 : tm_X} {r : Int32 × tm_I × tm_L} (C : tm_C Γ ty_Sh_hasOrder.1.cls ty_Sh_hasOrder.2.1 ty_Sh_hasOrder.2.2.1) (G : tm_Γ ty_Sh_hasOrder 0 0 0 0 av X0 (tm_is (some (.int r.1)) (sh0 ++ ex, r.2.1, r.2.2, rr)) Γ) {x1 : Int32} {mI : tm_I} {mL : tm_L} (hf : f_Sh_hasOrder_b16 x1 mI mL = some r) : tm_T Γ 2 0 0 16 [some (.ref 20), some (.int x1)] [] (sh0 ++ ex) mI mL rr := by
  have Ro := G.ro
  unfold f_Sh_hasOrder_b16 at hf
  refine tm_w C tfo_Sh to_Sh_hasOrder 0 rfl rfl rfl trivial ?_
  refine tm_wk (lv' := [some (.ref 20), some (.int x1)]) ⟨Or.inr rfl, Or.inr rfl, trivial⟩ ?_
  exact j_Sh_hasOrder_b17 C G hf
set_option maxRecDepth 100000 in
set_option maxHeartbeats 4000000 in
theorem j_Sh_hasOrder_b0 {Γ : tm_G} {ex : List tm_Sh} {av : List Value} {X0 : tm_X} {r : Int32 × tm_I × tm_L} (C : tm_C Γ ty_Sh_hasOrder.1.cls ty_Sh_hasOrder.2.1 ty_Sh_hasOrder.2.2.1) (G : tm_Γ ty_Sh_hasOrder 0 0 0 0 av X0 (tm_is (some (.int r.1)) (sh0 ++ ex, r.2.1, r.2.2, rr)) Γ) {x1 : Int32} {mI : tm_I} {mL : tm_L} (hf : f_Sh_hasOrder_b0 x1 mI mL = some r) : tm_T Γ 2 0 0 0 [some (.ref 20), some (.int x1)] [] (sh0 ++ ex) mI mL rr := by
  have Ro := G.ro
  unfold f_Sh_hasOrder_b0 at hf
  refine tm_w C tfo_Sh to_Sh_hasOrder 0 rfl rfl rfl trivial ?_
  refine tm_b C to_Sh_hasOrder rfl rfl (fun h => ?_) (fun h => ?_)
  · have hf := (if_pos h).symm.trans hf
    refine tm_wk (lv' := [some (.ref 20), some (.int x1)]) ⟨Or.inr rfl, Or.inr rfl, trivial⟩ ?_
    exact j_Sh_hasOrder_b16 C G hf
  · have hf := (if_neg h).symm.trans hf
    refine tm_w C tfo_Sh to_Sh_hasOrder 2 rfl rfl rfl ⟨rfl, trivial⟩ ?_
    refine tm_b C to_Sh_hasOrder rfl rfl (fun h => ?_) (fun h => ?_)
    · have hf := (if_pos h).symm.trans hf
      refine tm_wk (lv' := [some (.ref 20), some (.int x1)]) ⟨Or.inr rfl, Or.inr rfl, trivial⟩ ?_
      exact j_Sh_hasOrder_b16 C G hf
    · have hf := (if_neg h).symm.trans hf
      refine tm_w C tfo_Sh to_Sh_hasOrder 1 rfl rfl rfl trivial ?_
      refine tm_wk (lv' := [some (.ref 20), some (.int x1)]) ⟨Or.inr rfl, Or.inr rfl, trivial⟩ ?_
      exact j_Sh_hasOrder_b17 C G hf
set_option maxRecDepth 100000 in
theorem ct_Sh_hasOrder {ex : List tm_Sh} {p0 : Int32} {mI : tm_I} {mL : tm_L} {r : Int32 × tm_I × tm_L} (hf : f_Sh_hasOrder p0 mI mL = some r) : tm_M ty_Sh_hasOrder 0 0 0 0 [.ref 20, .int p0] (sh0 ++ ex, mI, mL, rr) (tm_is (some (.int r.1)) (sh0 ++ ex, r.2.1, r.2.2, rr)) := by
  refine tm_body (by decide) (Nat.le_of_ble_eq_true rfl) fun Γ C G => ?_
  exact j_Sh_hasOrder_b0 C G hf
/-! Sh_isOverfull -/
def f_Sh_isOverfull_b14 (s0 : Int32) (mI : tm_I) (mL : tm_L) : Option (Int32 × tm_I × tm_L) := if s0 = 0 ∨ s0 = 1 then some (s0, mI, mL) else none
def f_Sh_isOverfull_b0  (mI : tm_I) (mL : tm_L) : Option (Int32 × tm_I × tm_L) := if (mI 20 5) ≤ (120 : Int32) then f_Sh_isOverfull_b14 (0 : Int32) mI mL else f_Sh_isOverfull_b14 (1 : Int32) mI mL
abbrev f_Sh_isOverfull  (mI : tm_I) (mL : tm_L) : Option (Int32 × tm_I × tm_L) := f_Sh_isOverfull_b0  mI mL
set_option maxRecDepth 100000 in
set_option maxHeartbeats 4000000 in
theorem j_Sh_isOverfull_b14 {Γ : tm_G} {ex : List tm_Sh} {av : List Value} {X0 : tm_X} {r : Int32 × tm_I × tm_L} (C : tm_C Γ ty_Sh_isOverfull.1.cls ty_Sh_isOverfull.2.1 ty_Sh_isOverfull.2.2.1) (G : tm_Γ ty_Sh_isOverfull 0 0 0 0 av X0 (tm_is (some (.int r.1)) (sh0 ++ ex, r.2.1, r.2.2, rr)) Γ) {s0 : Int32} {mI : tm_I} {mL : tm_L} (hf : f_Sh_isOverfull_b14 s0 mI mL = some r) : tm_T Γ 1 0 0 14 [some (.ref 20)] [.int s0] (sh0 ++ ex) mI mL rr := by
  have Ro := G.ro
  unfold f_Sh_isOverfull_b14 at hf
  obtain ⟨c1, hf⟩ := tm_iteN hf
  cases hf
  exact tm_ei C G to_Sh_isOverfull rfl rfl (Nat.le_refl _) (tm_nz c1) ⟨rfl, rfl⟩
set_option maxRecDepth 100000 in
set_option maxHeartbeats 4000000 in
theorem j_Sh_isOverfull_b0 {Γ : tm_G} {ex : List tm_Sh} {av : List Value} {X0 : tm_X} {r : Int32 × tm_I × tm_L} (C : tm_C Γ ty_Sh_isOverfull.1.cls ty_Sh_isOverfull.2.1 ty_Sh_isOverfull.2.2.1) (G : tm_Γ ty_Sh_isOverfull 0 0 0 0 av X0 (tm_is (some (.int r.1)) (sh0 ++ ex, r.2.1, r.2.2, rr)) Γ) {mI : tm_I} {mL : tm_L} (hf : f_Sh_isOverfull_b0  mI mL = some r) : tm_T Γ 1 0 0 0 [some (.ref 20)] [] (sh0 ++ ex) mI mL rr := by
  have Ro := G.ro
  unfold f_Sh_isOverfull_b0 at hf
  refine tm_w C tfo_Sh to_Sh_isOverfull 2 rfl rfl rfl ⟨rfl, trivial⟩ ?_
  refine tm_b C to_Sh_isOverfull rfl rfl (fun h => ?_) (fun h => ?_)
  · have hf := (if_pos h).symm.trans hf
    refine tm_w C tfo_Sh to_Sh_isOverfull 0 rfl rfl rfl trivial ?_
    refine tm_wk (lv' := [some (.ref 20)]) ⟨Or.inr rfl, trivial⟩ ?_
    exact j_Sh_isOverfull_b14 C G hf
  · have hf := (if_neg h).symm.trans hf
    refine tm_w C tfo_Sh to_Sh_isOverfull 1 rfl rfl rfl trivial ?_
    refine tm_wk (lv' := [some (.ref 20)]) ⟨Or.inr rfl, trivial⟩ ?_
    exact j_Sh_isOverfull_b14 C G hf
set_option maxRecDepth 100000 in
theorem ct_Sh_isOverfull {ex : List tm_Sh}  {mI : tm_I} {mL : tm_L} {r : Int32 × tm_I × tm_L} (hf : f_Sh_isOverfull  mI mL = some r) : tm_M ty_Sh_isOverfull 0 0 0 0 [.ref 20] (sh0 ++ ex, mI, mL, rr) (tm_is (some (.int r.1)) (sh0 ++ ex, r.2.1, r.2.2, rr)) := by
  refine tm_body (by decide) (Nat.le_of_ble_eq_true rfl) fun Γ C G => ?_
  exact j_Sh_isOverfull_b0 C G hf
/-! Sh_labelCell -/
def f_Sh_labelCell_b27 (x1 : Int32) (x2 : Int32) (mI : tm_I) (mL : tm_L) : Option (Int32 × tm_I × tm_L) := some ((-1 : Int32), mI, mL)
def f_Sh_labelCell_b0 (x1 : Int32) (x2 : Int32) (mI : tm_I) (mL : tm_L) : Option (Int32 × tm_I × tm_L) := if x1 < 0 then f_Sh_labelCell_b27 x1 x2 mI mL else if (mI 20 3) ≤ x1 then f_Sh_labelCell_b27 x1 x2 mI mL else if (12 : Int32) ≤ x1 then f_Sh_labelCell_b27 x1 x2 mI mL else if x2 < 0 then f_Sh_labelCell_b27 x1 x2 mI mL else if x2 < (4 : Int32) then if ¬ (((x1 * (4 : Int32)) + x2) < 0 ∨ 48 ≤ Int32.toNatClampNeg ((x1 * (4 : Int32)) + x2)) then some ((mI 21 (Int32.toNatClampNeg ((x1 * (4 : Int32)) + x2))), mI, mL) else none else f_Sh_labelCell_b27 x1 x2 mI mL
abbrev f_Sh_labelCell (p0 : Int32) (p1 : Int32) (mI : tm_I) (mL : tm_L) : Option (Int32 × tm_I × tm_L) := f_Sh_labelCell_b0 p0 p1 mI mL
set_option maxRecDepth 100000 in
set_option maxHeartbeats 4000000 in
theorem j_Sh_labelCell_b27 {Γ : tm_G} {ex : List tm_Sh} {av : List Value} {X0 : tm_X} {r : Int32 × tm_I × tm_L} (C : tm_C Γ ty_Sh_labelCell.1.cls ty_Sh_labelCell.2.1 ty_Sh_labelCell.2.2.1) (G : tm_Γ ty_Sh_labelCell 0 0 0 0 av X0 (tm_is (some (.int r.1)) (sh0 ++ ex, r.2.1, r.2.2, rr)) Γ) {x1 : Int32} {x2 : Int32} {mI : tm_I} {mL : tm_L} (hf : f_Sh_labelCell_b27 x1 x2 mI mL = some r) : tm_T Γ 3 0 0 27 [some (.ref 20), some (.int x1), some (.int x2)] [] (sh0 ++ ex) mI mL rr := by
  have Ro := G.ro
  unfold f_Sh_labelCell_b27 at hf
  refine tm_w C tfo_Sh to_Sh_labelCell 0 rfl rfl rfl trivial ?_
  cases hf
  exact tm_ei C G to_Sh_labelCell rfl rfl (Nat.le_refl _) rfl ⟨rfl, rfl⟩
set_option maxRecDepth 100000 in
set_option maxHeartbeats 4000000 in
theorem j_Sh_labelCell_b0 {Γ : tm_G} {ex : List tm_Sh} {av : List Value} {X0 : tm_X} {r : Int32 × tm_I × tm_L} (C : tm_C Γ ty_Sh_labelCell.1.cls ty_Sh_labelCell.2.1 ty_Sh_labelCell.2.2.1) (G : tm_Γ ty_Sh_labelCell 0 0 0 0 av X0 (tm_is (some (.int r.1)) (sh0 ++ ex, r.2.1, r.2.2, rr)) Γ) {x1 : Int32} {x2 : Int32} {mI : tm_I} {mL : tm_L} (hf : f_Sh_labelCell_b0 x1 x2 mI mL = some r) : tm_T Γ 3 0 0 0 [some (.ref 20), some (.int x1), some (.int x2)] [] (sh0 ++ ex) mI mL rr := by
  have Ro := G.ro
  unfold f_Sh_labelCell_b0 at hf
  refine tm_w C tfo_Sh to_Sh_labelCell 0 rfl rfl rfl trivial ?_
  refine tm_b C to_Sh_labelCell rfl rfl (fun h => ?_) (fun h => ?_)
  · have hf := (if_pos h).symm.trans hf
    refine tm_wk (lv' := [some (.ref 20), some (.int x1), some (.int x2)]) ⟨Or.inr rfl, Or.inr rfl, Or.inr rfl, trivial⟩ ?_
    exact j_Sh_labelCell_b27 C G hf
  · have hf := (if_neg h).symm.trans hf
    refine tm_w C tfo_Sh to_Sh_labelCell 2 rfl rfl rfl ⟨rfl, trivial⟩ ?_
    refine tm_b C to_Sh_labelCell rfl rfl (fun h => ?_) (fun h => ?_)
    · have hf := (if_pos h).symm.trans hf
      refine tm_wk (lv' := [some (.ref 20), some (.int x1), some (.int x2)]) ⟨Or.inr rfl, Or.inr rfl, Or.inr rfl, trivial⟩ ?_
      exact j_Sh_labelCell_b27 C G hf
    · have hf := (if_neg h).symm.trans hf
      refine tm_w C tfo_Sh to_Sh_labelCell 1 rfl rfl rfl trivial ?_
      refine tm_b C to_Sh_labelCell rfl rfl (fun h => ?_) (fun h => ?_)
      · have hf := (if_pos h).symm.trans hf
        refine tm_wk (lv' := [some (.ref 20), some (.int x1), some (.int x2)]) ⟨Or.inr rfl, Or.inr rfl, Or.inr rfl, trivial⟩ ?_
        exact j_Sh_labelCell_b27 C G hf
      · have hf := (if_neg h).symm.trans hf
        refine tm_w C tfo_Sh to_Sh_labelCell 0 rfl rfl rfl trivial ?_
        refine tm_b C to_Sh_labelCell rfl rfl (fun h => ?_) (fun h => ?_)
        · have hf := (if_pos h).symm.trans hf
          refine tm_wk (lv' := [some (.ref 20), some (.int x1), some (.int x2)]) ⟨Or.inr rfl, Or.inr rfl, Or.inr rfl, trivial⟩ ?_
          exact j_Sh_labelCell_b27 C G hf
        · have hf := (if_neg h).symm.trans hf
          refine tm_w C tfo_Sh to_Sh_labelCell 1 rfl rfl rfl trivial ?_
          refine tm_b C to_Sh_labelCell rfl rfl (fun h => ?_) (fun h => ?_)
          · have hf := (if_pos h).symm.trans hf
            obtain ⟨c1, hf⟩ := tm_iteN hf
            refine tm_w C tfo_Sh to_Sh_labelCell 7 rfl rfl rfl ⟨rfl, ⟨_, rfl, c1⟩, trivial⟩ ?_
            cases hf
            exact tm_ei C G to_Sh_labelCell rfl rfl (Nat.le_refl _) rfl ⟨rfl, rfl⟩
          · have hf := (if_neg h).symm.trans hf
            refine tm_wk (lv' := [some (.ref 20), some (.int x1), some (.int x2)]) ⟨Or.inr rfl, Or.inr rfl, Or.inr rfl, trivial⟩ ?_
            exact j_Sh_labelCell_b27 C G hf
set_option maxRecDepth 100000 in
theorem ct_Sh_labelCell {ex : List tm_Sh} {p0 : Int32} {p1 : Int32} {mI : tm_I} {mL : tm_L} {r : Int32 × tm_I × tm_L} (hf : f_Sh_labelCell p0 p1 mI mL = some r) : tm_M ty_Sh_labelCell 0 0 0 0 [.ref 20, .int p0, .int p1] (sh0 ++ ex, mI, mL, rr) (tm_is (some (.int r.1)) (sh0 ++ ex, r.2.1, r.2.2, rr)) := by
  refine tm_body (by decide) (Nat.le_of_ble_eq_true rfl) fun Γ C G => ?_
  exact j_Sh_labelCell_b0 C G hf
/-! Sh_cell -/
def f_Sh_cell_b45 (x1 : Int32) (x2 : Int32) (x3 : Int32) (s0 : Int32) (mI : tm_I) (mL : tm_L) : Option (Int32 × tm_I × tm_L) := some (s0, mI, mL)
def f_Sh_cell_b25 (x1 : Int32) (x2 : Int32) (s0 : Int32) (mI : tm_I) (mL : tm_L) : Option (Int32 × tm_I × tm_L) := if s0 = 0 then f_Sh_cell_b45 x1 x2 s0 (0 : Int32) mI mL else if ¬ (((x1 * (14 : Int32)) + x2) < 0 ∨ 1680 ≤ Int32.toNatClampNeg ((x1 * (14 : Int32)) + x2)) then f_Sh_cell_b45 x1 x2 s0 (mI 22 (Int32.toNatClampNeg ((x1 * (14 : Int32)) + x2))) mI mL else none
def f_Sh_cell_b24 (x1 : Int32) (x2 : Int32) (mI : tm_I) (mL : tm_L) : Option (Int32 × tm_I × tm_L) := f_Sh_cell_b25 x1 x2 (0 : Int32) mI mL
def f_Sh_cell_b0 (x1 : Int32) (x2 : Int32) (mI : tm_I) (mL : tm_L) : Option (Int32 × tm_I × tm_L) := if x1 < 0 then f_Sh_cell_b24 x1 x2 mI mL else if (120 : Int32) ≤ x1 then f_Sh_cell_b24 x1 x2 mI mL else if x2 < 0 then f_Sh_cell_b24 x1 x2 mI mL else if (14 : Int32) ≤ x2 then f_Sh_cell_b24 x1 x2 mI mL else f_Sh_cell_b25 x1 x2 (1 : Int32) mI mL
abbrev f_Sh_cell (p0 : Int32) (p1 : Int32) (mI : tm_I) (mL : tm_L) : Option (Int32 × tm_I × tm_L) := f_Sh_cell_b0 p0 p1 mI mL
set_option maxRecDepth 100000 in
set_option maxHeartbeats 4000000 in
theorem j_Sh_cell_b45 {Γ : tm_G} {ex : List tm_Sh} {av : List Value} {X0 : tm_X} {r : Int32 × tm_I × tm_L} (C : tm_C Γ ty_Sh_cell.1.cls ty_Sh_cell.2.1 ty_Sh_cell.2.2.1) (G : tm_Γ ty_Sh_cell 0 0 0 0 av X0 (tm_is (some (.int r.1)) (sh0 ++ ex, r.2.1, r.2.2, rr)) Γ) {x1 : Int32} {x2 : Int32} {x3 : Int32} {s0 : Int32} {mI : tm_I} {mL : tm_L} (hf : f_Sh_cell_b45 x1 x2 x3 s0 mI mL = some r) : tm_T Γ 4 0 0 45 [some (.ref 20), some (.int x1), some (.int x2), some (.int x3)] [.int s0] (sh0 ++ ex) mI mL rr := by
  have Ro := G.ro
  unfold f_Sh_cell_b45 at hf
  cases hf
  exact tm_ei C G to_Sh_cell rfl rfl (Nat.le_refl _) rfl ⟨rfl, rfl⟩
set_option maxRecDepth 100000 in
set_option maxHeartbeats 4000000 in
theorem j_Sh_cell_b25 {Γ : tm_G} {ex : List tm_Sh} {av : List Value} {X0 : tm_X} {r : Int32 × tm_I × tm_L} (C : tm_C Γ ty_Sh_cell.1.cls ty_Sh_cell.2.1 ty_Sh_cell.2.2.1) (G : tm_Γ ty_Sh_cell 0 0 0 0 av X0 (tm_is (some (.int r.1)) (sh0 ++ ex, r.2.1, r.2.2, rr)) Γ) {x1 : Int32} {x2 : Int32} {s0 : Int32} {mI : tm_I} {mL : tm_L} (hf : f_Sh_cell_b25 x1 x2 s0 mI mL = some r) : tm_T Γ 4 0 0 25 [some (.ref 20), some (.int x1), some (.int x2), none] [.int s0] (sh0 ++ ex) mI mL rr := by
  have Ro := G.ro
  unfold f_Sh_cell_b25 at hf
  refine tm_w C tfo_Sh to_Sh_cell 1 rfl rfl rfl trivial ?_
  refine tm_b C to_Sh_cell rfl rfl (fun h => ?_) (fun h => ?_)
  · have hf := (if_pos h).symm.trans hf
    refine tm_w C tfo_Sh to_Sh_cell 0 rfl rfl rfl trivial ?_
    refine tm_wk (lv' := [some (.ref 20), some (.int x1), some (.int x2), some (.int s0)]) ⟨Or.inr rfl, Or.inr rfl, Or.inr rfl, Or.inr rfl, trivial⟩ ?_
    exact j_Sh_cell_b45 C G hf
  · have hf := (if_neg h).symm.trans hf
    obtain ⟨c1, hf⟩ := tm_iteN hf
    refine tm_w C tfo_Sh to_Sh_cell 8 rfl rfl rfl ⟨rfl, ⟨_, rfl, c1⟩, trivial⟩ ?_
    refine tm_wk (lv' := [some (.ref 20), some (.int x1), some (.int x2), some (.int s0)]) ⟨Or.inr rfl, Or.inr rfl, Or.inr rfl, Or.inr rfl, trivial⟩ ?_
    exact j_Sh_cell_b45 C G hf
set_option maxRecDepth 100000 in
set_option maxHeartbeats 4000000 in
theorem j_Sh_cell_b24 {Γ : tm_G} {ex : List tm_Sh} {av : List Value} {X0 : tm_X} {r : Int32 × tm_I × tm_L} (C : tm_C Γ ty_Sh_cell.1.cls ty_Sh_cell.2.1 ty_Sh_cell.2.2.1) (G : tm_Γ ty_Sh_cell 0 0 0 0 av X0 (tm_is (some (.int r.1)) (sh0 ++ ex, r.2.1, r.2.2, rr)) Γ) {x1 : Int32} {x2 : Int32} {mI : tm_I} {mL : tm_L} (hf : f_Sh_cell_b24 x1 x2 mI mL = some r) : tm_T Γ 4 0 0 24 [some (.ref 20), some (.int x1), some (.int x2), none] [] (sh0 ++ ex) mI mL rr := by
  have Ro := G.ro
  unfold f_Sh_cell_b24 at hf
  refine tm_w C tfo_Sh to_Sh_cell 0 rfl rfl rfl trivial ?_
  refine tm_wk (lv' := [some (.ref 20), some (.int x1), some (.int x2), none]) ⟨Or.inr rfl, Or.inr rfl, Or.inr rfl, Or.inl rfl, trivial⟩ ?_
  exact j_Sh_cell_b25 C G hf
set_option maxRecDepth 100000 in
set_option maxHeartbeats 4000000 in
theorem j_Sh_cell_b0 {Γ : tm_G} {ex : List tm_Sh} {av : List Value} {X0 : tm_X} {r : Int32 × tm_I × tm_L} (C : tm_C Γ ty_Sh_cell.1.cls ty_Sh_cell.2.1 ty_Sh_cell.2.2.1) (G : tm_Γ ty_Sh_cell 0 0 0 0 av X0 (tm_is (some (.int r.1)) (sh0 ++ ex, r.2.1, r.2.2, rr)) Γ) {x1 : Int32} {x2 : Int32} {mI : tm_I} {mL : tm_L} (hf : f_Sh_cell_b0 x1 x2 mI mL = some r) : tm_T Γ 4 0 0 0 [some (.ref 20), some (.int x1), some (.int x2), none] [] (sh0 ++ ex) mI mL rr := by
  have Ro := G.ro
  unfold f_Sh_cell_b0 at hf
  refine tm_w C tfo_Sh to_Sh_cell 0 rfl rfl rfl trivial ?_
  refine tm_b C to_Sh_cell rfl rfl (fun h => ?_) (fun h => ?_)
  · have hf := (if_pos h).symm.trans hf
    refine tm_wk (lv' := [some (.ref 20), some (.int x1), some (.int x2), none]) ⟨Or.inr rfl, Or.inr rfl, Or.inr rfl, Or.inl rfl, trivial⟩ ?_
    exact j_Sh_cell_b24 C G hf
  · have hf := (if_neg h).symm.trans hf
    refine tm_w C tfo_Sh to_Sh_cell 1 rfl rfl rfl trivial ?_
    refine tm_b C to_Sh_cell rfl rfl (fun h => ?_) (fun h => ?_)
    · have hf := (if_pos h).symm.trans hf
      refine tm_wk (lv' := [some (.ref 20), some (.int x1), some (.int x2), none]) ⟨Or.inr rfl, Or.inr rfl, Or.inr rfl, Or.inl rfl, trivial⟩ ?_
      exact j_Sh_cell_b24 C G hf
    · have hf := (if_neg h).symm.trans hf
      refine tm_w C tfo_Sh to_Sh_cell 0 rfl rfl rfl trivial ?_
      refine tm_b C to_Sh_cell rfl rfl (fun h => ?_) (fun h => ?_)
      · have hf := (if_pos h).symm.trans hf
        refine tm_wk (lv' := [some (.ref 20), some (.int x1), some (.int x2), none]) ⟨Or.inr rfl, Or.inr rfl, Or.inr rfl, Or.inl rfl, trivial⟩ ?_
        exact j_Sh_cell_b24 C G hf
      · have hf := (if_neg h).symm.trans hf
        refine tm_w C tfo_Sh to_Sh_cell 1 rfl rfl rfl trivial ?_
        refine tm_b C to_Sh_cell rfl rfl (fun h => ?_) (fun h => ?_)
        · have hf := (if_pos h).symm.trans hf
          refine tm_wk (lv' := [some (.ref 20), some (.int x1), some (.int x2), none]) ⟨Or.inr rfl, Or.inr rfl, Or.inr rfl, Or.inl rfl, trivial⟩ ?_
          exact j_Sh_cell_b24 C G hf
        · have hf := (if_neg h).symm.trans hf
          refine tm_w C tfo_Sh to_Sh_cell 1 rfl rfl rfl trivial ?_
          refine tm_wk (lv' := [some (.ref 20), some (.int x1), some (.int x2), none]) ⟨Or.inr rfl, Or.inr rfl, Or.inr rfl, Or.inl rfl, trivial⟩ ?_
          exact j_Sh_cell_b25 C G hf
set_option maxRecDepth 100000 in
theorem ct_Sh_cell {ex : List tm_Sh} {p0 : Int32} {p1 : Int32} {mI : tm_I} {mL : tm_L} {r : Int32 × tm_I × tm_L} (hf : f_Sh_cell p0 p1 mI mL = some r) : tm_M ty_Sh_cell 0 0 0 0 [.ref 20, .int p0, .int p1] (sh0 ++ ex, mI, mL, rr) (tm_is (some (.int r.1)) (sh0 ++ ex, r.2.1, r.2.2, rr)) := by
  refine tm_body (by decide) (Nat.le_of_ble_eq_true rfl) fun Γ C G => ?_
  exact j_Sh_cell_b0 C G hf
/-! Sh_setCell -/
def f_Sh_setCell_b32 (x1 : Int32) (x2 : Int32) (x3 : Int32) (mI : tm_I) (mL : tm_L) : Option (Int32 × tm_I × tm_L) := some (0, mI, mL)
def f_Sh_setCell_b0 (x1 : Int32) (x2 : Int32) (x3 : Int32) (mI : tm_I) (mL : tm_L) : Option (Int32 × tm_I × tm_L) := if x1 < 0 then f_Sh_setCell_b32 x1 x2 x3 mI mL else if (120 : Int32) ≤ x1 then f_Sh_setCell_b32 x1 x2 x3 mI mL else if x2 < 0 then f_Sh_setCell_b32 x1 x2 x3 mI mL else if (14 : Int32) ≤ x2 then f_Sh_setCell_b32 x1 x2 x3 mI mL else if ¬ (((x1 * (14 : Int32)) + x2) < 0 ∨ 1680 ≤ Int32.toNatClampNeg ((x1 * (14 : Int32)) + x2)) then f_Sh_setCell_b32 x1 x2 x3 (tm_up mI 22 (Int32.toNatClampNeg ((x1 * (14 : Int32)) + x2)) x3) mL else none
abbrev f_Sh_setCell (p0 : Int32) (p1 : Int32) (p2 : Int32) (mI : tm_I) (mL : tm_L) : Option (Int32 × tm_I × tm_L) := f_Sh_setCell_b0 p0 p1 p2 mI mL
set_option maxRecDepth 100000 in
set_option maxHeartbeats 4000000 in
theorem j_Sh_setCell_b32 {Γ : tm_G} {ex : List tm_Sh} {av : List Value} {X0 : tm_X} {r : Int32 × tm_I × tm_L} (C : tm_C Γ ty_Sh_setCell.1.cls ty_Sh_setCell.2.1 ty_Sh_setCell.2.2.1) (G : tm_Γ ty_Sh_setCell 0 0 0 0 av X0 (tm_is none (sh0 ++ ex, r.2.1, r.2.2, rr)) Γ) {x1 : Int32} {x2 : Int32} {x3 : Int32} {mI : tm_I} {mL : tm_L} (hf : f_Sh_setCell_b32 x1 x2 x3 mI mL = some r) : tm_T Γ 4 0 0 32 [some (.ref 20), some (.int x1), some (.int x2), some (.int x3)] [] (sh0 ++ ex) mI mL rr := by
  have Ro := G.ro
  unfold f_Sh_setCell_b32 at hf
  cases hf
  exact tm_ev C G to_Sh_setCell rfl rfl (Nat.le_refl _) ⟨rfl, rfl⟩
set_option maxRecDepth 100000 in
set_option maxHeartbeats 4000000 in
theorem j_Sh_setCell_b0 {Γ : tm_G} {ex : List tm_Sh} {av : List Value} {X0 : tm_X} {r : Int32 × tm_I × tm_L} (C : tm_C Γ ty_Sh_setCell.1.cls ty_Sh_setCell.2.1 ty_Sh_setCell.2.2.1) (G : tm_Γ ty_Sh_setCell 0 0 0 0 av X0 (tm_is none (sh0 ++ ex, r.2.1, r.2.2, rr)) Γ) {x1 : Int32} {x2 : Int32} {x3 : Int32} {mI : tm_I} {mL : tm_L} (hf : f_Sh_setCell_b0 x1 x2 x3 mI mL = some r) : tm_T Γ 4 0 0 0 [some (.ref 20), some (.int x1), some (.int x2), some (.int x3)] [] (sh0 ++ ex) mI mL rr := by
  have Ro := G.ro
  unfold f_Sh_setCell_b0 at hf
  refine tm_w C tfo_Sh to_Sh_setCell 0 rfl rfl rfl trivial ?_
  refine tm_b C to_Sh_setCell rfl rfl (fun h => ?_) (fun h => ?_)
  · have hf := (if_pos h).symm.trans hf
    refine tm_wk (lv' := [some (.ref 20), some (.int x1), some (.int x2), some (.int x3)]) ⟨Or.inr rfl, Or.inr rfl, Or.inr rfl, Or.inr rfl, trivial⟩ ?_
    exact j_Sh_setCell_b32 C G hf
  · have hf := (if_neg h).symm.trans hf
    refine tm_w C tfo_Sh to_Sh_setCell 1 rfl rfl rfl trivial ?_
    refine tm_b C to_Sh_setCell rfl rfl (fun h => ?_) (fun h => ?_)
    · have hf := (if_pos h).symm.trans hf
      refine tm_wk (lv' := [some (.ref 20), some (.int x1), some (.int x2), some (.int x3)]) ⟨Or.inr rfl, Or.inr rfl, Or.inr rfl, Or.inr rfl, trivial⟩ ?_
      exact j_Sh_setCell_b32 C G hf
    · have hf := (if_neg h).symm.trans hf
      refine tm_w C tfo_Sh to_Sh_setCell 0 rfl rfl rfl trivial ?_
      refine tm_b C to_Sh_setCell rfl rfl (fun h => ?_) (fun h => ?_)
      · have hf := (if_pos h).symm.trans hf
        refine tm_wk (lv' := [some (.ref 20), some (.int x1), some (.int x2), some (.int x3)]) ⟨Or.inr rfl, Or.inr rfl, Or.inr rfl, Or.inr rfl, trivial⟩ ?_
        exact j_Sh_setCell_b32 C G hf
      · have hf := (if_neg h).symm.trans hf
        refine tm_w C tfo_Sh to_Sh_setCell 1 rfl rfl rfl trivial ?_
        refine tm_b C to_Sh_setCell rfl rfl (fun h => ?_) (fun h => ?_)
        · have hf := (if_pos h).symm.trans hf
          refine tm_wk (lv' := [some (.ref 20), some (.int x1), some (.int x2), some (.int x3)]) ⟨Or.inr rfl, Or.inr rfl, Or.inr rfl, Or.inr rfl, trivial⟩ ?_
          exact j_Sh_setCell_b32 C G hf
        · have hf := (if_neg h).symm.trans hf
          obtain ⟨c1, hf⟩ := tm_iteN hf
          refine tm_w C tfo_Sh to_Sh_setCell 8 rfl rfl rfl ⟨rfl, ⟨_, rfl, c1⟩, trivial⟩ ?_
          refine tm_wk (lv' := [some (.ref 20), some (.int x1), some (.int x2), some (.int x3)]) ⟨Or.inr rfl, Or.inr rfl, Or.inr rfl, Or.inr rfl, trivial⟩ ?_
          exact j_Sh_setCell_b32 C G hf
set_option maxRecDepth 100000 in
theorem ct_Sh_setCell {ex : List tm_Sh} {p0 : Int32} {p1 : Int32} {p2 : Int32} {mI : tm_I} {mL : tm_L} {r : Int32 × tm_I × tm_L} (hf : f_Sh_setCell p0 p1 p2 mI mL = some r) : tm_M ty_Sh_setCell 0 0 0 0 [.ref 20, .int p0, .int p1, .int p2] (sh0 ++ ex, mI, mL, rr) (tm_is none (sh0 ++ ex, r.2.1, r.2.2, rr)) := by
  refine tm_body (by decide) (Nat.le_of_ble_eq_true rfl) fun Γ C G => ?_
  exact j_Sh_setCell_b0 C G hf
/-! Sh_addField -/
def f_Sh_addField_b0  (mI : tm_I) (mL : tm_L) : Option (Int32 × tm_I × tm_L) := (f_Ro_copy_23_27 (mI 20 6) (0 : Int32) mI mL).bind fun v1 => (f_Fi_tail (tm_up v1.2.1 20 6 ((v1.2.1 20 6) + (1 : Int32))) v1.2.2).bind fun v2 => (f_Fi_tailNumber ((tm_up v2.2.1 20 7 v2.1) 20 7) (tm_up v2.2.1 20 7 v2.1) v2.2.2).bind fun v3 => some (0, tm_up v3.2.1 20 8 v3.1, v3.2.2)
abbrev f_Sh_addField  (mI : tm_I) (mL : tm_L) : Option (Int32 × tm_I × tm_L) := f_Sh_addField_b0  mI mL
set_option maxRecDepth 100000 in
set_option maxHeartbeats 4000000 in
theorem j_Sh_addField_b0 {Γ : tm_G} {ex : List tm_Sh} {av : List Value} {X0 : tm_X} {r : Int32 × tm_I × tm_L} (C : tm_C Γ ty_Sh_addField.1.cls ty_Sh_addField.2.1 ty_Sh_addField.2.2.1) (G : tm_Γ ty_Sh_addField 3 65 0 0 av X0 (tm_is none (sh0 ++ ex, r.2.1, r.2.2, rr)) Γ) {mI : tm_I} {mL : tm_L} (hf : f_Sh_addField_b0  mI mL = some r) : tm_T Γ 2 0 0 0 [some (.ref 20), some (.ref 26)] [] (sh0 ++ ex) mI mL rr := by
  have Ro := G.ro
  unfold f_Sh_addField_b0 at hf
  refine tm_w C tfo_Sh to_Sh_addField 6 rfl rfl rfl ⟨rfl, rfl, rfl, trivial⟩ ?_
  obtain ⟨v1, hv1, hf⟩ := Option.bind_eq_some_iff.mp hf
  refine tm_cV C Ro to_Sh_addField tl_Sh_43 rfl (ct_Ro_copy_23_27 hv1) rfl rfl rfl rfl rfl rfl rfl (Nat.le_refl _) (Nat.le_refl _) ?_
  refine tm_w C tfo_Sh to_Sh_addField 7 rfl rfl rfl ⟨rfl, rfl, trivial⟩ ?_
  obtain ⟨v2, hv2, hf⟩ := Option.bind_eq_some_iff.mp hf
  refine tm_cV C Ro to_Sh_addField tl_Sh_47 rfl (ct_Fi_tail hv2) rfl rfl rfl rfl rfl rfl rfl (Nat.le_refl _) (Nat.le_refl _) ?_
  refine tm_w C tfo_Sh to_Sh_addField 4 rfl rfl rfl ⟨rfl, rfl, trivial⟩ ?_
  obtain ⟨v3, hv3, hf⟩ := Option.bind_eq_some_iff.mp hf
  refine tm_cV C Ro to_Sh_addField tl_Sh_54 rfl (ct_Fi_tailNumber hv3) rfl rfl rfl rfl rfl rfl rfl (Nat.le_refl _) (Nat.le_refl _) ?_
  refine tm_w C tfo_Sh to_Sh_addField 0 rfl rfl rfl ⟨rfl, trivial⟩ ?_
  cases hf
  exact tm_ev C G to_Sh_addField rfl rfl (Nat.le_refl _) ⟨rfl, rfl⟩
set_option maxRecDepth 100000 in
theorem ct_Sh_addField {ex : List tm_Sh}  {mI : tm_I} {mL : tm_L} {r : Int32 × tm_I × tm_L} (hf : f_Sh_addField  mI mL = some r) : tm_M ty_Sh_addField 3 65 0 0 [.ref 20, .ref 26] (sh0 ++ ex, mI, mL, rr) (tm_is none (sh0 ++ ex, r.2.1, r.2.2, rr)) := by
  refine tm_body (by decide) (Nat.le_of_ble_eq_true rfl) fun Γ C G => ?_
  exact j_Sh_addField_b0 C G hf
/-! Sh_addOrder -/
def f_Sh_addOrder_30_b42 (x1 : Int32) (x2 : Int32) (x3 : Int32) (x5 : Int32) (x6 : Int32) (x8 : Int32) (mI : tm_I) (mL : tm_L) : Option (Int32 × tm_I × tm_L) := some (0, mI, mL)
def f_Sh_addOrder_30_b109 (x1 : Int32) (x2 : Int32) (x3 : Int32) (x5 : Int32) (x6 : Int32) (x8 : Int32) (s1 : Int32) (s2 : Int32) (mI : tm_I) (mL : tm_L) : Option (Int32 × tm_I × tm_L) := if ¬ (s1 < 0 ∨ 1680 ≤ Int32.toNatClampNeg s1) then (f_Fo_get 30 (0 : Int32) (tm_up mI 22 (Int32.toNatClampNeg s1) s2) mL).bind fun v1 => if ¬ ((x8 + (5 : Int32)) < 0 ∨ 1680 ≤ Int32.toNatClampNeg (x8 + (5 : Int32))) then (f_Fo_get 30 (1 : Int32) (tm_up v1.2.1 22 (Int32.toNatClampNeg (x8 + (5 : Int32))) v1.1) v1.2.2).bind fun v2 => if ¬ ((x8 + (6 : Int32)) < 0 ∨ 1680 ≤ Int32.toNatClampNeg (x8 + (6 : Int32))) then (f_Fo_get 30 (2 : Int32) (tm_up v2.2.1 22 (Int32.toNatClampNeg (x8 + (6 : Int32))) v2.1) v2.2.2).bind fun v3 => if ¬ ((x8 + (7 : Int32)) < 0 ∨ 1680 ≤ Int32.toNatClampNeg (x8 + (7 : Int32))) then if ¬ ((x8 + (8 : Int32)) < 0 ∨ 1680 ≤ Int32.toNatClampNeg (x8 + (8 : Int32))) then if ¬ ((x8 + (9 : Int32)) < 0 ∨ 1680 ≤ Int32.toNatClampNeg (x8 + (9 : Int32))) then if ¬ ((x8 + (10 : Int32)) < 0 ∨ 1680 ≤ Int32.toNatClampNeg (x8 + (10 : Int32))) then if ¬ ((x8 + (11 : Int32)) < 0 ∨ 1680 ≤ Int32.toNatClampNeg (x8 + (11 : Int32))) then if ¬ ((x8 + (12 : Int32)) < 0 ∨ 1680 ≤ Int32.toNatClampNeg (x8 + (12 : Int32))) then if ¬ ((x8 + (13 : Int32)) < 0 ∨ 1680 ≤ Int32.toNatClampNeg (x8 + (13 : Int32))) then some (0, tm_up (tm_up (tm_up (tm_up (tm_up (tm_up (tm_up v3.2.1 22 (Int32.toNatClampNeg (x8 + (7 : Int32))) v3.1) 22 (Int32.toNatClampNeg (x8 + (8 : Int32))) x6) 22 (Int32.toNatClampNeg (x8 + (9 : Int32))) (((tm_up (tm_up v3.2.1 22 (Int32.toNatClampNeg (x8 + (7 : Int32))) v3.1) 22 (Int32.toNatClampNeg (x8 + (8 : Int32))) x6) 20 6) - (1 : Int32))) 22 (Int32.toNatClampNeg (x8 + (10 : Int32))) x5) 22 (Int32.toNatClampNeg (x8 + (11 : Int32))) ((tm_up (tm_up (tm_up (tm_up v3.2.1 22 (Int32.toNatClampNeg (x8 + (7 : Int32))) v3.1) 22 (Int32.toNatClampNeg (x8 + (8 : Int32))) x6) 22 (Int32.toNatClampNeg (x8 + (9 : Int32))) (((tm_up (tm_up v3.2.1 22 (Int32.toNatClampNeg (x8 + (7 : Int32))) v3.1) 22 (Int32.toNatClampNeg (x8 + (8 : Int32))) x6) 20 6) - (1 : Int32))) 22 (Int32.toNatClampNeg (x8 + (10 : Int32))) x5) 20 7)) 22 (Int32.toNatClampNeg (x8 + (12 : Int32))) ((tm_up (tm_up (tm_up (tm_up (tm_up v3.2.1 22 (Int32.toNatClampNeg (x8 + (7 : Int32))) v3.1) 22 (Int32.toNatClampNeg (x8 + (8 : Int32))) x6) 22 (Int32.toNatClampNeg (x8 + (9 : Int32))) (((tm_up (tm_up v3.2.1 22 (Int32.toNatClampNeg (x8 + (7 : Int32))) v3.1) 22 (Int32.toNatClampNeg (x8 + (8 : Int32))) x6) 20 6) - (1 : Int32))) 22 (Int32.toNatClampNeg (x8 + (10 : Int32))) x5) 22 (Int32.toNatClampNeg (x8 + (11 : Int32))) ((tm_up (tm_up (tm_up (tm_up v3.2.1 22 (Int32.toNatClampNeg (x8 + (7 : Int32))) v3.1) 22 (Int32.toNatClampNeg (x8 + (8 : Int32))) x6) 22 (Int32.toNatClampNeg (x8 + (9 : Int32))) (((tm_up (tm_up v3.2.1 22 (Int32.toNatClampNeg (x8 + (7 : Int32))) v3.1) 22 (Int32.toNatClampNeg (x8 + (8 : Int32))) x6) 20 6) - (1 : Int32))) 22 (Int32.toNatClampNeg (x8 + (10 : Int32))) x5) 20 7)) 20 8)) 22 (Int32.toNatClampNeg (x8 + (13 : Int32))) ((tm_up (tm_up (tm_up (tm_up (tm_up (tm_up v3.2.1 22 (Int32.toNatClampNeg (x8 + (7 : Int32))) v3.1) 22 (Int32.toNatClampNeg (x8 + (8 : Int32))) x6) 22 (Int32.toNatClampNeg (x8 + (9 : Int32))) (((tm_up (tm_up v3.2.1 22 (Int32.toNatClampNeg (x8 + (7 : Int32))) v3.1) 22 (Int32.toNatClampNeg (x8 + (8 : Int32))) x6) 20 6) - (1 : Int32))) 22 (Int32.toNatClampNeg (x8 + (10 : Int32))) x5) 22 (Int32.toNatClampNeg (x8 + (11 : Int32))) ((tm_up (tm_up (tm_up (tm_up v3.2.1 22 (Int32.toNatClampNeg (x8 + (7 : Int32))) v3.1) 22 (Int32.toNatClampNeg (x8 + (8 : Int32))) x6) 22 (Int32.toNatClampNeg (x8 + (9 : Int32))) (((tm_up (tm_up v3.2.1 22 (Int32.toNatClampNeg (x8 + (7 : Int32))) v3.1) 22 (Int32.toNatClampNeg (x8 + (8 : Int32))) x6) 20 6) - (1 : Int32))) 22 (Int32.toNatClampNeg (x8 + (10 : Int32))) x5) 20 7)) 22 (Int32.toNatClampNeg (x8 + (12 : Int32))) ((tm_up (tm_up (tm_up (tm_up (tm_up v3.2.1 22 (Int32.toNatClampNeg (x8 + (7 : Int32))) v3.1) 22 (Int32.toNatClampNeg (x8 + (8 : Int32))) x6) 22 (Int32.toNatClampNeg (x8 + (9 : Int32))) (((tm_up (tm_up v3.2.1 22 (Int32.toNatClampNeg (x8 + (7 : Int32))) v3.1) 22 (Int32.toNatClampNeg (x8 + (8 : Int32))) x6) 20 6) - (1 : Int32))) 22 (Int32.toNatClampNeg (x8 + (10 : Int32))) x5) 22 (Int32.toNatClampNeg (x8 + (11 : Int32))) ((tm_up (tm_up (tm_up (tm_up v3.2.1 22 (Int32.toNatClampNeg (x8 + (7 : Int32))) v3.1) 22 (Int32.toNatClampNeg (x8 + (8 : Int32))) x6) 22 (Int32.toNatClampNeg (x8 + (9 : Int32))) (((tm_up (tm_up v3.2.1 22 (Int32.toNatClampNeg (x8 + (7 : Int32))) v3.1) 22 (Int32.toNatClampNeg (x8 + (8 : Int32))) x6) 20 6) - (1 : Int32))) 22 (Int32.toNatClampNeg (x8 + (10 : Int32))) x5) 20 7)) 20 8)) 26 7), v3.2.2) else none else none else none else none else none else none else none else none else none else none
def f_Sh_addOrder_30_b0 (x1 : Int32) (x2 : Int32) (x3 : Int32) (x5 : Int32) (x6 : Int32) (mI : tm_I) (mL : tm_L) : Option (Int32 × tm_I × tm_L) := if (((mI 20 4) + (mI 20 5)) * (14 : Int32)) < 0 then f_Sh_addOrder_30_b42 x1 x2 x3 x5 x6 (((mI 20 4) + (mI 20 5)) * (14 : Int32)) (tm_up mI 20 5 ((mI 20 5) + (1 : Int32))) mL else if ((((mI 20 4) + (mI 20 5)) * (14 : Int32)) + (14 : Int32)) ≤ (Int32.ofNat 1680) then if ¬ (((((mI 20 4) + (mI 20 5)) * (14 : Int32)) + (0 : Int32)) < 0 ∨ 1680 ≤ Int32.toNatClampNeg ((((mI 20 4) + (mI 20 5)) * (14 : Int32)) + (0 : Int32))) then if ¬ (((((mI 20 4) + (mI 20 5)) * (14 : Int32)) + (1 : Int32)) < 0 ∨ 1680 ≤ Int32.toNatClampNeg ((((mI 20 4) + (mI 20 5)) * (14 : Int32)) + (1 : Int32))) then if ¬ (((((mI 20 4) + (mI 20 5)) * (14 : Int32)) + (2 : Int32)) < 0 ∨ 1680 ≤ Int32.toNatClampNeg ((((mI 20 4) + (mI 20 5)) * (14 : Int32)) + (2 : Int32))) then (f_Fo_get 30 (3 : Int32) (tm_up (tm_up (tm_up (tm_up mI 20 5 ((mI 20 5) + (1 : Int32))) 22 (Int32.toNatClampNeg ((((mI 20 4) + (mI 20 5)) * (14 : Int32)) + (0 : Int32))) x1) 22 (Int32.toNatClampNeg ((((mI 20 4) + (mI 20 5)) * (14 : Int32)) + (1 : Int32))) x2) 22 (Int32.toNatClampNeg ((((mI 20 4) + (mI 20 5)) * (14 : Int32)) + (2 : Int32))) x3) mL).bind fun v4 => if ¬ (((((mI 20 4) + (mI 20 5)) * (14 : Int32)) + (3 : Int32)) < 0 ∨ 1680 ≤ Int32.toNatClampNeg ((((mI 20 4) + (mI 20 5)) * (14 : Int32)) + (3 : Int32))) then if ((tm_up v4.2.1 22 (Int32.toNatClampNeg ((((mI 20 4) + (mI 20 5)) * (14 : Int32)) + (3 : Int32))) v4.1) 26 5) = 0 then f_Sh_addOrder_30_b109 x1 x2 x3 x5 x6 (((mI 20 4) + (mI 20 5)) * (14 : Int32)) ((((mI 20 4) + (mI 20 5)) * (14 : Int32)) + (4 : Int32)) (0 : Int32) (tm_up v4.2.1 22 (Int32.toNatClampNeg ((((mI 20 4) + (mI 20 5)) * (14 : Int32)) + (3 : Int32))) v4.1) v4.2.2 else f_Sh_addOrder_30_b109 x1 x2 x3 x5 x6 (((mI 20 4) + (mI 20 5)) * (14 : Int32)) ((((mI 20 4) + (mI 20 5)) * (14 : Int32)) + (4 : Int32)) (2 : Int32) (tm_up v4.2.1 22 (Int32.toNatClampNeg ((((mI 20 4) + (mI 20 5)) * (14 : Int32)) + (3 : Int32))) v4.1) v4.2.2 else none else none else none else none else f_Sh_addOrder_30_b42 x1 x2 x3 x5 x6 (((mI 20 4) + (mI 20 5)) * (14 : Int32)) (tm_up mI 20 5 ((mI 20 5) + (1 : Int32))) mL
abbrev f_Sh_addOrder_30 (p0 : Int32) (p1 : Int32) (p2 : Int32) (p4 : Int32) (p5 : Int32) (mI : tm_I) (mL : tm_L) : Option (Int32 × tm_I × tm_L) := f_Sh_addOrder_30_b0 p0 p1 p2 p4 p5 mI mL
set_option maxRecDepth 100000 in
set_option maxHeartbeats 4000000 in
theorem j_Sh_addOrder_30_b42 {Γ : tm_G} {ex : List tm_Sh} {av : List Value} {X0 : tm_X} {r : Int32 × tm_I × tm_L} (C : tm_C Γ ty_Sh_addOrder.1.cls ty_Sh_addOrder.2.1 ty_Sh_addOrder.2.2.1) (G : tm_Γ ty_Sh_addOrder 1 21 0 0 av X0 (tm_is none (sh0 ++ ex, r.2.1, r.2.2, rr)) Γ) {x1 : Int32} {x2 : Int32} {x3 : Int32} {x5 : Int32} {x6 : Int32} {x8 : Int32} {mI : tm_I} {mL : tm_L} (hf : f_Sh_addOrder_30_b42 x1 x2 x3 x5 x6 x8 mI mL = some r) : tm_T Γ 9 0 0 42 [some (.ref 20), some (.int x1), some (.int x2), some (.int x3), some (.ref 30), some (.int x5), some (.int x6), some (.ref 26), some (.int x8)] [] (sh0 ++ ex) mI mL rr := by
  have Ro := G.ro
  unfold f_Sh_addOrder_30_b42 at hf
  cases hf
  exact tm_ev C G to_Sh_addOrder rfl rfl (Nat.le_refl _) ⟨rfl, rfl⟩
set_option maxRecDepth 100000 in
set_option maxHeartbeats 4000000 in
theorem j_Sh_addOrder_30_b109 {Γ : tm_G} {ex : List tm_Sh} {av : List Value} {X0 : tm_X} {r : Int32 × tm_I × tm_L} (C : tm_C Γ ty_Sh_addOrder.1.cls ty_Sh_addOrder.2.1 ty_Sh_addOrder.2.2.1) (G : tm_Γ ty_Sh_addOrder 1 21 0 0 av X0 (tm_is none (sh0 ++ ex, r.2.1, r.2.2, rr)) Γ) {x1 : Int32} {x2 : Int32} {x3 : Int32} {x5 : Int32} {x6 : Int32} {x8 : Int32} {s1 : Int32} {s2 : Int32} {mI : tm_I} {mL : tm_L} (hf : f_Sh_addOrder_30_b109 x1 x2 x3 x5 x6 x8 s1 s2 mI mL = some r) : tm_T Γ 9 0 0 109 [some (.ref 20), some (.int x1), some (.int x2), some (.int x3), some (.ref 30), some (.int x5), some (.int x6), some (.ref 26), some (.int x8)] [.int s2, .int s1, .ref 22] (sh0 ++ ex) mI mL rr := by
  have Ro := G.ro
  unfold f_Sh_addOrder_30_b109 at hf
  obtain ⟨c1, hf⟩ := tm_iteN hf
  refine tm_w C tfo_Sh to_Sh_addOrder 7 rfl rfl rfl ⟨⟨_, rfl, c1⟩, rfl, trivial⟩ ?_
  obtain ⟨v1, hv1, hf⟩ := Option.bind_eq_some_iff.mp hf
  refine tm_cV C Ro to_Sh_addOrder tl_Sh_61 rfl (ct_Fo_get isFo_30 hv1) rfl rfl rfl rfl rfl rfl rfl (Nat.le_refl _) (Nat.le_refl _) ?_
  obtain ⟨c2, hf⟩ := tm_iteN hf
  refine tm_w C tfo_Sh to_Sh_addOrder 7 rfl rfl rfl ⟨⟨_, rfl, c2⟩, rfl, trivial⟩ ?_
  obtain ⟨v2, hv2, hf⟩ := Option.bind_eq_some_iff.mp hf
  refine tm_cV C Ro to_Sh_addOrder tl_Sh_61 rfl (ct_Fo_get isFo_30 hv2) rfl rfl rfl rfl rfl rfl rfl (Nat.le_refl _) (Nat.le_refl _) ?_
  obtain ⟨c3, hf⟩ := tm_iteN hf
  refine tm_w C tfo_Sh to_Sh_addOrder 7 rfl rfl rfl ⟨⟨_, rfl, c3⟩, rfl, trivial⟩ ?_
  obtain ⟨v3, hv3, hf⟩ := Option.bind_eq_some_iff.mp hf
  refine tm_cV C Ro to_Sh_addOrder tl_Sh_61 rfl (ct_Fo_get isFo_30 hv3) rfl rfl rfl rfl rfl rfl rfl (Nat.le_refl _) (Nat.le_refl _) ?_
  obtain ⟨c4, hf⟩ := tm_iteN hf
  obtain ⟨c5, hf⟩ := tm_iteN hf
  obtain ⟨c6, hf⟩ := tm_iteN hf
  obtain ⟨c7, hf⟩ := tm_iteN hf
  obtain ⟨c8, hf⟩ := tm_iteN hf
  obtain ⟨c9, hf⟩ := tm_iteN hf
  obtain ⟨c10, hf⟩ := tm_iteN hf
  refine tm_w C tfo_Sh to_Sh_addOrder 48 rfl rfl rfl ⟨⟨_, rfl, c4⟩, rfl, ⟨_, rfl, c5⟩, rfl, rfl, ⟨_, rfl, c6⟩, rfl, ⟨_, rfl, c7⟩, rfl, rfl, ⟨_, rfl, c8⟩, rfl, rfl, ⟨_, rfl, c9⟩, rfl, rfl, ⟨_, rfl, c10⟩, trivial⟩ ?_
  cases hf
  exact tm_ev C G to_Sh_addOrder rfl rfl (Nat.le_refl _) ⟨rfl, rfl⟩
set_option maxRecDepth 100000 in
set_option maxHeartbeats 4000000 in
theorem j_Sh_addOrder_30_b0 {Γ : tm_G} {ex : List tm_Sh} {av : List Value} {X0 : tm_X} {r : Int32 × tm_I × tm_L} (C : tm_C Γ ty_Sh_addOrder.1.cls ty_Sh_addOrder.2.1 ty_Sh_addOrder.2.2.1) (G : tm_Γ ty_Sh_addOrder 1 21 0 0 av X0 (tm_is none (sh0 ++ ex, r.2.1, r.2.2, rr)) Γ) {x1 : Int32} {x2 : Int32} {x3 : Int32} {x5 : Int32} {x6 : Int32} {mI : tm_I} {mL : tm_L} (hf : f_Sh_addOrder_30_b0 x1 x2 x3 x5 x6 mI mL = some r) : tm_T Γ 9 0 0 0 [some (.ref 20), some (.int x1), some (.int x2), some (.int x3), some (.ref 30), some (.int x5), some (.int x6), some (.ref 26), none] [] (sh0 ++ ex) mI mL rr := by
  have Ro := G.ro
  unfold f_Sh_addOrder_30_b0 at hf
  refine tm_w C tfo_Sh to_Sh_addOrder 14 rfl rfl rfl ⟨rfl, rfl, rfl, rfl, trivial⟩ ?_
  refine tm_b C to_Sh_addOrder rfl rfl (fun h => ?_) (fun h => ?_)
  · have hf := (if_pos h).symm.trans hf
    refine tm_wk (lv' := [some (.ref 20), some (.int x1), some (.int x2), some (.int x3), some (.ref 30), some (.int x5), some (.int x6), some (.ref 26), some (.int (((mI 20 4) + (mI 20 5)) * (14 : Int32)))]) ⟨Or.inr rfl, Or.inr rfl, Or.inr rfl, Or.inr rfl, Or.inr rfl, Or.inr rfl, Or.inr rfl, Or.inr rfl, Or.inr rfl, trivial⟩ ?_
    exact j_Sh_addOrder_30_b42 C G hf
  · have hf := (if_neg h).symm.trans hf
    refine tm_w C tfo_Sh to_Sh_addOrder 5 rfl rfl rfl ⟨rfl, trivial⟩ ?_
    refine tm_b C to_Sh_addOrder rfl rfl (fun h => ?_) (fun h => ?_)
    · have hf := (if_pos h).symm.trans hf
      obtain ⟨c11, hf⟩ := tm_iteN hf
      obtain ⟨c12, hf⟩ := tm_iteN hf
      obtain ⟨c13, hf⟩ := tm_iteN hf
      refine tm_w C tfo_Sh to_Sh_addOrder 27 rfl rfl rfl ⟨rfl, ⟨_, rfl, c11⟩, rfl, ⟨_, rfl, c12⟩, rfl, ⟨_, rfl, c13⟩, rfl, trivial⟩ ?_
      obtain ⟨v4, hv4, hf⟩ := Option.bind_eq_some_iff.mp hf
      refine tm_cV C Ro to_Sh_addOrder tl_Sh_61 rfl (ct_Fo_get isFo_30 hv4) rfl rfl rfl rfl rfl rfl rfl (Nat.le_refl _) (Nat.le_refl _) ?_
      obtain ⟨c14, hf⟩ := tm_iteN hf
      refine tm_w C tfo_Sh to_Sh_addOrder 7 rfl rfl rfl ⟨⟨_, rfl, c14⟩, rfl, rfl, trivial⟩ ?_
      refine tm_b C to_Sh_addOrder rfl rfl (fun h => ?_) (fun h => ?_)
      · have hf := (if_pos h).symm.trans hf
        refine tm_w C tfo_Sh to_Sh_addOrder 0 rfl rfl rfl trivial ?_
        refine tm_wk (lv' := [some (.ref 20), some (.int x1), some (.int x2), some (.int x3), some (.ref 30), some (.int x5), some (.int x6), some (.ref 26), some (.int (((mI 20 4) + (mI 20 5)) * (14 : Int32)))]) ⟨Or.inr rfl, Or.inr rfl, Or.inr rfl, Or.inr rfl, Or.inr rfl, Or.inr rfl, Or.inr rfl, Or.inr rfl, Or.inr rfl, trivial⟩ ?_
        exact j_Sh_addOrder_30_b109 C G hf
      · have hf := (if_neg h).symm.trans hf
        refine tm_w C tfo_Sh to_Sh_addOrder 1 rfl rfl rfl trivial ?_
        refine tm_wk (lv' := [some (.ref 20), some (.int x1), some (.int x2), some (.int x3), some (.ref 30), some (.int x5), some (.int x6), some (.ref 26), some (.int (((mI 20 4) + (mI 20 5)) * (14 : Int32)))]) ⟨Or.inr rfl, Or.inr rfl, Or.inr rfl, Or.inr rfl, Or.inr rfl, Or.inr rfl, Or.inr rfl, Or.inr rfl, Or.inr rfl, trivial⟩ ?_
        exact j_Sh_addOrder_30_b109 C G hf
    · have hf := (if_neg h).symm.trans hf
      refine tm_wk (lv' := [some (.ref 20), some (.int x1), some (.int x2), some (.int x3), some (.ref 30), some (.int x5), some (.int x6), some (.ref 26), some (.int (((mI 20 4) + (mI 20 5)) * (14 : Int32)))]) ⟨Or.inr rfl, Or.inr rfl, Or.inr rfl, Or.inr rfl, Or.inr rfl, Or.inr rfl, Or.inr rfl, Or.inr rfl, Or.inr rfl, trivial⟩ ?_
      exact j_Sh_addOrder_30_b42 C G hf
set_option maxRecDepth 100000 in
theorem ct_Sh_addOrder_30 {ex : List tm_Sh} {p0 : Int32} {p1 : Int32} {p2 : Int32} {p4 : Int32} {p5 : Int32} {mI : tm_I} {mL : tm_L} {r : Int32 × tm_I × tm_L} (hf : f_Sh_addOrder_30 p0 p1 p2 p4 p5 mI mL = some r) : tm_M ty_Sh_addOrder 1 21 0 0 [.ref 20, .int p0, .int p1, .int p2, .ref 30, .int p4, .int p5, .ref 26] (sh0 ++ ex, mI, mL, rr) (tm_is none (sh0 ++ ex, r.2.1, r.2.2, rr)) := by
  refine tm_body (by decide) (Nat.le_of_ble_eq_true rfl) fun Γ C G => ?_
  exact j_Sh_addOrder_30_b0 C G hf
/-! Sh_addOrder -/
def f_Sh_addOrder_32_b42 (x1 : Int32) (x2 : Int32) (x3 : Int32) (x5 : Int32) (x6 : Int32) (x8 : Int32) (mI : tm_I) (mL : tm_L) : Option (Int32 × tm_I × tm_L) := some (0, mI, mL)
def f_Sh_addOrder_32_b109 (x1 : Int32) (x2 : Int32) (x3 : Int32) (x5 : Int32) (x6 : Int32) (x8 : Int32) (s1 : Int32) (s2 : Int32) (mI : tm_I) (mL : tm_L) : Option (Int32 × tm_I × tm_L) := if ¬ (s1 < 0 ∨ 1680 ≤ Int32.toNatClampNeg s1) then (f_Fo_get 32 (0 : Int32) (tm_up mI 22 (Int32.toNatClampNeg s1) s2) mL).bind fun v1 => if ¬ ((x8 + (5 : Int32)) < 0 ∨ 1680 ≤ Int32.toNatClampNeg (x8 + (5 : Int32))) then (f_Fo_get 32 (1 : Int32) (tm_up v1.2.1 22 (Int32.toNatClampNeg (x8 + (5 : Int32))) v1.1) v1.2.2).bind fun v2 => if ¬ ((x8 + (6 : Int32)) < 0 ∨ 1680 ≤ Int32.toNatClampNeg (x8 + (6 : Int32))) then (f_Fo_get 32 (2 : Int32) (tm_up v2.2.1 22 (Int32.toNatClampNeg (x8 + (6 : Int32))) v2.1) v2.2.2).bind fun v3 => if ¬ ((x8 + (7 : Int32)) < 0 ∨ 1680 ≤ Int32.toNatClampNeg (x8 + (7 : Int32))) then if ¬ ((x8 + (8 : Int32)) < 0 ∨ 1680 ≤ Int32.toNatClampNeg (x8 + (8 : Int32))) then if ¬ ((x8 + (9 : Int32)) < 0 ∨ 1680 ≤ Int32.toNatClampNeg (x8 + (9 : Int32))) then if ¬ ((x8 + (10 : Int32)) < 0 ∨ 1680 ≤ Int32.toNatClampNeg (x8 + (10 : Int32))) then if ¬ ((x8 + (11 : Int32)) < 0 ∨ 1680 ≤ Int32.toNatClampNeg (x8 + (11 : Int32))) then if ¬ ((x8 + (12 : Int32)) < 0 ∨ 1680 ≤ Int32.toNatClampNeg (x8 + (12 : Int32))) then if ¬ ((x8 + (13 : Int32)) < 0 ∨ 1680 ≤ Int32.toNatClampNeg (x8 + (13 : Int32))) then some (0, tm_up (tm_up (tm_up (tm_up (tm_up (tm_up (tm_up v3.2.1 22 (Int32.toNatClampNeg (x8 + (7 : Int32))) v3.1) 22 (Int32.toNatClampNeg (x8 + (8 : Int32))) x6) 22 (Int32.toNatClampNeg (x8 + (9 : Int32))) (((tm_up (tm_up v3.2.1 22 (Int32.toNatClampNeg (x8 + (7 : Int32))) v3.1) 22 (Int32.toNatClampNeg (x8 + (8 : Int32))) x6) 20 6) - (1 : Int32))) 22 (Int32.toNatClampNeg (x8 + (10 : Int32))) x5) 22 (Int32.toNatClampNeg (x8 + (11 : Int32))) ((tm_up (tm_up (tm_up (tm_up v3.2.1 22 (Int32.toNatClampNeg (x8 + (7 : Int32))) v3.1) 22 (Int32.toNatClampNeg (x8 + (8 : Int32))) x6) 22 (Int32.toNatClampNeg (x8 + (9 : Int32))) (((tm_up (tm_up v3.2.1 22 (Int32.toNatClampNeg (x8 + (7 : Int32))) v3.1) 22 (Int32.toNatClampNeg (x8 + (8 : Int32))) x6) 20 6) - (1 : Int32))) 22 (Int32.toNatClampNeg (x8 + (10 : Int32))) x5) 20 7)) 22 (Int32.toNatClampNeg (x8 + (12 : Int32))) ((tm_up (tm_up (tm_up (tm_up (tm_up v3.2.1 22 (Int32.toNatClampNeg (x8 + (7 : Int32))) v3.1) 22 (Int32.toNatClampNeg (x8 + (8 : Int32))) x6) 22 (Int32.toNatClampNeg (x8 + (9 : Int32))) (((tm_up (tm_up v3.2.1 22 (Int32.toNatClampNeg (x8 + (7 : Int32))) v3.1) 22 (Int32.toNatClampNeg (x8 + (8 : Int32))) x6) 20 6) - (1 : Int32))) 22 (Int32.toNatClampNeg (x8 + (10 : Int32))) x5) 22 (Int32.toNatClampNeg (x8 + (11 : Int32))) ((tm_up (tm_up (tm_up (tm_up v3.2.1 22 (Int32.toNatClampNeg (x8 + (7 : Int32))) v3.1) 22 (Int32.toNatClampNeg (x8 + (8 : Int32))) x6) 22 (Int32.toNatClampNeg (x8 + (9 : Int32))) (((tm_up (tm_up v3.2.1 22 (Int32.toNatClampNeg (x8 + (7 : Int32))) v3.1) 22 (Int32.toNatClampNeg (x8 + (8 : Int32))) x6) 20 6) - (1 : Int32))) 22 (Int32.toNatClampNeg (x8 + (10 : Int32))) x5) 20 7)) 20 8)) 22 (Int32.toNatClampNeg (x8 + (13 : Int32))) ((tm_up (tm_up (tm_up (tm_up (tm_up (tm_up v3.2.1 22 (Int32.toNatClampNeg (x8 + (7 : Int32))) v3.1) 22 (Int32.toNatClampNeg (x8 + (8 : Int32))) x6) 22 (Int32.toNatClampNeg (x8 + (9 : Int32))) (((tm_up (tm_up v3.2.1 22 (Int32.toNatClampNeg (x8 + (7 : Int32))) v3.1) 22 (Int32.toNatClampNeg (x8 + (8 : Int32))) x6) 20 6) - (1 : Int32))) 22 (Int32.toNatClampNeg (x8 + (10 : Int32))) x5) 22 (Int32.toNatClampNeg (x8 + (11 : Int32))) ((tm_up (tm_up (tm_up (tm_up v3.2.1 22 (Int32.toNatClampNeg (x8 + (7 : Int32))) v3.1) 22 (Int32.toNatClampNeg (x8 + (8 : Int32))) x6) 22 (Int32.toNatClampNeg (x8 + (9 : Int32))) (((tm_up (tm_up v3.2.1 22 (Int32.toNatClampNeg (x8 + (7 : Int32))) v3.1) 22 (Int32.toNatClampNeg (x8 + (8 : Int32))) x6) 20 6) - (1 : Int32))) 22 (Int32.toNatClampNeg (x8 + (10 : Int32))) x5) 20 7)) 22 (Int32.toNatClampNeg (x8 + (12 : Int32))) ((tm_up (tm_up (tm_up (tm_up (tm_up v3.2.1 22 (Int32.toNatClampNeg (x8 + (7 : Int32))) v3.1) 22 (Int32.toNatClampNeg (x8 + (8 : Int32))) x6) 22 (Int32.toNatClampNeg (x8 + (9 : Int32))) (((tm_up (tm_up v3.2.1 22 (Int32.toNatClampNeg (x8 + (7 : Int32))) v3.1) 22 (Int32.toNatClampNeg (x8 + (8 : Int32))) x6) 20 6) - (1 : Int32))) 22 (Int32.toNatClampNeg (x8 + (10 : Int32))) x5) 22 (Int32.toNatClampNeg (x8 + (11 : Int32))) ((tm_up (tm_up (tm_up (tm_up v3.2.1 22 (Int32.toNatClampNeg (x8 + (7 : Int32))) v3.1) 22 (Int32.toNatClampNeg (x8 + (8 : Int32))) x6) 22 (Int32.toNatClampNeg (x8 + (9 : Int32))) (((tm_up (tm_up v3.2.1 22 (Int32.toNatClampNeg (x8 + (7 : Int32))) v3.1) 22 (Int32.toNatClampNeg (x8 + (8 : Int32))) x6) 20 6) - (1 : Int32))) 22 (Int32.toNatClampNeg (x8 + (10 : Int32))) x5) 20 7)) 20 8)) 26 7), v3.2.2) else none else none else none else none else none else none else none else none else none else none
def f_Sh_addOrder_32_b0 (x1 : Int32) (x2 : Int32) (x3 : Int32) (x5 : Int32) (x6 : Int32) (mI : tm_I) (mL : tm_L) : Option (Int32 × tm_I × tm_L) := if (((mI 20 4) + (mI 20 5)) * (14 : Int32)) < 0 then f_Sh_addOrder_32_b42 x1 x2 x3 x5 x6 (((mI 20 4) + (mI 20 5)) * (14 : Int32)) (tm_up mI 20 5 ((mI 20 5) + (1 : Int32))) mL else if ((((mI 20 4) + (mI 20 5)) * (14 : Int32)) + (14 : Int32)) ≤ (Int32.ofNat 1680) then if ¬ (((((mI 20 4) + (mI 20 5)) * (14 : Int32)) + (0 : Int32)) < 0 ∨ 1680 ≤ Int32.toNatClampNeg ((((mI 20 4) + (mI 20 5)) * (14 : Int32)) + (0 : Int32))) then if ¬ (((((mI 20 4) + (mI 20 5)) * (14 : Int32)) + (1 : Int32)) < 0 ∨ 1680 ≤ Int32.toNatClampNeg ((((mI 20 4) + (mI 20 5)) * (14 : Int32)) + (1 : Int32))) then if ¬ (((((mI 20 4) + (mI 20 5)) * (14 : Int32)) + (2 : Int32)) < 0 ∨ 1680 ≤ Int32.toNatClampNeg ((((mI 20 4) + (mI 20 5)) * (14 : Int32)) + (2 : Int32))) then (f_Fo_get 32 (3 : Int32) (tm_up (tm_up (tm_up (tm_up mI 20 5 ((mI 20 5) + (1 : Int32))) 22 (Int32.toNatClampNeg ((((mI 20 4) + (mI 20 5)) * (14 : Int32)) + (0 : Int32))) x1) 22 (Int32.toNatClampNeg ((((mI 20 4) + (mI 20 5)) * (14 : Int32)) + (1 : Int32))) x2) 22 (Int32.toNatClampNeg ((((mI 20 4) + (mI 20 5)) * (14 : Int32)) + (2 : Int32))) x3) mL).bind fun v4 => if ¬ (((((mI 20 4) + (mI 20 5)) * (14 : Int32)) + (3 : Int32)) < 0 ∨ 1680 ≤ Int32.toNatClampNeg ((((mI 20 4) + (mI 20 5)) * (14 : Int32)) + (3 : Int32))) then if ((tm_up v4.2.1 22 (Int32.toNatClampNeg ((((mI 20 4) + (mI 20 5)) * (14 : Int32)) + (3 : Int32))) v4.1) 26 5) = 0 then f_Sh_addOrder_32_b109 x1 x2 x3 x5 x6 (((mI 20 4) + (mI 20 5)) * (14 : Int32)) ((((mI 20 4) + (mI 20 5)) * (14 : Int32)) + (4 : Int32)) (0 : Int32) (tm_up v4.2.1 22 (Int32.toNatClampNeg ((((mI 20 4) + (mI 20 5)) * (14 : Int32)) + (3 : Int32))) v4.1) v4.2.2 else f_Sh_addOrder_32_b109 x1 x2 x3 x5 x6 (((mI 20 4) + (mI 20 5)) * (14 : Int32)) ((((mI 20 4) + (mI 20 5)) * (14 : Int32)) + (4 : Int32)) (2 : Int32) (tm_up v4.2.1 22 (Int32.toNatClampNeg ((((mI 20 4) + (mI 20 5)) * (14 : Int32)) + (3 : Int32))) v4.1) v4.2.2 else none else none else none else none else f_Sh_addOrder_32_b42 x1 x2 x3 x5 x6 (((mI 20 4) + (mI 20 5)) * (14 : Int32)) (tm_up mI 20 5 ((mI 20 5) + (1 : Int32))) mL
abbrev f_Sh_addOrder_32 (p0 : Int32) (p1 : Int32) (p2 : Int32) (p4 : Int32) (p5 : Int32) (mI : tm_I) (mL : tm_L) : Option (Int32 × tm_I × tm_L) := f_Sh_addOrder_32_b0 p0 p1 p2 p4 p5 mI mL
set_option maxRecDepth 100000 in
set_option maxHeartbeats 4000000 in
theorem j_Sh_addOrder_32_b42 {Γ : tm_G} {ex : List tm_Sh} {av : List Value} {X0 : tm_X} {r : Int32 × tm_I × tm_L} (C : tm_C Γ ty_Sh_addOrder.1.cls ty_Sh_addOrder.2.1 ty_Sh_addOrder.2.2.1) (G : tm_Γ ty_Sh_addOrder 1 21 0 0 av X0 (tm_is none (sh0 ++ ex, r.2.1, r.2.2, rr)) Γ) {x1 : Int32} {x2 : Int32} {x3 : Int32} {x5 : Int32} {x6 : Int32} {x8 : Int32} {mI : tm_I} {mL : tm_L} (hf : f_Sh_addOrder_32_b42 x1 x2 x3 x5 x6 x8 mI mL = some r) : tm_T Γ 9 0 0 42 [some (.ref 20), some (.int x1), some (.int x2), some (.int x3), some (.ref 32), some (.int x5), some (.int x6), some (.ref 26), some (.int x8)] [] (sh0 ++ ex) mI mL rr := by
  have Ro := G.ro
  unfold f_Sh_addOrder_32_b42 at hf
  cases hf
  exact tm_ev C G to_Sh_addOrder rfl rfl (Nat.le_refl _) ⟨rfl, rfl⟩
set_option maxRecDepth 100000 in
set_option maxHeartbeats 4000000 in
theorem j_Sh_addOrder_32_b109 {Γ : tm_G} {ex : List tm_Sh} {av : List Value} {X0 : tm_X} {r : Int32 × tm_I × tm_L} (C : tm_C Γ ty_Sh_addOrder.1.cls ty_Sh_addOrder.2.1 ty_Sh_addOrder.2.2.1) (G : tm_Γ ty_Sh_addOrder 1 21 0 0 av X0 (tm_is none (sh0 ++ ex, r.2.1, r.2.2, rr)) Γ) {x1 : Int32} {x2 : Int32} {x3 : Int32} {x5 : Int32} {x6 : Int32} {x8 : Int32} {s1 : Int32} {s2 : Int32} {mI : tm_I} {mL : tm_L} (hf : f_Sh_addOrder_32_b109 x1 x2 x3 x5 x6 x8 s1 s2 mI mL = some r) : tm_T Γ 9 0 0 109 [some (.ref 20), some (.int x1), some (.int x2), some (.int x3), some (.ref 32), some (.int x5), some (.int x6), some (.ref 26), some (.int x8)] [.int s2, .int s1, .ref 22] (sh0 ++ ex) mI mL rr := by
  have Ro := G.ro
  unfold f_Sh_addOrder_32_b109 at hf
  obtain ⟨c1, hf⟩ := tm_iteN hf
  refine tm_w C tfo_Sh to_Sh_addOrder 7 rfl rfl rfl ⟨⟨_, rfl, c1⟩, rfl, trivial⟩ ?_
  obtain ⟨v1, hv1, hf⟩ := Option.bind_eq_some_iff.mp hf
  refine tm_cV C Ro to_Sh_addOrder tl_Sh_61 rfl (ct_Fo_get isFo_32 hv1) rfl rfl rfl rfl rfl rfl rfl (Nat.le_refl _) (Nat.le_refl _) ?_
  obtain ⟨c2, hf⟩ := tm_iteN hf
  refine tm_w C tfo_Sh to_Sh_addOrder 7 rfl rfl rfl ⟨⟨_, rfl, c2⟩, rfl, trivial⟩ ?_
  obtain ⟨v2, hv2, hf⟩ := Option.bind_eq_some_iff.mp hf
  refine tm_cV C Ro to_Sh_addOrder tl_Sh_61 rfl (ct_Fo_get isFo_32 hv2) rfl rfl rfl rfl rfl rfl rfl (Nat.le_refl _) (Nat.le_refl _) ?_
  obtain ⟨c3, hf⟩ := tm_iteN hf
  refine tm_w C tfo_Sh to_Sh_addOrder 7 rfl rfl rfl ⟨⟨_, rfl, c3⟩, rfl, trivial⟩ ?_
  obtain ⟨v3, hv3, hf⟩ := Option.bind_eq_some_iff.mp hf
  refine tm_cV C Ro to_Sh_addOrder tl_Sh_61 rfl (ct_Fo_get isFo_32 hv3) rfl rfl rfl rfl rfl rfl rfl (Nat.le_refl _) (Nat.le_refl _) ?_
  obtain ⟨c4, hf⟩ := tm_iteN hf
  obtain ⟨c5, hf⟩ := tm_iteN hf
  obtain ⟨c6, hf⟩ := tm_iteN hf
  obtain ⟨c7, hf⟩ := tm_iteN hf
  obtain ⟨c8, hf⟩ := tm_iteN hf
  obtain ⟨c9, hf⟩ := tm_iteN hf
  obtain ⟨c10, hf⟩ := tm_iteN hf
  refine tm_w C tfo_Sh to_Sh_addOrder 48 rfl rfl rfl ⟨⟨_, rfl, c4⟩, rfl, ⟨_, rfl, c5⟩, rfl, rfl, ⟨_, rfl, c6⟩, rfl, ⟨_, rfl, c7⟩, rfl, rfl, ⟨_, rfl, c8⟩, rfl, rfl, ⟨_, rfl, c9⟩, rfl, rfl, ⟨_, rfl, c10⟩, trivial⟩ ?_
  cases hf
  exact tm_ev C G to_Sh_addOrder rfl rfl (Nat.le_refl _) ⟨rfl, rfl⟩
set_option maxRecDepth 100000 in
set_option maxHeartbeats 4000000 in
theorem j_Sh_addOrder_32_b0 {Γ : tm_G} {ex : List tm_Sh} {av : List Value} {X0 : tm_X} {r : Int32 × tm_I × tm_L} (C : tm_C Γ ty_Sh_addOrder.1.cls ty_Sh_addOrder.2.1 ty_Sh_addOrder.2.2.1) (G : tm_Γ ty_Sh_addOrder 1 21 0 0 av X0 (tm_is none (sh0 ++ ex, r.2.1, r.2.2, rr)) Γ) {x1 : Int32} {x2 : Int32} {x3 : Int32} {x5 : Int32} {x6 : Int32} {mI : tm_I} {mL : tm_L} (hf : f_Sh_addOrder_32_b0 x1 x2 x3 x5 x6 mI mL = some r) : tm_T Γ 9 0 0 0 [some (.ref 20), some (.int x1), some (.int x2), some (.int x3), some (.ref 32), some (.int x5), some (.int x6), some (.ref 26), none] [] (sh0 ++ ex) mI mL rr := by
  have Ro := G.ro
  unfold f_Sh_addOrder_32_b0 at hf
  refine tm_w C tfo_Sh to_Sh_addOrder 14 rfl rfl rfl ⟨rfl, rfl, rfl, rfl, trivial⟩ ?_
  refine tm_b C to_Sh_addOrder rfl rfl (fun h => ?_) (fun h => ?_)
  · have hf := (if_pos h).symm.trans hf
    refine tm_wk (lv' := [some (.ref 20), some (.int x1), some (.int x2), some (.int x3), some (.ref 32), some (.int x5), some (.int x6), some (.ref 26), some (.int (((mI 20 4) + (mI 20 5)) * (14 : Int32)))]) ⟨Or.inr rfl, Or.inr rfl, Or.inr rfl, Or.inr rfl, Or.inr rfl, Or.inr rfl, Or.inr rfl, Or.inr rfl, Or.inr rfl, trivial⟩ ?_
    exact j_Sh_addOrder_32_b42 C G hf
  · have hf := (if_neg h).symm.trans hf
    refine tm_w C tfo_Sh to_Sh_addOrder 5 rfl rfl rfl ⟨rfl, trivial⟩ ?_
    refine tm_b C to_Sh_addOrder rfl rfl (fun h => ?_) (fun h => ?_)
    · have hf := (if_pos h).symm.trans hf
      obtain ⟨c11, hf⟩ := tm_iteN hf
      obtain ⟨c12, hf⟩ := tm_iteN hf
      obtain ⟨c13, hf⟩ := tm_iteN hf
      refine tm_w C tfo_Sh to_Sh_addOrder 27 rfl rfl rfl ⟨rfl, ⟨_, rfl, c11⟩, rfl, ⟨_, rfl, c12⟩, rfl, ⟨_, rfl, c13⟩, rfl, trivial⟩ ?_
      obtain ⟨v4, hv4, hf⟩ := Option.bind_eq_some_iff.mp hf
      refine tm_cV C Ro to_Sh_addOrder tl_Sh_61 rfl (ct_Fo_get isFo_32 hv4) rfl rfl rfl rfl rfl rfl rfl (Nat.le_refl _) (Nat.le_refl _) ?_
      obtain ⟨c14, hf⟩ := tm_iteN hf
      refine tm_w C tfo_Sh to_Sh_addOrder 7 rfl rfl rfl ⟨⟨_, rfl, c14⟩, rfl, rfl, trivial⟩ ?_
      refine tm_b C to_Sh_addOrder rfl rfl (fun h => ?_) (fun h => ?_)
      · have hf := (if_pos h).symm.trans hf
        refine tm_w C tfo_Sh to_Sh_addOrder 0 rfl rfl rfl trivial ?_
        refine tm_wk (lv' := [some (.ref 20), some (.int x1), some (.int x2), some (.int x3), some (.ref 32), some (.int x5), some (.int x6), some (.ref 26), some (.int (((mI 20 4) + (mI 20 5)) * (14 : Int32)))]) ⟨Or.inr rfl, Or.inr rfl, Or.inr rfl, Or.inr rfl, Or.inr rfl, Or.inr rfl, Or.inr rfl, Or.inr rfl, Or.inr rfl, trivial⟩ ?_
        exact j_Sh_addOrder_32_b109 C G hf
      · have hf := (if_neg h).symm.trans hf
        refine tm_w C tfo_Sh to_Sh_addOrder 1 rfl rfl rfl trivial ?_
        refine tm_wk (lv' := [some (.ref 20), some (.int x1), some (.int x2), some (.int x3), some (.ref 32), some (.int x5), some (.int x6), some (.ref 26), some (.int (((mI 20 4) + (mI 20 5)) * (14 : Int32)))]) ⟨Or.inr rfl, Or.inr rfl, Or.inr rfl, Or.inr rfl, Or.inr rfl, Or.inr rfl, Or.inr rfl, Or.inr rfl, Or.inr rfl, trivial⟩ ?_
        exact j_Sh_addOrder_32_b109 C G hf
    · have hf := (if_neg h).symm.trans hf
      refine tm_wk (lv' := [some (.ref 20), some (.int x1), some (.int x2), some (.int x3), some (.ref 32), some (.int x5), some (.int x6), some (.ref 26), some (.int (((mI 20 4) + (mI 20 5)) * (14 : Int32)))]) ⟨Or.inr rfl, Or.inr rfl, Or.inr rfl, Or.inr rfl, Or.inr rfl, Or.inr rfl, Or.inr rfl, Or.inr rfl, Or.inr rfl, trivial⟩ ?_
      exact j_Sh_addOrder_32_b42 C G hf
set_option maxRecDepth 100000 in
theorem ct_Sh_addOrder_32 {ex : List tm_Sh} {p0 : Int32} {p1 : Int32} {p2 : Int32} {p4 : Int32} {p5 : Int32} {mI : tm_I} {mL : tm_L} {r : Int32 × tm_I × tm_L} (hf : f_Sh_addOrder_32 p0 p1 p2 p4 p5 mI mL = some r) : tm_M ty_Sh_addOrder 1 21 0 0 [.ref 20, .int p0, .int p1, .int p2, .ref 32, .int p4, .int p5, .ref 26] (sh0 ++ ex, mI, mL, rr) (tm_is none (sh0 ++ ex, r.2.1, r.2.2, rr)) := by
  refine tm_body (by decide) (Nat.le_of_ble_eq_true rfl) fun Γ C G => ?_
  exact j_Sh_addOrder_32_b0 C G hf
/-! Sh_addOrder -/
def f_Sh_addOrder_34_b42 (x1 : Int32) (x2 : Int32) (x3 : Int32) (x5 : Int32) (x6 : Int32) (x8 : Int32) (mI : tm_I) (mL : tm_L) : Option (Int32 × tm_I × tm_L) := some (0, mI, mL)
def f_Sh_addOrder_34_b109 (x1 : Int32) (x2 : Int32) (x3 : Int32) (x5 : Int32) (x6 : Int32) (x8 : Int32) (s1 : Int32) (s2 : Int32) (mI : tm_I) (mL : tm_L) : Option (Int32 × tm_I × tm_L) := if ¬ (s1 < 0 ∨ 1680 ≤ Int32.toNatClampNeg s1) then (f_Fo_get 34 (0 : Int32) (tm_up mI 22 (Int32.toNatClampNeg s1) s2) mL).bind fun v1 => if ¬ ((x8 + (5 : Int32)) < 0 ∨ 1680 ≤ Int32.toNatClampNeg (x8 + (5 : Int32))) then (f_Fo_get 34 (1 : Int32) (tm_up v1.2.1 22 (Int32.toNatClampNeg (x8 + (5 : Int32))) v1.1) v1.2.2).bind fun v2 => if ¬ ((x8 + (6 : Int32)) < 0 ∨ 1680 ≤ Int32.toNatClampNeg (x8 + (6 : Int32))) then (f_Fo_get 34 (2 : Int32) (tm_up v2.2.1 22 (Int32.toNatClampNeg (x8 + (6 : Int32))) v2.1) v2.2.2).bind fun v3 => if ¬ ((x8 + (7 : Int32)) < 0 ∨ 1680 ≤ Int32.toNatClampNeg (x8 + (7 : Int32))) then if ¬ ((x8 + (8 : Int32)) < 0 ∨ 1680 ≤ Int32.toNatClampNeg (x8 + (8 : Int32))) then if ¬ ((x8 + (9 : Int32)) < 0 ∨ 1680 ≤ Int32.toNatClampNeg (x8 + (9 : Int32))) then if ¬ ((x8 + (10 : Int32)) < 0 ∨ 1680 ≤ Int32.toNatClampNeg (x8 + (10 : Int32))) then if ¬ ((x8 + (11 : Int32)) < 0 ∨ 1680 ≤ Int32.toNatClampNeg (x8 + (11 : Int32))) then if ¬ ((x8 + (12 : Int32)) < 0 ∨ 1680 ≤ Int32.toNatClampNeg (x8 + (12 : Int32))) then if ¬ ((x8 + (13 : Int32)) < 0 ∨ 1680 ≤ Int32.toNatClampNeg (x8 + (13 : Int32))) then some (0, tm_up (tm_up (tm_up (tm_up (tm_up (tm_up (tm_up v3.2.1 22 (Int32.toNatClampNeg (x8 + (7 : Int32))) v3.1) 22 (Int32.toNatClampNeg (x8 + (8 : Int32))) x6) 22 (Int32.toNatClampNeg (x8 + (9 : Int32))) (((tm_up (tm_up v3.2.1 22 (Int32.toNatClampNeg (x8 + (7 : Int32))) v3.1) 22 (Int32.toNatClampNeg (x8 + (8 : Int32))) x6) 20 6) - (1 : Int32))) 22 (Int32.toNatClampNeg (x8 + (10 : Int32))) x5) 22 (Int32.toNatClampNeg (x8 + (11 : Int32))) ((tm_up (tm_up (tm_up (tm_up v3.2.1 22 (Int32.toNatClampNeg (x8 + (7 : Int32))) v3.1) 22 (Int32.toNatClampNeg (x8 + (8 : Int32))) x6) 22 (Int32.toNatClampNeg (x8 + (9 : Int32))) (((tm_up (tm_up v3.2.1 22 (Int32.toNatClampNeg (x8 + (7 : Int32))) v3.1) 22 (Int32.toNatClampNeg (x8 + (8 : Int32))) x6) 20 6) - (1 : Int32))) 22 (Int32.toNatClampNeg (x8 + (10 : Int32))) x5) 20 7)) 22 (Int32.toNatClampNeg (x8 + (12 : Int32))) ((tm_up (tm_up (tm_up (tm_up (tm_up v3.2.1 22 (Int32.toNatClampNeg (x8 + (7 : Int32))) v3.1) 22 (Int32.toNatClampNeg (x8 + (8 : Int32))) x6) 22 (Int32.toNatClampNeg (x8 + (9 : Int32))) (((tm_up (tm_up v3.2.1 22 (Int32.toNatClampNeg (x8 + (7 : Int32))) v3.1) 22 (Int32.toNatClampNeg (x8 + (8 : Int32))) x6) 20 6) - (1 : Int32))) 22 (Int32.toNatClampNeg (x8 + (10 : Int32))) x5) 22 (Int32.toNatClampNeg (x8 + (11 : Int32))) ((tm_up (tm_up (tm_up (tm_up v3.2.1 22 (Int32.toNatClampNeg (x8 + (7 : Int32))) v3.1) 22 (Int32.toNatClampNeg (x8 + (8 : Int32))) x6) 22 (Int32.toNatClampNeg (x8 + (9 : Int32))) (((tm_up (tm_up v3.2.1 22 (Int32.toNatClampNeg (x8 + (7 : Int32))) v3.1) 22 (Int32.toNatClampNeg (x8 + (8 : Int32))) x6) 20 6) - (1 : Int32))) 22 (Int32.toNatClampNeg (x8 + (10 : Int32))) x5) 20 7)) 20 8)) 22 (Int32.toNatClampNeg (x8 + (13 : Int32))) ((tm_up (tm_up (tm_up (tm_up (tm_up (tm_up v3.2.1 22 (Int32.toNatClampNeg (x8 + (7 : Int32))) v3.1) 22 (Int32.toNatClampNeg (x8 + (8 : Int32))) x6) 22 (Int32.toNatClampNeg (x8 + (9 : Int32))) (((tm_up (tm_up v3.2.1 22 (Int32.toNatClampNeg (x8 + (7 : Int32))) v3.1) 22 (Int32.toNatClampNeg (x8 + (8 : Int32))) x6) 20 6) - (1 : Int32))) 22 (Int32.toNatClampNeg (x8 + (10 : Int32))) x5) 22 (Int32.toNatClampNeg (x8 + (11 : Int32))) ((tm_up (tm_up (tm_up (tm_up v3.2.1 22 (Int32.toNatClampNeg (x8 + (7 : Int32))) v3.1) 22 (Int32.toNatClampNeg (x8 + (8 : Int32))) x6) 22 (Int32.toNatClampNeg (x8 + (9 : Int32))) (((tm_up (tm_up v3.2.1 22 (Int32.toNatClampNeg (x8 + (7 : Int32))) v3.1) 22 (Int32.toNatClampNeg (x8 + (8 : Int32))) x6) 20 6) - (1 : Int32))) 22 (Int32.toNatClampNeg (x8 + (10 : Int32))) x5) 20 7)) 22 (Int32.toNatClampNeg (x8 + (12 : Int32))) ((tm_up (tm_up (tm_up (tm_up (tm_up v3.2.1 22 (Int32.toNatClampNeg (x8 + (7 : Int32))) v3.1) 22 (Int32.toNatClampNeg (x8 + (8 : Int32))) x6) 22 (Int32.toNatClampNeg (x8 + (9 : Int32))) (((tm_up (tm_up v3.2.1 22 (Int32.toNatClampNeg (x8 + (7 : Int32))) v3.1) 22 (Int32.toNatClampNeg (x8 + (8 : Int32))) x6) 20 6) - (1 : Int32))) 22 (Int32.toNatClampNeg (x8 + (10 : Int32))) x5) 22 (Int32.toNatClampNeg (x8 + (11 : Int32))) ((tm_up (tm_up (tm_up (tm_up v3.2.1 22 (Int32.toNatClampNeg (x8 + (7 : Int32))) v3.1) 22 (Int32.toNatClampNeg (x8 + (8 : Int32))) x6) 22 (Int32.toNatClampNeg (x8 + (9 : Int32))) (((tm_up (tm_up v3.2.1 22 (Int32.toNatClampNeg (x8 + (7 : Int32))) v3.1) 22 (Int32.toNatClampNeg (x8 + (8 : Int32))) x6) 20 6) - (1 : Int32))) 22 (Int32.toNatClampNeg (x8 + (10 : Int32))) x5) 20 7)) 20 8)) 26 7), v3.2.2) else none else none else none else none else none else none else none else none else none else none
def f_Sh_addOrder_34_b0 (x1 : Int32) (x2 : Int32) (x3 : Int32) (x5 : Int32) (x6 : Int32) (mI : tm_I) (mL : tm_L) : Option (Int32 × tm_I × tm_L) := if (((mI 20 4) + (mI 20 5)) * (14 : Int32)) < 0 then f_Sh_addOrder_34_b42 x1 x2 x3 x5 x6 (((mI 20 4) + (mI 20 5)) * (14 : Int32)) (tm_up mI 20 5 ((mI 20 5) + (1 : Int32))) mL else if ((((mI 20 4) + (mI 20 5)) * (14 : Int32)) + (14 : Int32)) ≤ (Int32.ofNat 1680) then if ¬ (((((mI 20 4) + (mI 20 5)) * (14 : Int32)) + (0 : Int32)) < 0 ∨ 1680 ≤ Int32.toNatClampNeg ((((mI 20 4) + (mI 20 5)) * (14 : Int32)) + (0 : Int32))) then if ¬ (((((mI 20 4) + (mI 20 5)) * (14 : Int32)) + (1 : Int32)) < 0 ∨ 1680 ≤ Int32.toNatClampNeg ((((mI 20 4) + (mI 20 5)) * (14 : Int32)) + (1 : Int32))) then if ¬ (((((mI 20 4) + (mI 20 5)) * (14 : Int32)) + (2 : Int32)) < 0 ∨ 1680 ≤ Int32.toNatClampNeg ((((mI 20 4) + (mI 20 5)) * (14 : Int32)) + (2 : Int32))) then (f_Fo_get 34 (3 : Int32) (tm_up (tm_up (tm_up (tm_up mI 20 5 ((mI 20 5) + (1 : Int32))) 22 (Int32.toNatClampNeg ((((mI 20 4) + (mI 20 5)) * (14 : Int32)) + (0 : Int32))) x1) 22 (Int32.toNatClampNeg ((((mI 20 4) + (mI 20 5)) * (14 : Int32)) + (1 : Int32))) x2) 22 (Int32.toNatClampNeg ((((mI 20 4) + (mI 20 5)) * (14 : Int32)) + (2 : Int32))) x3) mL).bind fun v4 => if ¬ (((((mI 20 4) + (mI 20 5)) * (14 : Int32)) + (3 : Int32)) < 0 ∨ 1680 ≤ Int32.toNatClampNeg ((((mI 20 4) + (mI 20 5)) * (14 : Int32)) + (3 : Int32))) then if ((tm_up v4.2.1 22 (Int32.toNatClampNeg ((((mI 20 4) + (mI 20 5)) * (14 : Int32)) + (3 : Int32))) v4.1) 26 5) = 0 then f_Sh_addOrder_34_b109 x1 x2 x3 x5 x6 (((mI 20 4) + (mI 20 5)) * (14 : Int32)) ((((mI 20 4) + (mI 20 5)) * (14 : Int32)) + (4 : Int32)) (0 : Int32) (tm_up v4.2.1 22 (Int32.toNatClampNeg ((((mI 20 4) + (mI 20 5)) * (14 : Int32)) + (3 : Int32))) v4.1) v4.2.2 else f_Sh_addOrder_34_b109 x1 x2 x3 x5 x6 (((mI 20 4) + (mI 20 5)) * (14 : Int32)) ((((mI 20 4) + (mI 20 5)) * (14 : Int32)) + (4 : Int32)) (2 : Int32) (tm_up v4.2.1 22 (Int32.toNatClampNeg ((((mI 20 4) + (mI 20 5)) * (14 : Int32)) + (3 : Int32))) v4.1) v4.2.2 else none else none else none else none else f_Sh_addOrder_34_b42 x1 x2 x3 x5 x6 (((mI 20 4) + (mI 20 5)) * (14 : Int32)) (tm_up mI 20 5 ((mI 20 5) + (1 : Int32))) mL
abbrev f_Sh_addOrder_34 (p0 : Int32) (p1 : Int32) (p2 : Int32) (p4 : Int32) (p5 : Int32) (mI : tm_I) (mL : tm_L) : Option (Int32 × tm_I × tm_L) := f_Sh_addOrder_34_b0 p0 p1 p2 p4 p5 mI mL
set_option maxRecDepth 100000 in
set_option maxHeartbeats 4000000 in
theorem j_Sh_addOrder_34_b42 {Γ : tm_G} {ex : List tm_Sh} {av : List Value} {X0 : tm_X} {r : Int32 × tm_I × tm_L} (C : tm_C Γ ty_Sh_addOrder.1.cls ty_Sh_addOrder.2.1 ty_Sh_addOrder.2.2.1) (G : tm_Γ ty_Sh_addOrder 1 21 0 0 av X0 (tm_is none (sh0 ++ ex, r.2.1, r.2.2, rr)) Γ) {x1 : Int32} {x2 : Int32} {x3 : Int32} {x5 : Int32} {x6 : Int32} {x8 : Int32} {mI : tm_I} {mL : tm_L} (hf : f_Sh_addOrder_34_b42 x1 x2 x3 x5 x6 x8 mI mL = some r) : tm_T Γ 9 0 0 42 [some (.ref 20), some (.int x1), some (.int x2), some (.int x3), some (.ref 34), some (.int x5), some (.int x6), some (.ref 26), some (.int x8)] [] (sh0 ++ ex) mI mL rr := by
  have Ro := G.ro
  unfold f_Sh_addOrder_34_b42 at hf
  cases hf
  exact tm_ev C G to_Sh_addOrder rfl rfl (Nat.le_refl _) ⟨rfl, rfl⟩
set_option maxRecDepth 100000 in
set_option maxHeartbeats 4000000 in
theorem j_Sh_addOrder_34_b109 {Γ : tm_G} {ex : List tm_Sh} {av : List Value} {X0 : tm_X} {r : Int32 × tm_I × tm_L} (C : tm_C Γ ty_Sh_addOrder.1.cls ty_Sh_addOrder.2.1 ty_Sh_addOrder.2.2.1) (G : tm_Γ ty_Sh_addOrder 1 21 0 0 av X0 (tm_is none (sh0 ++ ex, r.2.1, r.2.2, rr)) Γ) {x1 : Int32} {x2 : Int32} {x3 : Int32} {x5 : Int32} {x6 : Int32} {x8 : Int32} {s1 : Int32} {s2 : Int32} {mI : tm_I} {mL : tm_L} (hf : f_Sh_addOrder_34_b109 x1 x2 x3 x5 x6 x8 s1 s2 mI mL = some r) : tm_T Γ 9 0 0 109 [some (.ref 20), some (.int x1), some (.int x2), some (.int x3), some (.ref 34), some (.int x5), some (.int x6), some (.ref 26), some (.int x8)] [.int s2, .int s1, .ref 22] (sh0 ++ ex) mI mL rr := by
  have Ro := G.ro
  unfold f_Sh_addOrder_34_b109 at hf
  obtain ⟨c1, hf⟩ := tm_iteN hf
  refine tm_w C tfo_Sh to_Sh_addOrder 7 rfl rfl rfl ⟨⟨_, rfl, c1⟩, rfl, trivial⟩ ?_
  obtain ⟨v1, hv1, hf⟩ := Option.bind_eq_some_iff.mp hf
  refine tm_cV C Ro to_Sh_addOrder tl_Sh_61 rfl (ct_Fo_get isFo_34 hv1) rfl rfl rfl rfl rfl rfl rfl (Nat.le_refl _) (Nat.le_refl _) ?_
  obtain ⟨c2, hf⟩ := tm_iteN hf
  refine tm_w C tfo_Sh to_Sh_addOrder 7 rfl rfl rfl ⟨⟨_, rfl, c2⟩, rfl, trivial⟩ ?_
  obtain ⟨v2, hv2, hf⟩ := Option.bind_eq_some_iff.mp hf
  refine tm_cV C Ro to_Sh_addOrder tl_Sh_61 rfl (ct_Fo_get isFo_34 hv2) rfl rfl rfl rfl rfl rfl rfl (Nat.le_refl _) (Nat.le_refl _) ?_
  obtain ⟨c3, hf⟩ := tm_iteN hf
  refine tm_w C tfo_Sh to_Sh_addOrder 7 rfl rfl rfl ⟨⟨_, rfl, c3⟩, rfl, trivial⟩ ?_
  obtain ⟨v3, hv3, hf⟩ := Option.bind_eq_some_iff.mp hf
  refine tm_cV C Ro to_Sh_addOrder tl_Sh_61 rfl (ct_Fo_get isFo_34 hv3) rfl rfl rfl rfl rfl rfl rfl (Nat.le_refl _) (Nat.le_refl _) ?_
  obtain ⟨c4, hf⟩ := tm_iteN hf
  obtain ⟨c5, hf⟩ := tm_iteN hf
  obtain ⟨c6, hf⟩ := tm_iteN hf
  obtain ⟨c7, hf⟩ := tm_iteN hf
  obtain ⟨c8, hf⟩ := tm_iteN hf
  obtain ⟨c9, hf⟩ := tm_iteN hf
  obtain ⟨c10, hf⟩ := tm_iteN hf
  refine tm_w C tfo_Sh to_Sh_addOrder 48 rfl rfl rfl ⟨⟨_, rfl, c4⟩, rfl, ⟨_, rfl, c5⟩, rfl, rfl, ⟨_, rfl, c6⟩, rfl, ⟨_, rfl, c7⟩, rfl, rfl, ⟨_, rfl, c8⟩, rfl, rfl, ⟨_, rfl, c9⟩, rfl, rfl, ⟨_, rfl, c10⟩, trivial⟩ ?_
  cases hf
  exact tm_ev C G to_Sh_addOrder rfl rfl (Nat.le_refl _) ⟨rfl, rfl⟩
set_option maxRecDepth 100000 in
set_option maxHeartbeats 4000000 in
theorem j_Sh_addOrder_34_b0 {Γ : tm_G} {ex : List tm_Sh} {av : List Value} {X0 : tm_X} {r : Int32 × tm_I × tm_L} (C : tm_C Γ ty_Sh_addOrder.1.cls ty_Sh_addOrder.2.1 ty_Sh_addOrder.2.2.1) (G : tm_Γ ty_Sh_addOrder 1 21 0 0 av X0 (tm_is none (sh0 ++ ex, r.2.1, r.2.2, rr)) Γ) {x1 : Int32} {x2 : Int32} {x3 : Int32} {x5 : Int32} {x6 : Int32} {mI : tm_I} {mL : tm_L} (hf : f_Sh_addOrder_34_b0 x1 x2 x3 x5 x6 mI mL = some r) : tm_T Γ 9 0 0 0 [some (.ref 20), some (.int x1), some (.int x2), some (.int x3), some (.ref 34), some (.int x5), some (.int x6), some (.ref 26), none] [] (sh0 ++ ex) mI mL rr := by
  have Ro := G.ro
  unfold f_Sh_addOrder_34_b0 at hf
  refine tm_w C tfo_Sh to_Sh_addOrder 14 rfl rfl rfl ⟨rfl, rfl, rfl, rfl, trivial⟩ ?_
  refine tm_b C to_Sh_addOrder rfl rfl (fun h => ?_) (fun h => ?_)
  · have hf := (if_pos h).symm.trans hf
    refine tm_wk (lv' := [some (.ref 20), some (.int x1), some (.int x2), some (.int x3), some (.ref 34), some (.int x5), some (.int x6), some (.ref 26), some (.int (((mI 20 4) + (mI 20 5)) * (14 : Int32)))]) ⟨Or.inr rfl, Or.inr rfl, Or.inr rfl, Or.inr rfl, Or.inr rfl, Or.inr rfl, Or.inr rfl, Or.inr rfl, Or.inr rfl, trivial⟩ ?_
    exact j_Sh_addOrder_34_b42 C G hf
  · have hf := (if_neg h).symm.trans hf
    refine tm_w C tfo_Sh to_Sh_addOrder 5 rfl rfl rfl ⟨rfl, trivial⟩ ?_
    refine tm_b C to_Sh_addOrder rfl rfl (fun h => ?_) (fun h => ?_)
    · have hf := (if_pos h).symm.trans hf
      obtain ⟨c11, hf⟩ := tm_iteN hf
      obtain ⟨c12, hf⟩ := tm_iteN hf
      obtain ⟨c13, hf⟩ := tm_iteN hf
      refine tm_w C tfo_Sh to_Sh_addOrder 27 rfl rfl rfl ⟨rfl, ⟨_, rfl, c11⟩, rfl, ⟨_, rfl, c12⟩, rfl, ⟨_, rfl, c13⟩, rfl, trivial⟩ ?_
      obtain ⟨v4, hv4, hf⟩ := Option.bind_eq_some_iff.mp hf
      refine tm_cV C Ro to_Sh_addOrder tl_Sh_61 rfl (ct_Fo_get isFo_34 hv4) rfl rfl rfl rfl rfl rfl rfl (Nat.le_refl _) (Nat.le_refl _) ?_
      obtain ⟨c14, hf⟩ := tm_iteN hf
      refine tm_w C tfo_Sh to_Sh_addOrder 7 rfl rfl rfl ⟨⟨_, rfl, c14⟩, rfl, rfl, trivial⟩ ?_
      refine tm_b C to_Sh_addOrder rfl rfl (fun h => ?_) (fun h => ?_)
      · have hf := (if_pos h).symm.trans hf
        refine tm_w C tfo_Sh to_Sh_addOrder 0 rfl rfl rfl trivial ?_
        refine tm_wk (lv' := [some (.ref 20), some (.int x1), some (.int x2), some (.int x3), some (.ref 34), some (.int x5), some (.int x6), some (.ref 26), some (.int (((mI 20 4) + (mI 20 5)) * (14 : Int32)))]) ⟨Or.inr rfl, Or.inr rfl, Or.inr rfl, Or.inr rfl, Or.inr rfl, Or.inr rfl, Or.inr rfl, Or.inr rfl, Or.inr rfl, trivial⟩ ?_
        exact j_Sh_addOrder_34_b109 C G hf
      · have hf := (if_neg h).symm.trans hf
        refine tm_w C tfo_Sh to_Sh_addOrder 1 rfl rfl rfl trivial ?_
        refine tm_wk (lv' := [some (.ref 20), some (.int x1), some (.int x2), some (.int x3), some (.ref 34), some (.int x5), some (.int x6), some (.ref 26), some (.int (((mI 20 4) + (mI 20 5)) * (14 : Int32)))]) ⟨Or.inr rfl, Or.inr rfl, Or.inr rfl, Or.inr rfl, Or.inr rfl, Or.inr rfl, Or.inr rfl, Or.inr rfl, Or.inr rfl, trivial⟩ ?_
        exact j_Sh_addOrder_34_b109 C G hf
    · have hf := (if_neg h).symm.trans hf
      refine tm_wk (lv' := [some (.ref 20), some (.int x1), some (.int x2), some (.int x3), some (.ref 34), some (.int x5), some (.int x6), some (.ref 26), some (.int (((mI 20 4) + (mI 20 5)) * (14 : Int32)))]) ⟨Or.inr rfl, Or.inr rfl, Or.inr rfl, Or.inr rfl, Or.inr rfl, Or.inr rfl, Or.inr rfl, Or.inr rfl, Or.inr rfl, trivial⟩ ?_
      exact j_Sh_addOrder_34_b42 C G hf
set_option maxRecDepth 100000 in
theorem ct_Sh_addOrder_34 {ex : List tm_Sh} {p0 : Int32} {p1 : Int32} {p2 : Int32} {p4 : Int32} {p5 : Int32} {mI : tm_I} {mL : tm_L} {r : Int32 × tm_I × tm_L} (hf : f_Sh_addOrder_34 p0 p1 p2 p4 p5 mI mL = some r) : tm_M ty_Sh_addOrder 1 21 0 0 [.ref 20, .int p0, .int p1, .int p2, .ref 34, .int p4, .int p5, .ref 26] (sh0 ++ ex, mI, mL, rr) (tm_is none (sh0 ++ ex, r.2.1, r.2.2, rr)) := by
  refine tm_body (by decide) (Nat.le_of_ble_eq_true rfl) fun Γ C G => ?_
  exact j_Sh_addOrder_34_b0 C G hf
