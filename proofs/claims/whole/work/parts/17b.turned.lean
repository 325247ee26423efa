/-! Mo_preset -/
def f_Mo_preset_b136 (x1 : Int32) (x2 : Int32) (s0 : Int32) (mI : tm_I) (mL : tm_L) : Option (Int32 × tm_I × tm_L) := some (s0, mI, mL)
def f_Mo_preset_b117 (x1 : Int32) (x2 : Int32) (mI : tm_I) (mL : tm_L) : Option (Int32 × tm_I × tm_L) := if ¬ x2 = 0 then if ¬ x2 = (1 : Int32) then f_Mo_preset_b136 x1 x2 (0 : Int32) mI mL else f_Mo_preset_b136 x1 x2 (50 : Int32) mI mL else f_Mo_preset_b136 x1 x2 (2 : Int32) mI mL
def f_Mo_preset_b92 (x1 : Int32) (x2 : Int32) (mI : tm_I) (mL : tm_L) : Option (Int32 × tm_I × tm_L) := some ((1 : Int32), mI, mL)
def f_Mo_preset_b109 (x1 : Int32) (x2 : Int32) (s0 : Int32) (mI : tm_I) (mL : tm_L) : Option (Int32 × tm_I × tm_L) := some (s0, mI, mL)
def f_Mo_preset_b104 (x1 : Int32) (x2 : Int32) (mI : tm_I) (mL : tm_L) : Option (Int32 × tm_I × tm_L) := f_Mo_preset_b109 x1 x2 (1 : Int32) mI mL
def f_Mo_preset_b179 (x1 : Int32) (x2 : Int32) (mI : tm_I) (mL : tm_L) : Option (Int32 × tm_I × tm_L) := some ((0 : Int32), mI, mL)
def f_Mo_preset_b175 (x1 : Int32) (x2 : Int32) (s0 : Int32) (mI : tm_I) (mL : tm_L) : Option (Int32 × tm_I × tm_L) := some (s0, mI, mL)
def f_Mo_preset_b164 (x1 : Int32) (x2 : Int32) (s0 : Int32) (mI : tm_I) (mL : tm_L) : Option (Int32 × tm_I × tm_L) := some (s0, mI, mL)
def f_Mo_preset_b0 (x1 : Int32) (x2 : Int32) (mI : tm_I) (mL : tm_L) : Option (Int32 × tm_I × tm_L) := if x1 = (66 : Int32) then f_Mo_preset_b117 x1 x2 mI mL else if x1 = (67 : Int32) then f_Mo_preset_b92 x1 x2 mI mL else if x1 = (68 : Int32) then if x2 = (1 : Int32) then f_Mo_preset_b104 x1 x2 mI mL else if ¬ x2 = (2 : Int32) then f_Mo_preset_b109 x1 x2 (0 : Int32) mI mL else f_Mo_preset_b104 x1 x2 mI mL else if x1 = (70 : Int32) then f_Mo_preset_b92 x1 x2 mI mL else if x1 = (71 : Int32) then if ¬ x2 = (2 : Int32) then f_Mo_preset_b175 x1 x2 (0 : Int32) mI mL else f_Mo_preset_b175 x1 x2 (1 : Int32) mI mL else if x1 = (73 : Int32) then f_Mo_preset_b92 x1 x2 mI mL else if x1 = (78 : Int32) then f_Mo_preset_b117 x1 x2 mI mL else if x1 = (80 : Int32) then some ((8 : Int32), mI, mL) else if x1 = (81 : Int32) then if ¬ x2 = 0 then if ¬ x2 = (1 : Int32) then if ¬ x2 = (2 : Int32) then f_Mo_preset_b164 x1 x2 (0 : Int32) mI mL else f_Mo_preset_b164 x1 x2 (-1 : Int32) mI mL else f_Mo_preset_b164 x1 x2 (1 : Int32) mI mL else f_Mo_preset_b164 x1 x2 (2 : Int32) mI mL else if x1 = (84 : Int32) then if ¬ (x2 < 0 ∨ 4 ≤ Int32.toNatClampNeg x2) then some ((mI 48 (Int32.toNatClampNeg x2)), mI, mL) else none else f_Mo_preset_b179 x1 x2 mI mL
abbrev f_Mo_preset (p0 : Int32) (p1 : Int32) (mI : tm_I) (mL : tm_L) : Option (Int32 × tm_I × tm_L) := f_Mo_preset_b0 p0 p1 mI mL
set_option maxRecDepth 100000 in
set_option maxHeartbeats 4000000 in
theorem j_Mo_preset_b136 {Γ : tm_G} {ex : List tm_Sh} {av : List Value} {X0 : tm_X} {r : Int32 × tm_I × tm_L} (C : tm_C Γ ty_Mo_preset.1.cls ty_Mo_preset.2.1 ty_Mo_preset.2.2.1) (G : tm_Γ ty_Mo_preset 0 0 0 0 av X0 (tm_is (some (.int r.1)) (sh0 ++ ex, r.2.1, r.2.2, rr)) Γ) {x1 : Int32} {x2 : Int32} {s0 : Int32} {mI : tm_I} {mL : tm_L} (hf : f_Mo_preset_b136 x1 x2 s0 mI mL = some r) : tm_T Γ 3 0 0 136 [some (.ref 39), some (.int x1), some (.int x2)] [.int s0] (sh0 ++ ex) mI mL rr := by
  have Ro := G.ro
  unfold f_Mo_preset_b136 at hf
  cases hf
  exact tm_ei C G to_Mo_preset rfl rfl (Nat.le_refl _) rfl ⟨rfl, rfl⟩
set_option maxRecDepth 100000 in
set_option maxHeartbeats 4000000 in
theorem j_Mo_preset_b117 {Γ : tm_G} {ex : List tm_Sh} {av : List Value} {X0 : tm_X} {r : Int32 × tm_I × tm_L} (C : tm_C Γ ty_Mo_preset.1.cls ty_Mo_preset.2.1 ty_Mo_preset.2.2.1) (G : tm_Γ ty_Mo_preset 0 0 0 0 av X0 (tm_is (some (.int r.1)) (sh0 ++ ex, r.2.1, r.2.2, rr)) Γ) {x1 : Int32} {x2 : Int32} {mI : tm_I} {mL : tm_L} (hf : f_Mo_preset_b117 x1 x2 mI mL = some r) : tm_T Γ 3 0 0 117 [some (.ref 39), some (.int x1), some (.int x2)] [] (sh0 ++ ex) mI mL rr := by
  have Ro := G.ro
  unfold f_Mo_preset_b117 at hf
  refine tm_w C tfo_Mo to_Mo_preset 0 rfl rfl rfl trivial ?_
  refine tm_b C to_Mo_preset rfl rfl (fun h => ?_) (fun h => ?_)
  · have hf := (if_pos h).symm.trans hf
    refine tm_w C tfo_Mo to_Mo_preset 1 rfl rfl rfl trivial ?_
    refine tm_b C to_Mo_preset rfl rfl (fun h => ?_) (fun h => ?_)
    · have hf := (if_pos h).symm.trans hf
      refine tm_w C tfo_Mo to_Mo_preset 0 rfl rfl rfl trivial ?_
      refine tm_wk (lv' := [some (.ref 39), some (.int x1), some (.int x2)]) ⟨Or.inr rfl, Or.inr rfl, Or.inr rfl, trivial⟩ ?_
      exact j_Mo_preset_b136 C G hf
    · have hf := (if_neg h).symm.trans hf
      refine tm_w C tfo_Mo to_Mo_preset 1 rfl rfl rfl trivial ?_
      refine tm_wk (lv' := [some (.ref 39), some (.int x1), some (.int x2)]) ⟨Or.inr rfl, Or.inr rfl, Or.inr rfl, trivial⟩ ?_
      exact j_Mo_preset_b136 C G hf
  · have hf := (if_neg h).symm.trans hf
    refine tm_w C tfo_Mo to_Mo_preset 1 rfl rfl rfl trivial ?_
    refine tm_wk (lv' := [some (.ref 39), some (.int x1), some (.int x2)]) ⟨Or.inr rfl, Or.inr rfl, Or.inr rfl, trivial⟩ ?_
    exact j_Mo_preset_b136 C G hf
set_option maxRecDepth 100000 in
set_option maxHeartbeats 4000000 in
theorem j_Mo_preset_b92 {Γ : tm_G} {ex : List tm_Sh} {av : List Value} {X0 : tm_X} {r : Int32 × tm_I × tm_L} (C : tm_C Γ ty_Mo_preset.1.cls ty_Mo_preset.2.1 ty_Mo_preset.2.2.1) (G : tm_Γ ty_Mo_preset 0 0 0 0 av X0 (tm_is (some (.int r.1)) (sh0 ++ ex, r.2.1, r.2.2, rr)) Γ) {x1 : Int32} {x2 : Int32} {mI : tm_I} {mL : tm_L} (hf : f_Mo_preset_b92 x1 x2 mI mL = some r) : tm_T Γ 3 0 0 92 [some (.ref 39), some (.int x1), some (.int x2)] [] (sh0 ++ ex) mI mL rr := by
  have Ro := G.ro
  unfold f_Mo_preset_b92 at hf
  refine tm_w C tfo_Mo to_Mo_preset 0 rfl rfl rfl trivial ?_
  cases hf
  exact tm_ei C G to_Mo_preset rfl rfl (Nat.le_refl _) rfl ⟨rfl, rfl⟩
set_option maxRecDepth 100000 in
set_option maxHeartbeats 4000000 in
theorem j_Mo_preset_b109 {Γ : tm_G} {ex : List tm_Sh} {av : List Value} {X0 : tm_X} {r : Int32 × tm_I × tm_L} (C : tm_C Γ ty_Mo_preset.1.cls ty_Mo_preset.2.1 ty_Mo_preset.2.2.1) (G : tm_Γ ty_Mo_preset 0 0 0 0 av X0 (tm_is (some (.int r.1)) (sh0 ++ ex, r.2.1, r.2.2, rr)) Γ) {x1 : Int32} {x2 : Int32} {s0 : Int32} {mI : tm_I} {mL : tm_L} (hf : f_Mo_preset_b109 x1 x2 s0 mI mL = some r) : tm_T Γ 3 0 0 109 [some (.ref 39), some (.int x1), some (.int x2)] [.int s0] (sh0 ++ ex) mI mL rr := by
  have Ro := G.ro
  unfold f_Mo_preset_b109 at hf
  cases hf
  exact tm_ei C G to_Mo_preset rfl rfl (Nat.le_refl _) rfl ⟨rfl, rfl⟩
set_option maxRecDepth 100000 in
set_option maxHeartbeats 4000000 in
theorem j_Mo_preset_b104 {Γ : tm_G} {ex : List tm_Sh} {av : List Value} {X0 : tm_X} {r : Int32 × tm_I × tm_L} (C : tm_C Γ ty_Mo_preset.1.cls ty_Mo_preset.2.1 ty_Mo_preset.2.2.1) (G : tm_Γ ty_Mo_preset 0 0 0 0 av X0 (tm_is (some (.int r.1)) (sh0 ++ ex, r.2.1, r.2.2, rr)) Γ) {x1 : Int32} {x2 : Int32} {mI : tm_I} {mL : tm_L} (hf : f_Mo_preset_b104 x1 x2 mI mL = some r) : tm_T Γ 3 0 0 104 [some (.ref 39), some (.int x1), some (.int x2)] [] (sh0 ++ ex) mI mL rr := by
  have Ro := G.ro
  unfold f_Mo_preset_b104 at hf
  refine tm_w C tfo_Mo to_Mo_preset 1 rfl rfl rfl trivial ?_
  refine tm_wk (lv' := [some (.ref 39), some (.int x1), some (.int x2)]) ⟨Or.inr rfl, Or.inr rfl, Or.inr rfl, trivial⟩ ?_
  exact j_Mo_preset_b109 C G hf
set_option maxRecDepth 100000 in
set_option maxHeartbeats 4000000 in
theorem j_Mo_preset_b179 {Γ : tm_G} {ex : List tm_Sh} {av : List Value} {X0 : tm_X} {r : Int32 × tm_I × tm_L} (C : tm_C Γ ty_Mo_preset.1.cls ty_Mo_preset.2.1 ty_Mo_preset.2.2.1) (G : tm_Γ ty_Mo_preset 0 0 0 0 av X0 (tm_is (some (.int r.1)) (sh0 ++ ex, r.2.1, r.2.2, rr)) Γ) {x1 : Int32} {x2 : Int32} {mI : tm_I} {mL : tm_L} (hf : f_Mo_preset_b179 x1 x2 mI mL = some r) : tm_T Γ 3 0 0 179 [some (.ref 39), some (.int x1), some (.int x2)] [] (sh0 ++ ex) mI mL rr := by
  have Ro := G.ro
  unfold f_Mo_preset_b179 at hf
  refine tm_w C tfo_Mo to_Mo_preset 0 rfl rfl rfl trivial ?_
  cases hf
  exact tm_ei C G to_Mo_preset rfl rfl (Nat.le_refl _) rfl ⟨rfl, rfl⟩
set_option maxRecDepth 100000 in
set_option maxHeartbeats 4000000 in
theorem j_Mo_preset_b175 {Γ : tm_G} {ex : List tm_Sh} {av : List Value} {X0 : tm_X} {r : Int32 × tm_I × tm_L} (C : tm_C Γ ty_Mo_preset.1.cls ty_Mo_preset.2.1 ty_Mo_preset.2.2.1) (G : tm_Γ ty_Mo_preset 0 0 0 0 av X0 (tm_is (some (.int r.1)) (sh0 ++ ex, r.2.1, r.2.2, rr)) Γ) {x1 : Int32} {x2 : Int32} {s0 : Int32} {mI : tm_I} {mL : tm_L} (hf : f_Mo_preset_b175 x1 x2 s0 mI mL = some r) : tm_T Γ 3 0 0 175 [some (.ref 39), some (.int x1), some (.int x2)] [.int s0] (sh0 ++ ex) mI mL rr := by
  have Ro := G.ro
  unfold f_Mo_preset_b175 at hf
  cases hf
  exact tm_ei C G to_Mo_preset rfl rfl (Nat.le_refl _) rfl ⟨rfl, rfl⟩
set_option maxRecDepth 100000 in
set_option maxHeartbeats 4000000 in
theorem j_Mo_preset_b164 {Γ : tm_G} {ex : List tm_Sh} {av : List Value} {X0 : tm_X} {r : Int32 × tm_I × tm_L} (C : tm_C Γ ty_Mo_preset.1.cls ty_Mo_preset.2.1 ty_Mo_preset.2.2.1) (G : tm_Γ ty_Mo_preset 0 0 0 0 av X0 (tm_is (some (.int r.1)) (sh0 ++ ex, r.2.1, r.2.2, rr)) Γ) {x1 : Int32} {x2 : Int32} {s0 : Int32} {mI : tm_I} {mL : tm_L} (hf : f_Mo_preset_b164 x1 x2 s0 mI mL = some r) : tm_T Γ 3 0 0 164 [some (.ref 39), some (.int x1), some (.int x2)] [.int s0] (sh0 ++ ex) mI mL rr := by
  have Ro := G.ro
  unfold f_Mo_preset_b164 at hf
  cases hf
  exact tm_ei C G to_Mo_preset rfl rfl (Nat.le_refl _) rfl ⟨rfl, rfl⟩
set_option maxRecDepth 100000 in
set_option maxHeartbeats 4000000 in
theorem j_Mo_preset_b0 {Γ : tm_G} {ex : List tm_Sh} {av : List Value} {X0 : tm_X} {r : Int32 × tm_I × tm_L} (C : tm_C Γ ty_Mo_preset.1.cls ty_Mo_preset.2.1 ty_Mo_preset.2.2.1) (G : tm_Γ ty_Mo_preset 0 0 0 0 av X0 (tm_is (some (.int r.1)) (sh0 ++ ex, r.2.1, r.2.2, rr)) Γ) {x1 : Int32} {x2 : Int32} {mI : tm_I} {mL : tm_L} (hf : f_Mo_preset_b0 x1 x2 mI mL = some r) : tm_T Γ 3 0 0 0 [some (.ref 39), some (.int x1), some (.int x2)] [] (sh0 ++ ex) mI mL rr := by
  have Ro := G.ro
  unfold f_Mo_preset_b0 at hf
  refine tm_w C tfo_Mo to_Mo_preset 0 rfl rfl rfl trivial ?_
  by_cases h66 : x1 = (66 : Int32)
  · have hf := (if_pos h66).symm.trans hf
    refine tm_swI (tgt := 117) C (tm_get_d to_Mo_preset rfl) (66 : Int32) (116) h66 (by decide) (by decide) (by decide) (by decide) ?_
    refine tm_wk (lv' := [some (.ref 39), some (.int x1), some (.int x2)]) ⟨Or.inr rfl, Or.inr rfl, Or.inr rfl, trivial⟩ ?_
    exact j_Mo_preset_b117 C G hf
  have hf := (if_neg h66).symm.trans hf
  by_cases h67 : x1 = (67 : Int32)
  · have hf := (if_pos h67).symm.trans hf
    refine tm_swI (tgt := 92) C (tm_get_d to_Mo_preset rfl) (67 : Int32) (91) h67 (by decide) (by decide) (by decide) (by decide) ?_
    refine tm_wk (lv' := [some (.ref 39), some (.int x1), some (.int x2)]) ⟨Or.inr rfl, Or.inr rfl, Or.inr rfl, trivial⟩ ?_
    exact j_Mo_preset_b92 C G hf
  have hf := (if_neg h67).symm.trans hf
  by_cases h68 : x1 = (68 : Int32)
  · have hf := (if_pos h68).symm.trans hf
    refine tm_swI (tgt := 94) C (tm_get_d to_Mo_preset rfl) (68 : Int32) (93) h68 (by decide) (by decide) (by decide) (by decide) ?_
    refine tm_w C tfo_Mo to_Mo_preset 1 rfl rfl rfl trivial ?_
    refine tm_b C to_Mo_preset rfl rfl (fun h => ?_) (fun h => ?_)
    · have hf := (if_pos h).symm.trans hf
      refine tm_wk (lv' := [some (.ref 39), some (.int x1), some (.int x2)]) ⟨Or.inr rfl, Or.inr rfl, Or.inr rfl, trivial⟩ ?_
      exact j_Mo_preset_b104 C G hf
    · have hf := (if_neg h).symm.trans hf
      refine tm_w C tfo_Mo to_Mo_preset 1 rfl rfl rfl trivial ?_
      refine tm_b C to_Mo_preset rfl rfl (fun h => ?_) (fun h => ?_)
      · have hf := (if_pos h).symm.trans hf
        refine tm_w C tfo_Mo to_Mo_preset 0 rfl rfl rfl trivial ?_
        refine tm_wk (lv' := [some (.ref 39), some (.int x1), some (.int x2)]) ⟨Or.inr rfl, Or.inr rfl, Or.inr rfl, trivial⟩ ?_
        exact j_Mo_preset_b109 C G hf
      · have hf := (if_neg h).symm.trans hf
        refine tm_wk (lv' := [some (.ref 39), some (.int x1), some (.int x2)]) ⟨Or.inr rfl, Or.inr rfl, Or.inr rfl, trivial⟩ ?_
        exact j_Mo_preset_b104 C G hf
  have hf := (if_neg h68).symm.trans hf
  by_cases h70 : x1 = (70 : Int32)
  · have hf := (if_pos h70).symm.trans hf
    refine tm_swI (tgt := 92) C (tm_get_d to_Mo_preset rfl) (70 : Int32) (91) h70 (by decide) (by decide) (by decide) (by decide) ?_
    refine tm_wk (lv' := [some (.ref 39), some (.int x1), some (.int x2)]) ⟨Or.inr rfl, Or.inr rfl, Or.inr rfl, trivial⟩ ?_
    exact j_Mo_preset_b92 C G hf
  have hf := (if_neg h70).symm.trans hf
  by_cases h71 : x1 = (71 : Int32)
  · have hf := (if_pos h71).symm.trans hf
    refine tm_swI (tgt := 165) C (tm_get_d to_Mo_preset rfl) (71 : Int32) (164) h71 (by decide) (by decide) (by decide) (by decide) ?_
    refine tm_w C tfo_Mo to_Mo_preset 1 rfl rfl rfl trivial ?_
    refine tm_b C to_Mo_preset rfl rfl (fun h => ?_) (fun h => ?_)
    · have hf := (if_pos h).symm.trans hf
      refine tm_w C tfo_Mo to_Mo_preset 0 rfl rfl rfl trivial ?_
      refine tm_wk (lv' := [some (.ref 39), some (.int x1), some (.int x2)]) ⟨Or.inr rfl, Or.inr rfl, Or.inr rfl, trivial⟩ ?_
      exact j_Mo_preset_b175 C G hf
    · have hf := (if_neg h).symm.trans hf
      refine tm_w C tfo_Mo to_Mo_preset 1 rfl rfl rfl trivial ?_
      refine tm_wk (lv' := [some (.ref 39), some (.int x1), some (.int x2)]) ⟨Or.inr rfl, Or.inr rfl, Or.inr rfl, trivial⟩ ?_
      exact j_Mo_preset_b175 C G hf
  have hf := (if_neg h71).symm.trans hf
  by_cases h73 : x1 = (73 : Int32)
  · have hf := (if_pos h73).symm.trans hf
    refine tm_swI (tgt := 92) C (tm_get_d to_Mo_preset rfl) (73 : Int32) (91) h73 (by decide) (by decide) (by decide) (by decide) ?_
    refine tm_wk (lv' := [some (.ref 39), some (.int x1), some (.int x2)]) ⟨Or.inr rfl, Or.inr rfl, Or.inr rfl, trivial⟩ ?_
    exact j_Mo_preset_b92 C G hf
  have hf := (if_neg h73).symm.trans hf
  by_cases h78 : x1 = (78 : Int32)
  · have hf := (if_pos h78).symm.trans hf
    refine tm_swI (tgt := 117) C (tm_get_d to_Mo_preset rfl) (78 : Int32) (116) h78 (by decide) (by decide) (by decide) (by decide) ?_
    refine tm_wk (lv' := [some (.ref 39), some (.int x1), some (.int x2)]) ⟨Or.inr rfl, Or.inr rfl, Or.inr rfl, trivial⟩ ?_
    exact j_Mo_preset_b117 C G hf
  have hf := (if_neg h78).symm.trans hf
  by_cases h80 : x1 = (80 : Int32)
  · have hf := (if_pos h80).symm.trans hf
    refine tm_swI (tgt := 176) C (tm_get_d to_Mo_preset rfl) (80 : Int32) (175) h80 (by decide) (by decide) (by decide) (by decide) ?_
    refine tm_w C tfo_Mo to_Mo_preset 0 rfl rfl rfl trivial ?_
    cases hf
    exact tm_ei C G to_Mo_preset rfl rfl (Nat.le_refl _) rfl ⟨rfl, rfl⟩
  have hf := (if_neg h80).symm.trans hf
  by_cases h81 : x1 = (81 : Int32)
  · have hf := (if_pos h81).symm.trans hf
    refine tm_swI (tgt := 137) C (tm_get_d to_Mo_preset rfl) (81 : Int32) (136) h81 (by decide) (by decide) (by decide) (by decide) ?_
    refine tm_w C tfo_Mo to_Mo_preset 0 rfl rfl rfl trivial ?_
    refine tm_b C to_Mo_preset rfl rfl (fun h => ?_) (fun h => ?_)
    · have hf := (if_pos h).symm.trans hf
      refine tm_w C tfo_Mo to_Mo_preset 1 rfl rfl rfl trivial ?_
      refine tm_b C to_Mo_preset rfl rfl (fun h => ?_) (fun h => ?_)
      · have hf := (if_pos h).symm.trans hf
        refine tm_w C tfo_Mo to_Mo_preset 1 rfl rfl rfl trivial ?_
        refine tm_b C to_Mo_preset rfl rfl (fun h => ?_) (fun h => ?_)
        · have hf := (if_pos h).symm.trans hf
          refine tm_w C tfo_Mo to_Mo_preset 0 rfl rfl rfl trivial ?_
          refine tm_wk (lv' := [some (.ref 39), some (.int x1), some (.int x2)]) ⟨Or.inr rfl, Or.inr rfl, Or.inr rfl, trivial⟩ ?_
          exact j_Mo_preset_b164 C G hf
        · have hf := (if_neg h).symm.trans hf
          refine tm_w C tfo_Mo to_Mo_preset 1 rfl rfl rfl trivial ?_
          refine tm_wk (lv' := [some (.ref 39), some (.int x1), some (.int x2)]) ⟨Or.inr rfl, Or.inr rfl, Or.inr rfl, trivial⟩ ?_
          exact j_Mo_preset_b164 C G hf
      · have hf := (if_neg h).symm.trans hf
        refine tm_w C tfo_Mo to_Mo_preset 1 rfl rfl rfl trivial ?_
        refine tm_wk (lv' := [some (.ref 39), some (.int x1), some (.int x2)]) ⟨Or.inr rfl, Or.inr rfl, Or.inr rfl, trivial⟩ ?_
        exact j_Mo_preset_b164 C G hf
    · have hf := (if_neg h).symm.trans hf
      refine tm_w C tfo_Mo to_Mo_preset 1 rfl rfl rfl trivial ?_
      refine tm_wk (lv' := [some (.ref 39), some (.int x1), some (.int x2)]) ⟨Or.inr rfl, Or.inr rfl, Or.inr rfl, trivial⟩ ?_
      exact j_Mo_preset_b164 C G hf
  have hf := (if_neg h81).symm.trans hf
  by_cases h84 : x1 = (84 : Int32)
  · have hf := (if_pos h84).symm.trans hf
    refine tm_swI (tgt := 110) C (tm_get_d to_Mo_preset rfl) (84 : Int32) (109) h84 (by decide) (by decide) (by decide) (by decide) ?_
    obtain ⟨c1, hf⟩ := tm_iteN hf
    refine tm_w C tfo_Mo to_Mo_preset 3 rfl rfl rfl ⟨rfl, ⟨_, rfl, c1⟩, trivial⟩ ?_
    cases hf
    exact tm_ei C G to_Mo_preset rfl rfl (Nat.le_refl _) rfl ⟨rfl, rfl⟩
  have hf := (if_neg h84).symm.trans hf
  refine tm_swD (tgt := 179) C (tm_get_d to_Mo_preset rfl) [(66 : Int32), (67 : Int32), (68 : Int32), (70 : Int32), (71 : Int32), (73 : Int32), (78 : Int32), (80 : Int32), (81 : Int32), (84 : Int32)] (by decide) (by decide) (List.forall_mem_cons.mpr ⟨h66, List.forall_mem_cons.mpr ⟨h67, List.forall_mem_cons.mpr ⟨h68, List.forall_mem_cons.mpr ⟨h70, List.forall_mem_cons.mpr ⟨h71, List.forall_mem_cons.mpr ⟨h73, List.forall_mem_cons.mpr ⟨h78, List.forall_mem_cons.mpr ⟨h80, List.forall_mem_cons.mpr ⟨h81, List.forall_mem_cons.mpr ⟨h84, fun _ h => nomatch h⟩⟩⟩⟩⟩⟩⟩⟩⟩⟩) (by decide) ?_
  refine tm_wk (lv' := [some (.ref 39), some (.int x1), some (.int x2)]) ⟨Or.inr rfl, Or.inr rfl, Or.inr rfl, trivial⟩ ?_
  exact j_Mo_preset_b179 C G hf
set_option maxRecDepth 100000 in
theorem ct_Mo_preset {ex : List tm_Sh} {p0 : Int32} {p1 : Int32} {mI : tm_I} {mL : tm_L} {r : Int32 × tm_I × tm_L} (hf : f_Mo_preset p0 p1 mI mL = some r) : tm_M ty_Mo_preset 0 0 0 0 [.ref 39, .int p0, .int p1] (sh0 ++ ex, mI, mL, rr) (tm_is (some (.int r.1)) (sh0 ++ ex, r.2.1, r.2.2, rr)) := by
  refine tm_body (by decide) (Nat.le_of_ble_eq_true rfl) fun Γ C G => ?_
  exact j_Mo_preset_b0 C G hf
/-! Mo_picture -/
def f_Mo_picture_b36 (x0 : Int32) (x1 : Int32) (s0 : Int32) (mI : tm_I) (mL : tm_L) : Option (Int32 × tm_I × tm_L) := some (s0, mI, mL)
def f_Mo_picture_b12 (x0 : Int32) (x1 : Int32) (mI : tm_I) (mL : tm_L) : Option (Int32 × tm_I × tm_L) := if ¬ (x1 - x1 / (2 : Int32) * (2 : Int32)) = 0 then if ¬ x1 = (5 : Int32) then f_Mo_picture_b36 x0 x1 (2048 : Int32) mI mL else f_Mo_picture_b36 x0 x1 (200 : Int32) mI mL else f_Mo_picture_b36 x0 x1 (1 : Int32) mI mL
def f_Mo_picture_b177 (x0 : Int32) (x1 : Int32) (s0 : Int32) (mI : tm_I) (mL : tm_L) : Option (Int32 × tm_I × tm_L) := some (s0, mI, mL)
def f_Mo_picture_b136 (x0 : Int32) (x1 : Int32) (s0 : Int32) (mI : tm_I) (mL : tm_L) : Option (Int32 × tm_I × tm_L) := some (s0, mI, mL)
def f_Mo_picture_b112 (x0 : Int32) (x1 : Int32) (mI : tm_I) (mL : tm_L) : Option (Int32 × tm_I × tm_L) := f_Mo_picture_b136 x0 x1 (0 : Int32) mI mL
def f_Mo_picture_b94 (x0 : Int32) (x1 : Int32) (s0 : Int32) (mI : tm_I) (mL : tm_L) : Option (Int32 × tm_I × tm_L) := some (s0, mI, mL)
def f_Mo_picture_b78 (x0 : Int32) (x1 : Int32) (s0 : Int32) (mI : tm_I) (mL : tm_L) : Option (Int32 × tm_I × tm_L) := some (s0, mI, mL)
def f_Mo_picture_b0 (x0 : Int32) (x1 : Int32) (mI : tm_I) (mL : tm_L) : Option (Int32 × tm_I × tm_L) := if x0 = (70 : Int32) then f_Mo_picture_b12 x0 x1 mI mL else if ¬ x0 = (73 : Int32) then if ¬ x0 = (71 : Int32) then if (2 : Int32) ≤ x1 then if ¬ x0 = (81 : Int32) then if ¬ x1 = (2 : Int32) then if ¬ x1 = (3 : Int32) then if ¬ (x1 - x1 / (2 : Int32) * (2 : Int32)) = 0 then if ¬ x1 = (5 : Int32) then f_Mo_picture_b177 x0 x1 (1 : Int32) mI mL else f_Mo_picture_b177 x0 x1 (3 : Int32) mI mL else f_Mo_picture_b177 x0 x1 (0 : Int32) mI mL else f_Mo_picture_b177 x0 x1 (2048 : Int32) mI mL else f_Mo_picture_b177 x0 x1 (1 : Int32) mI mL else if x1 = (2 : Int32) then f_Mo_picture_b112 x0 x1 mI mL else if ¬ x1 = (6 : Int32) then if ¬ x1 = (4 : Int32) then if ¬ x1 = (5 : Int32) then f_Mo_picture_b136 x0 x1 (3 : Int32) mI mL else f_Mo_picture_b136 x0 x1 (7 : Int32) mI mL else f_Mo_picture_b136 x0 x1 (-1 : Int32) mI mL else f_Mo_picture_b112 x0 x1 mI mL else if ¬ x1 = 0 then f_Mo_picture_b94 x0 x1 (50 : Int32) mI mL else f_Mo_picture_b94 x0 x1 (1 : Int32) mI mL else if ¬ x1 = (4 : Int32) then if ¬ x1 = (5 : Int32) then if ¬ (x1 - x1 / (2 : Int32) * (2 : Int32)) = 0 then f_Mo_picture_b78 x0 x1 (4096 : Int32) mI mL else f_Mo_picture_b78 x0 x1 (-4096 : Int32) mI mL else f_Mo_picture_b78 x0 x1 (200 : Int32) mI mL else f_Mo_picture_b78 x0 x1 (1 : Int32) mI mL else f_Mo_picture_b12 x0 x1 mI mL
abbrev f_Mo_picture (p0 : Int32) (p1 : Int32) (mI : tm_I) (mL : tm_L) : Option (Int32 × tm_I × tm_L) := f_Mo_picture_b0 p0 p1 mI mL
set_option maxRecDepth 100000 in
set_option maxHeartbeats 4000000 in
theorem j_Mo_picture_b36 {Γ : tm_G} {ex : List tm_Sh} {av : List Value} {X0 : tm_X} {r : Int32 × tm_I × tm_L} (C : tm_C Γ ty_Mo_picture.1.cls ty_Mo_picture.2.1 ty_Mo_picture.2.2.1) (G : tm_Γ ty_Mo_picture 0 0 0 0 av X0 (tm_is (some (.int r.1)) (sh0 ++ ex, r.2.1, r.2.2, rr)) Γ) {x0 : Int32} {x1 : Int32} {s0 : Int32} {mI : tm_I} {mL : tm_L} (hf : f_Mo_picture_b36 x0 x1 s0 mI mL = some r) : tm_T Γ 2 0 0 36 [some (.int x0), some (.int x1)] [.int s0] (sh0 ++ ex) mI mL rr := by
  have Ro := G.ro
  unfold f_Mo_picture_b36 at hf
  cases hf
  exact tm_ei C G to_Mo_picture rfl rfl (Nat.le_refl _) rfl ⟨rfl, rfl⟩
set_option maxRecDepth 100000 in
set_option maxHeartbeats 4000000 in
theorem j_Mo_picture_b12 {Γ : tm_G} {ex : List tm_Sh} {av : List Value} {X0 : tm_X} {r : Int32 × tm_I × tm_L} (C : tm_C Γ ty_Mo_picture.1.cls ty_Mo_picture.2.1 ty_Mo_picture.2.2.1) (G : tm_Γ ty_Mo_picture 0 0 0 0 av X0 (tm_is (some (.int r.1)) (sh0 ++ ex, r.2.1, r.2.2, rr)) Γ) {x0 : Int32} {x1 : Int32} {mI : tm_I} {mL : tm_L} (hf : f_Mo_picture_b12 x0 x1 mI mL = some r) : tm_T Γ 2 0 0 12 [some (.int x0), some (.int x1)] [] (sh0 ++ ex) mI mL rr := by
  have Ro := G.ro
  unfold f_Mo_picture_b12 at hf
  refine tm_w C tfo_Mo to_Mo_picture 2 rfl rfl rfl ⟨(by decide), trivial⟩ ?_
  refine tm_b C to_Mo_picture rfl rfl (fun h => ?_) (fun h => ?_)
  · have hf := (if_pos h).symm.trans hf
    refine tm_w C tfo_Mo to_Mo_picture 1 rfl rfl rfl trivial ?_
    refine tm_b C to_Mo_picture rfl rfl (fun h => ?_) (fun h => ?_)
    · have hf := (if_pos h).symm.trans hf
      refine tm_w C tfo_Mo to_Mo_picture 0 rfl rfl rfl trivial ?_
      refine tm_wk (lv' := [some (.int x0), some (.int x1)]) ⟨Or.inr rfl, Or.inr rfl, trivial⟩ ?_
      exact j_Mo_picture_b36 C G hf
    · have hf := (if_neg h).symm.trans hf
      refine tm_w C tfo_Mo to_Mo_picture 1 rfl rfl rfl trivial ?_
      refine tm_wk (lv' := [some (.int x0), some (.int x1)]) ⟨Or.inr rfl, Or.inr rfl, trivial⟩ ?_
      exact j_Mo_picture_b36 C G hf
  · have hf := (if_neg h).symm.trans hf
    refine tm_w C tfo_Mo to_Mo_picture 1 rfl rfl rfl trivial ?_
    refine tm_wk (lv' := [some (.int x0), some (.int x1)]) ⟨Or.inr rfl, Or.inr rfl, trivial⟩ ?_
    exact j_Mo_picture_b36 C G hf
set_option maxRecDepth 100000 in
set_option maxHeartbeats 4000000 in
theorem j_Mo_picture_b177 {Γ : tm_G} {ex : List tm_Sh} {av : List Value} {X0 : tm_X} {r : Int32 × tm_I × tm_L} (C : tm_C Γ ty_Mo_picture.1.cls ty_Mo_picture.2.1 ty_Mo_picture.2.2.1) (G : tm_Γ ty_Mo_picture 0 0 0 0 av X0 (tm_is (some (.int r.1)) (sh0 ++ ex, r.2.1, r.2.2, rr)) Γ) {x0 : Int32} {x1 : Int32} {s0 : Int32} {mI : tm_I} {mL : tm_L} (hf : f_Mo_picture_b177 x0 x1 s0 mI mL = some r) : tm_T Γ 2 0 0 177 [some (.int x0), some (.int x1)] [.int s0] (sh0 ++ ex) mI mL rr := by
  have Ro := G.ro
  unfold f_Mo_picture_b177 at hf
  cases hf
  exact tm_ei C G to_Mo_picture rfl rfl (Nat.le_refl _) rfl ⟨rfl, rfl⟩
set_option maxRecDepth 100000 in
set_option maxHeartbeats 4000000 in
theorem j_Mo_picture_b136 {Γ : tm_G} {ex : List tm_Sh} {av : List Value} {X0 : tm_X} {r : Int32 × tm_I × tm_L} (C : tm_C Γ ty_Mo_picture.1.cls ty_Mo_picture.2.1 ty_Mo_picture.2.2.1) (G : tm_Γ ty_Mo_picture 0 0 0 0 av X0 (tm_is (some (.int r.1)) (sh0 ++ ex, r.2.1, r.2.2, rr)) Γ) {x0 : Int32} {x1 : Int32} {s0 : Int32} {mI : tm_I} {mL : tm_L} (hf : f_Mo_picture_b136 x0 x1 s0 mI mL = some r) : tm_T Γ 2 0 0 136 [some (.int x0), some (.int x1)] [.int s0] (sh0 ++ ex) mI mL rr := by
  have Ro := G.ro
  unfold f_Mo_picture_b136 at hf
  cases hf
  exact tm_ei C G to_Mo_picture rfl rfl (Nat.le_refl _) rfl ⟨rfl, rfl⟩
set_option maxRecDepth 100000 in
set_option maxHeartbeats 4000000 in
theorem j_Mo_picture_b112 {Γ : tm_G} {ex : List tm_Sh} {av : List Value} {X0 : tm_X} {r : Int32 × tm_I × tm_L} (C : tm_C Γ ty_Mo_picture.1.cls ty_Mo_picture.2.1 ty_Mo_picture.2.2.1) (G : tm_Γ ty_Mo_picture 0 0 0 0 av X0 (tm_is (some (.int r.1)) (sh0 ++ ex, r.2.1, r.2.2, rr)) Γ) {x0 : Int32} {x1 : Int32} {mI : tm_I} {mL : tm_L} (hf : f_Mo_picture_b112 x0 x1 mI mL = some r) : tm_T Γ 2 0 0 112 [some (.int x0), some (.int x1)] [] (sh0 ++ ex) mI mL rr := by
  have Ro := G.ro
  unfold f_Mo_picture_b112 at hf
  refine tm_w C tfo_Mo to_Mo_picture 1 rfl rfl rfl trivial ?_
  refine tm_wk (lv' := [some (.int x0), some (.int x1)]) ⟨Or.inr rfl, Or.inr rfl, trivial⟩ ?_
  exact j_Mo_picture_b136 C G hf
set_option maxRecDepth 100000 in
set_option maxHeartbeats 4000000 in
theorem j_Mo_picture_b94 {Γ : tm_G} {ex : List tm_Sh} {av : List Value} {X0 : tm_X} {r : Int32 × tm_I × tm_L} (C : tm_C Γ ty_Mo_picture.1.cls ty_Mo_picture.2.1 ty_Mo_picture.2.2.1) (G : tm_Γ ty_Mo_picture 0 0 0 0 av X0 (tm_is (some (.int r.1)) (sh0 ++ ex, r.2.1, r.2.2, rr)) Γ) {x0 : Int32} {x1 : Int32} {s0 : Int32} {mI : tm_I} {mL : tm_L} (hf : f_Mo_picture_b94 x0 x1 s0 mI mL = some r) : tm_T Γ 2 0 0 94 [some (.int x0), some (.int x1)] [.int s0] (sh0 ++ ex) mI mL rr := by
  have Ro := G.ro
  unfold f_Mo_picture_b94 at hf
  cases hf
  exact tm_ei C G to_Mo_picture rfl rfl (Nat.le_refl _) rfl ⟨rfl, rfl⟩
set_option maxRecDepth 100000 in
set_option maxHeartbeats 4000000 in
theorem j_Mo_picture_b78 {Γ : tm_G} {ex : List tm_Sh} {av : List Value} {X0 : tm_X} {r : Int32 × tm_I × tm_L} (C : tm_C Γ ty_Mo_picture.1.cls ty_Mo_picture.2.1 ty_Mo_picture.2.2.1) (G : tm_Γ ty_Mo_picture 0 0 0 0 av X0 (tm_is (some (.int r.1)) (sh0 ++ ex, r.2.1, r.2.2, rr)) Γ) {x0 : Int32} {x1 : Int32} {s0 : Int32} {mI : tm_I} {mL : tm_L} (hf : f_Mo_picture_b78 x0 x1 s0 mI mL = some r) : tm_T Γ 2 0 0 78 [some (.int x0), some (.int x1)] [.int s0] (sh0 ++ ex) mI mL rr := by
  have Ro := G.ro
  unfold f_Mo_picture_b78 at hf
  cases hf
  exact tm_ei C G to_Mo_picture rfl rfl (Nat.le_refl _) rfl ⟨rfl, rfl⟩
set_option maxRecDepth 100000 in
set_option maxHeartbeats 4000000 in
theorem j_Mo_picture_b0 {Γ : tm_G} {ex : List tm_Sh} {av : List Value} {X0 : tm_X} {r : Int32 × tm_I × tm_L} (C : tm_C Γ ty_Mo_picture.1.cls ty_Mo_picture.2.1 ty_Mo_picture.2.2.1) (G : tm_Γ ty_Mo_picture 0 0 0 0 av X0 (tm_is (some (.int r.1)) (sh0 ++ ex, r.2.1, r.2.2, rr)) Γ) {x0 : Int32} {x1 : Int32} {mI : tm_I} {mL : tm_L} (hf : f_Mo_picture_b0 x0 x1 mI mL = some r) : tm_T Γ 2 0 0 0 [some (.int x0), some (.int x1)] [] (sh0 ++ ex) mI mL rr := by
  have Ro := G.ro
  unfold f_Mo_picture_b0 at hf
  refine tm_w C tfo_Mo to_Mo_picture 1 rfl rfl rfl trivial ?_
  refine tm_b C to_Mo_picture rfl rfl (fun h => ?_) (fun h => ?_)
  · have hf := (if_pos h).symm.trans hf
    refine tm_wk (lv' := [some (.int x0), some (.int x1)]) ⟨Or.inr rfl, Or.inr rfl, trivial⟩ ?_
    exact j_Mo_picture_b12 C G hf
  · have hf := (if_neg h).symm.trans hf
    refine tm_w C tfo_Mo to_Mo_picture 1 rfl rfl rfl trivial ?_
    refine tm_b C to_Mo_picture rfl rfl (fun h => ?_) (fun h => ?_)
    · have hf := (if_pos h).symm.trans hf
      refine tm_w C tfo_Mo to_Mo_picture 1 rfl rfl rfl trivial ?_
      refine tm_b C to_Mo_picture rfl rfl (fun h => ?_) (fun h => ?_)
      · have hf := (if_pos h).symm.trans hf
        refine tm_w C tfo_Mo to_Mo_picture 1 rfl rfl rfl trivial ?_
        refine tm_b C to_Mo_picture rfl rfl (fun h => ?_) (fun h => ?_)
        · have hf := (if_pos h).symm.trans hf
          refine tm_w C tfo_Mo to_Mo_picture 1 rfl rfl rfl trivial ?_
          refine tm_b C to_Mo_picture rfl rfl (fun h => ?_) (fun h => ?_)
          · have hf := (if_pos h).symm.trans hf
            refine tm_w C tfo_Mo to_Mo_picture 1 rfl rfl rfl trivial ?_
            refine tm_b C to_Mo_picture rfl rfl (fun h => ?_) (fun h => ?_)
            · have hf := (if_pos h).symm.trans hf
              refine tm_w C tfo_Mo to_Mo_picture 1 rfl rfl rfl trivial ?_
              refine tm_b C to_Mo_picture rfl rfl (fun h => ?_) (fun h => ?_)
              · have hf := (if_pos h).symm.trans hf
                refine tm_w C tfo_Mo to_Mo_picture 2 rfl rfl rfl ⟨(by decide), trivial⟩ ?_
                refine tm_b C to_Mo_picture rfl rfl (fun h => ?_) (fun h => ?_)
                · have hf := (if_pos h).symm.trans hf
                  refine tm_w C tfo_Mo to_Mo_picture 1 rfl rfl rfl trivial ?_
                  refine tm_b C to_Mo_picture rfl rfl (fun h => ?_) (fun h => ?_)
                  · have hf := (if_pos h).symm.trans hf
                    refine tm_w C tfo_Mo to_Mo_picture 0 rfl rfl rfl trivial ?_
                    refine tm_wk (lv' := [some (.int x0), some (.int x1)]) ⟨Or.inr rfl, Or.inr rfl, trivial⟩ ?_
                    exact j_Mo_picture_b177 C G hf
                  · have hf := (if_neg h).symm.trans hf
                    refine tm_w C tfo_Mo to_Mo_picture 1 rfl rfl rfl trivial ?_
                    refine tm_wk (lv' := [some (.int x0), some (.int x1)]) ⟨Or.inr rfl, Or.inr rfl, trivial⟩ ?_
                    exact j_Mo_picture_b177 C G hf
                · have hf := (if_neg h).symm.trans hf
                  refine tm_w C tfo_Mo to_Mo_picture 1 rfl rfl rfl trivial ?_
                  refine tm_wk (lv' := [some (.int x0), some (.int x1)]) ⟨Or.inr rfl, Or.inr rfl, trivial⟩ ?_
                  exact j_Mo_picture_b177 C G hf
              · have hf := (if_neg h).symm.trans hf
                refine tm_w C tfo_Mo to_Mo_picture 1 rfl rfl rfl trivial ?_
                refine tm_wk (lv' := [some (.int x0), some (.int x1)]) ⟨Or.inr rfl, Or.inr rfl, trivial⟩ ?_
                exact j_Mo_picture_b177 C G hf
            · have hf := (if_neg h).symm.trans hf
              refine tm_w C tfo_Mo to_Mo_picture 1 rfl rfl rfl trivial ?_
              refine tm_wk (lv' := [some (.int x0), some (.int x1)]) ⟨Or.inr rfl, Or.inr rfl, trivial⟩ ?_
              exact j_Mo_picture_b177 C G hf
          · have hf := (if_neg h).symm.trans hf
            refine tm_w C tfo_Mo to_Mo_picture 1 rfl rfl rfl trivial ?_
            refine tm_b C to_Mo_picture rfl rfl (fun h => ?_) (fun h => ?_)
            · have hf := (if_pos h).symm.trans hf
              refine tm_wk (lv' := [some (.int x0), some (.int x1)]) ⟨Or.inr rfl, Or.inr rfl, trivial⟩ ?_
              exact j_Mo_picture_b112 C G hf
            · have hf := (if_neg h).symm.trans hf
              refine tm_w C tfo_Mo to_Mo_picture 1 rfl rfl rfl trivial ?_
              refine tm_b C to_Mo_picture rfl rfl (fun h => ?_) (fun h => ?_)
              · have hf := (if_pos h).symm.trans hf
                refine tm_w C tfo_Mo to_Mo_picture 1 rfl rfl rfl trivial ?_
                refine tm_b C to_Mo_picture rfl rfl (fun h => ?_) (fun h => ?_)
                · have hf := (if_pos h).symm.trans hf
                  refine tm_w C tfo_Mo to_Mo_picture 1 rfl rfl rfl trivial ?_
                  refine tm_b C to_Mo_picture rfl rfl (fun h => ?_) (fun h => ?_)
                  · have hf := (if_pos h).symm.trans hf
                    refine tm_w C tfo_Mo to_Mo_picture 0 rfl rfl rfl trivial ?_
                    refine tm_wk (lv' := [some (.int x0), some (.int x1)]) ⟨Or.inr rfl, Or.inr rfl, trivial⟩ ?_
                    exact j_Mo_picture_b136 C G hf
                  · have hf := (if_neg h).symm.trans hf
                    refine tm_w C tfo_Mo to_Mo_picture 1 rfl rfl rfl trivial ?_
                    refine tm_wk (lv' := [some (.int x0), some (.int x1)]) ⟨Or.inr rfl, Or.inr rfl, trivial⟩ ?_
                    exact j_Mo_picture_b136 C G hf
                · have hf := (if_neg h).symm.trans hf
                  refine tm_w C tfo_Mo to_Mo_picture 1 rfl rfl rfl trivial ?_
                  refine tm_wk (lv' := [some (.int x0), some (.int x1)]) ⟨Or.inr rfl, Or.inr rfl, trivial⟩ ?_
                  exact j_Mo_picture_b136 C G hf
              · have hf := (if_neg h).symm.trans hf
                refine tm_wk (lv' := [some (.int x0), some (.int x1)]) ⟨Or.inr rfl, Or.inr rfl, trivial⟩ ?_
                exact j_Mo_picture_b112 C G hf
        · have hf := (if_neg h).symm.trans hf
          refine tm_w C tfo_Mo to_Mo_picture 0 rfl rfl rfl trivial ?_
          refine tm_b C to_Mo_picture rfl rfl (fun h => ?_) (fun h => ?_)
          · have hf := (if_pos h).symm.trans hf
            refine tm_w C tfo_Mo to_Mo_picture 0 rfl rfl rfl trivial ?_
            refine tm_wk (lv' := [some (.int x0), some (.int x1)]) ⟨Or.inr rfl, Or.inr rfl, trivial⟩ ?_
            exact j_Mo_picture_b94 C G hf
          · have hf := (if_neg h).symm.trans hf
            refine tm_w C tfo_Mo to_Mo_picture 1 rfl rfl rfl trivial ?_
            refine tm_wk (lv' := [some (.int x0), some (.int x1)]) ⟨Or.inr rfl, Or.inr rfl, trivial⟩ ?_
            exact j_Mo_picture_b94 C G hf
      · have hf := (if_neg h).symm.trans hf
        refine tm_w C tfo_Mo to_Mo_picture 1 rfl rfl rfl trivial ?_
        refine tm_b C to_Mo_picture rfl rfl (fun h => ?_) (fun h => ?_)
        · have hf := (if_pos h).symm.trans hf
          refine tm_w C tfo_Mo to_Mo_picture 1 rfl rfl rfl trivial ?_
          refine tm_b C to_Mo_picture rfl rfl (fun h => ?_) (fun h => ?_)
          · have hf := (if_pos h).symm.trans hf
            refine tm_w C tfo_Mo to_Mo_picture 2 rfl rfl rfl ⟨(by decide), trivial⟩ ?_
            refine tm_b C to_Mo_picture rfl rfl (fun h => ?_) (fun h => ?_)
            · have hf := (if_pos h).symm.trans hf
              refine tm_w C tfo_Mo to_Mo_picture 0 rfl rfl rfl trivial ?_
              refine tm_wk (lv' := [some (.int x0), some (.int x1)]) ⟨Or.inr rfl, Or.inr rfl, trivial⟩ ?_
              exact j_Mo_picture_b78 C G hf
            · have hf := (if_neg h).symm.trans hf
              refine tm_w C tfo_Mo to_Mo_picture 1 rfl rfl rfl trivial ?_
              refine tm_wk (lv' := [some (.int x0), some (.int x1)]) ⟨Or.inr rfl, Or.inr rfl, trivial⟩ ?_
              exact j_Mo_picture_b78 C G hf
          · have hf := (if_neg h).symm.trans hf
            refine tm_w C tfo_Mo to_Mo_picture 1 rfl rfl rfl trivial ?_
            refine tm_wk (lv' := [some (.int x0), some (.int x1)]) ⟨Or.inr rfl, Or.inr rfl, trivial⟩ ?_
            exact j_Mo_picture_b78 C G hf
        · have hf := (if_neg h).symm.trans hf
          refine tm_w C tfo_Mo to_Mo_picture 1 rfl rfl rfl trivial ?_
          refine tm_wk (lv' := [some (.int x0), some (.int x1)]) ⟨Or.inr rfl, Or.inr rfl, trivial⟩ ?_
          exact j_Mo_picture_b78 C G hf
    · have hf := (if_neg h).symm.trans hf
      refine tm_wk (lv' := [some (.int x0), some (.int x1)]) ⟨Or.inr rfl, Or.inr rfl, trivial⟩ ?_
      exact j_Mo_picture_b12 C G hf
set_option maxRecDepth 100000 in
theorem ct_Mo_picture {ex : List tm_Sh} {p0 : Int32} {p1 : Int32} {mI : tm_I} {mL : tm_L} {r : Int32 × tm_I × tm_L} (hf : f_Mo_picture p0 p1 mI mL = some r) : tm_M ty_Mo_picture 0 0 0 0 [.int p0, .int p1] (sh0 ++ ex, mI, mL, rr) (tm_is (some (.int r.1)) (sh0 ++ ex, r.2.1, r.2.2, rr)) := by
  refine tm_body (by decide) (Nat.le_of_ble_eq_true rfl) fun Γ C G => ?_
  exact j_Mo_picture_b0 C G hf
/-! Mo_range -/
def f_Mo_range_b302 (x0 : Int32) (x1 : Int32) (s0 : Int32) (mI : tm_I) (mL : tm_L) : Option (Int32 × tm_I × tm_L) := some (s0, mI, mL)
def f_Mo_range_b398 (x0 : Int32) (x1 : Int32) (mI : tm_I) (mL : tm_L) : Option (Int32 × tm_I × tm_L) := (f_Mo_picture x0 x1 mI mL).bind fun v1 => some (v1.1, v1.2.1, v1.2.2)
def f_Mo_range_b290 (x0 : Int32) (x1 : Int32) (s0 : Int32) (mI : tm_I) (mL : tm_L) : Option (Int32 × tm_I × tm_L) := some (s0, mI, mL)
def f_Mo_range_b344 (x0 : Int32) (x1 : Int32) (s0 : Int32) (mI : tm_I) (mL : tm_L) : Option (Int32 × tm_I × tm_L) := some (s0, mI, mL)
def f_Mo_range_b313 (x0 : Int32) (x1 : Int32) (mI : tm_I) (mL : tm_L) : Option (Int32 × tm_I × tm_L) := f_Mo_range_b344 x0 x1 (0 : Int32) mI mL
def f_Mo_range_b328 (x0 : Int32) (x1 : Int32) (mI : tm_I) (mL : tm_L) : Option (Int32 × tm_I × tm_L) := f_Mo_range_b344 x0 x1 (3 : Int32) mI mL
def f_Mo_range_b303 (x0 : Int32) (x1 : Int32) (mI : tm_I) (mL : tm_L) : Option (Int32 × tm_I × tm_L) := if x1 = 0 then f_Mo_range_b313 x0 x1 mI mL else if ¬ x1 = (6 : Int32) then if x1 = (1 : Int32) then f_Mo_range_b328 x0 x1 mI mL else if ¬ x1 = (7 : Int32) then if ¬ (x1 - x1 / (2 : Int32) * (2 : Int32)) = 0 then f_Mo_range_b344 x0 x1 (10 : Int32) mI mL else f_Mo_range_b344 x0 x1 (1 : Int32) mI mL else f_Mo_range_b328 x0 x1 mI mL else f_Mo_range_b313 x0 x1 mI mL
def f_Mo_range_b279 (x0 : Int32) (x1 : Int32) (s0 : Int32) (mI : tm_I) (mL : tm_L) : Option (Int32 × tm_I × tm_L) := some (s0, mI, mL)
def f_Mo_range_b264 (x0 : Int32) (x1 : Int32) (mI : tm_I) (mL : tm_L) : Option (Int32 × tm_I × tm_L) := if ¬ (x1 - x1 / (2 : Int32) * (2 : Int32)) = 0 then f_Mo_range_b279 x0 x1 (4096 : Int32) mI mL else f_Mo_range_b279 x0 x1 (-4096 : Int32) mI mL
def f_Mo_range_b249 (x0 : Int32) (x1 : Int32) (s0 : Int32) (mI : tm_I) (mL : tm_L) : Option (Int32 × tm_I × tm_L) := some (s0, mI, mL)
def f_Mo_range_b239 (x0 : Int32) (x1 : Int32) (mI : tm_I) (mL : tm_L) : Option (Int32 × tm_I × tm_L) := if ¬ x1 = 0 then f_Mo_range_b249 x0 x1 (9 : Int32) mI mL else f_Mo_range_b249 x0 x1 (0 : Int32) mI mL
def f_Mo_range_b263 (x0 : Int32) (x1 : Int32) (s0 : Int32) (mI : tm_I) (mL : tm_L) : Option (Int32 × tm_I × tm_L) := some (s0, mI, mL)
def f_Mo_range_b397 (x0 : Int32) (x1 : Int32) (s0 : Int32) (mI : tm_I) (mL : tm_L) : Option (Int32 × tm_I × tm_L) := some (s0, mI, mL)
def f_Mo_range_b238 (x0 : Int32) (x1 : Int32) (s0 : Int32) (mI : tm_I) (mL : tm_L) : Option (Int32 × tm_I × tm_L) := some (s0, mI, mL)
def f_Mo_range_b228 (x0 : Int32) (x1 : Int32) (mI : tm_I) (mL : tm_L) : Option (Int32 × tm_I × tm_L) := if ¬ x1 = 0 then f_Mo_range_b238 x0 x1 (7 : Int32) mI mL else f_Mo_range_b238 x0 x1 (0 : Int32) mI mL
def f_Mo_range_b385 (x0 : Int32) (x1 : Int32) (s0 : Int32) (mI : tm_I) (mL : tm_L) : Option (Int32 × tm_I × tm_L) := some (s0, mI, mL)
def f_Mo_range_b0 (x0 : Int32) (x1 : Int32) (mI : tm_I) (mL : tm_L) : Option (Int32 × tm_I × tm_L) := if x0 = (35 : Int32) then if ¬ x1 = 0 then f_Mo_range_b302 x0 x1 (99 : Int32) mI mL else f_Mo_range_b302 x0 x1 (-99 : Int32) mI mL else if x0 = (67 : Int32) then if ¬ x1 = 0 then f_Mo_range_b290 x0 x1 (12 : Int32) mI mL else f_Mo_range_b290 x0 x1 (1 : Int32) mI mL else if x0 = (68 : Int32) then f_Mo_range_b303 x0 x1 mI mL else if x0 = (72 : Int32) then f_Mo_range_b264 x0 x1 mI mL else if x0 = (75 : Int32) then f_Mo_range_b239 x0 x1 mI mL else if x0 = (76 : Int32) then if ¬ (x1 - x1 / (2 : Int32) * (2 : Int32)) = 0 then f_Mo_range_b263 x0 x1 (1024 : Int32) mI mL else f_Mo_range_b263 x0 x1 (1 : Int32) mI mL else if x0 = (79 : Int32) then f_Mo_range_b264 x0 x1 mI mL else if x0 = (80 : Int32) then if ¬ x1 = 0 then f_Mo_range_b397 x0 x1 (1024 : Int32) mI mL else f_Mo_range_b397 x0 x1 (1 : Int32) mI mL else if x0 = (83 : Int32) then f_Mo_range_b228 x0 x1 mI mL else if x0 = (84 : Int32) then f_Mo_range_b303 x0 x1 mI mL else if x0 = (85 : Int32) then f_Mo_range_b228 x0 x1 mI mL else if x0 = (86 : Int32) then f_Mo_range_b239 x0 x1 mI mL else if x0 = (87 : Int32) then if ¬ x1 = 0 then if ¬ x1 = (1 : Int32) then if ¬ (x1 - x1 / (2 : Int32) * (2 : Int32)) = 0 then if ¬ x1 = (5 : Int32) then f_Mo_range_b385 x0 x1 (999 : Int32) mI mL else f_Mo_range_b385 x0 x1 (2 : Int32) mI mL else f_Mo_range_b385 x0 x1 (0 : Int32) mI mL else f_Mo_range_b385 x0 x1 (99 : Int32) mI mL else f_Mo_range_b385 x0 x1 (1 : Int32) mI mL else f_Mo_range_b398 x0 x1 mI mL
abbrev f_Mo_range (p0 : Int32) (p1 : Int32) (mI : tm_I) (mL : tm_L) : Option (Int32 × tm_I × tm_L) := f_Mo_range_b0 p0 p1 mI mL
set_option maxRecDepth 100000 in
set_option maxHeartbeats 4000000 in
theorem j_Mo_range_b302 {Γ : tm_G} {ex : List tm_Sh} {av : List Value} {X0 : tm_X} {r : Int32 × tm_I × tm_L} (C : tm_C Γ ty_Mo_range.1.cls ty_Mo_range.2.1 ty_Mo_range.2.2.1) (G : tm_Γ ty_Mo_range 1 21 0 0 av X0 (tm_is (some (.int r.1)) (sh0 ++ ex, r.2.1, r.2.2, rr)) Γ) {x0 : Int32} {x1 : Int32} {s0 : Int32} {mI : tm_I} {mL : tm_L} (hf : f_Mo_range_b302 x0 x1 s0 mI mL = some r) : tm_T Γ 2 0 0 302 [some (.int x0), some (.int x1)] [.int s0] (sh0 ++ ex) mI mL rr := by
  have Ro := G.ro
  unfold f_Mo_range_b302 at hf
  cases hf
  exact tm_ei C G to_Mo_range rfl rfl (Nat.le_refl _) rfl ⟨rfl, rfl⟩
set_option maxRecDepth 100000 in
set_option maxHeartbeats 4000000 in
theorem j_Mo_range_b398 {Γ : tm_G} {ex : List tm_Sh} {av : List Value} {X0 : tm_X} {r : Int32 × tm_I × tm_L} (C : tm_C Γ ty_Mo_range.1.cls ty_Mo_range.2.1 ty_Mo_range.2.2.1) (G : tm_Γ ty_Mo_range 1 21 0 0 av X0 (tm_is (some (.int r.1)) (sh0 ++ ex, r.2.1, r.2.2, rr)) Γ) {x0 : Int32} {x1 : Int32} {mI : tm_I} {mL : tm_L} (hf : f_Mo_range_b398 x0 x1 mI mL = some r) : tm_T Γ 2 0 0 398 [some (.int x0), some (.int x1)] [] (sh0 ++ ex) mI mL rr := by
  have Ro := G.ro
  unfold f_Mo_range_b398 at hf
  refine tm_w C tfo_Mo to_Mo_range 1 rfl rfl rfl trivial ?_
  obtain ⟨v1, hv1, hf⟩ := Option.bind_eq_some_iff.mp hf
  refine tm_cS C Ro to_Mo_range tl_Mo_84 rfl (ct_Mo_picture hv1) rfl rfl rfl rfl rfl (Nat.le_refl _) (Nat.le_refl _) ?_
  cases hf
  exact tm_ei C G to_Mo_range rfl rfl (Nat.le_refl _) rfl ⟨rfl, rfl⟩
set_option maxRecDepth 100000 in
set_option maxHeartbeats 4000000 in
theorem j_Mo_range_b290 {Γ : tm_G} {ex : List tm_Sh} {av : List Value} {X0 : tm_X} {r : Int32 × tm_I × tm_L} (C : tm_C Γ ty_Mo_range.1.cls ty_Mo_range.2.1 ty_Mo_range.2.2.1) (G : tm_Γ ty_Mo_range 1 21 0 0 av X0 (tm_is (some (.int r.1)) (sh0 ++ ex, r.2.1, r.2.2, rr)) Γ) {x0 : Int32} {x1 : Int32} {s0 : Int32} {mI : tm_I} {mL : tm_L} (hf : f_Mo_range_b290 x0 x1 s0 mI mL = some r) : tm_T Γ 2 0 0 290 [some (.int x0), some (.int x1)] [.int s0] (sh0 ++ ex) mI mL rr := by
  have Ro := G.ro
  unfold f_Mo_range_b290 at hf
  cases hf
  exact tm_ei C G to_Mo_range rfl rfl (Nat.le_refl _) rfl ⟨rfl, rfl⟩
set_option maxRecDepth 100000 in
set_option maxHeartbeats 4000000 in
theorem j_Mo_range_b344 {Γ : tm_G} {ex : List tm_Sh} {av : List Value} {X0 : tm_X} {r : Int32 × tm_I × tm_L} (C : tm_C Γ ty_Mo_range.1.cls ty_Mo_range.2.1 ty_Mo_range.2.2.1) (G : tm_Γ ty_Mo_range 1 21 0 0 av X0 (tm_is (some (.int r.1)) (sh0 ++ ex, r.2.1, r.2.2, rr)) Γ) {x0 : Int32} {x1 : Int32} {s0 : Int32} {mI : tm_I} {mL : tm_L} (hf : f_Mo_range_b344 x0 x1 s0 mI mL = some r) : tm_T Γ 2 0 0 344 [some (.int x0), some (.int x1)] [.int s0] (sh0 ++ ex) mI mL rr := by
  have Ro := G.ro
  unfold f_Mo_range_b344 at hf
  cases hf
  exact tm_ei C G to_Mo_range rfl rfl (Nat.le_refl _) rfl ⟨rfl, rfl⟩
set_option maxRecDepth 100000 in
set_option maxHeartbeats 4000000 in
theorem j_Mo_range_b313 {Γ : tm_G} {ex : List tm_Sh} {av : List Value} {X0 : tm_X} {r : Int32 × tm_I × tm_L} (C : tm_C Γ ty_Mo_range.1.cls ty_Mo_range.2.1 ty_Mo_range.2.2.1) (G : tm_Γ ty_Mo_range 1 21 0 0 av X0 (tm_is (some (.int r.1)) (sh0 ++ ex, r.2.1, r.2.2, rr)) Γ) {x0 : Int32} {x1 : Int32} {mI : tm_I} {mL : tm_L} (hf : f_Mo_range_b313 x0 x1 mI mL = some r) : tm_T Γ 2 0 0 313 [some (.int x0), some (.int x1)] [] (sh0 ++ ex) mI mL rr := by
  have Ro := G.ro
  unfold f_Mo_range_b313 at hf
  refine tm_w C tfo_Mo to_Mo_range 1 rfl rfl rfl trivial ?_
  refine tm_wk (lv' := [some (.int x0), some (.int x1)]) ⟨Or.inr rfl, Or.inr rfl, trivial⟩ ?_
  exact j_Mo_range_b344 C G hf
set_option maxRecDepth 100000 in
set_option maxHeartbeats 4000000 in
theorem j_Mo_range_b328 {Γ : tm_G} {ex : List tm_Sh} {av : List Value} {X0 : tm_X} {r : Int32 × tm_I × tm_L} (C : tm_C Γ ty_Mo_range.1.cls ty_Mo_range.2.1 ty_Mo_range.2.2.1) (G : tm_Γ ty_Mo_range 1 21 0 0 av X0 (tm_is (some (.int r.1)) (sh0 ++ ex, r.2.1, r.2.2, rr)) Γ) {x0 : Int32} {x1 : Int32} {mI : tm_I} {mL : tm_L} (hf : f_Mo_range_b328 x0 x1 mI mL = some r) : tm_T Γ 2 0 0 328 [some (.int x0), some (.int x1)] [] (sh0 ++ ex) mI mL rr := by
  have Ro := G.ro
  unfold f_Mo_range_b328 at hf
  refine tm_w C tfo_Mo to_Mo_range 1 rfl rfl rfl trivial ?_
  refine tm_wk (lv' := [some (.int x0), some (.int x1)]) ⟨Or.inr rfl, Or.inr rfl, trivial⟩ ?_
  exact j_Mo_range_b344 C G hf
set_option maxRecDepth 100000 in
set_option maxHeartbeats 4000000 in
theorem j_Mo_range_b303 {Γ : tm_G} {ex : List tm_Sh} {av : List Value} {X0 : tm_X} {r : Int32 × tm_I × tm_L} (C : tm_C Γ ty_Mo_range.1.cls ty_Mo_range.2.1 ty_Mo_range.2.2.1) (G : tm_Γ ty_Mo_range 1 21 0 0 av X0 (tm_is (some (.int r.1)) (sh0 ++ ex, r.2.1, r.2.2, rr)) Γ) {x0 : Int32} {x1 : Int32} {mI : tm_I} {mL : tm_L} (hf : f_Mo_range_b303 x0 x1 mI mL = some r) : tm_T Γ 2 0 0 303 [some (.int x0), some (.int x1)] [] (sh0 ++ ex) mI mL rr := by
  have Ro := G.ro
  unfold f_Mo_range_b303 at hf
  refine tm_w C tfo_Mo to_Mo_range 0 rfl rfl rfl trivial ?_
  refine tm_b C to_Mo_range rfl rfl (fun h => ?_) (fun h => ?_)
  · have hf := (if_pos h).symm.trans hf
    refine tm_wk (lv' := [some (.int x0), some (.int x1)]) ⟨Or.inr rfl, Or.inr rfl, trivial⟩ ?_
    exact j_Mo_range_b313 C G hf
  · have hf := (if_neg h).symm.trans hf
    refine tm_w C tfo_Mo to_Mo_range 1 rfl rfl rfl trivial ?_
    refine tm_b C to_Mo_range rfl rfl (fun h => ?_) (fun h => ?_)
    · have hf := (if_pos h).symm.trans hf
      refine tm_w C tfo_Mo to_Mo_range 1 rfl rfl rfl trivial ?_
      refine tm_b C to_Mo_range rfl rfl (fun h => ?_) (fun h => ?_)
      · have hf := (if_pos h).symm.trans hf
        refine tm_wk (lv' := [some (.int x0), some (.int x1)]) ⟨Or.inr rfl, Or.inr rfl, trivial⟩ ?_
        exact j_Mo_range_b328 C G hf
      · have hf := (if_neg h).symm.trans hf
        refine tm_w C tfo_Mo to_Mo_range 1 rfl rfl rfl trivial ?_
        refine tm_b C to_Mo_range rfl rfl (fun h => ?_) (fun h => ?_)
        · have hf := (if_pos h).symm.trans hf
          refine tm_w C tfo_Mo to_Mo_range 2 rfl rfl rfl ⟨(by decide), trivial⟩ ?_
          refine tm_b C to_Mo_range rfl rfl (fun h => ?_) (fun h => ?_)
          · have hf := (if_pos h).symm.trans hf
            refine tm_w C tfo_Mo to_Mo_range 0 rfl rfl rfl trivial ?_
            refine tm_wk (lv' := [some (.int x0), some (.int x1)]) ⟨Or.inr rfl, Or.inr rfl, trivial⟩ ?_
            exact j_Mo_range_b344 C G hf
          · have hf := (if_neg h).symm.trans hf
            refine tm_w C tfo_Mo to_Mo_range 1 rfl rfl rfl trivial ?_
            refine tm_wk (lv' := [some (.int x0), some (.int x1)]) ⟨Or.inr rfl, Or.inr rfl, trivial⟩ ?_
            exact j_Mo_range_b344 C G hf
        · have hf := (if_neg h).symm.trans hf
          refine tm_wk (lv' := [some (.int x0), some (.int x1)]) ⟨Or.inr rfl, Or.inr rfl, trivial⟩ ?_
          exact j_Mo_range_b328 C G hf
    · have hf := (if_neg h).symm.trans hf
      refine tm_wk (lv' := [some (.int x0), some (.int x1)]) ⟨Or.inr rfl, Or.inr rfl, trivial⟩ ?_
      exact j_Mo_range_b313 C G hf
set_option maxRecDepth 100000 in
set_option maxHeartbeats 4000000 in
theorem j_Mo_range_b279 {Γ : tm_G} {ex : List tm_Sh} {av : List Value} {X0 : tm_X} {r : Int32 × tm_I × tm_L} (C : tm_C Γ ty_Mo_range.1.cls ty_Mo_range.2.1 ty_Mo_range.2.2.1) (G : tm_Γ ty_Mo_range 1 21 0 0 av X0 (tm_is (some (.int r.1)) (sh0 ++ ex, r.2.1, r.2.2, rr)) Γ) {x0 : Int32} {x1 : Int32} {s0 : Int32} {mI : tm_I} {mL : tm_L} (hf : f_Mo_range_b279 x0 x1 s0 mI mL = some r) : tm_T Γ 2 0 0 279 [some (.int x0), some (.int x1)] [.int s0] (sh0 ++ ex) mI mL rr := by
  have Ro := G.ro
  unfold f_Mo_range_b279 at hf
  cases hf
  exact tm_ei C G to_Mo_range rfl rfl (Nat.le_refl _) rfl ⟨rfl, rfl⟩
set_option maxRecDepth 100000 in
set_option maxHeartbeats 4000000 in
theorem j_Mo_range_b264 {Γ : tm_G} {ex : List tm_Sh} {av : List Value} {X0 : tm_X} {r : Int32 × tm_I × tm_L} (C : tm_C Γ ty_Mo_range.1.cls ty_Mo_range.2.1 ty_Mo_range.2.2.1) (G : tm_Γ ty_Mo_range 1 21 0 0 av X0 (tm_is (some (.int r.1)) (sh0 ++ ex, r.2.1, r.2.2, rr)) Γ) {x0 : Int32} {x1 : Int32} {mI : tm_I} {mL : tm_L} (hf : f_Mo_range_b264 x0 x1 mI mL = some r) : tm_T Γ 2 0 0 264 [some (.int x0), some (.int x1)] [] (sh0 ++ ex) mI mL rr := by
  have Ro := G.ro
  unfold f_Mo_range_b264 at hf
  refine tm_w C tfo_Mo to_Mo_range 2 rfl rfl rfl ⟨(by decide), trivial⟩ ?_
  refine tm_b C to_Mo_range rfl rfl (fun h => ?_) (fun h => ?_)
  · have hf := (if_pos h).symm.trans hf
    refine tm_w C tfo_Mo to_Mo_range 0 rfl rfl rfl trivial ?_
    refine tm_wk (lv' := [some (.int x0), some (.int x1)]) ⟨Or.inr rfl, Or.inr rfl, trivial⟩ ?_
    exact j_Mo_range_b279 C G hf
  · have hf := (if_neg h).symm.trans hf
    refine tm_w C tfo_Mo to_Mo_range 1 rfl rfl rfl trivial ?_
    refine tm_wk (lv' := [some (.int x0), some (.int x1)]) ⟨Or.inr rfl, Or.inr rfl, trivial⟩ ?_
    exact j_Mo_range_b279 C G hf
set_option maxRecDepth 100000 in
set_option maxHeartbeats 4000000 in
theorem j_Mo_range_b249 {Γ : tm_G} {ex : List tm_Sh} {av : List Value} {X0 : tm_X} {r : Int32 × tm_I × tm_L} (C : tm_C Γ ty_Mo_range.1.cls ty_Mo_range.2.1 ty_Mo_range.2.2.1) (G : tm_Γ ty_Mo_range 1 21 0 0 av X0 (tm_is (some (.int r.1)) (sh0 ++ ex, r.2.1, r.2.2, rr)) Γ) {x0 : Int32} {x1 : Int32} {s0 : Int32} {mI : tm_I} {mL : tm_L} (hf : f_Mo_range_b249 x0 x1 s0 mI mL = some r) : tm_T Γ 2 0 0 249 [some (.int x0), some (.int x1)] [.int s0] (sh0 ++ ex) mI mL rr := by
  have Ro := G.ro
  unfold f_Mo_range_b249 at hf
  cases hf
  exact tm_ei C G to_Mo_range rfl rfl (Nat.le_refl _) rfl ⟨rfl, rfl⟩
set_option maxRecDepth 100000 in
set_option maxHeartbeats 4000000 in
theorem j_Mo_range_b239 {Γ : tm_G} {ex : List tm_Sh} {av : List Value} {X0 : tm_X} {r : Int32 × tm_I × tm_L} (C : tm_C Γ ty_Mo_range.1.cls ty_Mo_range.2.1 ty_Mo_range.2.2.1) (G : tm_Γ ty_Mo_range 1 21 0 0 av X0 (tm_is (some (.int r.1)) (sh0 ++ ex, r.2.1, r.2.2, rr)) Γ) {x0 : Int32} {x1 : Int32} {mI : tm_I} {mL : tm_L} (hf : f_Mo_range_b239 x0 x1 mI mL = some r) : tm_T Γ 2 0 0 239 [some (.int x0), some (.int x1)] [] (sh0 ++ ex) mI mL rr := by
  have Ro := G.ro
  unfold f_Mo_range_b239 at hf
  refine tm_w C tfo_Mo to_Mo_range 0 rfl rfl rfl trivial ?_
  refine tm_b C to_Mo_range rfl rfl (fun h => ?_) (fun h => ?_)
  · have hf := (if_pos h).symm.trans hf
    refine tm_w C tfo_Mo to_Mo_range 0 rfl rfl rfl trivial ?_
    refine tm_wk (lv' := [some (.int x0), some (.int x1)]) ⟨Or.inr rfl, Or.inr rfl, trivial⟩ ?_
    exact j_Mo_range_b249 C G hf
  · have hf := (if_neg h).symm.trans hf
    refine tm_w C tfo_Mo to_Mo_range 1 rfl rfl rfl trivial ?_
    refine tm_wk (lv' := [some (.int x0), some (.int x1)]) ⟨Or.inr rfl, Or.inr rfl, trivial⟩ ?_
    exact j_Mo_range_b249 C G hf
set_option maxRecDepth 100000 in
set_option maxHeartbeats 4000000 in
theorem j_Mo_range_b263 {Γ : tm_G} {ex : List tm_Sh} {av : List Value} {X0 : tm_X} {r : Int32 × tm_I × tm_L} (C : tm_C Γ ty_Mo_range.1.cls ty_Mo_range.2.1 ty_Mo_range.2.2.1) (G : tm_Γ ty_Mo_range 1 21 0 0 av X0 (tm_is (some (.int r.1)) (sh0 ++ ex, r.2.1, r.2.2, rr)) Γ) {x0 : Int32} {x1 : Int32} {s0 : Int32} {mI : tm_I} {mL : tm_L} (hf : f_Mo_range_b263 x0 x1 s0 mI mL = some r) : tm_T Γ 2 0 0 263 [some (.int x0), some (.int x1)] [.int s0] (sh0 ++ ex) mI mL rr := by
  have Ro := G.ro
  unfold f_Mo_range_b263 at hf
  cases hf
  exact tm_ei C G to_Mo_range rfl rfl (Nat.le_refl _) rfl ⟨rfl, rfl⟩
set_option maxRecDepth 100000 in
set_option maxHeartbeats 4000000 in
theorem j_Mo_range_b397 {Γ : tm_G} {ex : List tm_Sh} {av : List Value} {X0 : tm_X} {r : Int32 × tm_I × tm_L} (C : tm_C Γ ty_Mo_range.1.cls ty_Mo_range.2.1 ty_Mo_range.2.2.1) (G : tm_Γ ty_Mo_range 1 21 0 0 av X0 (tm_is (some (.int r.1)) (sh0 ++ ex, r.2.1, r.2.2, rr)) Γ) {x0 : Int32} {x1 : Int32} {s0 : Int32} {mI : tm_I} {mL : tm_L} (hf : f_Mo_range_b397 x0 x1 s0 mI mL = some r) : tm_T Γ 2 0 0 397 [some (.int x0), some (.int x1)] [.int s0] (sh0 ++ ex) mI mL rr := by
  have Ro := G.ro
  unfold f_Mo_range_b397 at hf
  cases hf
  exact tm_ei C G to_Mo_range rfl rfl (Nat.le_refl _) rfl ⟨rfl, rfl⟩
set_option maxRecDepth 100000 in
set_option maxHeartbeats 4000000 in
theorem j_Mo_range_b238 {Γ : tm_G} {ex : List tm_Sh} {av : List Value} {X0 : tm_X} {r : Int32 × tm_I × tm_L} (C : tm_C Γ ty_Mo_range.1.cls ty_Mo_range.2.1 ty_Mo_range.2.2.1) (G : tm_Γ ty_Mo_range 1 21 0 0 av X0 (tm_is (some (.int r.1)) (sh0 ++ ex, r.2.1, r.2.2, rr)) Γ) {x0 : Int32} {x1 : Int32} {s0 : Int32} {mI : tm_I} {mL : tm_L} (hf : f_Mo_range_b238 x0 x1 s0 mI mL = some r) : tm_T Γ 2 0 0 238 [some (.int x0), some (.int x1)] [.int s0] (sh0 ++ ex) mI mL rr := by
  have Ro := G.ro
  unfold f_Mo_range_b238 at hf
  cases hf
  exact tm_ei C G to_Mo_range rfl rfl (Nat.le_refl _) rfl ⟨rfl, rfl⟩
set_option maxRecDepth 100000 in
set_option maxHeartbeats 4000000 in
theorem j_Mo_range_b228 {Γ : tm_G} {ex : List tm_Sh} {av : List Value} {X0 : tm_X} {r : Int32 × tm_I × tm_L} (C : tm_C Γ ty_Mo_range.1.cls ty_Mo_range.2.1 ty_Mo_range.2.2.1) (G : tm_Γ ty_Mo_range 1 21 0 0 av X0 (tm_is (some (.int r.1)) (sh0 ++ ex, r.2.1, r.2.2, rr)) Γ) {x0 : Int32} {x1 : Int32} {mI : tm_I} {mL : tm_L} (hf : f_Mo_range_b228 x0 x1 mI mL = some r) : tm_T Γ 2 0 0 228 [some (.int x0), some (.int x1)] [] (sh0 ++ ex) mI mL rr := by
  have Ro := G.ro
  unfold f_Mo_range_b228 at hf
  refine tm_w C tfo_Mo to_Mo_range 0 rfl rfl rfl trivial ?_
  refine tm_b C to_Mo_range rfl rfl (fun h => ?_) (fun h => ?_)
  · have hf := (if_pos h).symm.trans hf
    refine tm_w C tfo_Mo to_Mo_range 0 rfl rfl rfl trivial ?_
    refine tm_wk (lv' := [some (.int x0), some (.int x1)]) ⟨Or.inr rfl, Or.inr rfl, trivial⟩ ?_
    exact j_Mo_range_b238 C G hf
  · have hf := (if_neg h).symm.trans hf
    refine tm_w C tfo_Mo to_Mo_range 1 rfl rfl rfl trivial ?_
    refine tm_wk (lv' := [some (.int x0), some (.int x1)]) ⟨Or.inr rfl, Or.inr rfl, trivial⟩ ?_
    exact j_Mo_range_b238 C G hf
set_option maxRecDepth 100000 in
set_option maxHeartbeats 4000000 in
theorem j_Mo_range_b385 {Γ : tm_G} {ex : List tm_Sh} {av : List Value} {X0 : tm_X} {r : Int32 × tm_I × tm_L} (C : tm_C Γ ty_Mo_range.1.cls ty_Mo_range.2.1 ty_Mo_range.2.2.1) (G : tm_Γ ty_Mo_range 1 21 0 0 av X0 (tm_is (some (.int r.1)) (sh0 ++ ex, r.2.1, r.2.2, rr)) Γ) {x0 : Int32} {x1 : Int32} {s0 : Int32} {mI : tm_I} {mL : tm_L} (hf : f_Mo_range_b385 x0 x1 s0 mI mL = some r) : tm_T Γ 2 0 0 385 [some (.int x0), some (.int x1)] [.int s0] (sh0 ++ ex) mI mL rr := by
  have Ro := G.ro
  unfold f_Mo_range_b385 at hf
  cases hf
  exact tm_ei C G to_Mo_range rfl rfl (Nat.le_refl _) rfl ⟨rfl, rfl⟩
set_option maxRecDepth 100000 in
set_option maxHeartbeats 4000000 in
theorem j_Mo_range_b0 {Γ : tm_G} {ex : List tm_Sh} {av : List Value} {X0 : tm_X} {r : Int32 × tm_I × tm_L} (C : tm_C Γ ty_Mo_range.1.cls ty_Mo_range.2.1 ty_Mo_range.2.2.1) (G : tm_Γ ty_Mo_range 1 21 0 0 av X0 (tm_is (some (.int r.1)) (sh0 ++ ex, r.2.1, r.2.2, rr)) Γ) {x0 : Int32} {x1 : Int32} {mI : tm_I} {mL : tm_L} (hf : f_Mo_range_b0 x0 x1 mI mL = some r) : tm_T Γ 2 0 0 0 [some (.int x0), some (.int x1)] [] (sh0 ++ ex) mI mL rr := by
  have Ro := G.ro
  unfold f_Mo_range_b0 at hf
  refine tm_w C tfo_Mo to_Mo_range 0 rfl rfl rfl trivial ?_
  by_cases h35 : x0 = (35 : Int32)
  · have hf := (if_pos h35).symm.trans hf
    refine tm_swI (tgt := 291) C (tm_get_d to_Mo_range rfl) (35 : Int32) (290) h35 (by decide) (by decide) (by decide) (by decide) ?_
    refine tm_w C tfo_Mo to_Mo_range 0 rfl rfl rfl trivial ?_
    refine tm_b C to_Mo_range rfl rfl (fun h => ?_) (fun h => ?_)
    · have hf := (if_pos h).symm.trans hf
      refine tm_w C tfo_Mo to_Mo_range 0 rfl rfl rfl trivial ?_
      refine tm_wk (lv' := [some (.int x0), some (.int x1)]) ⟨Or.inr rfl, Or.inr rfl, trivial⟩ ?_
      exact j_Mo_range_b302 C G hf
    · have hf := (if_neg h).symm.trans hf
      refine tm_w C tfo_Mo to_Mo_range 1 rfl rfl rfl trivial ?_
      refine tm_wk (lv' := [some (.int x0), some (.int x1)]) ⟨Or.inr rfl, Or.inr rfl, trivial⟩ ?_
      exact j_Mo_range_b302 C G hf
  have hf := (if_neg h35).symm.trans hf
  by_cases h67 : x0 = (67 : Int32)
  · have hf := (if_pos h67).symm.trans hf
    refine tm_swI (tgt := 280) C (tm_get_d to_Mo_range rfl) (67 : Int32) (279) h67 (by decide) (by decide) (by decide) (by decide) ?_
    refine tm_w C tfo_Mo to_Mo_range 0 rfl rfl rfl trivial ?_
    refine tm_b C to_Mo_range rfl rfl (fun h => ?_) (fun h => ?_)
    · have hf := (if_pos h).symm.trans hf
      refine tm_w C tfo_Mo to_Mo_range 0 rfl rfl rfl trivial ?_
      refine tm_wk (lv' := [some (.int x0), some (.int x1)]) ⟨Or.inr rfl, Or.inr rfl, trivial⟩ ?_
      exact j_Mo_range_b290 C G hf
    · have hf := (if_neg h).symm.trans hf
      refine tm_w C tfo_Mo to_Mo_range 1 rfl rfl rfl trivial ?_
      refine tm_wk (lv' := [some (.int x0), some (.int x1)]) ⟨Or.inr rfl, Or.inr rfl, trivial⟩ ?_
      exact j_Mo_range_b290 C G hf
  have hf := (if_neg h67).symm.trans hf
  by_cases h68 : x0 = (68 : Int32)
  · have hf := (if_pos h68).symm.trans hf
    refine tm_swI (tgt := 303) C (tm_get_d to_Mo_range rfl) (68 : Int32) (302) h68 (by decide) (by decide) (by decide) (by decide) ?_
    refine tm_wk (lv' := [some (.int x0), some (.int x1)]) ⟨Or.inr rfl, Or.inr rfl, trivial⟩ ?_
    exact j_Mo_range_b303 C G hf
  have hf := (if_neg h68).symm.trans hf
  by_cases h72 : x0 = (72 : Int32)
  · have hf := (if_pos h72).symm.trans hf
    refine tm_swI (tgt := 264) C (tm_get_d to_Mo_range rfl) (72 : Int32) (263) h72 (by decide) (by decide) (by decide) (by decide) ?_
    refine tm_wk (lv' := [some (.int x0), some (.int x1)]) ⟨Or.inr rfl, Or.inr rfl, trivial⟩ ?_
    exact j_Mo_range_b264 C G hf
  have hf := (if_neg h72).symm.trans hf
  by_cases h75 : x0 = (75 : Int32)
  · have hf := (if_pos h75).symm.trans hf
    refine tm_swI (tgt := 239) C (tm_get_d to_Mo_range rfl) (75 : Int32) (238) h75 (by decide) (by decide) (by decide) (by decide) ?_
    refine tm_wk (lv' := [some (.int x0), some (.int x1)]) ⟨Or.inr rfl, Or.inr rfl, trivial⟩ ?_
    exact j_Mo_range_b239 C G hf
  have hf := (if_neg h75).symm.trans hf
  by_cases h76 : x0 = (76 : Int32)
  · have hf := (if_pos h76).symm.trans hf
    refine tm_swI (tgt := 250) C (tm_get_d to_Mo_range rfl) (76 : Int32) (249) h76 (by decide) (by decide) (by decide) (by decide) ?_
    refine tm_w C tfo_Mo to_Mo_range 2 rfl rfl rfl ⟨(by decide), trivial⟩ ?_
    refine tm_b C to_Mo_range rfl rfl (fun h => ?_) (fun h => ?_)
    · have hf := (if_pos h).symm.trans hf
      refine tm_w C tfo_Mo to_Mo_range 0 rfl rfl rfl trivial ?_
      refine tm_wk (lv' := [some (.int x0), some (.int x1)]) ⟨Or.inr rfl, Or.inr rfl, trivial⟩ ?_
      exact j_Mo_range_b263 C G hf
    · have hf := (if_neg h).symm.trans hf
      refine tm_w C tfo_Mo to_Mo_range 1 rfl rfl rfl trivial ?_
      refine tm_wk (lv' := [some (.int x0), some (.int x1)]) ⟨Or.inr rfl, Or.inr rfl, trivial⟩ ?_
      exact j_Mo_range_b263 C G hf
  have hf := (if_neg h76).symm.trans hf
  by_cases h79 : x0 = (79 : Int32)
  · have hf := (if_pos h79).symm.trans hf
    refine tm_swI (tgt := 264) C (tm_get_d to_Mo_range rfl) (79 : Int32) (263) h79 (by decide) (by decide) (by decide) (by decide) ?_
    refine tm_wk (lv' := [some (.int x0), some (.int x1)]) ⟨Or.inr rfl, Or.inr rfl, trivial⟩ ?_
    exact j_Mo_range_b264 C G hf
  have hf := (if_neg h79).symm.trans hf
  by_cases h80 : x0 = (80 : Int32)
  · have hf := (if_pos h80).symm.trans hf
    refine tm_swI (tgt := 386) C (tm_get_d to_Mo_range rfl) (80 : Int32) (385) h80 (by decide) (by decide) (by decide) (by decide) ?_
    refine tm_w C tfo_Mo to_Mo_range 0 rfl rfl rfl trivial ?_
    refine tm_b C to_Mo_range rfl rfl (fun h => ?_) (fun h => ?_)
    · have hf := (if_pos h).symm.trans hf
      refine tm_w C tfo_Mo to_Mo_range 0 rfl rfl rfl trivial ?_
      refine tm_wk (lv' := [some (.int x0), some (.int x1)]) ⟨Or.inr rfl, Or.inr rfl, trivial⟩ ?_
      exact j_Mo_range_b397 C G hf
    · have hf := (if_neg h).symm.trans hf
      refine tm_w C tfo_Mo to_Mo_range 1 rfl rfl rfl trivial ?_
      refine tm_wk (lv' := [some (.int x0), some (.int x1)]) ⟨Or.inr rfl, Or.inr rfl, trivial⟩ ?_
      exact j_Mo_range_b397 C G hf
  have hf := (if_neg h80).symm.trans hf
  by_cases h83 : x0 = (83 : Int32)
  · have hf := (if_pos h83).symm.trans hf
    refine tm_swI (tgt := 228) C (tm_get_d to_Mo_range rfl) (83 : Int32) (227) h83 (by decide) (by decide) (by decide) (by decide) ?_
    refine tm_wk (lv' := [some (.int x0), some (.int x1)]) ⟨Or.inr rfl, Or.inr rfl, trivial⟩ ?_
    exact j_Mo_range_b228 C G hf
  have hf := (if_neg h83).symm.trans hf
  by_cases h84 : x0 = (84 : Int32)
  · have hf := (if_pos h84).symm.trans hf
    refine tm_swI (tgt := 303) C (tm_get_d to_Mo_range rfl) (84 : Int32) (302) h84 (by decide) (by decide) (by decide) (by decide) ?_
    refine tm_wk (lv' := [some (.int x0), some (.int x1)]) ⟨Or.inr rfl, Or.inr rfl, trivial⟩ ?_
    exact j_Mo_range_b303 C G hf
  have hf := (if_neg h84).symm.trans hf
  by_cases h85 : x0 = (85 : Int32)
  · have hf := (if_pos h85).symm.trans hf
    refine tm_swI (tgt := 228) C (tm_get_d to_Mo_range rfl) (85 : Int32) (227) h85 (by decide) (by decide) (by decide) (by decide) ?_
    refine tm_wk (lv' := [some (.int x0), some (.int x1)]) ⟨Or.inr rfl, Or.inr rfl, trivial⟩ ?_
    exact j_Mo_range_b228 C G hf
  have hf := (if_neg h85).symm.trans hf
  by_cases h86 : x0 = (86 : Int32)
  · have hf := (if_pos h86).symm.trans hf
    refine tm_swI (tgt := 239) C (tm_get_d to_Mo_range rfl) (86 : Int32) (238) h86 (by decide) (by decide) (by decide) (by decide) ?_
    refine tm_wk (lv' := [some (.int x0), some (.int x1)]) ⟨Or.inr rfl, Or.inr rfl, trivial⟩ ?_
    exact j_Mo_range_b239 C G hf
  have hf := (if_neg h86).symm.trans hf
  by_cases h87 : x0 = (87 : Int32)
  · have hf := (if_pos h87).symm.trans hf
    refine tm_swI (tgt := 345) C (tm_get_d to_Mo_range rfl) (87 : Int32) (344) h87 (by decide) (by decide) (by decide) (by decide) ?_
    refine tm_w C tfo_Mo to_Mo_range 0 rfl rfl rfl trivial ?_
    refine tm_b C to_Mo_range rfl rfl (fun h => ?_) (fun h => ?_)
    · have hf := (if_pos h).symm.trans hf
      refine tm_w C tfo_Mo to_Mo_range 1 rfl rfl rfl trivial ?_
      refine tm_b C to_Mo_range rfl rfl (fun h => ?_) (fun h => ?_)
      · have hf := (if_pos h).symm.trans hf
        refine tm_w C tfo_Mo to_Mo_range 2 rfl rfl rfl ⟨(by decide), trivial⟩ ?_
        refine tm_b C to_Mo_range rfl rfl (fun h => ?_) (fun h => ?_)
        · have hf := (if_pos h).symm.trans hf
          refine tm_w C tfo_Mo to_Mo_range 1 rfl rfl rfl trivial ?_
          refine tm_b C to_Mo_range rfl rfl (fun h => ?_) (fun h => ?_)
          · have hf := (if_pos h).symm.trans hf
            refine tm_w C tfo_Mo to_Mo_range 0 rfl rfl rfl trivial ?_
            refine tm_wk (lv' := [some (.int x0), some (.int x1)]) ⟨Or.inr rfl, Or.inr rfl, trivial⟩ ?_
            exact j_Mo_range_b385 C G hf
          · have hf := (if_neg h).symm.trans hf
            refine tm_w C tfo_Mo to_Mo_range 1 rfl rfl rfl trivial ?_
            refine tm_wk (lv' := [some (.int x0), some (.int x1)]) ⟨Or.inr rfl, Or.inr rfl, trivial⟩ ?_
            exact j_Mo_range_b385 C G hf
        · have hf := (if_neg h).symm.trans hf
          refine tm_w C tfo_Mo to_Mo_range 1 rfl rfl rfl trivial ?_
          refine tm_wk (lv' := [some (.int x0), some (.int x1)]) ⟨Or.inr rfl, Or.inr rfl, trivial⟩ ?_
          exact j_Mo_range_b385 C G hf
      · have hf := (if_neg h).symm.trans hf
        refine tm_w C tfo_Mo to_Mo_range 1 rfl rfl rfl trivial ?_
        refine tm_wk (lv' := [some (.int x0), some (.int x1)]) ⟨Or.inr rfl, Or.inr rfl, trivial⟩ ?_
        exact j_Mo_range_b385 C G hf
    · have hf := (if_neg h).symm.trans hf
      refine tm_w C tfo_Mo to_Mo_range 1 rfl rfl rfl trivial ?_
      refine tm_wk (lv' := [some (.int x0), some (.int x1)]) ⟨Or.inr rfl, Or.inr rfl, trivial⟩ ?_
      exact j_Mo_range_b385 C G hf
  have hf := (if_neg h87).symm.trans hf
  refine tm_swD (tgt := 398) C (tm_get_d to_Mo_range rfl) [(35 : Int32), (67 : Int32), (68 : Int32), (72 : Int32), (75 : Int32), (76 : Int32), (79 : Int32), (80 : Int32), (83 : Int32), (84 : Int32), (85 : Int32), (86 : Int32), (87 : Int32)] (by decide) (by decide) (List.forall_mem_cons.mpr ⟨h35, List.forall_mem_cons.mpr ⟨h67, List.forall_mem_cons.mpr ⟨h68, List.forall_mem_cons.mpr ⟨h72, List.forall_mem_cons.mpr ⟨h75, List.forall_mem_cons.mpr ⟨h76, List.forall_mem_cons.mpr ⟨h79, List.forall_mem_cons.mpr ⟨h80, List.forall_mem_cons.mpr ⟨h83, List.forall_mem_cons.mpr ⟨h84, List.forall_mem_cons.mpr ⟨h85, List.forall_mem_cons.mpr ⟨h86, List.forall_mem_cons.mpr ⟨h87, fun _ h => nomatch h⟩⟩⟩⟩⟩⟩⟩⟩⟩⟩⟩⟩⟩) (by decide) ?_
  refine tm_wk (lv' := [some (.int x0), some (.int x1)]) ⟨Or.inr rfl, Or.inr rfl, trivial⟩ ?_
  exact j_Mo_range_b398 C G hf
set_option maxRecDepth 100000 in
theorem ct_Mo_range {ex : List tm_Sh} {p0 : Int32} {p1 : Int32} {mI : tm_I} {mL : tm_L} {r : Int32 × tm_I × tm_L} (hf : f_Mo_range p0 p1 mI mL = some r) : tm_M ty_Mo_range 1 21 0 0 [.int p0, .int p1] (sh0 ++ ex, mI, mL, rr) (tm_is (some (.int r.1)) (sh0 ++ ex, r.2.1, r.2.2, rr)) := by
  refine tm_body (by decide) (Nat.le_of_ble_eq_true rfl) fun Γ C G => ?_
  exact j_Mo_range_b0 C G hf
/-! Mo_takeNumbers -/
def f_Mo_takeNumbers_b171 (x1 : Int32) (x2 : Int32) (x3 : Int32) (x4 : Int32) (x5 : Int32) (x6 : Int32) (s0 : Int32) (mI : tm_I) (mL : tm_L) : Option (Int32 × tm_I × tm_L) := some (s0, mI, mL)
def f_Mo_takeNumbers_b151 (r32 : Int32 → Int32 → Int32 → tm_I → tm_L → Option (Int32 × tm_I × tm_L)) (x1 : Int32) (x2 : Int32) (x3 : Int32) (x4 : Int32) (x5 : Int32) (x6 : Int32) (mI : tm_I) (mL : tm_L) : Option (Int32 × tm_I × tm_L) := if ¬ x1 = (75 : Int32) then (f_Mo_peek mI mL).bind fun v1 => if v1.1 = (44 : Int32) then (f_Mo_next v1.2.1 v1.2.2).bind fun v2 => if ¬ x3 = (x2 - (1 : Int32)) then r32 x1 x2 (x3 + (1 : Int32)) v2.2.1 v2.2.2 else some ((4 : Int32), v2.2.1, v2.2.2) else some ((0 : Int32), v1.2.1, v1.2.2) else (f_Mo_next mI mL).bind fun v3 => if ¬ v3.1 = (44 : Int32) then f_Mo_takeNumbers_b171 x1 x2 x3 x4 x5 x6 (4 : Int32) v3.2.1 v3.2.2 else f_Mo_takeNumbers_b171 x1 x2 x3 x4 x5 x6 (0 : Int32) v3.2.1 v3.2.2
def f_Mo_takeNumbers_b150 (r32 : Int32 → Int32 → Int32 → tm_I → tm_L → Option (Int32 × tm_I × tm_L)) (x1 : Int32) (x2 : Int32) (x3 : Int32) (x4 : Int32) (x5 : Int32) (x6 : Int32) (s1 : Int32) (s2 : Int32) (mI : tm_I) (mL : tm_L) : Option (Int32 × tm_I × tm_L) := if ¬ (s1 < 0 ∨ 4 ≤ Int32.toNatClampNeg s1) then f_Mo_takeNumbers_b151 r32 x1 x2 x3 x4 x5 x6 (tm_up mI 46 (Int32.toNatClampNeg s1) s2) mL else none
def f_Mo_takeNumbers_b119 (r32 : Int32 → Int32 → Int32 → tm_I → tm_L → Option (Int32 × tm_I × tm_L)) (x1 : Int32) (x2 : Int32) (x3 : Int32) (x4 : Int32) (x5 : Int32) (x6 : Int32) (mI : tm_I) (mL : tm_L) : Option (Int32 × tm_I × tm_L) := if x5 ≤ (5 : Int32) then if x5 ≤ 0 then f_Mo_takeNumbers_b151 r32 x1 x2 x3 x4 x5 x6 mI mL else if x4 = 0 then f_Mo_takeNumbers_b150 r32 x1 x2 x3 x4 x5 x6 x3 x6 mI mL else f_Mo_takeNumbers_b150 r32 x1 x2 x3 x4 x5 x6 x3 (-x6) mI mL else some ((4 : Int32), mI, mL)
def f_Mo_takeNumbers_l81 (r32 : Int32 → Int32 → Int32 → tm_I → tm_L → Option (Int32 × tm_I × tm_L)) : Nat → Int32 → Int32 → Int32 → Int32 → Int32 → Int32 → tm_I → tm_L → Option (Int32 × tm_I × tm_L)
  | 0, _, _, _, _, _, _, _, _ => none
  | n + 1, x1, x2, x3, x4, x5, x6, mI, mL => (f_Mo_peek mI mL).bind fun v4 => (f_Mo_isDigit v4.1 v4.2.1 v4.2.2).bind fun v5 => if v5.1 = 0 then f_Mo_takeNumbers_b119 r32 x1 x2 x3 x4 x5 x6 v5.2.1 v5.2.2 else if (6 : Int32) ≤ x5 then f_Mo_takeNumbers_b119 r32 x1 x2 x3 x4 x5 x6 v5.2.1 v5.2.2 else (f_Mo_next v5.2.1 v5.2.2).bind fun v6 => (f_Mo_takeNumbers_l81 r32 n) x1 x2 x3 x4 (x5 + (1 : Int32)) ((((10 : Int32) * x6) + v6.1) - (48 : Int32)) v6.2.1 v6.2.2
def f_Mo_takeNumbers_b75 (r32 : Int32 → Int32 → Int32 → tm_I → tm_L → Option (Int32 × tm_I × tm_L)) (x1 : Int32) (x2 : Int32) (x3 : Int32) (x4 : Int32) (mI : tm_I) (mL : tm_L) : Option (Int32 × tm_I × tm_L) := f_Mo_takeNumbers_l81 r32 tm_F x1 x2 x3 x4 (0 : Int32) (0 : Int32) mI mL
def f_Mo_takeNumbers_b51 (r32 : Int32 → Int32 → Int32 → tm_I → tm_L → Option (Int32 × tm_I × tm_L)) (x1 : Int32) (x2 : Int32) (x3 : Int32) (s0 : Int32) (mI : tm_I) (mL : tm_L) : Option (Int32 × tm_I × tm_L) := if s0 = 0 then f_Mo_takeNumbers_b75 r32 x1 x2 x3 s0 mI mL else (f_Mo_next mI mL).bind fun v7 => (f_Mo_peek v7.2.1 v7.2.2).bind fun v8 => (f_Mo_isDigit v8.1 v8.2.1 v8.2.2).bind fun v9 => if ¬ v9.1 = 0 then f_Mo_takeNumbers_b75 r32 x1 x2 x3 s0 v9.2.1 v9.2.2 else some ((4 : Int32), v9.2.1, v9.2.2)
def f_Mo_takeNumbers_l32 : Nat → Int32 → Int32 → Int32 → tm_I → tm_L → Option (Int32 × tm_I × tm_L)
  | 0, _, _, _, _, _ => none
  | n + 1, x1, x2, x3, mI, mL => if x2 ≤ x3 then some ((0 : Int32), mI, mL) else (f_Mo_peek mI mL).bind fun v10 => if ¬ v10.1 = (45 : Int32) then f_Mo_takeNumbers_b51 (f_Mo_takeNumbers_l32 n) x1 x2 x3 (0 : Int32) v10.2.1 v10.2.2 else f_Mo_takeNumbers_b51 (f_Mo_takeNumbers_l32 n) x1 x2 x3 (1 : Int32) v10.2.1 v10.2.2
def f_Mo_takeNumbers_l7 : Nat → Int32 → Int32 → Int32 → tm_I → tm_L → Option (Int32 × tm_I × tm_L)
  | 0, _, _, _, _, _ => none
  | n + 1, x1, x2, x3, mI, mL => if x2 ≤ x3 then f_Mo_takeNumbers_l32 tm_F x1 x2 (0 : Int32) mI mL else (f_Mo_preset x1 x3 mI mL).bind fun v11 => if ¬ (x3 < 0 ∨ 4 ≤ Int32.toNatClampNeg x3) then (f_Mo_takeNumbers_l7 n) x1 x2 (x3 + (1 : Int32)) (tm_up v11.2.1 46 (Int32.toNatClampNeg x3) v11.1) v11.2.2 else none
def f_Mo_takeNumbers_b0 (x1 : Int32) (mI : tm_I) (mL : tm_L) : Option (Int32 × tm_I × tm_L) := (f_Mo_numbers x1 mI mL).bind fun v12 => f_Mo_takeNumbers_l7 tm_F x1 v12.1 (0 : Int32) v12.2.1 v12.2.2
abbrev f_Mo_takeNumbers (p0 : Int32) (mI : tm_I) (mL : tm_L) : Option (Int32 × tm_I × tm_L) := f_Mo_takeNumbers_b0 p0 mI mL
set_option maxRecDepth 100000 in
set_option maxHeartbeats 4000000 in
theorem j_Mo_takeNumbers_b171 {Γ : tm_G} {ex : List tm_Sh} {av : List Value} {X0 : tm_X} {r : Int32 × tm_I × tm_L} (C : tm_C Γ ty_Mo_takeNumbers.1.cls ty_Mo_takeNumbers.2.1 ty_Mo_takeNumbers.2.2.1) (G : tm_Γ ty_Mo_takeNumbers 2 41 0 0 av X0 (tm_is (some (.int r.1)) (sh0 ++ ex, r.2.1, r.2.2, rr)) Γ) {x1 : Int32} {x2 : Int32} {x3 : Int32} {x4 : Int32} {x5 : Int32} {x6 : Int32} {s0 : Int32} {mI : tm_I} {mL : tm_L} (hf : f_Mo_takeNumbers_b171 x1 x2 x3 x4 x5 x6 s0 mI mL = some r) : tm_T Γ 7 0 0 171 [some (.ref 39), some (.int x1), some (.int x2), some (.int x3), some (.int x4), some (.int x5), some (.int x6)] [.int s0] (sh0 ++ ex) mI mL rr := by
  have Ro := G.ro
  unfold f_Mo_takeNumbers_b171 at hf
  cases hf
  exact tm_ei C G to_Mo_takeNumbers rfl rfl (Nat.le_refl _) rfl ⟨rfl, rfl⟩
set_option maxRecDepth 100000 in
set_option maxHeartbeats 4000000 in
theorem j_Mo_takeNumbers_b151 {Γ : tm_G} {ex : List tm_Sh} {av : List Value} {X0 : tm_X} {r32 : Int32 → Int32 → Int32 → tm_I → tm_L → Option (Int32 × tm_I × tm_L)} {r : Int32 × tm_I × tm_L} (C : tm_C Γ ty_Mo_takeNumbers.1.cls ty_Mo_takeNumbers.2.1 ty_Mo_takeNumbers.2.2.1) (G : tm_Γ ty_Mo_takeNumbers 2 41 0 0 av X0 (tm_is (some (.int r.1)) (sh0 ++ ex, r.2.1, r.2.2, rr)) Γ) (H32 : ∀ (x1 : Int32) (x2 : Int32) (x3 : Int32) (mI : tm_I) (mL : tm_L), r32 x1 x2 x3 mI mL = some r → tm_T Γ 7 0 0 32 [some (.ref 39), some (.int x1), some (.int x2), some (.int x3), none, none, none] [] (sh0 ++ ex) mI mL rr) {x1 : Int32} {x2 : Int32} {x3 : Int32} {x4 : Int32} {x5 : Int32} {x6 : Int32} {mI : tm_I} {mL : tm_L} (hf : f_Mo_takeNumbers_b151 r32 x1 x2 x3 x4 x5 x6 mI mL = some r) : tm_T Γ 7 0 0 151 [some (.ref 39), some (.int x1), some (.int x2), some (.int x3), some (.int x4), some (.int x5), some (.int x6)] [] (sh0 ++ ex) mI mL rr := by
  have Ro := G.ro
  unfold f_Mo_takeNumbers_b151 at hf
  refine tm_w C tfo_Mo to_Mo_takeNumbers 1 rfl rfl rfl trivial ?_
  refine tm_b C to_Mo_takeNumbers rfl rfl (fun h => ?_) (fun h => ?_)
  · have hf := (if_pos h).symm.trans hf
    refine tm_w C tfo_Mo to_Mo_takeNumbers 0 rfl rfl rfl trivial ?_
    obtain ⟨v1, hv1, hf⟩ := Option.bind_eq_some_iff.mp hf
    refine tm_cV C Ro to_Mo_takeNumbers tl_Mo_76 rfl (ct_Mo_peek hv1) rfl rfl rfl rfl rfl rfl rfl (Nat.le_refl _) (Nat.le_refl _) ?_
    refine tm_w C tfo_Mo to_Mo_takeNumbers 0 rfl rfl rfl trivial ?_
    refine tm_b C to_Mo_takeNumbers rfl rfl (fun h => ?_) (fun h => ?_)
    · have hf := (if_pos h).symm.trans hf
      refine tm_w C tfo_Mo to_Mo_takeNumbers 0 rfl rfl rfl trivial ?_
      obtain ⟨v2, hv2, hf⟩ := Option.bind_eq_some_iff.mp hf
      refine tm_cV C Ro to_Mo_takeNumbers tl_Mo_95 rfl (ct_Mo_next hv2) rfl rfl rfl rfl rfl rfl rfl (Nat.le_refl _) (Nat.le_refl _) ?_
      refine tm_w C tfo_Mo to_Mo_takeNumbers 4 rfl rfl rfl trivial ?_
      refine tm_b C to_Mo_takeNumbers rfl rfl (fun h => ?_) (fun h => ?_)
      · have hf := (if_pos h).symm.trans hf
        refine tm_w C tfo_Mo to_Mo_takeNumbers 1 rfl rfl rfl trivial ?_
        refine tm_wk (lv' := [some (.ref 39), some (.int x1), some (.int x2), some (.int (x3 + (1 : Int32))), none, none, none]) ⟨Or.inr rfl, Or.inr rfl, Or.inr rfl, Or.inr rfl, Or.inl rfl, Or.inl rfl, Or.inl rfl, trivial⟩ ?_
        exact H32 _ _ _ _ _ hf
      · have hf := (if_neg h).symm.trans hf
        refine tm_w C tfo_Mo to_Mo_takeNumbers 0 rfl rfl rfl trivial ?_
        cases hf
        exact tm_ei C G to_Mo_takeNumbers rfl rfl (Nat.le_refl _) rfl ⟨rfl, rfl⟩
    · have hf := (if_neg h).symm.trans hf
      refine tm_w C tfo_Mo to_Mo_takeNumbers 0 rfl rfl rfl trivial ?_
      cases hf
      exact tm_ei C G to_Mo_takeNumbers rfl rfl (Nat.le_refl _) rfl ⟨rfl, rfl⟩
  · have hf := (if_neg h).symm.trans hf
    refine tm_w C tfo_Mo to_Mo_takeNumbers 0 rfl rfl rfl trivial ?_
    obtain ⟨v3, hv3, hf⟩ := Option.bind_eq_some_iff.mp hf
    refine tm_cV C Ro to_Mo_takeNumbers tl_Mo_95 rfl (ct_Mo_next hv3) rfl rfl rfl rfl rfl rfl rfl (Nat.le_refl _) (Nat.le_refl _) ?_
    refine tm_w C tfo_Mo to_Mo_takeNumbers 0 rfl rfl rfl trivial ?_
    refine tm_b C to_Mo_takeNumbers rfl rfl (fun h => ?_) (fun h => ?_)
    · have hf := (if_pos h).symm.trans hf
      refine tm_w C tfo_Mo to_Mo_takeNumbers 0 rfl rfl rfl trivial ?_
      refine tm_wk (lv' := [some (.ref 39), some (.int x1), some (.int x2), some (.int x3), some (.int x4), some (.int x5), some (.int x6)]) ⟨Or.inr rfl, Or.inr rfl, Or.inr rfl, Or.inr rfl, Or.inr rfl, Or.inr rfl, Or.inr rfl, trivial⟩ ?_
      exact j_Mo_takeNumbers_b171 C G hf
    · have hf := (if_neg h).symm.trans hf
      refine tm_w C tfo_Mo to_Mo_takeNumbers 1 rfl rfl rfl trivial ?_
      refine tm_wk (lv' := [some (.ref 39), some (.int x1), some (.int x2), some (.int x3), some (.int x4), some (.int x5), some (.int x6)]) ⟨Or.inr rfl, Or.inr rfl, Or.inr rfl, Or.inr rfl, Or.inr rfl, Or.inr rfl, Or.inr rfl, trivial⟩ ?_
      exact j_Mo_takeNumbers_b171 C G hf
set_option maxRecDepth 100000 in
set_option maxHeartbeats 4000000 in
theorem j_Mo_takeNumbers_b150 {Γ : tm_G} {ex : List tm_Sh} {av : List Value} {X0 : tm_X} {r32 : Int32 → Int32 → Int32 → tm_I → tm_L → Option (Int32 × tm_I × tm_L)} {r : Int32 × tm_I × tm_L} (C : tm_C Γ ty_Mo_takeNumbers.1.cls ty_Mo_takeNumbers.2.1 ty_Mo_takeNumbers.2.2.1) (G : tm_Γ ty_Mo_takeNumbers 2 41 0 0 av X0 (tm_is (some (.int r.1)) (sh0 ++ ex, r.2.1, r.2.2, rr)) Γ) (H32 : ∀ (x1 : Int32) (x2 : Int32) (x3 : Int32) (mI : tm_I) (mL : tm_L), r32 x1 x2 x3 mI mL = some r → tm_T Γ 7 0 0 32 [some (.ref 39), some (.int x1), some (.int x2), some (.int x3), none, none, none] [] (sh0 ++ ex) mI mL rr) {x1 : Int32} {x2 : Int32} {x3 : Int32} {x4 : Int32} {x5 : Int32} {x6 : Int32} {s1 : Int32} {s2 : Int32} {mI : tm_I} {mL : tm_L} (hf : f_Mo_takeNumbers_b150 r32 x1 x2 x3 x4 x5 x6 s1 s2 mI mL = some r) : tm_T Γ 7 0 0 150 [some (.ref 39), some (.int x1), some (.int x2), some (.int x3), some (.int x4), some (.int x5), some (.int x6)] [.int s2, .int s1, .ref 46] (sh0 ++ ex) mI mL rr := by
  have Ro := G.ro
  unfold f_Mo_takeNumbers_b150 at hf
  obtain ⟨c1, hf⟩ := tm_iteN hf
  refine tm_w C tfo_Mo to_Mo_takeNumbers 0 rfl rfl rfl ⟨⟨_, rfl, c1⟩, trivial⟩ ?_
  refine tm_wk (lv' := [some (.ref 39), some (.int x1), some (.int x2), some (.int x3), some (.int x4), some (.int x5), some (.int x6)]) ⟨Or.inr rfl, Or.inr rfl, Or.inr rfl, Or.inr rfl, Or.inr rfl, Or.inr rfl, Or.inr rfl, trivial⟩ ?_
  exact j_Mo_takeNumbers_b151 C G (H32) hf
set_option maxRecDepth 100000 in
set_option maxHeartbeats 4000000 in
theorem j_Mo_takeNumbers_b119 {Γ : tm_G} {ex : List tm_Sh} {av : List Value} {X0 : tm_X} {r32 : Int32 → Int32 → Int32 → tm_I → tm_L → Option (Int32 × tm_I × tm_L)} {r : Int32 × tm_I × tm_L} (C : tm_C Γ ty_Mo_takeNumbers.1.cls ty_Mo_takeNumbers.2.1 ty_Mo_takeNumbers.2.2.1) (G : tm_Γ ty_Mo_takeNumbers 2 41 0 0 av X0 (tm_is (some (.int r.1)) (sh0 ++ ex, r.2.1, r.2.2, rr)) Γ) (H32 : ∀ (x1 : Int32) (x2 : Int32) (x3 : Int32) (mI : tm_I) (mL : tm_L), r32 x1 x2 x3 mI mL = some r → tm_T Γ 7 0 0 32 [some (.ref 39), some (.int x1), some (.int x2), some (.int x3), none, none, none] [] (sh0 ++ ex) mI mL rr) {x1 : Int32} {x2 : Int32} {x3 : Int32} {x4 : Int32} {x5 : Int32} {x6 : Int32} {mI : tm_I} {mL : tm_L} (hf : f_Mo_takeNumbers_b119 r32 x1 x2 x3 x4 x5 x6 mI mL = some r) : tm_T Γ 7 0 0 119 [some (.ref 39), some (.int x1), some (.int x2), some (.int x3), some (.int x4), some (.int x5), some (.int x6)] [] (sh0 ++ ex) mI mL rr := by
  have Ro := G.ro
  unfold f_Mo_takeNumbers_b119 at hf
  refine tm_w C tfo_Mo to_Mo_takeNumbers 1 rfl rfl rfl trivial ?_
  refine tm_b C to_Mo_takeNumbers rfl rfl (fun h => ?_) (fun h => ?_)
  · have hf := (if_pos h).symm.trans hf
    refine tm_w C tfo_Mo to_Mo_takeNumbers 0 rfl rfl rfl trivial ?_
    refine tm_b C to_Mo_takeNumbers rfl rfl (fun h => ?_) (fun h => ?_)
    · have hf := (if_pos h).symm.trans hf
      refine tm_wk (lv' := [some (.ref 39), some (.int x1), some (.int x2), some (.int x3), some (.int x4), some (.int x5), some (.int x6)]) ⟨Or.inr rfl, Or.inr rfl, Or.inr rfl, Or.inr rfl, Or.inr rfl, Or.inr rfl, Or.inr rfl, trivial⟩ ?_
      exact j_Mo_takeNumbers_b151 C G (H32) hf
    · have hf := (if_neg h).symm.trans hf
      refine tm_w C tfo_Mo to_Mo_takeNumbers 3 rfl rfl rfl ⟨rfl, trivial⟩ ?_
      refine tm_b C to_Mo_takeNumbers rfl rfl (fun h => ?_) (fun h => ?_)
      · have hf := (if_pos h).symm.trans hf
        refine tm_w C tfo_Mo to_Mo_takeNumbers 0 rfl rfl rfl trivial ?_
        refine tm_wk (lv' := [some (.ref 39), some (.int x1), some (.int x2), some (.int x3), some (.int x4), some (.int x5), some (.int x6)]) ⟨Or.inr rfl, Or.inr rfl, Or.inr rfl, Or.inr rfl, Or.inr rfl, Or.inr rfl, Or.inr rfl, trivial⟩ ?_
        exact j_Mo_takeNumbers_b150 C G (H32) hf
      · have hf := (if_neg h).symm.trans hf
        refine tm_w C tfo_Mo to_Mo_takeNumbers 2 rfl rfl rfl trivial ?_
        refine tm_wk (lv' := [some (.ref 39), some (.int x1), some (.int x2), some (.int x3), some (.int x4), some (.int x5), some (.int x6)]) ⟨Or.inr rfl, Or.inr rfl, Or.inr rfl, Or.inr rfl, Or.inr rfl, Or.inr rfl, Or.inr rfl, trivial⟩ ?_
        exact j_Mo_takeNumbers_b150 C G (H32) hf
  · have hf := (if_neg h).symm.trans hf
    refine tm_w C tfo_Mo to_Mo_takeNumbers 0 rfl rfl rfl trivial ?_
    cases hf
    exact tm_ei C G to_Mo_takeNumbers rfl rfl (Nat.le_refl _) rfl ⟨rfl, rfl⟩
set_option maxRecDepth 100000 in
set_option maxHeartbeats 4000000 in
theorem j_Mo_takeNumbers_l81 {Γ : tm_G} {ex : List tm_Sh} {av : List Value} {X0 : tm_X} {r32 : Int32 → Int32 → Int32 → tm_I → tm_L → Option (Int32 × tm_I × tm_L)} {r : Int32 × tm_I × tm_L} (C : tm_C Γ ty_Mo_takeNumbers.1.cls ty_Mo_takeNumbers.2.1 ty_Mo_takeNumbers.2.2.1) (G : tm_Γ ty_Mo_takeNumbers 2 41 0 0 av X0 (tm_is (some (.int r.1)) (sh0 ++ ex, r.2.1, r.2.2, rr)) Γ) (H32 : ∀ (x1 : Int32) (x2 : Int32) (x3 : Int32) (mI : tm_I) (mL : tm_L), r32 x1 x2 x3 mI mL = some r → tm_T Γ 7 0 0 32 [some (.ref 39), some (.int x1), some (.int x2), some (.int x3), none, none, none] [] (sh0 ++ ex) mI mL rr) : ∀ (n : Nat) (x1 : Int32) (x2 : Int32) (x3 : Int32) (x4 : Int32) (x5 : Int32) (x6 : Int32) (mI : tm_I) (mL : tm_L), f_Mo_takeNumbers_l81 r32 n x1 x2 x3 x4 x5 x6 mI mL = some r → tm_T Γ 7 0 0 81 [some (.ref 39), some (.int x1), some (.int x2), some (.int x3), some (.int x4), some (.int x5), some (.int x6)] [] (sh0 ++ ex) mI mL rr := by
  have Ro := G.ro
  intro n
  induction n with
  | zero => intro x1 x2 x3 x4 x5 x6 mI mL hf; cases hf
  | succ n ih =>
    intro x1 x2 x3 x4 x5 x6 mI mL hf
    rw [f_Mo_takeNumbers_l81] at hf
    refine tm_w C tfo_Mo to_Mo_takeNumbers 0 rfl rfl rfl trivial ?_
    obtain ⟨v4, hv4, hf⟩ := Option.bind_eq_some_iff.mp hf
    refine tm_cV C Ro to_Mo_takeNumbers tl_Mo_76 rfl (ct_Mo_peek hv4) rfl rfl rfl rfl rfl rfl rfl (Nat.le_refl _) (Nat.le_refl _) ?_
    obtain ⟨v5, hv5, hf⟩ := Option.bind_eq_some_iff.mp hf
    refine tm_cS C Ro to_Mo_takeNumbers tl_Mo_80 rfl (ct_Mo_isDigit hv5) rfl rfl rfl rfl rfl (Nat.le_refl _) (Nat.le_refl _) ?_
    refine tm_b C to_Mo_takeNumbers rfl rfl (fun h => ?_) (fun h => ?_)
    · have hf := (if_pos h).symm.trans hf
      refine tm_wk (lv' := [some (.ref 39), some (.int x1), some (.int x2), some (.int x3), some (.int x4), some (.int x5), some (.int x6)]) ⟨Or.inr rfl, Or.inr rfl, Or.inr rfl, Or.inr rfl, Or.inr rfl, Or.inr rfl, Or.inr rfl, trivial⟩ ?_
      exact j_Mo_takeNumbers_b119 C G (H32) hf
    · have hf := (if_neg h).symm.trans hf
      refine tm_w C tfo_Mo to_Mo_takeNumbers 1 rfl rfl rfl trivial ?_
      refine tm_b C to_Mo_takeNumbers rfl rfl (fun h => ?_) (fun h => ?_)
      · have hf := (if_pos h).symm.trans hf
        refine tm_wk (lv' := [some (.ref 39), some (.int x1), some (.int x2), some (.int x3), some (.int x4), some (.int x5), some (.int x6)]) ⟨Or.inr rfl, Or.inr rfl, Or.inr rfl, Or.inr rfl, Or.inr rfl, Or.inr rfl, Or.inr rfl, trivial⟩ ?_
        exact j_Mo_takeNumbers_b119 C G (H32) hf
      · have hf := (if_neg h).symm.trans hf
        refine tm_w C tfo_Mo to_Mo_takeNumbers 3 rfl rfl rfl trivial ?_
        obtain ⟨v6, hv6, hf⟩ := Option.bind_eq_some_iff.mp hf
        refine tm_cV C Ro to_Mo_takeNumbers tl_Mo_95 rfl (ct_Mo_next hv6) rfl rfl rfl rfl rfl rfl rfl (Nat.le_refl _) (Nat.le_refl _) ?_
        refine tm_w C tfo_Mo to_Mo_takeNumbers 5 rfl rfl rfl trivial ?_
        refine tm_wk (lv' := [some (.ref 39), some (.int x1), some (.int x2), some (.int x3), some (.int x4), some (.int (x5 + (1 : Int32))), some (.int ((((10 : Int32) * x6) + v6.1) - (48 : Int32)))]) ⟨Or.inr rfl, Or.inr rfl, Or.inr rfl, Or.inr rfl, Or.inr rfl, Or.inr rfl, Or.inr rfl, trivial⟩ ?_
        exact ih _ _ _ _ _ _ _ _ hf
set_option maxRecDepth 100000 in
set_option maxHeartbeats 4000000 in
theorem j_Mo_takeNumbers_b75 {Γ : tm_G} {ex : List tm_Sh} {av : List Value} {X0 : tm_X} {r32 : Int32 → Int32 → Int32 → tm_I → tm_L → Option (Int32 × tm_I × tm_L)} {r : Int32 × tm_I × tm_L} (C : tm_C Γ ty_Mo_takeNumbers.1.cls ty_Mo_takeNumbers.2.1 ty_Mo_takeNumbers.2.2.1) (G : tm_Γ ty_Mo_takeNumbers 2 41 0 0 av X0 (tm_is (some (.int r.1)) (sh0 ++ ex, r.2.1, r.2.2, rr)) Γ) (H32 : ∀ (x1 : Int32) (x2 : Int32) (x3 : Int32) (mI : tm_I) (mL : tm_L), r32 x1 x2 x3 mI mL = some r → tm_T Γ 7 0 0 32 [some (.ref 39), some (.int x1), some (.int x2), some (.int x3), none, none, none] [] (sh0 ++ ex) mI mL rr) {x1 : Int32} {x2 : Int32} {x3 : Int32} {x4 : Int32} {mI : tm_I} {mL : tm_L} (hf : f_Mo_takeNumbers_b75 r32 x1 x2 x3 x4 mI mL = some r) : tm_T Γ 7 0 0 75 [some (.ref 39), some (.int x1), some (.int x2), some (.int x3), some (.int x4), none, none] [] (sh0 ++ ex) mI mL rr := by
  have Ro := G.ro
  unfold f_Mo_takeNumbers_b75 at hf
  refine tm_w C tfo_Mo to_Mo_takeNumbers 3 rfl rfl rfl trivial ?_
  refine tm_wk (lv' := [some (.ref 39), some (.int x1), some (.int x2), some (.int x3), some (.int x4), some (.int (0 : Int32)), some (.int (0 : Int32))]) ⟨Or.inr rfl, Or.inr rfl, Or.inr rfl, Or.inr rfl, Or.inr rfl, Or.inr rfl, Or.inr rfl, trivial⟩ ?_
  exact j_Mo_takeNumbers_l81 C G (H32) _ _ _ _ _ _ _ _ _ hf
set_option maxRecDepth 100000 in
set_option maxHeartbeats 4000000 in
theorem j_Mo_takeNumbers_b51 {Γ : tm_G} {ex : List tm_Sh} {av : List Value} {X0 : tm_X} {r32 : Int32 → Int32 → Int32 → tm_I → tm_L → Option (Int32 × tm_I × tm_L)} {r : Int32 × tm_I × tm_L} (C : tm_C Γ ty_Mo_takeNumbers.1.cls ty_Mo_takeNumbers.2.1 ty_Mo_takeNumbers.2.2.1) (G : tm_Γ ty_Mo_takeNumbers 2 41 0 0 av X0 (tm_is (some (.int r.1)) (sh0 ++ ex, r.2.1, r.2.2, rr)) Γ) (H32 : ∀ (x1 : Int32) (x2 : Int32) (x3 : Int32) (mI : tm_I) (mL : tm_L), r32 x1 x2 x3 mI mL = some r → tm_T Γ 7 0 0 32 [some (.ref 39), some (.int x1), some (.int x2), some (.int x3), none, none, none] [] (sh0 ++ ex) mI mL rr) {x1 : Int32} {x2 : Int32} {x3 : Int32} {s0 : Int32} {mI : tm_I} {mL : tm_L} (hf : f_Mo_takeNumbers_b51 r32 x1 x2 x3 s0 mI mL = some r) : tm_T Γ 7 0 0 51 [some (.ref 39), some (.int x1), some (.int x2), some (.int x3), none, none, none] [.int s0] (sh0 ++ ex) mI mL rr := by
  have Ro := G.ro
  unfold f_Mo_takeNumbers_b51 at hf
  refine tm_w C tfo_Mo to_Mo_takeNumbers 1 rfl rfl rfl trivial ?_
  refine tm_b C to_Mo_takeNumbers rfl rfl (fun h => ?_) (fun h => ?_)
  · have hf := (if_pos h).symm.trans hf
    refine tm_wk (lv' := [some (.ref 39), some (.int x1), some (.int x2), some (.int x3), some (.int s0), none, none]) ⟨Or.inr rfl, Or.inr rfl, Or.inr rfl, Or.inr rfl, Or.inr rfl, Or.inl rfl, Or.inl rfl, trivial⟩ ?_
    exact j_Mo_takeNumbers_b75 C G (H32) hf
  · have hf := (if_neg h).symm.trans hf
    refine tm_w C tfo_Mo to_Mo_takeNumbers 0 rfl rfl rfl trivial ?_
    obtain ⟨v7, hv7, hf⟩ := Option.bind_eq_some_iff.mp hf
    refine tm_cV C Ro to_Mo_takeNumbers tl_Mo_95 rfl (ct_Mo_next hv7) rfl rfl rfl rfl rfl rfl rfl (Nat.le_refl _) (Nat.le_refl _) ?_
    refine tm_w C tfo_Mo to_Mo_takeNumbers 1 rfl rfl rfl trivial ?_
    obtain ⟨v8, hv8, hf⟩ := Option.bind_eq_some_iff.mp hf
    refine tm_cV C Ro to_Mo_takeNumbers tl_Mo_76 rfl (ct_Mo_peek hv8) rfl rfl rfl rfl rfl rfl rfl (Nat.le_refl _) (Nat.le_refl _) ?_
    obtain ⟨v9, hv9, hf⟩ := Option.bind_eq_some_iff.mp hf
    refine tm_cS C Ro to_Mo_takeNumbers tl_Mo_80 rfl (ct_Mo_isDigit hv9) rfl rfl rfl rfl rfl (Nat.le_refl _) (Nat.le_refl _) ?_
    refine tm_b C to_Mo_takeNumbers rfl rfl (fun h => ?_) (fun h => ?_)
    · have hf := (if_pos h).symm.trans hf
      refine tm_wk (lv' := [some (.ref 39), some (.int x1), some (.int x2), some (.int x3), some (.int s0), none, none]) ⟨Or.inr rfl, Or.inr rfl, Or.inr rfl, Or.inr rfl, Or.inr rfl, Or.inl rfl, Or.inl rfl, trivial⟩ ?_
      exact j_Mo_takeNumbers_b75 C G (H32) hf
    · have hf := (if_neg h).symm.trans hf
      refine tm_w C tfo_Mo to_Mo_takeNumbers 0 rfl rfl rfl trivial ?_
      cases hf
      exact tm_ei C G to_Mo_takeNumbers rfl rfl (Nat.le_refl _) rfl ⟨rfl, rfl⟩
set_option maxRecDepth 100000 in
set_option maxHeartbeats 4000000 in
theorem j_Mo_takeNumbers_l32 {Γ : tm_G} {ex : List tm_Sh} {av : List Value} {X0 : tm_X} {r : Int32 × tm_I × tm_L} (C : tm_C Γ ty_Mo_takeNumbers.1.cls ty_Mo_takeNumbers.2.1 ty_Mo_takeNumbers.2.2.1) (G : tm_Γ ty_Mo_takeNumbers 2 41 0 0 av X0 (tm_is (some (.int r.1)) (sh0 ++ ex, r.2.1, r.2.2, rr)) Γ) : ∀ (n : Nat) (x1 : Int32) (x2 : Int32) (x3 : Int32) (mI : tm_I) (mL : tm_L), f_Mo_takeNumbers_l32 n x1 x2 x3 mI mL = some r → tm_T Γ 7 0 0 32 [some (.ref 39), some (.int x1), some (.int x2), some (.int x3), none, none, none] [] (sh0 ++ ex) mI mL rr := by
  have Ro := G.ro
  intro n
  induction n with
  | zero => intro x1 x2 x3 mI mL hf; cases hf
  | succ n ih =>
    intro x1 x2 x3 mI mL hf
    rw [f_Mo_takeNumbers_l32] at hf
    refine tm_w C tfo_Mo to_Mo_takeNumbers 1 rfl rfl rfl trivial ?_
    refine tm_b C to_Mo_takeNumbers rfl rfl (fun h => ?_) (fun h => ?_)
    · have hf := (if_pos h).symm.trans hf
      refine tm_w C tfo_Mo to_Mo_takeNumbers 0 rfl rfl rfl trivial ?_
      cases hf
      exact tm_ei C G to_Mo_takeNumbers rfl rfl (Nat.le_refl _) rfl ⟨rfl, rfl⟩
    · have hf := (if_neg h).symm.trans hf
      refine tm_w C tfo_Mo to_Mo_takeNumbers 0 rfl rfl rfl trivial ?_
      obtain ⟨v10, hv10, hf⟩ := Option.bind_eq_some_iff.mp hf
      refine tm_cV C Ro to_Mo_takeNumbers tl_Mo_76 rfl (ct_Mo_peek hv10) rfl rfl rfl rfl rfl rfl rfl (Nat.le_refl _) (Nat.le_refl _) ?_
      refine tm_w C tfo_Mo to_Mo_takeNumbers 0 rfl rfl rfl trivial ?_
      refine tm_b C to_Mo_takeNumbers rfl rfl (fun h => ?_) (fun h => ?_)
      · have hf := (if_pos h).symm.trans hf
        refine tm_w C tfo_Mo to_Mo_takeNumbers 0 rfl rfl rfl trivial ?_
        refine tm_wk (lv' := [some (.ref 39), some (.int x1), some (.int x2), some (.int x3), none, none, none]) ⟨Or.inr rfl, Or.inr rfl, Or.inr rfl, Or.inr rfl, Or.inl rfl, Or.inl rfl, Or.inl rfl, trivial⟩ ?_
        exact j_Mo_takeNumbers_b51 C G (ih) hf
      · have hf := (if_neg h).symm.trans hf
        refine tm_w C tfo_Mo to_Mo_takeNumbers 1 rfl rfl rfl trivial ?_
        refine tm_wk (lv' := [some (.ref 39), some (.int x1), some (.int x2), some (.int x3), none, none, none]) ⟨Or.inr rfl, Or.inr rfl, Or.inr rfl, Or.inr rfl, Or.inl rfl, Or.inl rfl, Or.inl rfl, trivial⟩ ?_
        exact j_Mo_takeNumbers_b51 C G (ih) hf
set_option maxRecDepth 100000 in
set_option maxHeartbeats 4000000 in
theorem j_Mo_takeNumbers_l7 {Γ : tm_G} {ex : List tm_Sh} {av : List Value} {X0 : tm_X} {r : Int32 × tm_I × tm_L} (C : tm_C Γ ty_Mo_takeNumbers.1.cls ty_Mo_takeNumbers.2.1 ty_Mo_takeNumbers.2.2.1) (G : tm_Γ ty_Mo_takeNumbers 2 41 0 0 av X0 (tm_is (some (.int r.1)) (sh0 ++ ex, r.2.1, r.2.2, rr)) Γ) : ∀ (n : Nat) (x1 : Int32) (x2 : Int32) (x3 : Int32) (mI : tm_I) (mL : tm_L), f_Mo_takeNumbers_l7 n x1 x2 x3 mI mL = some r → tm_T Γ 7 0 0 7 [some (.ref 39), some (.int x1), some (.int x2), some (.int x3), none, none, none] [] (sh0 ++ ex) mI mL rr := by
  have Ro := G.ro
  intro n
  induction n with
  | zero => intro x1 x2 x3 mI mL hf; cases hf
  | succ n ih =>
    intro x1 x2 x3 mI mL hf
    rw [f_Mo_takeNumbers_l7] at hf
    refine tm_w C tfo_Mo to_Mo_takeNumbers 1 rfl rfl rfl trivial ?_
    refine tm_b C to_Mo_takeNumbers rfl rfl (fun h => ?_) (fun h => ?_)
    · have hf := (if_pos h).symm.trans hf
      refine tm_w C tfo_Mo to_Mo_takeNumbers 1 rfl rfl rfl trivial ?_
      refine tm_wk (lv' := [some (.ref 39), some (.int x1), some (.int x2), some (.int (0 : Int32)), none, none, none]) ⟨Or.inr rfl, Or.inr rfl, Or.inr rfl, Or.inr rfl, Or.inl rfl, Or.inl rfl, Or.inl rfl, trivial⟩ ?_
      exact j_Mo_takeNumbers_l32 C G _ _ _ _ _ _ hf
    · have hf := (if_neg h).symm.trans hf
      refine tm_w C tfo_Mo to_Mo_takeNumbers 5 rfl rfl rfl ⟨rfl, trivial⟩ ?_
      obtain ⟨v11, hv11, hf⟩ := Option.bind_eq_some_iff.mp hf
      refine tm_cV C Ro to_Mo_takeNumbers tl_Mo_92 rfl (ct_Mo_preset hv11) rfl rfl rfl rfl rfl rfl rfl (Nat.le_refl _) (Nat.le_refl _) ?_
      obtain ⟨c2, hf⟩ := tm_iteN hf
      refine tm_w C tfo_Mo to_Mo_takeNumbers 2 rfl rfl rfl ⟨⟨_, rfl, c2⟩, trivial⟩ ?_
      refine tm_wk (lv' := [some (.ref 39), some (.int x1), some (.int x2), some (.int (x3 + (1 : Int32))), none, none, none]) ⟨Or.inr rfl, Or.inr rfl, Or.inr rfl, Or.inr rfl, Or.inl rfl, Or.inl rfl, Or.inl rfl, trivial⟩ ?_
      exact ih _ _ _ _ _ hf
set_option maxRecDepth 100000 in
set_option maxHeartbeats 4000000 in
theorem j_Mo_takeNumbers_b0 {Γ : tm_G} {ex : List tm_Sh} {av : List Value} {X0 : tm_X} {r : Int32 × tm_I × tm_L} (C : tm_C Γ ty_Mo_takeNumbers.1.cls ty_Mo_takeNumbers.2.1 ty_Mo_takeNumbers.2.2.1) (G : tm_Γ ty_Mo_takeNumbers 2 41 0 0 av X0 (tm_is (some (.int r.1)) (sh0 ++ ex, r.2.1, r.2.2, rr)) Γ) {x1 : Int32} {mI : tm_I} {mL : tm_L} (hf : f_Mo_takeNumbers_b0 x1 mI mL = some r) : tm_T Γ 7 0 0 0 [some (.ref 39), some (.int x1), none, none, none, none, none] [] (sh0 ++ ex) mI mL rr := by
  have Ro := G.ro
  unfold f_Mo_takeNumbers_b0 at hf
  refine tm_w C tfo_Mo to_Mo_takeNumbers 0 rfl rfl rfl trivial ?_
  obtain ⟨v12, hv12, hf⟩ := Option.bind_eq_some_iff.mp hf
  refine tm_cS C Ro to_Mo_takeNumbers tl_Mo_88 rfl (ct_Mo_numbers hv12) rfl rfl rfl rfl rfl (Nat.le_refl _) (Nat.le_refl _) ?_
  refine tm_w C tfo_Mo to_Mo_takeNumbers 2 rfl rfl rfl trivial ?_
  refine tm_wk (lv' := [some (.ref 39), some (.int x1), some (.int v12.1), some (.int (0 : Int32)), none, none, none]) ⟨Or.inr rfl, Or.inr rfl, Or.inr rfl, Or.inr rfl, Or.inl rfl, Or.inl rfl, Or.inl rfl, trivial⟩ ?_
  exact j_Mo_takeNumbers_l7 C G _ _ _ _ _ _ hf
set_option maxRecDepth 100000 in
theorem ct_Mo_takeNumbers {ex : List tm_Sh} {p0 : Int32} {mI : tm_I} {mL : tm_L} {r : Int32 × tm_I × tm_L} (hf : f_Mo_takeNumbers p0 mI mL = some r) : tm_M ty_Mo_takeNumbers 2 41 0 0 [.ref 39, .int p0] (sh0 ++ ex, mI, mL, rr) (tm_is (some (.int r.1)) (sh0 ++ ex, r.2.1, r.2.2, rr)) := by
  refine tm_body (by decide) (Nat.le_of_ble_eq_true rfl) fun Γ C G => ?_
  exact j_Mo_takeNumbers_b0 C G hf
/-! Mo_testRanges -/
def f_Mo_testRanges_b44 (x1 : Int32) (x2 : Int32) (mI : tm_I) (mL : tm_L) : Option (Int32 × tm_I × tm_L) := some ((5 : Int32), mI, mL)
def f_Mo_testRanges_l2 : Nat → Int32 → Int32 → tm_I → tm_L → Option (Int32 × tm_I × tm_L)
  | 0, _, _, _, _ => none
  | n + 1, x1, x2, mI, mL => (f_Mo_numbers x1 mI mL).bind fun v1 => if v1.1 ≤ x2 then some ((0 : Int32), v1.2.1, v1.2.2) else if ¬ (x2 < 0 ∨ 4 ≤ Int32.toNatClampNeg x2) then (f_Mo_range x1 ((2 : Int32) * x2) v1.2.1 v1.2.2).bind fun v2 => if (v1.2.1 46 (Int32.toNatClampNeg x2)) < v2.1 then f_Mo_testRanges_b44 x1 x2 v2.2.1 v2.2.2 else if ¬ (x2 < 0 ∨ 4 ≤ Int32.toNatClampNeg x2) then (f_Mo_range x1 (((2 : Int32) * x2) + (1 : Int32)) v2.2.1 v2.2.2).bind fun v3 => if (v2.2.1 46 (Int32.toNatClampNeg x2)) ≤ v3.1 then (f_Mo_testRanges_l2 n) x1 (x2 + (1 : Int32)) v3.2.1 v3.2.2 else f_Mo_testRanges_b44 x1 x2 v3.2.1 v3.2.2 else none else none
def f_Mo_testRanges_b0 (x1 : Int32) (mI : tm_I) (mL : tm_L) : Option (Int32 × tm_I × tm_L) := f_Mo_testRanges_l2 tm_F x1 (0 : Int32) mI mL
abbrev f_Mo_testRanges (p0 : Int32) (mI : tm_I) (mL : tm_L) : Option (Int32 × tm_I × tm_L) := f_Mo_testRanges_b0 p0 mI mL
set_option maxRecDepth 100000 in
set_option maxHeartbeats 4000000 in
theorem j_Mo_testRanges_b44 {Γ : tm_G} {ex : List tm_Sh} {av : List Value} {X0 : tm_X} {r : Int32 × tm_I × tm_L} (C : tm_C Γ ty_Mo_testRanges.1.cls ty_Mo_testRanges.2.1 ty_Mo_testRanges.2.2.1) (G : tm_Γ ty_Mo_testRanges 2 42 0 0 av X0 (tm_is (some (.int r.1)) (sh0 ++ ex, r.2.1, r.2.2, rr)) Γ) {x1 : Int32} {x2 : Int32} {mI : tm_I} {mL : tm_L} (hf : f_Mo_testRanges_b44 x1 x2 mI mL = some r) : tm_T Γ 3 0 0 44 [some (.ref 39), some (.int x1), some (.int x2)] [] (sh0 ++ ex) mI mL rr := by
  have Ro := G.ro
  unfold f_Mo_testRanges_b44 at hf
  refine tm_w C tfo_Mo to_Mo_testRanges 0 rfl rfl rfl trivial ?_
  cases hf
  exact tm_ei C G to_Mo_testRanges rfl rfl (Nat.le_refl _) rfl ⟨rfl, rfl⟩
set_option maxRecDepth 100000 in
set_option maxHeartbeats 4000000 in
theorem j_Mo_testRanges_l2 {Γ : tm_G} {ex : List tm_Sh} {av : List Value} {X0 : tm_X} {r : Int32 × tm_I × tm_L} (C : tm_C Γ ty_Mo_testRanges.1.cls ty_Mo_testRanges.2.1 ty_Mo_testRanges.2.2.1) (G : tm_Γ ty_Mo_testRanges 2 42 0 0 av X0 (tm_is (some (.int r.1)) (sh0 ++ ex, r.2.1, r.2.2, rr)) Γ) : ∀ (n : Nat) (x1 : Int32) (x2 : Int32) (mI : tm_I) (mL : tm_L), f_Mo_testRanges_l2 n x1 x2 mI mL = some r → tm_T Γ 3 0 0 2 [some (.ref 39), some (.int x1), some (.int x2)] [] (sh0 ++ ex) mI mL rr := by
  have Ro := G.ro
  intro n
  induction n with
  | zero => intro x1 x2 mI mL hf; cases hf
  | succ n ih =>
    intro x1 x2 mI mL hf
    rw [f_Mo_testRanges_l2] at hf
    refine tm_w C tfo_Mo to_Mo_testRanges 1 rfl rfl rfl trivial ?_
    obtain ⟨v1, hv1, hf⟩ := Option.bind_eq_some_iff.mp hf
    refine tm_cS C Ro to_Mo_testRanges tl_Mo_88 rfl (ct_Mo_numbers hv1) rfl rfl rfl rfl rfl (Nat.le_refl _) (Nat.le_refl _) ?_
    refine tm_b C to_Mo_testRanges rfl rfl (fun h => ?_) (fun h => ?_)
    · have hf := (if_pos h).symm.trans hf
      refine tm_w C tfo_Mo to_Mo_testRanges 0 rfl rfl rfl trivial ?_
      cases hf
      exact tm_ei C G to_Mo_testRanges rfl rfl (Nat.le_refl _) rfl ⟨rfl, rfl⟩
    · have hf := (if_neg h).symm.trans hf
      obtain ⟨c1, hf⟩ := tm_iteN hf
      refine tm_w C tfo_Mo to_Mo_testRanges 7 rfl rfl rfl ⟨rfl, ⟨_, rfl, c1⟩, trivial⟩ ?_
      obtain ⟨v2, hv2, hf⟩ := Option.bind_eq_some_iff.mp hf
      refine tm_cS C Ro to_Mo_testRanges tl_Mo_98 rfl (ct_Mo_range hv2) rfl rfl rfl rfl rfl (Nat.le_refl _) (Nat.le_refl _) ?_
      refine tm_b C to_Mo_testRanges rfl rfl (fun h => ?_) (fun h => ?_)
      · have hf := (if_pos h).symm.trans hf
        refine tm_wk (lv' := [some (.ref 39), some (.int x1), some (.int x2)]) ⟨Or.inr rfl, Or.inr rfl, Or.inr rfl, trivial⟩ ?_
        exact j_Mo_testRanges_b44 C G hf
      · have hf := (if_neg h).symm.trans hf
        obtain ⟨c2, hf⟩ := tm_iteN hf
        refine tm_w C tfo_Mo to_Mo_testRanges 9 rfl rfl rfl ⟨rfl, ⟨_, rfl, c2⟩, trivial⟩ ?_
        obtain ⟨v3, hv3, hf⟩ := Option.bind_eq_some_iff.mp hf
        refine tm_cS C Ro to_Mo_testRanges tl_Mo_98 rfl (ct_Mo_range hv3) rfl rfl rfl rfl rfl (Nat.le_refl _) (Nat.le_refl _) ?_
        refine tm_b C to_Mo_testRanges rfl rfl (fun h => ?_) (fun h => ?_)
        · have hf := (if_pos h).symm.trans hf
          refine tm_w C tfo_Mo to_Mo_testRanges 1 rfl rfl rfl trivial ?_
          refine tm_wk (lv' := [some (.ref 39), some (.int x1), some (.int (x2 + (1 : Int32)))]) ⟨Or.inr rfl, Or.inr rfl, Or.inr rfl, trivial⟩ ?_
          exact ih _ _ _ _ hf
        · have hf := (if_neg h).symm.trans hf
          refine tm_wk (lv' := [some (.ref 39), some (.int x1), some (.int x2)]) ⟨Or.inr rfl, Or.inr rfl, Or.inr rfl, trivial⟩ ?_
          exact j_Mo_testRanges_b44 C G hf
set_option maxRecDepth 100000 in
set_option maxHeartbeats 4000000 in
theorem j_Mo_testRanges_b0 {Γ : tm_G} {ex : List tm_Sh} {av : List Value} {X0 : tm_X} {r : Int32 × tm_I × tm_L} (C : tm_C Γ ty_Mo_testRanges.1.cls ty_Mo_testRanges.2.1 ty_Mo_testRanges.2.2.1) (G : tm_Γ ty_Mo_testRanges 2 42 0 0 av X0 (tm_is (some (.int r.1)) (sh0 ++ ex, r.2.1, r.2.2, rr)) Γ) {x1 : Int32} {mI : tm_I} {mL : tm_L} (hf : f_Mo_testRanges_b0 x1 mI mL = some r) : tm_T Γ 3 0 0 0 [some (.ref 39), some (.int x1), none] [] (sh0 ++ ex) mI mL rr := by
  have Ro := G.ro
  unfold f_Mo_testRanges_b0 at hf
  refine tm_w C tfo_Mo to_Mo_testRanges 1 rfl rfl rfl trivial ?_
  refine tm_wk (lv' := [some (.ref 39), some (.int x1), some (.int (0 : Int32))]) ⟨Or.inr rfl, Or.inr rfl, Or.inr rfl, trivial⟩ ?_
  exact j_Mo_testRanges_l2 C G _ _ _ _ _ hf
set_option maxRecDepth 100000 in
theorem ct_Mo_testRanges {ex : List tm_Sh} {p0 : Int32} {mI : tm_I} {mL : tm_L} {r : Int32 × tm_I × tm_L} (hf : f_Mo_testRanges p0 mI mL = some r) : tm_M ty_Mo_testRanges 2 42 0 0 [.ref 39, .int p0] (sh0 ++ ex, mI, mL, rr) (tm_is (some (.int r.1)) (sh0 ++ ex, r.2.1, r.2.2, rr)) := by
  refine tm_body (by decide) (Nat.le_of_ble_eq_true rfl) fun Γ C G => ?_
  exact j_Mo_testRanges_b0 C G hf
/-! Mo_takeData -/
def f_Mo_takeData_b116  (mI : tm_I) (mL : tm_L) : Option (Int32 × tm_I × tm_L) := some ((0 : Int32), mI, mL)
def f_Mo_takeData_b80 (r5 : tm_I → tm_L → Option (Int32 × tm_I × tm_L)) (x1 : Int32) (mI : tm_I) (mL : tm_L) : Option (Int32 × tm_I × tm_L) := if ¬ (mI 39 17) = (200 : Int32) then if ¬ ((mI 39 17) < 0 ∨ 200 ≤ Int32.toNatClampNeg (mI 39 17)) then r5 (tm_up (tm_up mI 47 (Int32.toNatClampNeg (mI 39 17)) x1) 39 17 (((tm_up mI 47 (Int32.toNatClampNeg (mI 39 17)) x1) 39 17) + (1 : Int32))) mL else none else some ((6 : Int32), mI, mL)
def f_Mo_takeData_l5 : Nat → tm_I → tm_L → Option (Int32 × tm_I × tm_L)
  | 0, _, _ => none
  | n + 1, mI, mL => (f_Mo_peek mI mL).bind fun v1 => if v1.1 = (-1 : Int32) then f_Mo_takeData_b116 v1.2.1 v1.2.2 else (f_Mo_peek v1.2.1 v1.2.2).bind fun v2 => if v2.1 = (94 : Int32) then f_Mo_takeData_b116 v2.2.1 v2.2.2 else (f_Mo_next v2.2.1 v2.2.2).bind fun v3 => if ¬ v3.1 = (95 : Int32) then f_Mo_takeData_b80 (f_Mo_takeData_l5 n) v3.1 v3.2.1 v3.2.2 else (f_Mo_peek v3.2.1 v3.2.2).bind fun v4 => (f_Mo_hex v4.1 v4.2.1 v4.2.2).bind fun v5 => if 0 ≤ v5.1 then (f_Mo_next v5.2.1 v5.2.2).bind fun v6 => (f_Mo_peek v6.2.1 v6.2.2).bind fun v7 => (f_Mo_hex v7.1 v7.2.1 v7.2.2).bind fun v8 => if 0 ≤ v8.1 then (f_Mo_next v8.2.1 v8.2.2).bind fun v9 => f_Mo_takeData_b80 (f_Mo_takeData_l5 n) (((16 : Int32) * v5.1) + v8.1) v9.2.1 v9.2.2 else some ((6 : Int32), v8.2.1, v8.2.2) else some ((6 : Int32), v5.2.1, v5.2.2)
def f_Mo_takeData_b0  (mI : tm_I) (mL : tm_L) : Option (Int32 × tm_I × tm_L) := f_Mo_takeData_l5 tm_F (tm_up mI 39 17 (0 : Int32)) mL
abbrev f_Mo_takeData  (mI : tm_I) (mL : tm_L) : Option (Int32 × tm_I × tm_L) := f_Mo_takeData_b0  mI mL
set_option maxRecDepth 100000 in
set_option maxHeartbeats 4000000 in
theorem j_Mo_takeData_b116 {Γ : tm_G} {ex : List tm_Sh} {av : List Value} {X0 : tm_X} {r : Int32 × tm_I × tm_L} (C : tm_C Γ ty_Mo_takeData.1.cls ty_Mo_takeData.2.1 ty_Mo_takeData.2.2.1) (G : tm_Γ ty_Mo_takeData 2 41 0 0 av X0 (tm_is (some (.int r.1)) (sh0 ++ ex, r.2.1, r.2.2, rr)) Γ) {mI : tm_I} {mL : tm_L} (hf : f_Mo_takeData_b116  mI mL = some r) : tm_T Γ 4 0 0 116 [some (.ref 39), none, none, none] [] (sh0 ++ ex) mI mL rr := by
  have Ro := G.ro
  unfold f_Mo_takeData_b116 at hf
  refine tm_w C tfo_Mo to_Mo_takeData 0 rfl rfl rfl trivial ?_
  cases hf
  exact tm_ei C G to_Mo_takeData rfl rfl (Nat.le_refl _) rfl ⟨rfl, rfl⟩
set_option maxRecDepth 100000 in
set_option maxHeartbeats 4000000 in
theorem j_Mo_takeData_b80 {Γ : tm_G} {ex : List tm_Sh} {av : List Value} {X0 : tm_X} {r5 : tm_I → tm_L → Option (Int32 × tm_I × tm_L)} {r : Int32 × tm_I × tm_L} (C : tm_C Γ ty_Mo_takeData.1.cls ty_Mo_takeData.2.1 ty_Mo_takeData.2.2.1) (G : tm_Γ ty_Mo_takeData 2 41 0 0 av X0 (tm_is (some (.int r.1)) (sh0 ++ ex, r.2.1, r.2.2, rr)) Γ) (H5 : ∀  (mI : tm_I) (mL : tm_L), r5  mI mL = some r → tm_T Γ 4 0 0 5 [some (.ref 39), none, none, none] [] (sh0 ++ ex) mI mL rr) {x1 : Int32} {mI : tm_I} {mL : tm_L} (hf : f_Mo_takeData_b80 r5 x1 mI mL = some r) : tm_T Γ 4 0 0 80 [some (.ref 39), some (.int x1), none, none] [] (sh0 ++ ex) mI mL rr := by
  have Ro := G.ro
  unfold f_Mo_takeData_b80 at hf
  refine tm_w C tfo_Mo to_Mo_takeData 2 rfl rfl rfl ⟨rfl, trivial⟩ ?_
  refine tm_b C to_Mo_takeData rfl rfl (fun h => ?_) (fun h => ?_)
  · have hf := (if_pos h).symm.trans hf
    obtain ⟨c1, hf⟩ := tm_iteN hf
    refine tm_w C tfo_Mo to_Mo_takeData 12 rfl rfl rfl ⟨rfl, rfl, ⟨_, rfl, c1⟩, rfl, rfl, trivial⟩ ?_
    refine tm_wk (lv' := [some (.ref 39), none, none, none]) ⟨Or.inr rfl, Or.inl rfl, Or.inl rfl, Or.inl rfl, trivial⟩ ?_
    exact H5 _ _ hf
  · have hf := (if_neg h).symm.trans hf
    refine tm_w C tfo_Mo to_Mo_takeData 0 rfl rfl rfl trivial ?_
    cases hf
    exact tm_ei C G to_Mo_takeData rfl rfl (Nat.le_refl _) rfl ⟨rfl, rfl⟩
set_option maxRecDepth 100000 in
set_option maxHeartbeats 4000000 in
theorem j_Mo_takeData_l5 {Γ : tm_G} {ex : List tm_Sh} {av : List Value} {X0 : tm_X} {r : Int32 × tm_I × tm_L} (C : tm_C Γ ty_Mo_takeData.1.cls ty_Mo_takeData.2.1 ty_Mo_takeData.2.2.1) (G : tm_Γ ty_Mo_takeData 2 41 0 0 av X0 (tm_is (some (.int r.1)) (sh0 ++ ex, r.2.1, r.2.2, rr)) Γ) : ∀ (n : Nat)  (mI : tm_I) (mL : tm_L), f_Mo_takeData_l5 n  mI mL = some r → tm_T Γ 4 0 0 5 [some (.ref 39), none, none, none] [] (sh0 ++ ex) mI mL rr := by
  have Ro := G.ro
  intro n
  induction n with
  | zero => intro  mI mL hf; cases hf
  | succ n ih =>
    intro  mI mL hf
    rw [f_Mo_takeData_l5] at hf
    refine tm_w C tfo_Mo to_Mo_takeData 0 rfl rfl rfl trivial ?_
    obtain ⟨v1, hv1, hf⟩ := Option.bind_eq_some_iff.mp hf
    refine tm_cV C Ro to_Mo_takeData tl_Mo_76 rfl (ct_Mo_peek hv1) rfl rfl rfl rfl rfl rfl rfl (Nat.le_refl _) (Nat.le_refl _) ?_
    refine tm_w C tfo_Mo to_Mo_takeData 0 rfl rfl rfl trivial ?_
    refine tm_b C to_Mo_takeData rfl rfl (fun h => ?_) (fun h => ?_)
    · have hf := (if_pos h).symm.trans hf
      refine tm_wk (lv' := [some (.ref 39), none, none, none]) ⟨Or.inr rfl, Or.inl rfl, Or.inl rfl, Or.inl rfl, trivial⟩ ?_
      exact j_Mo_takeData_b116 C G hf
    · have hf := (if_neg h).symm.trans hf
      refine tm_w C tfo_Mo to_Mo_takeData 0 rfl rfl rfl trivial ?_
      obtain ⟨v2, hv2, hf⟩ := Option.bind_eq_some_iff.mp hf
      refine tm_cV C Ro to_Mo_takeData tl_Mo_76 rfl (ct_Mo_peek hv2) rfl rfl rfl rfl rfl rfl rfl (Nat.le_refl _) (Nat.le_refl _) ?_
      refine tm_w C tfo_Mo to_Mo_takeData 0 rfl rfl rfl trivial ?_
      refine tm_b C to_Mo_takeData rfl rfl (fun h => ?_) (fun h => ?_)
      · have hf := (if_pos h).symm.trans hf
        refine tm_wk (lv' := [some (.ref 39), none, none, none]) ⟨Or.inr rfl, Or.inl rfl, Or.inl rfl, Or.inl rfl, trivial⟩ ?_
        exact j_Mo_takeData_b116 C G hf
      · have hf := (if_neg h).symm.trans hf
        refine tm_w C tfo_Mo to_Mo_takeData 0 rfl rfl rfl trivial ?_
        obtain ⟨v3, hv3, hf⟩ := Option.bind_eq_some_iff.mp hf
        refine tm_cV C Ro to_Mo_takeData tl_Mo_95 rfl (ct_Mo_next hv3) rfl rfl rfl rfl rfl rfl rfl (Nat.le_refl _) (Nat.le_refl _) ?_
        refine tm_w C tfo_Mo to_Mo_takeData 2 rfl rfl rfl trivial ?_
        refine tm_b C to_Mo_takeData rfl rfl (fun h => ?_) (fun h => ?_)
        · have hf := (if_pos h).symm.trans hf
          refine tm_wk (lv' := [some (.ref 39), some (.int v3.1), none, none]) ⟨Or.inr rfl, Or.inr rfl, Or.inl rfl, Or.inl rfl, trivial⟩ ?_
          exact j_Mo_takeData_b80 C G (ih) hf
        · have hf := (if_neg h).symm.trans hf
          refine tm_w C tfo_Mo to_Mo_takeData 0 rfl rfl rfl trivial ?_
          obtain ⟨v4, hv4, hf⟩ := Option.bind_eq_some_iff.mp hf
          refine tm_cV C Ro to_Mo_takeData tl_Mo_76 rfl (ct_Mo_peek hv4) rfl rfl rfl rfl rfl rfl rfl (Nat.le_refl _) (Nat.le_refl _) ?_
          obtain ⟨v5, hv5, hf⟩ := Option.bind_eq_some_iff.mp hf
          refine tm_cS C Ro to_Mo_takeData tl_Mo_104 rfl (ct_Mo_hex hv5) rfl rfl rfl rfl rfl (Nat.le_refl _) (Nat.le_refl _) ?_
          refine tm_w C tfo_Mo to_Mo_takeData 1 rfl rfl rfl trivial ?_
          refine tm_b C to_Mo_takeData rfl rfl (fun h => ?_) (fun h => ?_)
          · have hf := (if_pos h).symm.trans hf
            refine tm_w C tfo_Mo to_Mo_takeData 0 rfl rfl rfl trivial ?_
            obtain ⟨v6, hv6, hf⟩ := Option.bind_eq_some_iff.mp hf
            refine tm_cV C Ro to_Mo_takeData tl_Mo_95 rfl (ct_Mo_next hv6) rfl rfl rfl rfl rfl rfl rfl (Nat.le_refl _) (Nat.le_refl _) ?_
            refine tm_w C tfo_Mo to_Mo_takeData 1 rfl rfl rfl trivial ?_
            obtain ⟨v7, hv7, hf⟩ := Option.bind_eq_some_iff.mp hf
            refine tm_cV C Ro to_Mo_takeData tl_Mo_76 rfl (ct_Mo_peek hv7) rfl rfl rfl rfl rfl rfl rfl (Nat.le_refl _) (Nat.le_refl _) ?_
            obtain ⟨v8, hv8, hf⟩ := Option.bind_eq_some_iff.mp hf
            refine tm_cS C Ro to_Mo_takeData tl_Mo_104 rfl (ct_Mo_hex hv8) rfl rfl rfl rfl rfl (Nat.le_refl _) (Nat.le_refl _) ?_
            refine tm_w C tfo_Mo to_Mo_takeData 1 rfl rfl rfl trivial ?_
            refine tm_b C to_Mo_takeData rfl rfl (fun h => ?_) (fun h => ?_)
            · have hf := (if_pos h).symm.trans hf
              refine tm_w C tfo_Mo to_Mo_takeData 0 rfl rfl rfl trivial ?_
              obtain ⟨v9, hv9, hf⟩ := Option.bind_eq_some_iff.mp hf
              refine tm_cV C Ro to_Mo_takeData tl_Mo_95 rfl (ct_Mo_next hv9) rfl rfl rfl rfl rfl rfl rfl (Nat.le_refl _) (Nat.le_refl _) ?_
              refine tm_w C tfo_Mo to_Mo_takeData 6 rfl rfl rfl trivial ?_
              refine tm_wk (lv' := [some (.ref 39), some (.int (((16 : Int32) * v5.1) + v8.1)), none, none]) ⟨Or.inr rfl, Or.inr rfl, Or.inl rfl, Or.inl rfl, trivial⟩ ?_
              exact j_Mo_takeData_b80 C G (ih) hf
            · have hf := (if_neg h).symm.trans hf
              refine tm_w C tfo_Mo to_Mo_takeData 0 rfl rfl rfl trivial ?_
              cases hf
              exact tm_ei C G to_Mo_takeData rfl rfl (Nat.le_refl _) rfl ⟨rfl, rfl⟩
          · have hf := (if_neg h).symm.trans hf
            refine tm_w C tfo_Mo to_Mo_takeData 0 rfl rfl rfl trivial ?_
            cases hf
            exact tm_ei C G to_Mo_takeData rfl rfl (Nat.le_refl _) rfl ⟨rfl, rfl⟩
set_option maxRecDepth 100000 in
set_option maxHeartbeats 4000000 in
theorem j_Mo_takeData_b0 {Γ : tm_G} {ex : List tm_Sh} {av : List Value} {X0 : tm_X} {r : Int32 × tm_I × tm_L} (C : tm_C Γ ty_Mo_takeData.1.cls ty_Mo_takeData.2.1 ty_Mo_takeData.2.2.1) (G : tm_Γ ty_Mo_takeData 2 41 0 0 av X0 (tm_is (some (.int r.1)) (sh0 ++ ex, r.2.1, r.2.2, rr)) Γ) {mI : tm_I} {mL : tm_L} (hf : f_Mo_takeData_b0  mI mL = some r) : tm_T Γ 4 0 0 0 [some (.ref 39), none, none, none] [] (sh0 ++ ex) mI mL rr := by
  have Ro := G.ro
  unfold f_Mo_takeData_b0 at hf
  refine tm_w C tfo_Mo to_Mo_takeData 2 rfl rfl rfl ⟨rfl, trivial⟩ ?_
  refine tm_wk (lv' := [some (.ref 39), none, none, none]) ⟨Or.inr rfl, Or.inl rfl, Or.inl rfl, Or.inl rfl, trivial⟩ ?_
  exact j_Mo_takeData_l5 C G _ _ _ hf
set_option maxRecDepth 100000 in
theorem ct_Mo_takeData {ex : List tm_Sh}  {mI : tm_I} {mL : tm_L} {r : Int32 × tm_I × tm_L} (hf : f_Mo_takeData  mI mL = some r) : tm_M ty_Mo_takeData 2 41 0 0 [.ref 39] (sh0 ++ ex, mI, mL, rr) (tm_is (some (.int r.1)) (sh0 ++ ex, r.2.1, r.2.2, rr)) := by
  refine tm_body (by decide) (Nat.le_of_ble_eq_true rfl) fun Γ C G => ?_
  exact j_Mo_takeData_b0 C G hf
/-! Mo_formSize -/
def f_Mo_formSize_b50 (r2 : Int32 → tm_I → tm_L → Option (Int32 × tm_I × tm_L)) (x1 : Int32) (mI : tm_I) (mL : tm_L) : Option (Int32 × tm_I × tm_L) := r2 (x1 + (1 : Int32)) mI mL
def f_Mo_formSize_l2 : Nat → Int32 → tm_I → tm_L → Option (Int32 × tm_I × tm_L)
  | 0, _, _, _ => none
  | n + 1, x1, mI, mL => if (mI 39 8) ≤ (x1 + (1 : Int32)) then some ((-1 : Int32), mI, mL) else if ¬ ((((mI 39 8) - (1 : Int32)) - x1) < 0 ∨ 5800 ≤ Int32.toNatClampNeg (((mI 39 8) - (1 : Int32)) - x1)) then if ¬ (mI 45 (Int32.toNatClampNeg (((mI 39 8) - (1 : Int32)) - x1))) = (94 : Int32) then f_Mo_formSize_b50 (f_Mo_formSize_l2 n) x1 mI mL else if ¬ ((((mI 39 8) - (2 : Int32)) - x1) < 0 ∨ 5800 ≤ Int32.toNatClampNeg (((mI 39 8) - (2 : Int32)) - x1)) then if ¬ (mI 45 (Int32.toNatClampNeg (((mI 39 8) - (2 : Int32)) - x1))) = (90 : Int32) then f_Mo_formSize_b50 (f_Mo_formSize_l2 n) x1 mI mL else some (x1, mI, mL) else none else none
def f_Mo_formSize_b0  (mI : tm_I) (mL : tm_L) : Option (Int32 × tm_I × tm_L) := f_Mo_formSize_l2 tm_F (0 : Int32) mI mL
abbrev f_Mo_formSize  (mI : tm_I) (mL : tm_L) : Option (Int32 × tm_I × tm_L) := f_Mo_formSize_b0  mI mL
set_option maxRecDepth 100000 in
set_option maxHeartbeats 4000000 in
theorem j_Mo_formSize_b50 {Γ : tm_G} {ex : List tm_Sh} {av : List Value} {X0 : tm_X} {r2 : Int32 → tm_I → tm_L → Option (Int32 × tm_I × tm_L)} {r : Int32 × tm_I × tm_L} (C : tm_C Γ ty_Mo_formSize.1.cls ty_Mo_formSize.2.1 ty_Mo_formSize.2.2.1) (G : tm_Γ ty_Mo_formSize 0 0 0 0 av X0 (tm_is (some (.int r.1)) (sh0 ++ ex, r.2.1, r.2.2, rr)) Γ) (H2 : ∀ (x1 : Int32) (mI : tm_I) (mL : tm_L), r2 x1 mI mL = some r → tm_T Γ 2 0 0 2 [some (.ref 39), some (.int x1)] [] (sh0 ++ ex) mI mL rr) {x1 : Int32} {mI : tm_I} {mL : tm_L} (hf : f_Mo_formSize_b50 r2 x1 mI mL = some r) : tm_T Γ 2 0 0 50 [some (.ref 39), some (.int x1)] [] (sh0 ++ ex) mI mL rr := by
  have Ro := G.ro
  unfold f_Mo_formSize_b50 at hf
  refine tm_w C tfo_Mo to_Mo_formSize 1 rfl rfl rfl trivial ?_
  refine tm_wk (lv' := [some (.ref 39), some (.int (x1 + (1 : Int32)))]) ⟨Or.inr rfl, Or.inr rfl, trivial⟩ ?_
  exact H2 _ _ _ hf
set_option maxRecDepth 100000 in
set_option maxHeartbeats 4000000 in
theorem j_Mo_formSize_l2 {Γ : tm_G} {ex : List tm_Sh} {av : List Value} {X0 : tm_X} {r : Int32 × tm_I × tm_L} (C : tm_C Γ ty_Mo_formSize.1.cls ty_Mo_formSize.2.1 ty_Mo_formSize.2.2.1) (G : tm_Γ ty_Mo_formSize 0 0 0 0 av X0 (tm_is (some (.int r.1)) (sh0 ++ ex, r.2.1, r.2.2, rr)) Γ) : ∀ (n : Nat) (x1 : Int32) (mI : tm_I) (mL : tm_L), f_Mo_formSize_l2 n x1 mI mL = some r → tm_T Γ 2 0 0 2 [some (.ref 39), some (.int x1)] [] (sh0 ++ ex) mI mL rr := by
  have Ro := G.ro
  intro n
  induction n with
  | zero => intro x1 mI mL hf; cases hf
  | succ n ih =>
    intro x1 mI mL hf
    rw [f_Mo_formSize_l2] at hf
    refine tm_w C tfo_Mo to_Mo_formSize 4 rfl rfl rfl ⟨rfl, trivial⟩ ?_
    refine tm_b C to_Mo_formSize rfl rfl (fun h => ?_) (fun h => ?_)
    · have hf := (if_pos h).symm.trans hf
      refine tm_w C tfo_Mo to_Mo_formSize 0 rfl rfl rfl trivial ?_
      cases hf
      exact tm_ei C G to_Mo_formSize rfl rfl (Nat.le_refl _) rfl ⟨rfl, rfl⟩
    · have hf := (if_neg h).symm.trans hf
      obtain ⟨c1, hf⟩ := tm_iteN hf
      refine tm_w C tfo_Mo to_Mo_formSize 9 rfl rfl rfl ⟨rfl, rfl, ⟨_, rfl, c1⟩, trivial⟩ ?_
      refine tm_b C to_Mo_formSize rfl rfl (fun h => ?_) (fun h => ?_)
      · have hf := (if_pos h).symm.trans hf
        refine tm_wk (lv' := [some (.ref 39), some (.int x1)]) ⟨Or.inr rfl, Or.inr rfl, trivial⟩ ?_
        exact j_Mo_formSize_b50 C G (ih) hf
      · have hf := (if_neg h).symm.trans hf
        obtain ⟨c2, hf⟩ := tm_iteN hf
        refine tm_w C tfo_Mo to_Mo_formSize 9 rfl rfl rfl ⟨rfl, rfl, ⟨_, rfl, c2⟩, trivial⟩ ?_
        refine tm_b C to_Mo_formSize rfl rfl (fun h => ?_) (fun h => ?_)
        · have hf := (if_pos h).symm.trans hf
          refine tm_wk (lv' := [some (.ref 39), some (.int x1)]) ⟨Or.inr rfl, Or.inr rfl, trivial⟩ ?_
          exact j_Mo_formSize_b50 C G (ih) hf
        · have hf := (if_neg h).symm.trans hf
          refine tm_w C tfo_Mo to_Mo_formSize 0 rfl rfl rfl trivial ?_
          cases hf
          exact tm_ei C G to_Mo_formSize rfl rfl (Nat.le_refl _) rfl ⟨rfl, rfl⟩
set_option maxRecDepth 100000 in
set_option maxHeartbeats 4000000 in
theorem j_Mo_formSize_b0 {Γ : tm_G} {ex : List tm_Sh} {av : List Value} {X0 : tm_X} {r : Int32 × tm_I × tm_L} (C : tm_C Γ ty_Mo_formSize.1.cls ty_Mo_formSize.2.1 ty_Mo_formSize.2.2.1) (G : tm_Γ ty_Mo_formSize 0 0 0 0 av X0 (tm_is (some (.int r.1)) (sh0 ++ ex, r.2.1, r.2.2, rr)) Γ) {mI : tm_I} {mL : tm_L} (hf : f_Mo_formSize_b0  mI mL = some r) : tm_T Γ 2 0 0 0 [some (.ref 39), none] [] (sh0 ++ ex) mI mL rr := by
  have Ro := G.ro
  unfold f_Mo_formSize_b0 at hf
  refine tm_w C tfo_Mo to_Mo_formSize 1 rfl rfl rfl trivial ?_
  refine tm_wk (lv' := [some (.ref 39), some (.int (0 : Int32))]) ⟨Or.inr rfl, Or.inr rfl, trivial⟩ ?_
  exact j_Mo_formSize_l2 C G _ _ _ _ hf
set_option maxRecDepth 100000 in
theorem ct_Mo_formSize {ex : List tm_Sh}  {mI : tm_I} {mL : tm_L} {r : Int32 × tm_I × tm_L} (hf : f_Mo_formSize  mI mL = some r) : tm_M ty_Mo_formSize 0 0 0 0 [.ref 39] (sh0 ++ ex, mI, mL, rr) (tm_is (some (.int r.1)) (sh0 ++ ex, r.2.1, r.2.2, rr)) := by
  refine tm_body (by decide) (Nat.le_of_ble_eq_true rfl) fun Γ C G => ?_
  exact j_Mo_formSize_b0 C G hf
/-! Mo_newField -/
def f_Mo_newField_l2 : Nat → Int32 → tm_I → tm_L → Option (Int32 × tm_I × tm_L)
  | 0, _, _, _ => none
  | n + 1, x1, mI, mL => if (16 : Int32) ≤ x1 then if ¬ ((0 : Int32) < 0 ∨ 16 ≤ Int32.toNatClampNeg (0 : Int32)) then some (0, tm_up mI 49 (Int32.toNatClampNeg (0 : Int32)) (-1 : Int32), mL) else none else if ¬ (x1 < 0 ∨ 16 ≤ Int32.toNatClampNeg x1) then (f_Mo_newField_l2 n) (x1 + (1 : Int32)) (tm_up mI 49 (Int32.toNatClampNeg x1) (0 : Int32)) mL else none
def f_Mo_newField_b0  (mI : tm_I) (mL : tm_L) : Option (Int32 × tm_I × tm_L) := f_Mo_newField_l2 tm_F (0 : Int32) mI mL
abbrev f_Mo_newField  (mI : tm_I) (mL : tm_L) : Option (Int32 × tm_I × tm_L) := f_Mo_newField_b0  mI mL
set_option maxRecDepth 100000 in
set_option maxHeartbeats 4000000 in
theorem j_Mo_newField_l2 {Γ : tm_G} {ex : List tm_Sh} {av : List Value} {X0 : tm_X} {r : Int32 × tm_I × tm_L} (C : tm_C Γ ty_Mo_newField.1.cls ty_Mo_newField.2.1 ty_Mo_newField.2.2.1) (G : tm_Γ ty_Mo_newField 0 0 0 0 av X0 (tm_is none (sh0 ++ ex, r.2.1, r.2.2, rr)) Γ) : ∀ (n : Nat) (x1 : Int32) (mI : tm_I) (mL : tm_L), f_Mo_newField_l2 n x1 mI mL = some r → tm_T Γ 2 0 0 2 [some (.ref 39), some (.int x1)] [] (sh0 ++ ex) mI mL rr := by
  have Ro := G.ro
  intro n
  induction n with
  | zero => intro x1 mI mL hf; cases hf
  | succ n ih =>
    intro x1 mI mL hf
    rw [f_Mo_newField_l2] at hf
    refine tm_w C tfo_Mo to_Mo_newField 1 rfl rfl rfl trivial ?_
    refine tm_b C to_Mo_newField rfl rfl (fun h => ?_) (fun h => ?_)
    · have hf := (if_pos h).symm.trans hf
      obtain ⟨c1, hf⟩ := tm_iteN hf
      refine tm_w C tfo_Mo to_Mo_newField 4 rfl rfl rfl ⟨rfl, ⟨_, rfl, c1⟩, trivial⟩ ?_
      cases hf
      exact tm_ev C G to_Mo_newField rfl rfl (Nat.le_refl _) ⟨rfl, rfl⟩
    · have hf := (if_neg h).symm.trans hf
      obtain ⟨c2, hf⟩ := tm_iteN hf
      refine tm_w C tfo_Mo to_Mo_newField 6 rfl rfl rfl ⟨rfl, ⟨_, rfl, c2⟩, trivial⟩ ?_
      refine tm_wk (lv' := [some (.ref 39), some (.int (x1 + (1 : Int32)))]) ⟨Or.inr rfl, Or.inr rfl, trivial⟩ ?_
      exact ih _ _ _ hf
set_option maxRecDepth 100000 in
set_option maxHeartbeats 4000000 in
theorem j_Mo_newField_b0 {Γ : tm_G} {ex : List tm_Sh} {av : List Value} {X0 : tm_X} {r : Int32 × tm_I × tm_L} (C : tm_C Γ ty_Mo_newField.1.cls ty_Mo_newField.2.1 ty_Mo_newField.2.2.1) (G : tm_Γ ty_Mo_newField 0 0 0 0 av X0 (tm_is none (sh0 ++ ex, r.2.1, r.2.2, rr)) Γ) {mI : tm_I} {mL : tm_L} (hf : f_Mo_newField_b0  mI mL = some r) : tm_T Γ 2 0 0 0 [some (.ref 39), none] [] (sh0 ++ ex) mI mL rr := by
  have Ro := G.ro
  unfold f_Mo_newField_b0 at hf
  refine tm_w C tfo_Mo to_Mo_newField 1 rfl rfl rfl trivial ?_
  refine tm_wk (lv' := [some (.ref 39), some (.int (0 : Int32))]) ⟨Or.inr rfl, Or.inr rfl, trivial⟩ ?_
  exact j_Mo_newField_l2 C G _ _ _ _ hf
set_option maxRecDepth 100000 in
theorem ct_Mo_newField {ex : List tm_Sh}  {mI : tm_I} {mL : tm_L} {r : Int32 × tm_I × tm_L} (hf : f_Mo_newField  mI mL = some r) : tm_M ty_Mo_newField 0 0 0 0 [.ref 39] (sh0 ++ ex, mI, mL, rr) (tm_is none (sh0 ++ ex, r.2.1, r.2.2, rr)) := by
  refine tm_body (by decide) (Nat.le_of_ble_eq_true rfl) fun Γ C G => ?_
  exact j_Mo_newField_b0 C G hf
