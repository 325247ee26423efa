/-! La_isAmong -/
def f_La_isAmong_b14 (x0 : Nat) (x1 : Int32) (s0 : Int32) (mI : tm_I) (mL : tm_L) : Option (Int32 × tm_I × tm_L) := if s0 = 0 ∨ s0 = 1 then some (s0, mI, mL) else none
def f_La_isAmong_b0 (x0 : Nat) (x1 : Int32) (mI : tm_I) (mL : tm_L) : Option (Int32 × tm_I × tm_L) := if x0 < 7 then (f_St_indexOf x0 ((Int32.toUInt32 x1 % 65536).toInt32) mI mL).bind fun v1 => if v1.1 < 0 then f_La_isAmong_b14 x0 x1 (0 : Int32) v1.2.1 v1.2.2 else f_La_isAmong_b14 x0 x1 (1 : Int32) v1.2.1 v1.2.2 else none
abbrev f_La_isAmong (p0 : Nat) (p1 : Int32) (mI : tm_I) (mL : tm_L) : Option (Int32 × tm_I × tm_L) := f_La_isAmong_b0 p0 p1 mI mL
set_option maxRecDepth 100000 in
set_option maxHeartbeats 4000000 in
theorem j_La_isAmong_b14 {Γ : tm_G} {ex : List tm_Sh} {av : List Value} {X0 : tm_X} {r : Int32 × tm_I × tm_L} (C : tm_C Γ ty_La_isAmong.1.cls ty_La_isAmong.2.1 ty_La_isAmong.2.2.1) (G : tm_Γ ty_La_isAmong 4 91 0 0 av X0 (tm_is (some (.int r.1)) (sh0 ++ ex, r.2.1, r.2.2, rr)) Γ) {x0 : Nat} {x1 : Int32} {s0 : Int32} {mI : tm_I} {mL : tm_L} (hf : f_La_isAmong_b14 x0 x1 s0 mI mL = some r) : tm_T Γ 2 0 0 14 [some (.ref (1000101 + x0)), some (.int x1)] [.int s0] (sh0 ++ ex) mI mL rr := by
  have Ro := G.ro
  unfold f_La_isAmong_b14 at hf
  obtain ⟨c1, hf⟩ := tm_iteN hf
  cases hf
  exact tm_ei C G to_La_isAmong rfl rfl (Nat.le_refl _) (tm_nz c1) ⟨rfl, rfl⟩
set_option maxRecDepth 100000 in
set_option maxHeartbeats 4000000 in
theorem j_La_isAmong_b0 {Γ : tm_G} {ex : List tm_Sh} {av : List Value} {X0 : tm_X} {r : Int32 × tm_I × tm_L} (C : tm_C Γ ty_La_isAmong.1.cls ty_La_isAmong.2.1 ty_La_isAmong.2.2.1) (G : tm_Γ ty_La_isAmong 4 91 0 0 av X0 (tm_is (some (.int r.1)) (sh0 ++ ex, r.2.1, r.2.2, rr)) Γ) {x0 : Nat} {x1 : Int32} {mI : tm_I} {mL : tm_L} (hf : f_La_isAmong_b0 x0 x1 mI mL = some r) : tm_T Γ 2 0 0 0 [some (.ref (1000101 + x0)), some (.int x1)] [] (sh0 ++ ex) mI mL rr := by
  have Ro := G.ro
  unfold f_La_isAmong_b0 at hf
  refine tm_w C tfo_La to_La_isAmong 2 rfl rfl rfl trivial ?_
  obtain ⟨c2, hf⟩ := tm_iteN hf
  obtain ⟨v1, hv1, hf⟩ := Option.bind_eq_some_iff.mp hf
  refine tm_cT C Ro to_La_isAmong tl_La_221 rfl c2 (ct_St_indexOf hv1) rfl rfl rfl rfl rfl rfl (Nat.le_refl _) (Nat.le_refl _) ?_
  refine tm_b C to_La_isAmong rfl rfl (fun h => ?_) (fun h => ?_)
  · have hf := (if_pos h).symm.trans hf
    refine tm_w C tfo_La to_La_isAmong 0 rfl rfl rfl trivial ?_
    refine tm_wk (lv' := [some (.ref (1000101 + x0)), some (.int x1)]) ⟨Or.inr rfl, Or.inr rfl, trivial⟩ ?_
    exact j_La_isAmong_b14 C G hf
  · have hf := (if_neg h).symm.trans hf
    refine tm_w C tfo_La to_La_isAmong 1 rfl rfl rfl trivial ?_
    refine tm_wk (lv' := [some (.ref (1000101 + x0)), some (.int x1)]) ⟨Or.inr rfl, Or.inr rfl, trivial⟩ ?_
    exact j_La_isAmong_b14 C G hf
set_option maxRecDepth 100000 in
theorem ct_La_isAmong {ex : List tm_Sh} {p0 : Nat} {p1 : Int32} {mI : tm_I} {mL : tm_L} {r : Int32 × tm_I × tm_L} (hf : f_La_isAmong p0 p1 mI mL = some r) : tm_M ty_La_isAmong 4 91 0 0 [.ref (1000101 + p0), .int p1] (sh0 ++ ex, mI, mL, rr) (tm_is (some (.int r.1)) (sh0 ++ ex, r.2.1, r.2.2, rr)) := by
  refine tm_body (by decide) (Nat.le_of_ble_eq_true rfl) fun Γ C G => ?_
  exact j_La_isAmong_b0 C G hf
/-! La_isLetter -/
def f_La_isLetter_b28 (x0 : Int32) (s0 : Int32) (mI : tm_I) (mL : tm_L) : Option (Int32 × tm_I × tm_L) := if s0 = 0 ∨ s0 = 1 then some (s0, mI, mL) else none
def f_La_isLetter_b27 (x0 : Int32) (mI : tm_I) (mL : tm_L) : Option (Int32 × tm_I × tm_L) := f_La_isLetter_b28 x0 (0 : Int32) mI mL
def f_La_isLetter_b23 (x0 : Int32) (mI : tm_I) (mL : tm_L) : Option (Int32 × tm_I × tm_L) := f_La_isLetter_b28 x0 (1 : Int32) mI mL
def f_La_isLetter_b0 (x0 : Int32) (mI : tm_I) (mL : tm_L) : Option (Int32 × tm_I × tm_L) := if x0 = (-1 : Int32) then f_La_isLetter_b27 x0 mI mL else (f_La_isAmong 0 x0 mI mL).bind fun v1 => if ¬ v1.1 = 0 then f_La_isLetter_b23 x0 v1.2.1 v1.2.2 else (f_La_isAmong 1 x0 v1.2.1 v1.2.2).bind fun v2 => if v2.1 = 0 then f_La_isLetter_b27 x0 v2.2.1 v2.2.2 else f_La_isLetter_b23 x0 v2.2.1 v2.2.2
abbrev f_La_isLetter (p0 : Int32) (mI : tm_I) (mL : tm_L) : Option (Int32 × tm_I × tm_L) := f_La_isLetter_b0 p0 mI mL
set_option maxRecDepth 100000 in
set_option maxHeartbeats 4000000 in
theorem j_La_isLetter_b28 {Γ : tm_G} {ex : List tm_Sh} {av : List Value} {X0 : tm_X} {r : Int32 × tm_I × tm_L} (C : tm_C Γ ty_La_isLetter.1.cls ty_La_isLetter.2.1 ty_La_isLetter.2.2.1) (G : tm_Γ ty_La_isLetter 5 112 0 0 av X0 (tm_is (some (.int r.1)) (sh0 ++ ex, r.2.1, r.2.2, rr)) Γ) {x0 : Int32} {s0 : Int32} {mI : tm_I} {mL : tm_L} (hf : f_La_isLetter_b28 x0 s0 mI mL = some r) : tm_T Γ 1 0 0 28 [some (.int x0)] [.int s0] (sh0 ++ ex) mI mL rr := by
  have Ro := G.ro
  unfold f_La_isLetter_b28 at hf
  obtain ⟨c1, hf⟩ := tm_iteN hf
  cases hf
  exact tm_ei C G to_La_isLetter rfl rfl (Nat.le_refl _) (tm_nz c1) ⟨rfl, rfl⟩
set_option maxRecDepth 100000 in
set_option maxHeartbeats 4000000 in
theorem j_La_isLetter_b27 {Γ : tm_G} {ex : List tm_Sh} {av : List Value} {X0 : tm_X} {r : Int32 × tm_I × tm_L} (C : tm_C Γ ty_La_isLetter.1.cls ty_La_isLetter.2.1 ty_La_isLetter.2.2.1) (G : tm_Γ ty_La_isLetter 5 112 0 0 av X0 (tm_is (some (.int r.1)) (sh0 ++ ex, r.2.1, r.2.2, rr)) Γ) {x0 : Int32} {mI : tm_I} {mL : tm_L} (hf : f_La_isLetter_b27 x0 mI mL = some r) : tm_T Γ 1 0 0 27 [some (.int x0)] [] (sh0 ++ ex) mI mL rr := by
  have Ro := G.ro
  unfold f_La_isLetter_b27 at hf
  refine tm_w C tfo_La to_La_isLetter 0 rfl rfl rfl trivial ?_
  refine tm_wk (lv' := [some (.int x0)]) ⟨Or.inr rfl, trivial⟩ ?_
  exact j_La_isLetter_b28 C G hf
set_option maxRecDepth 100000 in
set_option maxHeartbeats 4000000 in
theorem j_La_isLetter_b23 {Γ : tm_G} {ex : List tm_Sh} {av : List Value} {X0 : tm_X} {r : Int32 × tm_I × tm_L} (C : tm_C Γ ty_La_isLetter.1.cls ty_La_isLetter.2.1 ty_La_isLetter.2.2.1) (G : tm_Γ ty_La_isLetter 5 112 0 0 av X0 (tm_is (some (.int r.1)) (sh0 ++ ex, r.2.1, r.2.2, rr)) Γ) {x0 : Int32} {mI : tm_I} {mL : tm_L} (hf : f_La_isLetter_b23 x0 mI mL = some r) : tm_T Γ 1 0 0 23 [some (.int x0)] [] (sh0 ++ ex) mI mL rr := by
  have Ro := G.ro
  unfold f_La_isLetter_b23 at hf
  refine tm_w C tfo_La to_La_isLetter 1 rfl rfl rfl trivial ?_
  refine tm_wk (lv' := [some (.int x0)]) ⟨Or.inr rfl, trivial⟩ ?_
  exact j_La_isLetter_b28 C G hf
set_option maxRecDepth 100000 in
set_option maxHeartbeats 4000000 in
theorem j_La_isLetter_b0 {Γ : tm_G} {ex : List tm_Sh} {av : List Value} {X0 : tm_X} {r : Int32 × tm_I × tm_L} (C : tm_C Γ ty_La_isLetter.1.cls ty_La_isLetter.2.1 ty_La_isLetter.2.2.1) (G : tm_Γ ty_La_isLetter 5 112 0 0 av X0 (tm_is (some (.int r.1)) (sh0 ++ ex, r.2.1, r.2.2, rr)) Γ) {x0 : Int32} {mI : tm_I} {mL : tm_L} (hf : f_La_isLetter_b0 x0 mI mL = some r) : tm_T Γ 1 0 0 0 [some (.int x0)] [] (sh0 ++ ex) mI mL rr := by
  have Ro := G.ro
  unfold f_La_isLetter_b0 at hf
  refine tm_w C tfo_La to_La_isLetter 1 rfl rfl rfl trivial ?_
  refine tm_b C to_La_isLetter rfl rfl (fun h => ?_) (fun h => ?_)
  · have hf := (if_pos h).symm.trans hf
    refine tm_wk (lv' := [some (.int x0)]) ⟨Or.inr rfl, trivial⟩ ?_
    exact j_La_isLetter_b27 C G hf
  · have hf := (if_neg h).symm.trans hf
    refine tm_ldcT C to_La_isLetter rfl 0 rfl ?_
    refine tm_w C tfo_La to_La_isLetter 0 rfl rfl rfl trivial ?_
    obtain ⟨v1, hv1, hf⟩ := Option.bind_eq_some_iff.mp hf
    refine tm_cS C Ro to_La_isLetter tl_La_215 rfl (ct_La_isAmong hv1) rfl rfl rfl rfl rfl (Nat.le_refl _) (Nat.le_refl _) ?_
    refine tm_b C to_La_isLetter rfl rfl (fun h => ?_) (fun h => ?_)
    · have hf := (if_pos h).symm.trans hf
      refine tm_wk (lv' := [some (.int x0)]) ⟨Or.inr rfl, trivial⟩ ?_
      exact j_La_isLetter_b23 C G hf
    · have hf := (if_neg h).symm.trans hf
      refine tm_ldcT C to_La_isLetter rfl 1 rfl ?_
      refine tm_w C tfo_La to_La_isLetter 0 rfl rfl rfl trivial ?_
      obtain ⟨v2, hv2, hf⟩ := Option.bind_eq_some_iff.mp hf
      refine tm_cS C Ro to_La_isLetter tl_La_215 rfl (ct_La_isAmong hv2) rfl rfl rfl rfl rfl (Nat.le_refl _) (Nat.le_refl _) ?_
      refine tm_b C to_La_isLetter rfl rfl (fun h => ?_) (fun h => ?_)
      · have hf := (if_pos h).symm.trans hf
        refine tm_wk (lv' := [some (.int x0)]) ⟨Or.inr rfl, trivial⟩ ?_
        exact j_La_isLetter_b27 C G hf
      · have hf := (if_neg h).symm.trans hf
        refine tm_wk (lv' := [some (.int x0)]) ⟨Or.inr rfl, trivial⟩ ?_
        exact j_La_isLetter_b23 C G hf
set_option maxRecDepth 100000 in
theorem ct_La_isLetter {ex : List tm_Sh} {p0 : Int32} {mI : tm_I} {mL : tm_L} {r : Int32 × tm_I × tm_L} (hf : f_La_isLetter p0 mI mL = some r) : tm_M ty_La_isLetter 5 112 0 0 [.int p0] (sh0 ++ ex, mI, mL, rr) (tm_is (some (.int r.1)) (sh0 ++ ex, r.2.1, r.2.2, rr)) := by
  refine tm_body (by decide) (Nat.le_of_ble_eq_true rfl) fun Γ C G => ?_
  exact j_La_isLetter_b0 C G hf
/-! La_mayStand -/
def f_La_mayStand_b38 (x1 : Int32) (s0 : Int32) (mI : tm_I) (mL : tm_L) : Option (Int32 × tm_I × tm_L) := if s0 = 0 ∨ s0 = 1 then some (s0, mI, mL) else none
def f_La_mayStand_b0 (x1 : Int32) (mI : tm_I) (mL : tm_L) : Option (Int32 × tm_I × tm_L) := if ¬ (mI 19 5) = 0 then if ¬ x1 = (69 : Int32) then if ¬ x1 = (59 : Int32) then (f_La_isAmong 1 x1 mI mL).bind fun v1 => if v1.1 = 0 ∨ v1.1 = 1 then some (v1.1, v1.2.1, v1.2.2) else none else (f_Fi_hasKind mI mL).bind fun v2 => if v2.1 = 0 ∨ v2.1 = 1 then some (v2.1, v2.2.1, v2.2.2) else none else (f_Sc_isInForm mI mL).bind fun v3 => if ¬ v3.1 = 0 then f_La_mayStand_b38 x1 (0 : Int32) v3.2.1 v3.2.2 else f_La_mayStand_b38 x1 (1 : Int32) v3.2.1 v3.2.2 else (f_La_isAmong 0 x1 mI mL).bind fun v4 => if v4.1 = 0 ∨ v4.1 = 1 then some (v4.1, v4.2.1, v4.2.2) else none
abbrev f_La_mayStand (p0 : Int32) (mI : tm_I) (mL : tm_L) : Option (Int32 × tm_I × tm_L) := f_La_mayStand_b0 p0 mI mL
set_option maxRecDepth 100000 in
set_option maxHeartbeats 4000000 in
theorem j_La_mayStand_b38 {Γ : tm_G} {ex : List tm_Sh} {av : List Value} {X0 : tm_X} {r : Int32 × tm_I × tm_L} (C : tm_C Γ ty_La_mayStand.1.cls ty_La_mayStand.2.1 ty_La_mayStand.2.2.1) (G : tm_Γ ty_La_mayStand 5 112 0 0 av X0 (tm_is (some (.int r.1)) (sh0 ++ ex, r.2.1, r.2.2, rr)) Γ) {x1 : Int32} {s0 : Int32} {mI : tm_I} {mL : tm_L} (hf : f_La_mayStand_b38 x1 s0 mI mL = some r) : tm_T Γ 2 0 0 38 [some (.ref 0), some (.int x1)] [.int s0] (sh0 ++ ex) mI mL rr := by
  have Ro := G.ro
  unfold f_La_mayStand_b38 at hf
  obtain ⟨c1, hf⟩ := tm_iteN hf
  cases hf
  exact tm_ei C G to_La_mayStand rfl rfl (Nat.le_refl _) (tm_nz c1) ⟨rfl, rfl⟩
set_option maxRecDepth 100000 in
set_option maxHeartbeats 4000000 in
theorem j_La_mayStand_b0 {Γ : tm_G} {ex : List tm_Sh} {av : List Value} {X0 : tm_X} {r : Int32 × tm_I × tm_L} (C : tm_C Γ ty_La_mayStand.1.cls ty_La_mayStand.2.1 ty_La_mayStand.2.2.1) (G : tm_Γ ty_La_mayStand 5 112 0 0 av X0 (tm_is (some (.int r.1)) (sh0 ++ ex, r.2.1, r.2.2, rr)) Γ) {x1 : Int32} {mI : tm_I} {mL : tm_L} (hf : f_La_mayStand_b0 x1 mI mL = some r) : tm_T Γ 2 0 0 0 [some (.ref 0), some (.int x1)] [] (sh0 ++ ex) mI mL rr := by
  have Ro := G.ro
  unfold f_La_mayStand_b0 at hf
  refine tm_w C tfo_La to_La_mayStand 2 rfl rfl rfl ⟨rfl, rfl, trivial⟩ ?_
  refine tm_b C to_La_mayStand rfl rfl (fun h => ?_) (fun h => ?_)
  · have hf := (if_pos h).symm.trans hf
    refine tm_w C tfo_La to_La_mayStand 1 rfl rfl rfl trivial ?_
    refine tm_b C to_La_mayStand rfl rfl (fun h => ?_) (fun h => ?_)
    · have hf := (if_pos h).symm.trans hf
      refine tm_w C tfo_La to_La_mayStand 1 rfl rfl rfl trivial ?_
      refine tm_b C to_La_mayStand rfl rfl (fun h => ?_) (fun h => ?_)
      · have hf := (if_pos h).symm.trans hf
        refine tm_ldcT C to_La_mayStand rfl 1 rfl ?_
        refine tm_w C tfo_La to_La_mayStand 0 rfl rfl rfl trivial ?_
        obtain ⟨v1, hv1, hf⟩ := Option.bind_eq_some_iff.mp hf
        refine tm_cS C Ro to_La_mayStand tl_La_215 rfl (ct_La_isAmong hv1) rfl rfl rfl rfl rfl (Nat.le_refl _) (Nat.le_refl _) ?_
        obtain ⟨c2, hf⟩ := tm_iteN hf
        cases hf
        exact tm_ei C G to_La_mayStand rfl rfl (Nat.le_refl _) (tm_nz c2) ⟨rfl, rfl⟩
      · have hf := (if_neg h).symm.trans hf
        refine tm_w C tfo_La to_La_mayStand 2 rfl rfl rfl ⟨rfl, rfl, trivial⟩ ?_
        obtain ⟨v2, hv2, hf⟩ := Option.bind_eq_some_iff.mp hf
        refine tm_cV C Ro to_La_mayStand tl_La_229 rfl (ct_Fi_hasKind hv2) rfl rfl rfl rfl rfl rfl rfl (Nat.le_refl _) (Nat.le_refl _) ?_
        obtain ⟨c3, hf⟩ := tm_iteN hf
        cases hf
        exact tm_ei C G to_La_mayStand rfl rfl (Nat.le_refl _) (tm_nz c3) ⟨rfl, rfl⟩
    · have hf := (if_neg h).symm.trans hf
      refine tm_w C tfo_La to_La_mayStand 1 rfl rfl rfl ⟨rfl, trivial⟩ ?_
      obtain ⟨v3, hv3, hf⟩ := Option.bind_eq_some_iff.mp hf
      refine tm_cV C Ro to_La_mayStand tl_La_226 rfl (ct_Sc_isInForm hv3) rfl rfl rfl rfl rfl rfl rfl (Nat.le_refl _) (Nat.le_refl _) ?_
      refine tm_b C to_La_mayStand rfl rfl (fun h => ?_) (fun h => ?_)
      · have hf := (if_pos h).symm.trans hf
        refine tm_w C tfo_La to_La_mayStand 0 rfl rfl rfl trivial ?_
        refine tm_wk (lv' := [some (.ref 0), some (.int x1)]) ⟨Or.inr rfl, Or.inr rfl, trivial⟩ ?_
        exact j_La_mayStand_b38 C G hf
      · have hf := (if_neg h).symm.trans hf
        refine tm_w C tfo_La to_La_mayStand 1 rfl rfl rfl trivial ?_
        refine tm_wk (lv' := [some (.ref 0), some (.int x1)]) ⟨Or.inr rfl, Or.inr rfl, trivial⟩ ?_
        exact j_La_mayStand_b38 C G hf
  · have hf := (if_neg h).symm.trans hf
    refine tm_ldcT C to_La_mayStand rfl 0 rfl ?_
    refine tm_w C tfo_La to_La_mayStand 0 rfl rfl rfl trivial ?_
    obtain ⟨v4, hv4, hf⟩ := Option.bind_eq_some_iff.mp hf
    refine tm_cS C Ro to_La_mayStand tl_La_215 rfl (ct_La_isAmong hv4) rfl rfl rfl rfl rfl (Nat.le_refl _) (Nat.le_refl _) ?_
    obtain ⟨c4, hf⟩ := tm_iteN hf
    cases hf
    exact tm_ei C G to_La_mayStand rfl rfl (Nat.le_refl _) (tm_nz c4) ⟨rfl, rfl⟩
set_option maxRecDepth 100000 in
theorem ct_La_mayStand {ex : List tm_Sh} {p0 : Int32} {mI : tm_I} {mL : tm_L} {r : Int32 × tm_I × tm_L} (hf : f_La_mayStand p0 mI mL = some r) : tm_M ty_La_mayStand 5 112 0 0 [.ref 0, .int p0] (sh0 ++ ex, mI, mL, rr) (tm_is (some (.int r.1)) (sh0 ++ ex, r.2.1, r.2.2, rr)) := by
  refine tm_body (by decide) (Nat.le_of_ble_eq_true rfl) fun Γ C G => ?_
  exact j_La_mayStand_b0 C G hf
/-! Fi_hasFitData -/
def f_Fi_hasFitData_b106 (x1 : Int32) (s0 : Int32) (mI : tm_I) (mL : tm_L) : Option (Int32 × tm_I × tm_L) := if s0 = 0 ∨ s0 = 1 then some (s0, mI, mL) else none
def f_Fi_hasFitData_b101 (x1 : Int32) (mI : tm_I) (mL : tm_L) : Option (Int32 × tm_I × tm_L) := f_Fi_hasFitData_b106 x1 (1 : Int32) mI mL
def f_Fi_hasFitData_b84 (x1 : Int32) (s0 : Int32) (mI : tm_I) (mL : tm_L) : Option (Int32 × tm_I × tm_L) := if s0 = 0 ∨ s0 = 1 then some (s0, mI, mL) else none
def f_Fi_hasFitData_b83 (x1 : Int32) (mI : tm_I) (mL : tm_L) : Option (Int32 × tm_I × tm_L) := f_Fi_hasFitData_b84 x1 (0 : Int32) mI mL
def f_Fi_hasFitData_b53 (x1 : Int32) (mI : tm_I) (mL : tm_L) : Option (Int32 × tm_I × tm_L) := if ¬ (mI 26 2) = (78 : Int32) then if ¬ (mI 26 2) = (80 : Int32) then f_Fi_hasFitData_b101 x1 mI mL else (f_Fi_isPicture mI mL).bind fun v1 => if v1.1 = 0 then f_Fi_hasFitData_b106 x1 (0 : Int32) v1.2.1 v1.2.2 else f_Fi_hasFitData_b101 x1 v1.2.1 v1.2.2 else if ¬ x1 = (12 : Int32) then f_Fi_hasFitData_b83 x1 mI mL else (f_Fi_digitsAtEnd (12 : Int32) mI mL).bind fun v2 => if ¬ v2.1 = (12 : Int32) then f_Fi_hasFitData_b83 x1 v2.2.1 v2.2.2 else f_Fi_hasFitData_b84 x1 (1 : Int32) v2.2.1 v2.2.2
def f_Fi_hasFitData_b35 (x1 : Int32) (mI : tm_I) (mL : tm_L) : Option (Int32 × tm_I × tm_L) := (f_La_isAmong 2 (mI 26 2) mI mL).bind fun v3 => if v3.1 = 0 then f_Fi_hasFitData_b53 x1 v3.2.1 v3.2.2 else if ¬ x1 = 0 then f_Fi_hasFitData_b53 x1 v3.2.1 v3.2.2 else some ((0 : Int32), v3.2.1, v3.2.2)
def f_Fi_hasFitData_b0  (mI : tm_I) (mL : tm_L) : Option (Int32 × tm_I × tm_L) := (f_Ro_size 27 (0 : Int32) mI mL).bind fun v4 => if (v4.2.1 26 6) = 0 then f_Fi_hasFitData_b35 v4.1 v4.2.1 v4.2.2 else (f_Ro_at 27 (0 : Int32) (v4.1 - (1 : Int32)) v4.2.1 v4.2.2).bind fun v5 => (f_La_isDigit v5.1 v5.2.1 v5.2.2).bind fun v6 => if ¬ v6.1 = 0 then f_Fi_hasFitData_b35 v4.1 v6.2.1 v6.2.2 else some ((0 : Int32), v6.2.1, v6.2.2)
abbrev f_Fi_hasFitData  (mI : tm_I) (mL : tm_L) : Option (Int32 × tm_I × tm_L) := f_Fi_hasFitData_b0  mI mL
set_option maxRecDepth 100000 in
set_option maxHeartbeats 4000000 in
theorem j_Fi_hasFitData_b106 {Γ : tm_G} {ex : List tm_Sh} {av : List Value} {X0 : tm_X} {r : Int32 × tm_I × tm_L} (C : tm_C Γ ty_Fi_hasFitData.1.cls ty_Fi_hasFitData.2.1 ty_Fi_hasFitData.2.2.1) (G : tm_Γ ty_Fi_hasFitData 5 112 0 0 av X0 (tm_is (some (.int r.1)) (sh0 ++ ex, r.2.1, r.2.2, rr)) Γ) {x1 : Int32} {s0 : Int32} {mI : tm_I} {mL : tm_L} (hf : f_Fi_hasFitData_b106 x1 s0 mI mL = some r) : tm_T Γ 2 0 0 106 [some (.ref 26), some (.int x1)] [.int s0] (sh0 ++ ex) mI mL rr := by
  have Ro := G.ro
  unfold f_Fi_hasFitData_b106 at hf
  obtain ⟨c1, hf⟩ := tm_iteN hf
  cases hf
  exact tm_ei C G to_Fi_hasFitData rfl rfl (Nat.le_refl _) (tm_nz c1) ⟨rfl, rfl⟩
set_option maxRecDepth 100000 in
set_option maxHeartbeats 4000000 in
theorem j_Fi_hasFitData_b101 {Γ : tm_G} {ex : List tm_Sh} {av : List Value} {X0 : tm_X} {r : Int32 × tm_I × tm_L} (C : tm_C Γ ty_Fi_hasFitData.1.cls ty_Fi_hasFitData.2.1 ty_Fi_hasFitData.2.2.1) (G : tm_Γ ty_Fi_hasFitData 5 112 0 0 av X0 (tm_is (some (.int r.1)) (sh0 ++ ex, r.2.1, r.2.2, rr)) Γ) {x1 : Int32} {mI : tm_I} {mL : tm_L} (hf : f_Fi_hasFitData_b101 x1 mI mL = some r) : tm_T Γ 2 0 0 101 [some (.ref 26), some (.int x1)] [] (sh0 ++ ex) mI mL rr := by
  have Ro := G.ro
  unfold f_Fi_hasFitData_b101 at hf
  refine tm_w C tfo_Fi to_Fi_hasFitData 1 rfl rfl rfl trivial ?_
  refine tm_wk (lv' := [some (.ref 26), some (.int x1)]) ⟨Or.inr rfl, Or.inr rfl, trivial⟩ ?_
  exact j_Fi_hasFitData_b106 C G hf
set_option maxRecDepth 100000 in
set_option maxHeartbeats 4000000 in
theorem j_Fi_hasFitData_b84 {Γ : tm_G} {ex : List tm_Sh} {av : List Value} {X0 : tm_X} {r : Int32 × tm_I × tm_L} (C : tm_C Γ ty_Fi_hasFitData.1.cls ty_Fi_hasFitData.2.1 ty_Fi_hasFitData.2.2.1) (G : tm_Γ ty_Fi_hasFitData 5 112 0 0 av X0 (tm_is (some (.int r.1)) (sh0 ++ ex, r.2.1, r.2.2, rr)) Γ) {x1 : Int32} {s0 : Int32} {mI : tm_I} {mL : tm_L} (hf : f_Fi_hasFitData_b84 x1 s0 mI mL = some r) : tm_T Γ 2 0 0 84 [some (.ref 26), some (.int x1)] [.int s0] (sh0 ++ ex) mI mL rr := by
  have Ro := G.ro
  unfold f_Fi_hasFitData_b84 at hf
  obtain ⟨c2, hf⟩ := tm_iteN hf
  cases hf
  exact tm_ei C G to_Fi_hasFitData rfl rfl (Nat.le_refl _) (tm_nz c2) ⟨rfl, rfl⟩
set_option maxRecDepth 100000 in
set_option maxHeartbeats 4000000 in
theorem j_Fi_hasFitData_b83 {Γ : tm_G} {ex : List tm_Sh} {av : List Value} {X0 : tm_X} {r : Int32 × tm_I × tm_L} (C : tm_C Γ ty_Fi_hasFitData.1.cls ty_Fi_hasFitData.2.1 ty_Fi_hasFitData.2.2.1) (G : tm_Γ ty_Fi_hasFitData 5 112 0 0 av X0 (tm_is (some (.int r.1)) (sh0 ++ ex, r.2.1, r.2.2, rr)) Γ) {x1 : Int32} {mI : tm_I} {mL : tm_L} (hf : f_Fi_hasFitData_b83 x1 mI mL = some r) : tm_T Γ 2 0 0 83 [some (.ref 26), some (.int x1)] [] (sh0 ++ ex) mI mL rr := by
  have Ro := G.ro
  unfold f_Fi_hasFitData_b83 at hf
  refine tm_w C tfo_Fi to_Fi_hasFitData 0 rfl rfl rfl trivial ?_
  refine tm_wk (lv' := [some (.ref 26), some (.int x1)]) ⟨Or.inr rfl, Or.inr rfl, trivial⟩ ?_
  exact j_Fi_hasFitData_b84 C G hf
set_option maxRecDepth 100000 in
set_option maxHeartbeats 4000000 in
theorem j_Fi_hasFitData_b53 {Γ : tm_G} {ex : List tm_Sh} {av : List Value} {X0 : tm_X} {r : Int32 × tm_I × tm_L} (C : tm_C Γ ty_Fi_hasFitData.1.cls ty_Fi_hasFitData.2.1 ty_Fi_hasFitData.2.2.1) (G : tm_Γ ty_Fi_hasFitData 5 112 0 0 av X0 (tm_is (some (.int r.1)) (sh0 ++ ex, r.2.1, r.2.2, rr)) Γ) {x1 : Int32} {mI : tm_I} {mL : tm_L} (hf : f_Fi_hasFitData_b53 x1 mI mL = some r) : tm_T Γ 2 0 0 53 [some (.ref 26), some (.int x1)] [] (sh0 ++ ex) mI mL rr := by
  have Ro := G.ro
  unfold f_Fi_hasFitData_b53 at hf
  refine tm_w C tfo_Fi to_Fi_hasFitData 2 rfl rfl rfl ⟨rfl, trivial⟩ ?_
  refine tm_b C to_Fi_hasFitData rfl rfl (fun h => ?_) (fun h => ?_)
  · have hf := (if_pos h).symm.trans hf
    refine tm_w C tfo_Fi to_Fi_hasFitData 2 rfl rfl rfl ⟨rfl, trivial⟩ ?_
    refine tm_b C to_Fi_hasFitData rfl rfl (fun h => ?_) (fun h => ?_)
    · have hf := (if_pos h).symm.trans hf
      refine tm_wk (lv' := [some (.ref 26), some (.int x1)]) ⟨Or.inr rfl, Or.inr rfl, trivial⟩ ?_
      exact j_Fi_hasFitData_b101 C G hf
    · have hf := (if_neg h).symm.trans hf
      refine tm_w C tfo_Fi to_Fi_hasFitData 0 rfl rfl rfl trivial ?_
      obtain ⟨v1, hv1, hf⟩ := Option.bind_eq_some_iff.mp hf
      refine tm_cV C Ro to_Fi_hasFitData tl_Fi_72 rfl (ct_Fi_isPicture hv1) rfl rfl rfl rfl rfl rfl rfl (Nat.le_refl _) (Nat.le_refl _) ?_
      refine tm_b C to_Fi_hasFitData rfl rfl (fun h => ?_) (fun h => ?_)
      · have hf := (if_pos h).symm.trans hf
        refine tm_w C tfo_Fi to_Fi_hasFitData 0 rfl rfl rfl trivial ?_
        refine tm_wk (lv' := [some (.ref 26), some (.int x1)]) ⟨Or.inr rfl, Or.inr rfl, trivial⟩ ?_
        exact j_Fi_hasFitData_b106 C G hf
      · have hf := (if_neg h).symm.trans hf
        refine tm_wk (lv' := [some (.ref 26), some (.int x1)]) ⟨Or.inr rfl, Or.inr rfl, trivial⟩ ?_
        exact j_Fi_hasFitData_b101 C G hf
  · have hf := (if_neg h).symm.trans hf
    refine tm_w C tfo_Fi to_Fi_hasFitData 1 rfl rfl rfl trivial ?_
    refine tm_b C to_Fi_hasFitData rfl rfl (fun h => ?_) (fun h => ?_)
    · have hf := (if_pos h).symm.trans hf
      refine tm_wk (lv' := [some (.ref 26), some (.int x1)]) ⟨Or.inr rfl, Or.inr rfl, trivial⟩ ?_
      exact j_Fi_hasFitData_b83 C G hf
    · have hf := (if_neg h).symm.trans hf
      refine tm_w C tfo_Fi to_Fi_hasFitData 1 rfl rfl rfl trivial ?_
      obtain ⟨v2, hv2, hf⟩ := Option.bind_eq_some_iff.mp hf
      refine tm_cV C Ro to_Fi_hasFitData tl_Fi_69 rfl (ct_Fi_digitsAtEnd hv2) rfl rfl rfl rfl rfl rfl rfl (Nat.le_refl _) (Nat.le_refl _) ?_
      refine tm_w C tfo_Fi to_Fi_hasFitData 0 rfl rfl rfl trivial ?_
      refine tm_b C to_Fi_hasFitData rfl rfl (fun h => ?_) (fun h => ?_)
      · have hf := (if_pos h).symm.trans hf
        refine tm_wk (lv' := [some (.ref 26), some (.int x1)]) ⟨Or.inr rfl, Or.inr rfl, trivial⟩ ?_
        exact j_Fi_hasFitData_b83 C G hf
      · have hf := (if_neg h).symm.trans hf
        refine tm_w C tfo_Fi to_Fi_hasFitData 1 rfl rfl rfl trivial ?_
        refine tm_wk (lv' := [some (.ref 26), some (.int x1)]) ⟨Or.inr rfl, Or.inr rfl, trivial⟩ ?_
        exact j_Fi_hasFitData_b84 C G hf
set_option maxRecDepth 100000 in
set_option maxHeartbeats 4000000 in
theorem j_Fi_hasFitData_b35 {Γ : tm_G} {ex : List tm_Sh} {av : List Value} {X0 : tm_X} {r : Int32 × tm_I × tm_L} (C : tm_C Γ ty_Fi_hasFitData.1.cls ty_Fi_hasFitData.2.1 ty_Fi_hasFitData.2.2.1) (G : tm_Γ ty_Fi_hasFitData 5 112 0 0 av X0 (tm_is (some (.int r.1)) (sh0 ++ ex, r.2.1, r.2.2, rr)) Γ) {x1 : Int32} {mI : tm_I} {mL : tm_L} (hf : f_Fi_hasFitData_b35 x1 mI mL = some r) : tm_T Γ 2 0 0 35 [some (.ref 26), some (.int x1)] [] (sh0 ++ ex) mI mL rr := by
  have Ro := G.ro
  unfold f_Fi_hasFitData_b35 at hf
  refine tm_ldcT C to_Fi_hasFitData rfl 2 rfl ?_
  refine tm_w C tfo_Fi to_Fi_hasFitData 1 rfl rfl rfl ⟨rfl, trivial⟩ ?_
  obtain ⟨v3, hv3, hf⟩ := Option.bind_eq_some_iff.mp hf
  refine tm_cN C Ro to_Fi_hasFitData tl_Fi_65 rfl (ct_La_isAmong hv3) rfl rfl rfl rfl rfl (Nat.le_refl _) (Nat.le_refl _) ?_
  refine tm_b C to_Fi_hasFitData rfl rfl (fun h => ?_) (fun h => ?_)
  · have hf := (if_pos h).symm.trans hf
    refine tm_wk (lv' := [some (.ref 26), some (.int x1)]) ⟨Or.inr rfl, Or.inr rfl, trivial⟩ ?_
    exact j_Fi_hasFitData_b53 C G hf
  · have hf := (if_neg h).symm.trans hf
    refine tm_w C tfo_Fi to_Fi_hasFitData 0 rfl rfl rfl trivial ?_
    refine tm_b C to_Fi_hasFitData rfl rfl (fun h => ?_) (fun h => ?_)
    · have hf := (if_pos h).symm.trans hf
      refine tm_wk (lv' := [some (.ref 26), some (.int x1)]) ⟨Or.inr rfl, Or.inr rfl, trivial⟩ ?_
      exact j_Fi_hasFitData_b53 C G hf
    · have hf := (if_neg h).symm.trans hf
      refine tm_w C tfo_Fi to_Fi_hasFitData 0 rfl rfl rfl trivial ?_
      cases hf
      exact tm_ei C G to_Fi_hasFitData rfl rfl (Nat.le_refl _) rfl ⟨rfl, rfl⟩
set_option maxRecDepth 100000 in
set_option maxHeartbeats 4000000 in
theorem j_Fi_hasFitData_b0 {Γ : tm_G} {ex : List tm_Sh} {av : List Value} {X0 : tm_X} {r : Int32 × tm_I × tm_L} (C : tm_C Γ ty_Fi_hasFitData.1.cls ty_Fi_hasFitData.2.1 ty_Fi_hasFitData.2.2.1) (G : tm_Γ ty_Fi_hasFitData 5 112 0 0 av X0 (tm_is (some (.int r.1)) (sh0 ++ ex, r.2.1, r.2.2, rr)) Γ) {mI : tm_I} {mL : tm_L} (hf : f_Fi_hasFitData_b0  mI mL = some r) : tm_T Γ 2 0 0 0 [some (.ref 26), none] [] (sh0 ++ ex) mI mL rr := by
  have Ro := G.ro
  unfold f_Fi_hasFitData_b0 at hf
  refine tm_w C tfo_Fi to_Fi_hasFitData 2 rfl rfl rfl ⟨rfl, trivial⟩ ?_
  obtain ⟨v4, hv4, hf⟩ := Option.bind_eq_some_iff.mp hf
  refine tm_cV C Ro to_Fi_hasFitData tl_Fi_51 rfl (ct_Ro_size isRo_27 hv4) rfl rfl rfl rfl rfl rfl rfl (Nat.le_refl _) (Nat.le_refl _) ?_
  refine tm_w C tfo_Fi to_Fi_hasFitData 2 rfl rfl rfl ⟨rfl, trivial⟩ ?_
  refine tm_b C to_Fi_hasFitData rfl rfl (fun h => ?_) (fun h => ?_)
  · have hf := (if_pos h).symm.trans hf
    refine tm_wk (lv' := [some (.ref 26), some (.int v4.1)]) ⟨Or.inr rfl, Or.inr rfl, trivial⟩ ?_
    exact j_Fi_hasFitData_b35 C G hf
  · have hf := (if_neg h).symm.trans hf
    refine tm_w C tfo_Fi to_Fi_hasFitData 5 rfl rfl rfl ⟨rfl, trivial⟩ ?_
    obtain ⟨v5, hv5, hf⟩ := Option.bind_eq_some_iff.mp hf
    refine tm_cV C Ro to_Fi_hasFitData tl_Fi_55 rfl (ct_Ro_at isRo_27 hv5) rfl rfl rfl rfl rfl rfl rfl (Nat.le_refl _) (Nat.le_refl _) ?_
    obtain ⟨v6, hv6, hf⟩ := Option.bind_eq_some_iff.mp hf
    refine tm_cN C Ro to_Fi_hasFitData tl_Fi_59 rfl (ct_La_isDigit hv6) rfl rfl rfl rfl rfl (Nat.le_refl _) (Nat.le_refl _) ?_
    refine tm_b C to_Fi_hasFitData rfl rfl (fun h => ?_) (fun h => ?_)
    · have hf := (if_pos h).symm.trans hf
      refine tm_wk (lv' := [some (.ref 26), some (.int v4.1)]) ⟨Or.inr rfl, Or.inr rfl, trivial⟩ ?_
      exact j_Fi_hasFitData_b35 C G hf
    · have hf := (if_neg h).symm.trans hf
      refine tm_w C tfo_Fi to_Fi_hasFitData 0 rfl rfl rfl trivial ?_
      cases hf
      exact tm_ei C G to_Fi_hasFitData rfl rfl (Nat.le_refl _) rfl ⟨rfl, rfl⟩
set_option maxRecDepth 100000 in
theorem ct_Fi_hasFitData {ex : List tm_Sh}  {mI : tm_I} {mL : tm_L} {r : Int32 × tm_I × tm_L} (hf : f_Fi_hasFitData  mI mL = some r) : tm_M ty_Fi_hasFitData 5 112 0 0 [.ref 26] (sh0 ++ ex, mI, mL, rr) (tm_is (some (.int r.1)) (sh0 ++ ex, r.2.1, r.2.2, rr)) := by
  refine tm_body (by decide) (Nat.le_of_ble_eq_true rfl) fun Γ C G => ?_
  exact j_Fi_hasFitData_b0 C G hf
/-! Nu_rangesOf -/
def f_Nu_rangesOf_b284 (x0 : Int32) (mI : tm_I) (mL : tm_L) : Option (Nat × tm_I × tm_L) := some (14, mI, mL)
def f_Nu_rangesOf_b248 (x0 : Int32) (mI : tm_I) (mL : tm_L) : Option (Nat × tm_I × tm_L) := some (5, mI, mL)
def f_Nu_rangesOf_b272 (x0 : Int32) (mI : tm_I) (mL : tm_L) : Option (Nat × tm_I × tm_L) := some (11, mI, mL)
def f_Nu_rangesOf_b240 (x0 : Int32) (mI : tm_I) (mL : tm_L) : Option (Nat × tm_I × tm_L) := some (3, mI, mL)
def f_Nu_rangesOf_b232 (x0 : Int32) (mI : tm_I) (mL : tm_L) : Option (Nat × tm_I × tm_L) := some (1, mI, mL)
def f_Nu_rangesOf_b228 (x0 : Int32) (mI : tm_I) (mL : tm_L) : Option (Nat × tm_I × tm_L) := some (0, mI, mL)
def f_Nu_rangesOf_b0 (x0 : Int32) (mI : tm_I) (mL : tm_L) : Option (Nat × tm_I × tm_L) := if x0 = (35 : Int32) then some (6, mI, mL) else if x0 = (66 : Int32) then some (8, mI, mL) else if x0 = (67 : Int32) then some (4, mI, mL) else if x0 = (68 : Int32) then f_Nu_rangesOf_b248 x0 mI mL else if x0 = (70 : Int32) then f_Nu_rangesOf_b272 x0 mI mL else if x0 = (71 : Int32) then some (12, mI, mL) else if x0 = (72 : Int32) then f_Nu_rangesOf_b240 x0 mI mL else if x0 = (73 : Int32) then f_Nu_rangesOf_b272 x0 mI mL else if x0 = (75 : Int32) then f_Nu_rangesOf_b232 x0 mI mL else if x0 = (76 : Int32) then some (2, mI, mL) else if x0 = (78 : Int32) then some (9, mI, mL) else if x0 = (79 : Int32) then f_Nu_rangesOf_b240 x0 mI mL else if x0 = (80 : Int32) then some (13, mI, mL) else if x0 = (81 : Int32) then some (10, mI, mL) else if x0 = (83 : Int32) then f_Nu_rangesOf_b228 x0 mI mL else if x0 = (84 : Int32) then f_Nu_rangesOf_b248 x0 mI mL else if x0 = (85 : Int32) then f_Nu_rangesOf_b228 x0 mI mL else if x0 = (86 : Int32) then f_Nu_rangesOf_b232 x0 mI mL else if x0 = (87 : Int32) then some (7, mI, mL) else f_Nu_rangesOf_b284 x0 mI mL
abbrev f_Nu_rangesOf (p0 : Int32) (mI : tm_I) (mL : tm_L) : Option (Nat × tm_I × tm_L) := f_Nu_rangesOf_b0 p0 mI mL
set_option maxRecDepth 100000 in
set_option maxHeartbeats 4000000 in
theorem j_Nu_rangesOf_b284 {Γ : tm_G} {ex : List tm_Sh} {av : List Value} {X0 : tm_X} {r : Nat × tm_I × tm_L} (C : tm_C Γ ty_Nu_rangesOf.1.cls ty_Nu_rangesOf.2.1 ty_Nu_rangesOf.2.2.1) (G : tm_Γ ty_Nu_rangesOf 0 0 0 0 av X0 (tm_is (some (.ref (1000001 + r.1))) (sh0 ++ ex, r.2.1, r.2.2, rr)) Γ) {x0 : Int32} {mI : tm_I} {mL : tm_L} (hf : f_Nu_rangesOf_b284 x0 mI mL = some r) : tm_T Γ 1 0 0 284 [some (.int x0)] [] (sh0 ++ ex) mI mL rr := by
  have Ro := G.ro
  unfold f_Nu_rangesOf_b284 at hf
  refine tm_getsJ C to_Nu_rangesOf rfl 14 rfl (tm_in 530 (by decide +kernel) rfl) ?_
  cases hf
  exact tm_ea C G to_Nu_rangesOf rfl rfl (Nat.le_refl _) ⟨rfl, rfl⟩
set_option maxRecDepth 100000 in
set_option maxHeartbeats 4000000 in
theorem j_Nu_rangesOf_b248 {Γ : tm_G} {ex : List tm_Sh} {av : List Value} {X0 : tm_X} {r : Nat × tm_I × tm_L} (C : tm_C Γ ty_Nu_rangesOf.1.cls ty_Nu_rangesOf.2.1 ty_Nu_rangesOf.2.2.1) (G : tm_Γ ty_Nu_rangesOf 0 0 0 0 av X0 (tm_is (some (.ref (1000001 + r.1))) (sh0 ++ ex, r.2.1, r.2.2, rr)) Γ) {x0 : Int32} {mI : tm_I} {mL : tm_L} (hf : f_Nu_rangesOf_b248 x0 mI mL = some r) : tm_T Γ 1 0 0 248 [some (.int x0)] [] (sh0 ++ ex) mI mL rr := by
  have Ro := G.ro
  unfold f_Nu_rangesOf_b248 at hf
  refine tm_getsJ C to_Nu_rangesOf rfl 5 rfl (tm_in 512 (by decide +kernel) rfl) ?_
  cases hf
  exact tm_ea C G to_Nu_rangesOf rfl rfl (Nat.le_refl _) ⟨rfl, rfl⟩
set_option maxRecDepth 100000 in
set_option maxHeartbeats 4000000 in
theorem j_Nu_rangesOf_b272 {Γ : tm_G} {ex : List tm_Sh} {av : List Value} {X0 : tm_X} {r : Nat × tm_I × tm_L} (C : tm_C Γ ty_Nu_rangesOf.1.cls ty_Nu_rangesOf.2.1 ty_Nu_rangesOf.2.2.1) (G : tm_Γ ty_Nu_rangesOf 0 0 0 0 av X0 (tm_is (some (.ref (1000001 + r.1))) (sh0 ++ ex, r.2.1, r.2.2, rr)) Γ) {x0 : Int32} {mI : tm_I} {mL : tm_L} (hf : f_Nu_rangesOf_b272 x0 mI mL = some r) : tm_T Γ 1 0 0 272 [some (.int x0)] [] (sh0 ++ ex) mI mL rr := by
  have Ro := G.ro
  unfold f_Nu_rangesOf_b272 at hf
  refine tm_getsJ C to_Nu_rangesOf rfl 11 rfl (tm_in 524 (by decide +kernel) rfl) ?_
  cases hf
  exact tm_ea C G to_Nu_rangesOf rfl rfl (Nat.le_refl _) ⟨rfl, rfl⟩
set_option maxRecDepth 100000 in
set_option maxHeartbeats 4000000 in
theorem j_Nu_rangesOf_b240 {Γ : tm_G} {ex : List tm_Sh} {av : List Value} {X0 : tm_X} {r : Nat × tm_I × tm_L} (C : tm_C Γ ty_Nu_rangesOf.1.cls ty_Nu_rangesOf.2.1 ty_Nu_rangesOf.2.2.1) (G : tm_Γ ty_Nu_rangesOf 0 0 0 0 av X0 (tm_is (some (.ref (1000001 + r.1))) (sh0 ++ ex, r.2.1, r.2.2, rr)) Γ) {x0 : Int32} {mI : tm_I} {mL : tm_L} (hf : f_Nu_rangesOf_b240 x0 mI mL = some r) : tm_T Γ 1 0 0 240 [some (.int x0)] [] (sh0 ++ ex) mI mL rr := by
  have Ro := G.ro
  unfold f_Nu_rangesOf_b240 at hf
  refine tm_getsJ C to_Nu_rangesOf rfl 3 rfl (tm_in 508 (by decide +kernel) rfl) ?_
  cases hf
  exact tm_ea C G to_Nu_rangesOf rfl rfl (Nat.le_refl _) ⟨rfl, rfl⟩
set_option maxRecDepth 100000 in
set_option maxHeartbeats 4000000 in
theorem j_Nu_rangesOf_b232 {Γ : tm_G} {ex : List tm_Sh} {av : List Value} {X0 : tm_X} {r : Nat × tm_I × tm_L} (C : tm_C Γ ty_Nu_rangesOf.1.cls ty_Nu_rangesOf.2.1 ty_Nu_rangesOf.2.2.1) (G : tm_Γ ty_Nu_rangesOf 0 0 0 0 av X0 (tm_is (some (.ref (1000001 + r.1))) (sh0 ++ ex, r.2.1, r.2.2, rr)) Γ) {x0 : Int32} {mI : tm_I} {mL : tm_L} (hf : f_Nu_rangesOf_b232 x0 mI mL = some r) : tm_T Γ 1 0 0 232 [some (.int x0)] [] (sh0 ++ ex) mI mL rr := by
  have Ro := G.ro
  unfold f_Nu_rangesOf_b232 at hf
  refine tm_getsJ C to_Nu_rangesOf rfl 1 rfl (tm_in 504 (by decide +kernel) rfl) ?_
  cases hf
  exact tm_ea C G to_Nu_rangesOf rfl rfl (Nat.le_refl _) ⟨rfl, rfl⟩
set_option maxRecDepth 100000 in
set_option maxHeartbeats 4000000 in
theorem j_Nu_rangesOf_b228 {Γ : tm_G} {ex : List tm_Sh} {av : List Value} {X0 : tm_X} {r : Nat × tm_I × tm_L} (C : tm_C Γ ty_Nu_rangesOf.1.cls ty_Nu_rangesOf.2.1 ty_Nu_rangesOf.2.2.1) (G : tm_Γ ty_Nu_rangesOf 0 0 0 0 av X0 (tm_is (some (.ref (1000001 + r.1))) (sh0 ++ ex, r.2.1, r.2.2, rr)) Γ) {x0 : Int32} {mI : tm_I} {mL : tm_L} (hf : f_Nu_rangesOf_b228 x0 mI mL = some r) : tm_T Γ 1 0 0 228 [some (.int x0)] [] (sh0 ++ ex) mI mL rr := by
  have Ro := G.ro
  unfold f_Nu_rangesOf_b228 at hf
  refine tm_getsJ C to_Nu_rangesOf rfl 0 rfl (tm_in 502 (by decide +kernel) rfl) ?_
  cases hf
  exact tm_ea C G to_Nu_rangesOf rfl rfl (Nat.le_refl _) ⟨rfl, rfl⟩
set_option maxRecDepth 100000 in
set_option maxHeartbeats 4000000 in
theorem j_Nu_rangesOf_b0 {Γ : tm_G} {ex : List tm_Sh} {av : List Value} {X0 : tm_X} {r : Nat × tm_I × tm_L} (C : tm_C Γ ty_Nu_rangesOf.1.cls ty_Nu_rangesOf.2.1 ty_Nu_rangesOf.2.2.1) (G : tm_Γ ty_Nu_rangesOf 0 0 0 0 av X0 (tm_is (some (.ref (1000001 + r.1))) (sh0 ++ ex, r.2.1, r.2.2, rr)) Γ) {x0 : Int32} {mI : tm_I} {mL : tm_L} (hf : f_Nu_rangesOf_b0 x0 mI mL = some r) : tm_T Γ 1 0 0 0 [some (.int x0)] [] (sh0 ++ ex) mI mL rr := by
  have Ro := G.ro
  unfold f_Nu_rangesOf_b0 at hf
  refine tm_w C tfo_Nu to_Nu_rangesOf 0 rfl rfl rfl trivial ?_
  by_cases h35 : x0 = (35 : Int32)
  · have hf := (if_pos h35).symm.trans hf
    refine tm_swI (tgt := 252) C (tm_get_d to_Nu_rangesOf rfl) (35 : Int32) (251) h35 (by decide) (by decide) (by decide) (by decide) ?_
    refine tm_getsJ C to_Nu_rangesOf rfl 6 rfl (tm_in 514 (by decide +kernel) rfl) ?_
    cases hf
    exact tm_ea C G to_Nu_rangesOf rfl rfl (Nat.le_refl _) ⟨rfl, rfl⟩
  have hf := (if_neg h35).symm.trans hf
  by_cases h66 : x0 = (66 : Int32)
  · have hf := (if_pos h66).symm.trans hf
    refine tm_swI (tgt := 260) C (tm_get_d to_Nu_rangesOf rfl) (66 : Int32) (259) h66 (by decide) (by decide) (by decide) (by decide) ?_
    refine tm_getsJ C to_Nu_rangesOf rfl 8 rfl (tm_in 518 (by decide +kernel) rfl) ?_
    cases hf
    exact tm_ea C G to_Nu_rangesOf rfl rfl (Nat.le_refl _) ⟨rfl, rfl⟩
  have hf := (if_neg h66).symm.trans hf
  by_cases h67 : x0 = (67 : Int32)
  · have hf := (if_pos h67).symm.trans hf
    refine tm_swI (tgt := 244) C (tm_get_d to_Nu_rangesOf rfl) (67 : Int32) (243) h67 (by decide) (by decide) (by decide) (by decide) ?_
    refine tm_getsJ C to_Nu_rangesOf rfl 4 rfl (tm_in 510 (by decide +kernel) rfl) ?_
    cases hf
    exact tm_ea C G to_Nu_rangesOf rfl rfl (Nat.le_refl _) ⟨rfl, rfl⟩
  have hf := (if_neg h67).symm.trans hf
  by_cases h68 : x0 = (68 : Int32)
  · have hf := (if_pos h68).symm.trans hf
    refine tm_swI (tgt := 248) C (tm_get_d to_Nu_rangesOf rfl) (68 : Int32) (247) h68 (by decide) (by decide) (by decide) (by decide) ?_
    refine tm_wk (lv' := [some (.int x0)]) ⟨Or.inr rfl, trivial⟩ ?_
    exact j_Nu_rangesOf_b248 C G hf
  have hf := (if_neg h68).symm.trans hf
  by_cases h70 : x0 = (70 : Int32)
  · have hf := (if_pos h70).symm.trans hf
    refine tm_swI (tgt := 272) C (tm_get_d to_Nu_rangesOf rfl) (70 : Int32) (271) h70 (by decide) (by decide) (by decide) (by decide) ?_
    refine tm_wk (lv' := [some (.int x0)]) ⟨Or.inr rfl, trivial⟩ ?_
    exact j_Nu_rangesOf_b272 C G hf
  have hf := (if_neg h70).symm.trans hf
  by_cases h71 : x0 = (71 : Int32)
  · have hf := (if_pos h71).symm.trans hf
    refine tm_swI (tgt := 276) C (tm_get_d to_Nu_rangesOf rfl) (71 : Int32) (275) h71 (by decide) (by decide) (by decide) (by decide) ?_
    refine tm_getsJ C to_Nu_rangesOf rfl 12 rfl (tm_in 526 (by decide +kernel) rfl) ?_
    cases hf
    exact tm_ea C G to_Nu_rangesOf rfl rfl (Nat.le_refl _) ⟨rfl, rfl⟩
  have hf := (if_neg h71).symm.trans hf
  by_cases h72 : x0 = (72 : Int32)
  · have hf := (if_pos h72).symm.trans hf
    refine tm_swI (tgt := 240) C (tm_get_d to_Nu_rangesOf rfl) (72 : Int32) (239) h72 (by decide) (by decide) (by decide) (by decide) ?_
    refine tm_wk (lv' := [some (.int x0)]) ⟨Or.inr rfl, trivial⟩ ?_
    exact j_Nu_rangesOf_b240 C G hf
  have hf := (if_neg h72).symm.trans hf
  by_cases h73 : x0 = (73 : Int32)
  · have hf := (if_pos h73).symm.trans hf
    refine tm_swI (tgt := 272) C (tm_get_d to_Nu_rangesOf rfl) (73 : Int32) (271) h73 (by decide) (by decide) (by decide) (by decide) ?_
    refine tm_wk (lv' := [some (.int x0)]) ⟨Or.inr rfl, trivial⟩ ?_
    exact j_Nu_rangesOf_b272 C G hf
  have hf := (if_neg h73).symm.trans hf
  by_cases h75 : x0 = (75 : Int32)
  · have hf := (if_pos h75).symm.trans hf
    refine tm_swI (tgt := 232) C (tm_get_d to_Nu_rangesOf rfl) (75 : Int32) (231) h75 (by decide) (by decide) (by decide) (by decide) ?_
    refine tm_wk (lv' := [some (.int x0)]) ⟨Or.inr rfl, trivial⟩ ?_
    exact j_Nu_rangesOf_b232 C G hf
  have hf := (if_neg h75).symm.trans hf
  by_cases h76 : x0 = (76 : Int32)
  · have hf := (if_pos h76).symm.trans hf
    refine tm_swI (tgt := 236) C (tm_get_d to_Nu_rangesOf rfl) (76 : Int32) (235) h76 (by decide) (by decide) (by decide) (by decide) ?_
    refine tm_getsJ C to_Nu_rangesOf rfl 2 rfl (tm_in 506 (by decide +kernel) rfl) ?_
    cases hf
    exact tm_ea C G to_Nu_rangesOf rfl rfl (Nat.le_refl _) ⟨rfl, rfl⟩
  have hf := (if_neg h76).symm.trans hf
  by_cases h78 : x0 = (78 : Int32)
  · have hf := (if_pos h78).symm.trans hf
    refine tm_swI (tgt := 264) C (tm_get_d to_Nu_rangesOf rfl) (78 : Int32) (263) h78 (by decide) (by decide) (by decide) (by decide) ?_
    refine tm_getsJ C to_Nu_rangesOf rfl 9 rfl (tm_in 520 (by decide +kernel) rfl) ?_
    cases hf
    exact tm_ea C G to_Nu_rangesOf rfl rfl (Nat.le_refl _) ⟨rfl, rfl⟩
  have hf := (if_neg h78).symm.trans hf
  by_cases h79 : x0 = (79 : Int32)
  · have hf := (if_pos h79).symm.trans hf
    refine tm_swI (tgt := 240) C (tm_get_d to_Nu_rangesOf rfl) (79 : Int32) (239) h79 (by decide) (by decide) (by decide) (by decide) ?_
    refine tm_wk (lv' := [some (.int x0)]) ⟨Or.inr rfl, trivial⟩ ?_
    exact j_Nu_rangesOf_b240 C G hf
  have hf := (if_neg h79).symm.trans hf
  by_cases h80 : x0 = (80 : Int32)
  · have hf := (if_pos h80).symm.trans hf
    refine tm_swI (tgt := 280) C (tm_get_d to_Nu_rangesOf rfl) (80 : Int32) (279) h80 (by decide) (by decide) (by decide) (by decide) ?_
    refine tm_getsJ C to_Nu_rangesOf rfl 13 rfl (tm_in 528 (by decide +kernel) rfl) ?_
    cases hf
    exact tm_ea C G to_Nu_rangesOf rfl rfl (Nat.le_refl _) ⟨rfl, rfl⟩
  have hf := (if_neg h80).symm.trans hf
  by_cases h81 : x0 = (81 : Int32)
  · have hf := (if_pos h81).symm.trans hf
    refine tm_swI (tgt := 268) C (tm_get_d to_Nu_rangesOf rfl) (81 : Int32) (267) h81 (by decide) (by decide) (by decide) (by decide) ?_
    refine tm_getsJ C to_Nu_rangesOf rfl 10 rfl (tm_in 522 (by decide +kernel) rfl) ?_
    cases hf
    exact tm_ea C G to_Nu_rangesOf rfl rfl (Nat.le_refl _) ⟨rfl, rfl⟩
  have hf := (if_neg h81).symm.trans hf
  by_cases h83 : x0 = (83 : Int32)
  · have hf := (if_pos h83).symm.trans hf
    refine tm_swI (tgt := 228) C (tm_get_d to_Nu_rangesOf rfl) (83 : Int32) (227) h83 (by decide) (by decide) (by decide) (by decide) ?_
    refine tm_wk (lv' := [some (.int x0)]) ⟨Or.inr rfl, trivial⟩ ?_
    exact j_Nu_rangesOf_b228 C G hf
  have hf := (if_neg h83).symm.trans hf
  by_cases h84 : x0 = (84 : Int32)
  · have hf := (if_pos h84).symm.trans hf
    refine tm_swI (tgt := 248) C (tm_get_d to_Nu_rangesOf rfl) (84 : Int32) (247) h84 (by decide) (by decide) (by decide) (by decide) ?_
    refine tm_wk (lv' := [some (.int x0)]) ⟨Or.inr rfl, trivial⟩ ?_
    exact j_Nu_rangesOf_b248 C G hf
  have hf := (if_neg h84).symm.trans hf
  by_cases h85 : x0 = (85 : Int32)
  · have hf := (if_pos h85).symm.trans hf
    refine tm_swI (tgt := 228) C (tm_get_d to_Nu_rangesOf rfl) (85 : Int32) (227) h85 (by decide) (by decide) (by decide) (by decide) ?_
    refine tm_wk (lv' := [some (.int x0)]) ⟨Or.inr rfl, trivial⟩ ?_
    exact j_Nu_rangesOf_b228 C G hf
  have hf := (if_neg h85).symm.trans hf
  by_cases h86 : x0 = (86 : Int32)
  · have hf := (if_pos h86).symm.trans hf
    refine tm_swI (tgt := 232) C (tm_get_d to_Nu_rangesOf rfl) (86 : Int32) (231) h86 (by decide) (by decide) (by decide) (by decide) ?_
    refine tm_wk (lv' := [some (.int x0)]) ⟨Or.inr rfl, trivial⟩ ?_
    exact j_Nu_rangesOf_b232 C G hf
  have hf := (if_neg h86).symm.trans hf
  by_cases h87 : x0 = (87 : Int32)
  · have hf := (if_pos h87).symm.trans hf
    refine tm_swI (tgt := 256) C (tm_get_d to_Nu_rangesOf rfl) (87 : Int32) (255) h87 (by decide) (by decide) (by decide) (by decide) ?_
    refine tm_getsJ C to_Nu_rangesOf rfl 7 rfl (tm_in 516 (by decide +kernel) rfl) ?_
    cases hf
    exact tm_ea C G to_Nu_rangesOf rfl rfl (Nat.le_refl _) ⟨rfl, rfl⟩
  have hf := (if_neg h87).symm.trans hf
  refine tm_swD (tgt := 284) C (tm_get_d to_Nu_rangesOf rfl) [(35 : Int32), (66 : Int32), (67 : Int32), (68 : Int32), (70 : Int32), (71 : Int32), (72 : Int32), (73 : Int32), (75 : Int32), (76 : Int32), (78 : Int32), (79 : Int32), (80 : Int32), (81 : Int32), (83 : Int32), (84 : Int32), (85 : Int32), (86 : Int32), (87 : Int32)] (by decide) (by decide) (List.forall_mem_cons.mpr ⟨h35, List.forall_mem_cons.mpr ⟨h66, List.forall_mem_cons.mpr ⟨h67, List.forall_mem_cons.mpr ⟨h68, List.forall_mem_cons.mpr ⟨h70, List.forall_mem_cons.mpr ⟨h71, List.forall_mem_cons.mpr ⟨h72, List.forall_mem_cons.mpr ⟨h73, List.forall_mem_cons.mpr ⟨h75, List.forall_mem_cons.mpr ⟨h76, List.forall_mem_cons.mpr ⟨h78, List.forall_mem_cons.mpr ⟨h79, List.forall_mem_cons.mpr ⟨h80, List.forall_mem_cons.mpr ⟨h81, List.forall_mem_cons.mpr ⟨h83, List.forall_mem_cons.mpr ⟨h84, List.forall_mem_cons.mpr ⟨h85, List.forall_mem_cons.mpr ⟨h86, List.forall_mem_cons.mpr ⟨h87, fun _ h => nomatch h⟩⟩⟩⟩⟩⟩⟩⟩⟩⟩⟩⟩⟩⟩⟩⟩⟩⟩⟩) (by decide) ?_
  refine tm_wk (lv' := [some (.int x0)]) ⟨Or.inr rfl, trivial⟩ ?_
  exact j_Nu_rangesOf_b284 C G hf
set_option maxRecDepth 100000 in
theorem ct_Nu_rangesOf {ex : List tm_Sh} {p0 : Int32} {mI : tm_I} {mL : tm_L} {r : Nat × tm_I × tm_L} (hf : f_Nu_rangesOf p0 mI mL = some r) : tm_M ty_Nu_rangesOf 0 0 0 0 [.int p0] (sh0 ++ ex, mI, mL, rr) (tm_is (some (.ref (1000001 + r.1))) (sh0 ++ ex, r.2.1, r.2.2, rr)) := by
  refine tm_body (by decide) (Nat.le_of_ble_eq_true rfl) fun Γ C G => ?_
  exact j_Nu_rangesOf_b0 C G hf
/-! Nu_leaveOut -/
def f_Nu_leaveOut_b33 (r2 : Nat → Int32 → tm_I → tm_L → Option (Int32 × tm_I × tm_L)) (x1 : Nat) (x2 : Int32) (s1 : Int32) (s2 : Int32) (mI : tm_I) (mL : tm_L) : Option (Int32 × tm_I × tm_L) := (f_Fo_set 17 s1 s2 mI mL).bind fun v1 => r2 x1 (x2 + (1 : Int32)) v1.2.1 v1.2.2
def f_Nu_leaveOut_l2 : Nat → Nat → Int32 → tm_I → tm_L → Option (Int32 × tm_I × tm_L)
  | 0, _, _, _, _ => none
  | n + 1, x1, x2, mI, mL => if (4 : Int32) ≤ x2 then some (0, mI, mL) else if x1 < 15 then if (Int32.ofNat (tm_sv x1).length) ≤ (((3 : Int32) * x2) + (2 : Int32)) then f_Nu_leaveOut_b33 (f_Nu_leaveOut_l2 n) x1 x2 x2 (0 : Int32) mI mL else if x1 < 15 then if ¬ ((((3 : Int32) * x2) + (2 : Int32)) < 0 ∨ (tm_sv x1).length ≤ Int32.toNatClampNeg (((3 : Int32) * x2) + (2 : Int32))) then f_Nu_leaveOut_b33 (f_Nu_leaveOut_l2 n) x1 x2 x2 ((tm_sv x1).getD (Int32.toNatClampNeg (((3 : Int32) * x2) + (2 : Int32))) 0) mI mL else none else none else none
def f_Nu_leaveOut_b0 (x1 : Nat) (mI : tm_I) (mL : tm_L) : Option (Int32 × tm_I × tm_L) := f_Nu_leaveOut_l2 tm_F x1 (0 : Int32) mI mL
abbrev f_Nu_leaveOut (p0 : Nat) (mI : tm_I) (mL : tm_L) : Option (Int32 × tm_I × tm_L) := f_Nu_leaveOut_b0 p0 mI mL
set_option maxRecDepth 100000 in
set_option maxHeartbeats 4000000 in
theorem j_Nu_leaveOut_b33 {Γ : tm_G} {ex : List tm_Sh} {av : List Value} {X0 : tm_X} {r2 : Nat → Int32 → tm_I → tm_L → Option (Int32 × tm_I × tm_L)} {r : Int32 × tm_I × tm_L} (C : tm_C Γ ty_Nu_leaveOut.1.cls ty_Nu_leaveOut.2.1 ty_Nu_leaveOut.2.2.1) (G : tm_Γ ty_Nu_leaveOut 1 22 0 0 av X0 (tm_is none (sh0 ++ ex, r.2.1, r.2.2, rr)) Γ) (H2 : ∀ (x1 : Nat) (x2 : Int32) (mI : tm_I) (mL : tm_L), r2 x1 x2 mI mL = some r → tm_T Γ 3 0 0 2 [some (.ref 16), some (.ref (1000001 + x1)), some (.int x2)] [] (sh0 ++ ex) mI mL rr) {x1 : Nat} {x2 : Int32} {s1 : Int32} {s2 : Int32} {mI : tm_I} {mL : tm_L} (hf : f_Nu_leaveOut_b33 r2 x1 x2 s1 s2 mI mL = some r) : tm_T Γ 3 0 0 33 [some (.ref 16), some (.ref (1000001 + x1)), some (.int x2)] [.int s2, .int s1, .ref 17] (sh0 ++ ex) mI mL rr := by
  have Ro := G.ro
  unfold f_Nu_leaveOut_b33 at hf
  obtain ⟨v1, hv1, hf⟩ := Option.bind_eq_some_iff.mp hf
  refine tm_cV C Ro to_Nu_leaveOut tl_Nu_94 rfl (ct_Fo_set isFo_17 hv1) rfl rfl rfl rfl rfl rfl rfl (Nat.le_refl _) (Nat.le_refl _) ?_
  refine tm_w C tfo_Nu to_Nu_leaveOut 1 rfl rfl rfl trivial ?_
  refine tm_wk (lv' := [some (.ref 16), some (.ref (1000001 + x1)), some (.int (x2 + (1 : Int32)))]) ⟨Or.inr rfl, Or.inr rfl, Or.inr rfl, trivial⟩ ?_
  exact H2 _ _ _ _ hf
set_option maxRecDepth 100000 in
set_option maxHeartbeats 4000000 in
theorem j_Nu_leaveOut_l2 {Γ : tm_G} {ex : List tm_Sh} {av : List Value} {X0 : tm_X} {r : Int32 × tm_I × tm_L} (C : tm_C Γ ty_Nu_leaveOut.1.cls ty_Nu_leaveOut.2.1 ty_Nu_leaveOut.2.2.1) (G : tm_Γ ty_Nu_leaveOut 1 22 0 0 av X0 (tm_is none (sh0 ++ ex, r.2.1, r.2.2, rr)) Γ) : ∀ (n : Nat) (x1 : Nat) (x2 : Int32) (mI : tm_I) (mL : tm_L), f_Nu_leaveOut_l2 n x1 x2 mI mL = some r → tm_T Γ 3 0 0 2 [some (.ref 16), some (.ref (1000001 + x1)), some (.int x2)] [] (sh0 ++ ex) mI mL rr := by
  have Ro := G.ro
  intro n
  induction n with
  | zero => intro x1 x2 mI mL hf; cases hf
  | succ n ih =>
    intro x1 x2 mI mL hf
    rw [f_Nu_leaveOut_l2] at hf
    refine tm_w C tfo_Nu to_Nu_leaveOut 1 rfl rfl rfl trivial ?_
    refine tm_b C to_Nu_leaveOut rfl rfl (fun h => ?_) (fun h => ?_)
    · have hf := (if_pos h).symm.trans hf
      cases hf
      exact tm_ev C G to_Nu_leaveOut rfl rfl (Nat.le_refl _) ⟨rfl, rfl⟩
    · have hf := (if_neg h).symm.trans hf
      obtain ⟨c1, hf⟩ := tm_iteN hf
      refine tm_w C tfo_Nu to_Nu_leaveOut 8 rfl rfl rfl ⟨rfl, trivial⟩ ?_
      refine tm_tabLJ C to_Nu_leaveOut rfl c1 ?_
      refine tm_b C to_Nu_leaveOut rfl rfl (fun h => ?_) (fun h => ?_)
      · have hf := (if_pos h).symm.trans hf
        refine tm_w C tfo_Nu to_Nu_leaveOut 0 rfl rfl rfl trivial ?_
        refine tm_wk (lv' := [some (.ref 16), some (.ref (1000001 + x1)), some (.int x2)]) ⟨Or.inr rfl, Or.inr rfl, Or.inr rfl, trivial⟩ ?_
        exact j_Nu_leaveOut_b33 C G (ih) hf
      · have hf := (if_neg h).symm.trans hf
        obtain ⟨c2, hf⟩ := tm_iteN hf
        obtain ⟨c3, hf⟩ := tm_iteN hf
        refine tm_w C tfo_Nu to_Nu_leaveOut 5 rfl rfl rfl trivial ?_
        refine tm_tabJ C to_Nu_leaveOut rfl c2 c3 ?_
        refine tm_w C tfo_Nu to_Nu_leaveOut 0 rfl rfl rfl trivial ?_
        refine tm_wk (lv' := [some (.ref 16), some (.ref (1000001 + x1)), some (.int x2)]) ⟨Or.inr rfl, Or.inr rfl, Or.inr rfl, trivial⟩ ?_
        exact j_Nu_leaveOut_b33 C G (ih) hf
set_option maxRecDepth 100000 in
set_option maxHeartbeats 4000000 in
theorem j_Nu_leaveOut_b0 {Γ : tm_G} {ex : List tm_Sh} {av : List Value} {X0 : tm_X} {r : Int32 × tm_I × tm_L} (C : tm_C Γ ty_Nu_leaveOut.1.cls ty_Nu_leaveOut.2.1 ty_Nu_leaveOut.2.2.1) (G : tm_Γ ty_Nu_leaveOut 1 22 0 0 av X0 (tm_is none (sh0 ++ ex, r.2.1, r.2.2, rr)) Γ) {x1 : Nat} {mI : tm_I} {mL : tm_L} (hf : f_Nu_leaveOut_b0 x1 mI mL = some r) : tm_T Γ 3 0 0 0 [some (.ref 16), some (.ref (1000001 + x1)), none] [] (sh0 ++ ex) mI mL rr := by
  have Ro := G.ro
  unfold f_Nu_leaveOut_b0 at hf
  refine tm_w C tfo_Nu to_Nu_leaveOut 1 rfl rfl rfl trivial ?_
  refine tm_wk (lv' := [some (.ref 16), some (.ref (1000001 + x1)), some (.int (0 : Int32))]) ⟨Or.inr rfl, Or.inr rfl, Or.inr rfl, trivial⟩ ?_
  exact j_Nu_leaveOut_l2 C G _ _ _ _ _ hf
set_option maxRecDepth 100000 in
theorem ct_Nu_leaveOut {ex : List tm_Sh} {p0 : Nat} {mI : tm_I} {mL : tm_L} {r : Int32 × tm_I × tm_L} (hf : f_Nu_leaveOut p0 mI mL = some r) : tm_M ty_Nu_leaveOut 1 22 0 0 [.ref 16, .ref (1000001 + p0)] (sh0 ++ ex, mI, mL, rr) (tm_is none (sh0 ++ ex, r.2.1, r.2.2, rr)) := by
  refine tm_body (by decide) (Nat.le_of_ble_eq_true rfl) fun Γ C G => ?_
  exact j_Nu_leaveOut_b0 C G hf
/-! Nu_areInRange -/
def f_Nu_areInRange_b46 (x1 : Nat) (x2 : Int32) (mI : tm_I) (mL : tm_L) : Option (Int32 × tm_I × tm_L) := some ((0 : Int32), mI, mL)
def f_Nu_areInRange_l2 : Nat → Nat → Int32 → tm_I → tm_L → Option (Int32 × tm_I × tm_L)
  | 0, _, _, _, _ => none
  | n + 1, x1, x2, mI, mL => if x1 < 15 then if (Int32.ofNat (tm_sv x1).length) ≤ (((3 : Int32) * x2) + (2 : Int32)) then some ((1 : Int32), mI, mL) else (f_Fo_get 17 x2 mI mL).bind fun v1 => if x1 < 15 then if ¬ (((3 : Int32) * x2) < 0 ∨ (tm_sv x1).length ≤ Int32.toNatClampNeg ((3 : Int32) * x2)) then if v1.1 < ((tm_sv x1).getD (Int32.toNatClampNeg ((3 : Int32) * x2)) 0) then f_Nu_areInRange_b46 x1 x2 v1.2.1 v1.2.2 else (f_Fo_get 17 x2 v1.2.1 v1.2.2).bind fun v2 => if x1 < 15 then if ¬ ((((3 : Int32) * x2) + (1 : Int32)) < 0 ∨ (tm_sv x1).length ≤ Int32.toNatClampNeg (((3 : Int32) * x2) + (1 : Int32))) then if v2.1 ≤ ((tm_sv x1).getD (Int32.toNatClampNeg (((3 : Int32) * x2) + (1 : Int32))) 0) then (f_Nu_areInRange_l2 n) x1 (x2 + (1 : Int32)) v2.2.1 v2.2.2 else f_Nu_areInRange_b46 x1 x2 v2.2.1 v2.2.2 else none else none else none else none else none
def f_Nu_areInRange_b0 (x1 : Nat) (mI : tm_I) (mL : tm_L) : Option (Int32 × tm_I × tm_L) := f_Nu_areInRange_l2 tm_F x1 (0 : Int32) mI mL
abbrev f_Nu_areInRange (p0 : Nat) (mI : tm_I) (mL : tm_L) : Option (Int32 × tm_I × tm_L) := f_Nu_areInRange_b0 p0 mI mL
set_option maxRecDepth 100000 in
set_option maxHeartbeats 4000000 in
theorem j_Nu_areInRange_b46 {Γ : tm_G} {ex : List tm_Sh} {av : List Value} {X0 : tm_X} {r : Int32 × tm_I × tm_L} (C : tm_C Γ ty_Nu_areInRange.1.cls ty_Nu_areInRange.2.1 ty_Nu_areInRange.2.2.1) (G : tm_Γ ty_Nu_areInRange 1 21 0 0 av X0 (tm_is (some (.int r.1)) (sh0 ++ ex, r.2.1, r.2.2, rr)) Γ) {x1 : Nat} {x2 : Int32} {mI : tm_I} {mL : tm_L} (hf : f_Nu_areInRange_b46 x1 x2 mI mL = some r) : tm_T Γ 3 0 0 46 [some (.ref 16), some (.ref (1000001 + x1)), some (.int x2)] [] (sh0 ++ ex) mI mL rr := by
  have Ro := G.ro
  unfold f_Nu_areInRange_b46 at hf
  refine tm_w C tfo_Nu to_Nu_areInRange 0 rfl rfl rfl trivial ?_
  cases hf
  exact tm_ei C G to_Nu_areInRange rfl rfl (Nat.le_refl _) rfl ⟨rfl, rfl⟩
set_option maxRecDepth 100000 in
set_option maxHeartbeats 4000000 in
theorem j_Nu_areInRange_l2 {Γ : tm_G} {ex : List tm_Sh} {av : List Value} {X0 : tm_X} {r : Int32 × tm_I × tm_L} (C : tm_C Γ ty_Nu_areInRange.1.cls ty_Nu_areInRange.2.1 ty_Nu_areInRange.2.2.1) (G : tm_Γ ty_Nu_areInRange 1 21 0 0 av X0 (tm_is (some (.int r.1)) (sh0 ++ ex, r.2.1, r.2.2, rr)) Γ) : ∀ (n : Nat) (x1 : Nat) (x2 : Int32) (mI : tm_I) (mL : tm_L), f_Nu_areInRange_l2 n x1 x2 mI mL = some r → tm_T Γ 3 0 0 2 [some (.ref 16), some (.ref (1000001 + x1)), some (.int x2)] [] (sh0 ++ ex) mI mL rr := by
  have Ro := G.ro
  intro n
  induction n with
  | zero => intro x1 x2 mI mL hf; cases hf
  | succ n ih =>
    intro x1 x2 mI mL hf
    rw [f_Nu_areInRange_l2] at hf
    obtain ⟨c1, hf⟩ := tm_iteN hf
    refine tm_w C tfo_Nu to_Nu_areInRange 5 rfl rfl rfl trivial ?_
    refine tm_tabLJ C to_Nu_areInRange rfl c1 ?_
    refine tm_b C to_Nu_areInRange rfl rfl (fun h => ?_) (fun h => ?_)
    · have hf := (if_pos h).symm.trans hf
      refine tm_w C tfo_Nu to_Nu_areInRange 0 rfl rfl rfl trivial ?_
      cases hf
      exact tm_ei C G to_Nu_areInRange rfl rfl (Nat.le_refl _) rfl ⟨rfl, rfl⟩
    · have hf := (if_neg h).symm.trans hf
      refine tm_w C tfo_Nu to_Nu_areInRange 2 rfl rfl rfl ⟨rfl, trivial⟩ ?_
      obtain ⟨v1, hv1, hf⟩ := Option.bind_eq_some_iff.mp hf
      refine tm_cV C Ro to_Nu_areInRange tl_Nu_105 rfl (ct_Fo_get isFo_17 hv1) rfl rfl rfl rfl rfl rfl rfl (Nat.le_refl _) (Nat.le_refl _) ?_
      obtain ⟨c2, hf⟩ := tm_iteN hf
      obtain ⟨c3, hf⟩ := tm_iteN hf
      refine tm_w C tfo_Nu to_Nu_areInRange 3 rfl rfl rfl trivial ?_
      refine tm_tabJ C to_Nu_areInRange rfl c2 c3 ?_
      refine tm_b C to_Nu_areInRange rfl rfl (fun h => ?_) (fun h => ?_)
      · have hf := (if_pos h).symm.trans hf
        refine tm_wk (lv' := [some (.ref 16), some (.ref (1000001 + x1)), some (.int x2)]) ⟨Or.inr rfl, Or.inr rfl, Or.inr rfl, trivial⟩ ?_
        exact j_Nu_areInRange_b46 C G hf
      · have hf := (if_neg h).symm.trans hf
        refine tm_w C tfo_Nu to_Nu_areInRange 2 rfl rfl rfl ⟨rfl, trivial⟩ ?_
        obtain ⟨v2, hv2, hf⟩ := Option.bind_eq_some_iff.mp hf
        refine tm_cV C Ro to_Nu_areInRange tl_Nu_105 rfl (ct_Fo_get isFo_17 hv2) rfl rfl rfl rfl rfl rfl rfl (Nat.le_refl _) (Nat.le_refl _) ?_
        obtain ⟨c4, hf⟩ := tm_iteN hf
        obtain ⟨c5, hf⟩ := tm_iteN hf
        refine tm_w C tfo_Nu to_Nu_areInRange 5 rfl rfl rfl trivial ?_
        refine tm_tabJ C to_Nu_areInRange rfl c4 c5 ?_
        refine tm_b C to_Nu_areInRange rfl rfl (fun h => ?_) (fun h => ?_)
        · have hf := (if_pos h).symm.trans hf
          refine tm_w C tfo_Nu to_Nu_areInRange 1 rfl rfl rfl trivial ?_
          refine tm_wk (lv' := [some (.ref 16), some (.ref (1000001 + x1)), some (.int (x2 + (1 : Int32)))]) ⟨Or.inr rfl, Or.inr rfl, Or.inr rfl, trivial⟩ ?_
          exact ih _ _ _ _ hf
        · have hf := (if_neg h).symm.trans hf
          refine tm_wk (lv' := [some (.ref 16), some (.ref (1000001 + x1)), some (.int x2)]) ⟨Or.inr rfl, Or.inr rfl, Or.inr rfl, trivial⟩ ?_
          exact j_Nu_areInRange_b46 C G hf
set_option maxRecDepth 100000 in
set_option maxHeartbeats 4000000 in
theorem j_Nu_areInRange_b0 {Γ : tm_G} {ex : List tm_Sh} {av : List Value} {X0 : tm_X} {r : Int32 × tm_I × tm_L} (C : tm_C Γ ty_Nu_areInRange.1.cls ty_Nu_areInRange.2.1 ty_Nu_areInRange.2.2.1) (G : tm_Γ ty_Nu_areInRange 1 21 0 0 av X0 (tm_is (some (.int r.1)) (sh0 ++ ex, r.2.1, r.2.2, rr)) Γ) {x1 : Nat} {mI : tm_I} {mL : tm_L} (hf : f_Nu_areInRange_b0 x1 mI mL = some r) : tm_T Γ 3 0 0 0 [some (.ref 16), some (.ref (1000001 + x1)), none] [] (sh0 ++ ex) mI mL rr := by
  have Ro := G.ro
  unfold f_Nu_areInRange_b0 at hf
  refine tm_w C tfo_Nu to_Nu_areInRange 1 rfl rfl rfl trivial ?_
  refine tm_wk (lv' := [some (.ref 16), some (.ref (1000001 + x1)), some (.int (0 : Int32))]) ⟨Or.inr rfl, Or.inr rfl, Or.inr rfl, trivial⟩ ?_
  exact j_Nu_areInRange_l2 C G _ _ _ _ _ hf
set_option maxRecDepth 100000 in
theorem ct_Nu_areInRange {ex : List tm_Sh} {p0 : Nat} {mI : tm_I} {mL : tm_L} {r : Int32 × tm_I × tm_L} (hf : f_Nu_areInRange p0 mI mL = some r) : tm_M ty_Nu_areInRange 1 21 0 0 [.ref 16, .ref (1000001 + p0)] (sh0 ++ ex, mI, mL, rr) (tm_is (some (.int r.1)) (sh0 ++ ex, r.2.1, r.2.2, rr)) := by
  refine tm_body (by decide) (Nat.le_of_ble_eq_true rfl) fun Γ C G => ?_
  exact j_Nu_areInRange_b0 C G hf
/-! Nu_take -/
def f_Nu_take_b108 (x2 : Int32) (x4 : Nat) (x5 : Int32) (s0 : Int32) (mI : tm_I) (mL : tm_L) : Option (Int32 × tm_I × tm_L) := some (s0, mI, mL)
def f_Nu_take_b94 (x2 : Int32) (x4 : Nat) (x5 : Int32) (mI : tm_I) (mL : tm_L) : Option (Int32 × tm_I × tm_L) := (f_Nu_areInRange x4 mI mL).bind fun v1 => if v1.1 = 0 then f_Nu_take_b108 x2 x4 x5 (5 : Int32) v1.2.1 v1.2.2 else f_Nu_take_b108 x2 x4 x5 (0 : Int32) v1.2.1 v1.2.2
def f_Nu_take_b79 (x2 : Int32) (x4 : Nat) (x5 : Int32) (s0 : Int32) (s1 : Int32) (mI : tm_I) (mL : tm_L) : Option (Int32 × tm_I × tm_L) := if s0 = s1 then if x5 = 0 then f_Nu_take_b94 x2 x4 x5 mI mL else (f_Sc_skip (1 : Int32) mI mL).bind fun v2 => f_Nu_take_b94 x2 x4 x5 v2.2.1 v2.2.2 else some ((4 : Int32), mI, mL)
def f_Nu_take_b64 (x2 : Int32) (x4 : Nat) (s0 : Int32) (mI : tm_I) (mL : tm_L) : Option (Int32 × tm_I × tm_L) := if ¬ x2 = (75 : Int32) then f_Nu_take_b79 x2 x4 s0 s0 (0 : Int32) mI mL else f_Nu_take_b79 x2 x4 s0 s0 (1 : Int32) mI mL
def f_Nu_take_b34 (x2 : Int32) (x4 : Nat) (mI : tm_I) (mL : tm_L) : Option (Int32 × tm_I × tm_L) := if x4 < 15 then (f_Nu_takeAll ((Int32.ofNat (tm_sv x4).length) / (3 : Int32)) mI mL).bind fun v3 => if ¬ v3.1 = 0 then (f_Sc_ahead (0 : Int32) v3.2.1 v3.2.2).bind fun v4 => if ¬ v4.1 = (44 : Int32) then f_Nu_take_b64 x2 x4 (0 : Int32) v4.2.1 v4.2.2 else f_Nu_take_b64 x2 x4 (1 : Int32) v4.2.1 v4.2.2 else some ((4 : Int32), v3.2.1, v3.2.2) else none
def f_Nu_take_b0 (x2 : Int32) (mI : tm_I) (mL : tm_L) : Option (Int32 × tm_I × tm_L) := (f_Nu_rangesOf x2 mI mL).bind fun v5 => if v5.1 < 15 then if ¬ (Int32.ofNat (tm_sv v5.1).length) = 0 then (f_Nu_leaveOut v5.1 v5.2.1 v5.2.2).bind fun v6 => if ¬ x2 = (84 : Int32) then f_Nu_take_b34 x2 v5.1 v6.2.1 v6.2.2 else (f_Fo_copy_17_32 v6.2.1 v6.2.2).bind fun v7 => f_Nu_take_b34 x2 v5.1 v7.2.1 v7.2.2 else some ((0 : Int32), v5.2.1, v5.2.2) else none
abbrev f_Nu_take (p1 : Int32) (mI : tm_I) (mL : tm_L) : Option (Int32 × tm_I × tm_L) := f_Nu_take_b0 p1 mI mL
set_option maxRecDepth 100000 in
set_option maxHeartbeats 4000000 in
theorem j_Nu_take_b108 {Γ : tm_G} {ex : List tm_Sh} {av : List Value} {X0 : tm_X} {r : Int32 × tm_I × tm_L} (C : tm_C Γ ty_Nu_take.1.cls ty_Nu_take.2.1 ty_Nu_take.2.2.1) (G : tm_Γ ty_Nu_take 4 91 0 0 av X0 (tm_is (some (.int r.1)) (sh0 ++ ex, r.2.1, r.2.2, rr)) Γ) {x2 : Int32} {x4 : Nat} {x5 : Int32} {s0 : Int32} {mI : tm_I} {mL : tm_L} (hf : f_Nu_take_b108 x2 x4 x5 s0 mI mL = some r) : tm_T Γ 6 0 0 108 [some (.ref 16), some (.ref 1), some (.int x2), some (.ref 32), some (.ref (1000001 + x4)), some (.int x5)] [.int s0] (sh0 ++ ex) mI mL rr := by
  have Ro := G.ro
  unfold f_Nu_take_b108 at hf
  cases hf
  exact tm_ei C G to_Nu_take rfl rfl (Nat.le_refl _) rfl ⟨rfl, rfl⟩
set_option maxRecDepth 100000 in
set_option maxHeartbeats 4000000 in
theorem j_Nu_take_b94 {Γ : tm_G} {ex : List tm_Sh} {av : List Value} {X0 : tm_X} {r : Int32 × tm_I × tm_L} (C : tm_C Γ ty_Nu_take.1.cls ty_Nu_take.2.1 ty_Nu_take.2.2.1) (G : tm_Γ ty_Nu_take 4 91 0 0 av X0 (tm_is (some (.int r.1)) (sh0 ++ ex, r.2.1, r.2.2, rr)) Γ) {x2 : Int32} {x4 : Nat} {x5 : Int32} {mI : tm_I} {mL : tm_L} (hf : f_Nu_take_b94 x2 x4 x5 mI mL = some r) : tm_T Γ 6 0 0 94 [some (.ref 16), some (.ref 1), some (.int x2), some (.ref 32), some (.ref (1000001 + x4)), some (.int x5)] [] (sh0 ++ ex) mI mL rr := by
  have Ro := G.ro
  unfold f_Nu_take_b94 at hf
  refine tm_w C tfo_Nu to_Nu_take 1 rfl rfl rfl trivial ?_
  obtain ⟨v1, hv1, hf⟩ := Option.bind_eq_some_iff.mp hf
  refine tm_cV C Ro to_Nu_take tl_Nu_90 rfl (ct_Nu_areInRange hv1) rfl rfl rfl rfl rfl rfl rfl (Nat.le_refl _) (Nat.le_refl _) ?_
  refine tm_b C to_Nu_take rfl rfl (fun h => ?_) (fun h => ?_)
  · have hf := (if_pos h).symm.trans hf
    refine tm_w C tfo_Nu to_Nu_take 0 rfl rfl rfl trivial ?_
    refine tm_wk (lv' := [some (.ref 16), some (.ref 1), some (.int x2), some (.ref 32), some (.ref (1000001 + x4)), some (.int x5)]) ⟨Or.inr rfl, Or.inr rfl, Or.inr rfl, Or.inr rfl, Or.inr rfl, Or.inr rfl, trivial⟩ ?_
    exact j_Nu_take_b108 C G hf
  · have hf := (if_neg h).symm.trans hf
    refine tm_w C tfo_Nu to_Nu_take 1 rfl rfl rfl trivial ?_
    refine tm_wk (lv' := [some (.ref 16), some (.ref 1), some (.int x2), some (.ref 32), some (.ref (1000001 + x4)), some (.int x5)]) ⟨Or.inr rfl, Or.inr rfl, Or.inr rfl, Or.inr rfl, Or.inr rfl, Or.inr rfl, trivial⟩ ?_
    exact j_Nu_take_b108 C G hf
set_option maxRecDepth 100000 in
set_option maxHeartbeats 4000000 in
theorem j_Nu_take_b79 {Γ : tm_G} {ex : List tm_Sh} {av : List Value} {X0 : tm_X} {r : Int32 × tm_I × tm_L} (C : tm_C Γ ty_Nu_take.1.cls ty_Nu_take.2.1 ty_Nu_take.2.2.1) (G : tm_Γ ty_Nu_take 4 91 0 0 av X0 (tm_is (some (.int r.1)) (sh0 ++ ex, r.2.1, r.2.2, rr)) Γ) {x2 : Int32} {x4 : Nat} {x5 : Int32} {s0 : Int32} {s1 : Int32} {mI : tm_I} {mL : tm_L} (hf : f_Nu_take_b79 x2 x4 x5 s0 s1 mI mL = some r) : tm_T Γ 6 0 0 79 [some (.ref 16), some (.ref 1), some (.int x2), some (.ref 32), some (.ref (1000001 + x4)), some (.int x5)] [.int s1, .int s0] (sh0 ++ ex) mI mL rr := by
  have Ro := G.ro
  unfold f_Nu_take_b79 at hf
  refine tm_b C to_Nu_take rfl rfl (fun h => ?_) (fun h => ?_)
  · have hf := (if_pos h).symm.trans hf
    refine tm_w C tfo_Nu to_Nu_take 0 rfl rfl rfl trivial ?_
    refine tm_b C to_Nu_take rfl rfl (fun h => ?_) (fun h => ?_)
    · have hf := (if_pos h).symm.trans hf
      refine tm_wk (lv' := [some (.ref 16), some (.ref 1), some (.int x2), some (.ref 32), some (.ref (1000001 + x4)), some (.int x5)]) ⟨Or.inr rfl, Or.inr rfl, Or.inr rfl, Or.inr rfl, Or.inr rfl, Or.inr rfl, trivial⟩ ?_
      exact j_Nu_take_b94 C G hf
    · have hf := (if_neg h).symm.trans hf
      refine tm_w C tfo_Nu to_Nu_take 1 rfl rfl rfl trivial ?_
      obtain ⟨v2, hv2, hf⟩ := Option.bind_eq_some_iff.mp hf
      refine tm_cV C Ro to_Nu_take tl_Nu_86 rfl (ct_Sc_skip hv2) rfl rfl rfl rfl rfl rfl rfl (Nat.le_refl _) (Nat.le_refl _) ?_
      refine tm_wk (lv' := [some (.ref 16), some (.ref 1), some (.int x2), some (.ref 32), some (.ref (1000001 + x4)), some (.int x5)]) ⟨Or.inr rfl, Or.inr rfl, Or.inr rfl, Or.inr rfl, Or.inr rfl, Or.inr rfl, trivial⟩ ?_
      exact j_Nu_take_b94 C G hf
  · have hf := (if_neg h).symm.trans hf
    refine tm_w C tfo_Nu to_Nu_take 0 rfl rfl rfl trivial ?_
    cases hf
    exact tm_ei C G to_Nu_take rfl rfl (Nat.le_refl _) rfl ⟨rfl, rfl⟩
set_option maxRecDepth 100000 in
set_option maxHeartbeats 4000000 in
theorem j_Nu_take_b64 {Γ : tm_G} {ex : List tm_Sh} {av : List Value} {X0 : tm_X} {r : Int32 × tm_I × tm_L} (C : tm_C Γ ty_Nu_take.1.cls ty_Nu_take.2.1 ty_Nu_take.2.2.1) (G : tm_Γ ty_Nu_take 4 91 0 0 av X0 (tm_is (some (.int r.1)) (sh0 ++ ex, r.2.1, r.2.2, rr)) Γ) {x2 : Int32} {x4 : Nat} {s0 : Int32} {mI : tm_I} {mL : tm_L} (hf : f_Nu_take_b64 x2 x4 s0 mI mL = some r) : tm_T Γ 6 0 0 64 [some (.ref 16), some (.ref 1), some (.int x2), some (.ref 32), some (.ref (1000001 + x4)), none] [.int s0] (sh0 ++ ex) mI mL rr := by
  have Ro := G.ro
  unfold f_Nu_take_b64 at hf
  refine tm_w C tfo_Nu to_Nu_take 3 rfl rfl rfl trivial ?_
  refine tm_b C to_Nu_take rfl rfl (fun h => ?_) (fun h => ?_)
  · have hf := (if_pos h).symm.trans hf
    refine tm_w C tfo_Nu to_Nu_take 0 rfl rfl rfl trivial ?_
    refine tm_wk (lv' := [some (.ref 16), some (.ref 1), some (.int x2), some (.ref 32), some (.ref (1000001 + x4)), some (.int s0)]) ⟨Or.inr rfl, Or.inr rfl, Or.inr rfl, Or.inr rfl, Or.inr rfl, Or.inr rfl, trivial⟩ ?_
    exact j_Nu_take_b79 C G hf
  · have hf := (if_neg h).symm.trans hf
    refine tm_w C tfo_Nu to_Nu_take 1 rfl rfl rfl trivial ?_
    refine tm_wk (lv' := [some (.ref 16), some (.ref 1), some (.int x2), some (.ref 32), some (.ref (1000001 + x4)), some (.int s0)]) ⟨Or.inr rfl, Or.inr rfl, Or.inr rfl, Or.inr rfl, Or.inr rfl, Or.inr rfl, trivial⟩ ?_
    exact j_Nu_take_b79 C G hf
set_option maxRecDepth 100000 in
set_option maxHeartbeats 4000000 in
theorem j_Nu_take_b34 {Γ : tm_G} {ex : List tm_Sh} {av : List Value} {X0 : tm_X} {r : Int32 × tm_I × tm_L} (C : tm_C Γ ty_Nu_take.1.cls ty_Nu_take.2.1 ty_Nu_take.2.2.1) (G : tm_Γ ty_Nu_take 4 91 0 0 av X0 (tm_is (some (.int r.1)) (sh0 ++ ex, r.2.1, r.2.2, rr)) Γ) {x2 : Int32} {x4 : Nat} {mI : tm_I} {mL : tm_L} (hf : f_Nu_take_b34 x2 x4 mI mL = some r) : tm_T Γ 6 0 0 34 [some (.ref 16), some (.ref 1), some (.int x2), some (.ref 32), some (.ref (1000001 + x4)), none] [] (sh0 ++ ex) mI mL rr := by
  have Ro := G.ro
  unfold f_Nu_take_b34 at hf
  obtain ⟨c1, hf⟩ := tm_iteN hf
  refine tm_w C tfo_Nu to_Nu_take 2 rfl rfl rfl trivial ?_
  refine tm_tabLJ C to_Nu_take rfl c1 ?_
  refine tm_w C tfo_Nu to_Nu_take 1 rfl rfl rfl ⟨(by decide), trivial⟩ ?_
  obtain ⟨v3, hv3, hf⟩ := Option.bind_eq_some_iff.mp hf
  refine tm_cV C Ro to_Nu_take tl_Nu_76 rfl (ct_Nu_takeAll hv3) rfl rfl rfl rfl rfl rfl rfl (Nat.le_refl _) (Nat.le_refl _) ?_
  refine tm_b C to_Nu_take rfl rfl (fun h => ?_) (fun h => ?_)
  · have hf := (if_pos h).symm.trans hf
    refine tm_w C tfo_Nu to_Nu_take 1 rfl rfl rfl trivial ?_
    obtain ⟨v4, hv4, hf⟩ := Option.bind_eq_some_iff.mp hf
    refine tm_cV C Ro to_Nu_take tl_Nu_80 rfl (ct_Sc_ahead hv4) rfl rfl rfl rfl rfl rfl rfl (Nat.le_refl _) (Nat.le_refl _) ?_
    refine tm_w C tfo_Nu to_Nu_take 0 rfl rfl rfl trivial ?_
    refine tm_b C to_Nu_take rfl rfl (fun h => ?_) (fun h => ?_)
    · have hf := (if_pos h).symm.trans hf
      refine tm_w C tfo_Nu to_Nu_take 0 rfl rfl rfl trivial ?_
      refine tm_wk (lv' := [some (.ref 16), some (.ref 1), some (.int x2), some (.ref 32), some (.ref (1000001 + x4)), none]) ⟨Or.inr rfl, Or.inr rfl, Or.inr rfl, Or.inr rfl, Or.inr rfl, Or.inl rfl, trivial⟩ ?_
      exact j_Nu_take_b64 C G hf
    · have hf := (if_neg h).symm.trans hf
      refine tm_w C tfo_Nu to_Nu_take 1 rfl rfl rfl trivial ?_
      refine tm_wk (lv' := [some (.ref 16), some (.ref 1), some (.int x2), some (.ref 32), some (.ref (1000001 + x4)), none]) ⟨Or.inr rfl, Or.inr rfl, Or.inr rfl, Or.inr rfl, Or.inr rfl, Or.inl rfl, trivial⟩ ?_
      exact j_Nu_take_b64 C G hf
  · have hf := (if_neg h).symm.trans hf
    refine tm_w C tfo_Nu to_Nu_take 0 rfl rfl rfl trivial ?_
    cases hf
    exact tm_ei C G to_Nu_take rfl rfl (Nat.le_refl _) rfl ⟨rfl, rfl⟩
set_option maxRecDepth 100000 in
set_option maxHeartbeats 4000000 in
theorem j_Nu_take_b0 {Γ : tm_G} {ex : List tm_Sh} {av : List Value} {X0 : tm_X} {r : Int32 × tm_I × tm_L} (C : tm_C Γ ty_Nu_take.1.cls ty_Nu_take.2.1 ty_Nu_take.2.2.1) (G : tm_Γ ty_Nu_take 4 91 0 0 av X0 (tm_is (some (.int r.1)) (sh0 ++ ex, r.2.1, r.2.2, rr)) Γ) {x2 : Int32} {mI : tm_I} {mL : tm_L} (hf : f_Nu_take_b0 x2 mI mL = some r) : tm_T Γ 6 0 0 0 [some (.ref 16), some (.ref 1), some (.int x2), some (.ref 32), none, none] [] (sh0 ++ ex) mI mL rr := by
  have Ro := G.ro
  unfold f_Nu_take_b0 at hf
  refine tm_w C tfo_Nu to_Nu_take 0 rfl rfl rfl trivial ?_
  obtain ⟨v5, hv5, hf⟩ := Option.bind_eq_some_iff.mp hf
  refine tm_cS C Ro to_Nu_take tl_Nu_64 rfl (ct_Nu_rangesOf hv5) rfl rfl rfl rfl rfl (Nat.le_refl _) (Nat.le_refl _) ?_
  obtain ⟨c2, hf⟩ := tm_iteN hf
  refine tm_w C tfo_Nu to_Nu_take 1 rfl rfl rfl trivial ?_
  refine tm_tabLJ C to_Nu_take rfl c2 ?_
  refine tm_b C to_Nu_take rfl rfl (fun h => ?_) (fun h => ?_)
  · have hf := (if_pos h).symm.trans hf
    refine tm_w C tfo_Nu to_Nu_take 1 rfl rfl rfl trivial ?_
    obtain ⟨v6, hv6, hf⟩ := Option.bind_eq_some_iff.mp hf
    refine tm_cV C Ro to_Nu_take tl_Nu_68 rfl (ct_Nu_leaveOut hv6) rfl rfl rfl rfl rfl rfl rfl (Nat.le_refl _) (Nat.le_refl _) ?_
    refine tm_w C tfo_Nu to_Nu_take 1 rfl rfl rfl trivial ?_
    refine tm_b C to_Nu_take rfl rfl (fun h => ?_) (fun h => ?_)
    · have hf := (if_pos h).symm.trans hf
      refine tm_wk (lv' := [some (.ref 16), some (.ref 1), some (.int x2), some (.ref 32), some (.ref (1000001 + v5.1)), none]) ⟨Or.inr rfl, Or.inr rfl, Or.inr rfl, Or.inr rfl, Or.inr rfl, Or.inl rfl, trivial⟩ ?_
      exact j_Nu_take_b34 C G hf
    · have hf := (if_neg h).symm.trans hf
      refine tm_w C tfo_Nu to_Nu_take 2 rfl rfl rfl ⟨rfl, trivial⟩ ?_
      obtain ⟨v7, hv7, hf⟩ := Option.bind_eq_some_iff.mp hf
      refine tm_cV C Ro to_Nu_take tl_Nu_72 rfl (ct_Fo_copy_17_32 hv7) rfl rfl rfl rfl rfl rfl rfl (Nat.le_refl _) (Nat.le_refl _) ?_
      refine tm_wk (lv' := [some (.ref 16), some (.ref 1), some (.int x2), some (.ref 32), some (.ref (1000001 + v5.1)), none]) ⟨Or.inr rfl, Or.inr rfl, Or.inr rfl, Or.inr rfl, Or.inr rfl, Or.inl rfl, trivial⟩ ?_
      exact j_Nu_take_b34 C G hf
  · have hf := (if_neg h).symm.trans hf
    refine tm_w C tfo_Nu to_Nu_take 0 rfl rfl rfl trivial ?_
    cases hf
    exact tm_ei C G to_Nu_take rfl rfl (Nat.le_refl _) rfl ⟨rfl, rfl⟩
set_option maxRecDepth 100000 in
theorem ct_Nu_take {ex : List tm_Sh} {p1 : Int32} {mI : tm_I} {mL : tm_L} {r : Int32 × tm_I × tm_L} (hf : f_Nu_take p1 mI mL = some r) : tm_M ty_Nu_take 4 91 0 0 [.ref 16, .ref 1, .int p1, .ref 32] (sh0 ++ ex, mI, mL, rr) (tm_is (some (.int r.1)) (sh0 ++ ex, r.2.1, r.2.2, rr)) := by
  refine tm_body (by decide) (Nat.le_of_ble_eq_true rfl) fun Γ C G => ?_
  exact j_Nu_take_b0 C G hf
