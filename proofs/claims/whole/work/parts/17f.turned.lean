/-! Mo_step -/
def f_Mo_step_b205 (s0 : Int32) (mI : tm_I) (mL : tm_L) : Option (Int32 × tm_I × tm_L) := if s0 = 0 ∨ s0 = 1 then some (s0, mI, mL) else none
def f_Mo_step_b190 (s1 : Int32) (mI : tm_I) (mL : tm_L) : Option (Int32 × tm_I × tm_L) := if ¬ ((tm_up mI 39 14 s1) 39 13) = 0 then f_Mo_step_b205 (0 : Int32) (tm_up mI 39 14 s1) mL else f_Mo_step_b205 (1 : Int32) (tm_up mI 39 14 s1) mL
def f_Mo_step_b174  (mI : tm_I) (mL : tm_L) : Option (Int32 × tm_I × tm_L) := if (mI 39 13) ≤ 0 then f_Mo_step_b190 (-1 : Int32) mI mL else f_Mo_step_b190 (mI 39 12) mI mL
def f_Mo_step_b118 (s1 : Int32) (mI : tm_I) (mL : tm_L) : Option (Int32 × tm_I × tm_L) := (f_Mo_next (tm_up mI 39 12 s1) mL).bind fun v1 => if v1.1 = (94 : Int32) then (f_Mo_next (tm_up v1.2.1 39 11 ((v1.2.1 39 11) + (1 : Int32))) v1.2.2).bind fun v2 => (f_Mo_test v2.1 v2.2.1 v2.2.2).bind fun v3 => if ¬ ((tm_up v3.2.1 39 13 v3.1) 39 13) = 0 then f_Mo_step_b174 (tm_up v3.2.1 39 13 v3.1) v3.2.2 else (f_Mo_obey v2.1 (tm_up v3.2.1 39 13 v3.1) v3.2.2).bind fun v4 => f_Mo_step_b174 v4.2.1 v4.2.2 else f_Mo_step_b174 (tm_up v1.2.1 39 13 (1 : Int32)) v1.2.2
def f_Mo_step_b89 (s1 : Int32) (mI : tm_I) (mL : tm_L) : Option (Int32 × tm_I × tm_L) := some ((0 : Int32), tm_up mI 39 14 s1, mL)
def f_Mo_step_b70 (s1 : Int32) (mI : tm_I) (mL : tm_L) : Option (Int32 × tm_I × tm_L) := if ((tm_up mI 39 13 s1) 39 18) = 0 then f_Mo_step_b89 (-1 : Int32) (tm_up mI 39 13 s1) mL else f_Mo_step_b89 ((tm_up mI 39 13 s1) 39 2) (tm_up mI 39 13 s1) mL
def f_Mo_step_b49  (mI : tm_I) (mL : tm_L) : Option (Int32 × tm_I × tm_L) := if ¬ (mI 39 8) = 0 then if ¬ (mI 39 9) = 0 then f_Mo_step_b118 (mI 39 10) mI mL else f_Mo_step_b118 ((mI 39 2) - (mI 39 8)) mI mL else if (mI 39 18) = 0 then f_Mo_step_b70 (0 : Int32) mI mL else f_Mo_step_b70 (11 : Int32) mI mL
def f_Mo_step_b38 (r0 : tm_I → tm_L → Option (Int32 × tm_I × tm_L)) (s1 : Int32) (mI : tm_I) (mL : tm_L) : Option (Int32 × tm_I × tm_L) := (f_Mo_next (tm_up mI 39 9 s1) mL).bind fun v5 => r0 v5.2.1 v5.2.2
def f_Mo_step_l0 : Nat → tm_I → tm_L → Option (Int32 × tm_I × tm_L)
  | 0, _, _ => none
  | n + 1, mI, mL => if (mI 39 8) ≤ 0 then f_Mo_step_b49 mI mL else (f_Mo_peek mI mL).bind fun v6 => if (32 : Int32) < v6.1 then f_Mo_step_b49 v6.2.1 v6.2.2 else (f_Mo_peek v6.2.1 v6.2.2).bind fun v7 => if ¬ v7.1 = (-1 : Int32) then f_Mo_step_b38 (f_Mo_step_l0 n) (v7.2.1 39 9) v7.2.1 v7.2.2 else f_Mo_step_b38 (f_Mo_step_l0 n) ((v7.2.1 39 9) - (1 : Int32)) v7.2.1 v7.2.2
abbrev f_Mo_step  (mI : tm_I) (mL : tm_L) : Option (Int32 × tm_I × tm_L) := f_Mo_step_l0 tm_F  mI mL
set_option maxRecDepth 100000 in
set_option maxHeartbeats 4000000 in
theorem j_Mo_step_b205 {Γ : tm_G} {ex : List tm_Sh} {av : List Value} {X0 : tm_X} {r : Int32 × tm_I × tm_L} (C : tm_C Γ ty_Mo_step.1.cls ty_Mo_step.2.1 ty_Mo_step.2.2.1) (G : tm_Γ ty_Mo_step 9 217 0 0 av X0 (tm_is (some (.int r.1)) (sh0 ++ ex, r.2.1, r.2.2, rr)) Γ) {s0 : Int32} {mI : tm_I} {mL : tm_L} (hf : f_Mo_step_b205 s0 mI mL = some r) : tm_T Γ 2 0 0 205 [some (.ref 39), none] [.int s0] (sh0 ++ ex) mI mL rr := by
  have Ro := G.ro
  unfold f_Mo_step_b205 at hf
  obtain ⟨c1, hf⟩ := tm_iteN hf
  cases hf
  exact tm_ei C G to_Mo_step rfl rfl (Nat.le_refl _) (tm_nz c1) ⟨rfl, rfl⟩
set_option maxRecDepth 100000 in
set_option maxHeartbeats 4000000 in
theorem j_Mo_step_b190 {Γ : tm_G} {ex : List tm_Sh} {av : List Value} {X0 : tm_X} {r : Int32 × tm_I × tm_L} (C : tm_C Γ ty_Mo_step.1.cls ty_Mo_step.2.1 ty_Mo_step.2.2.1) (G : tm_Γ ty_Mo_step 9 217 0 0 av X0 (tm_is (some (.int r.1)) (sh0 ++ ex, r.2.1, r.2.2, rr)) Γ) {s1 : Int32} {mI : tm_I} {mL : tm_L} (hf : f_Mo_step_b190 s1 mI mL = some r) : tm_T Γ 2 0 0 190 [some (.ref 39), none] [.int s1, .ref 39] (sh0 ++ ex) mI mL rr := by
  have Ro := G.ro
  unfold f_Mo_step_b190 at hf
  refine tm_w C tfo_Mo to_Mo_step 2 rfl rfl rfl ⟨rfl, rfl, trivial⟩ ?_
  refine tm_b C to_Mo_step rfl rfl (fun h => ?_) (fun h => ?_)
  · have hf := (if_pos h).symm.trans hf
    refine tm_w C tfo_Mo to_Mo_step 0 rfl rfl rfl trivial ?_
    refine tm_wk (lv' := [some (.ref 39), none]) ⟨Or.inr rfl, Or.inl rfl, trivial⟩ ?_
    exact j_Mo_step_b205 C G hf
  · have hf := (if_neg h).symm.trans hf
    refine tm_w C tfo_Mo to_Mo_step 1 rfl rfl rfl trivial ?_
    refine tm_wk (lv' := [some (.ref 39), none]) ⟨Or.inr rfl, Or.inl rfl, trivial⟩ ?_
    exact j_Mo_step_b205 C G hf
set_option maxRecDepth 100000 in
set_option maxHeartbeats 4000000 in
theorem j_Mo_step_b174 {Γ : tm_G} {ex : List tm_Sh} {av : List Value} {X0 : tm_X} {r : Int32 × tm_I × tm_L} (C : tm_C Γ ty_Mo_step.1.cls ty_Mo_step.2.1 ty_Mo_step.2.2.1) (G : tm_Γ ty_Mo_step 9 217 0 0 av X0 (tm_is (some (.int r.1)) (sh0 ++ ex, r.2.1, r.2.2, rr)) Γ) {mI : tm_I} {mL : tm_L} (hf : f_Mo_step_b174  mI mL = some r) : tm_T Γ 2 0 0 174 [some (.ref 39), none] [] (sh0 ++ ex) mI mL rr := by
  have Ro := G.ro
  unfold f_Mo_step_b174 at hf
  refine tm_w C tfo_Mo to_Mo_step 2 rfl rfl rfl ⟨rfl, trivial⟩ ?_
  refine tm_b C to_Mo_step rfl rfl (fun h => ?_) (fun h => ?_)
  · have hf := (if_pos h).symm.trans hf
    refine tm_w C tfo_Mo to_Mo_step 0 rfl rfl rfl trivial ?_
    refine tm_wk (lv' := [some (.ref 39), none]) ⟨Or.inr rfl, Or.inl rfl, trivial⟩ ?_
    exact j_Mo_step_b190 C G hf
  · have hf := (if_neg h).symm.trans hf
    refine tm_w C tfo_Mo to_Mo_step 2 rfl rfl rfl ⟨rfl, trivial⟩ ?_
    refine tm_wk (lv' := [some (.ref 39), none]) ⟨Or.inr rfl, Or.inl rfl, trivial⟩ ?_
    exact j_Mo_step_b190 C G hf
set_option maxRecDepth 100000 in
set_option maxHeartbeats 4000000 in
theorem j_Mo_step_b118 {Γ : tm_G} {ex : List tm_Sh} {av : List Value} {X0 : tm_X} {r : Int32 × tm_I × tm_L} (C : tm_C Γ ty_Mo_step.1.cls ty_Mo_step.2.1 ty_Mo_step.2.2.1) (G : tm_Γ ty_Mo_step 9 217 0 0 av X0 (tm_is (some (.int r.1)) (sh0 ++ ex, r.2.1, r.2.2, rr)) Γ) {s1 : Int32} {mI : tm_I} {mL : tm_L} (hf : f_Mo_step_b118 s1 mI mL = some r) : tm_T Γ 2 0 0 118 [some (.ref 39), none] [.int s1, .ref 39] (sh0 ++ ex) mI mL rr := by
  have Ro := G.ro
  unfold f_Mo_step_b118 at hf
  refine tm_w C tfo_Mo to_Mo_step 1 rfl rfl rfl ⟨rfl, trivial⟩ ?_
  obtain ⟨v1, hv1, hf⟩ := Option.bind_eq_some_iff.mp hf
  refine tm_cV C Ro to_Mo_step tl_Mo_95 rfl (ct_Mo_next hv1) rfl rfl rfl rfl rfl rfl rfl (Nat.le_refl _) (Nat.le_refl _) ?_
  refine tm_w C tfo_Mo to_Mo_step 0 rfl rfl rfl trivial ?_
  refine tm_b C to_Mo_step rfl rfl (fun h => ?_) (fun h => ?_)
  · have hf := (if_pos h).symm.trans hf
    refine tm_w C tfo_Mo to_Mo_step 6 rfl rfl rfl ⟨rfl, rfl, trivial⟩ ?_
    obtain ⟨v2, hv2, hf⟩ := Option.bind_eq_some_iff.mp hf
    refine tm_cV C Ro to_Mo_step tl_Mo_95 rfl (ct_Mo_next hv2) rfl rfl rfl rfl rfl rfl rfl (Nat.le_refl _) (Nat.le_refl _) ?_
    refine tm_w C tfo_Mo to_Mo_step 3 rfl rfl rfl trivial ?_
    obtain ⟨v3, hv3, hf⟩ := Option.bind_eq_some_iff.mp hf
    refine tm_cV C Ro to_Mo_step tl_Mo_252 rfl (ct_Mo_test hv3) rfl rfl rfl rfl rfl rfl rfl (Nat.le_refl _) (Nat.le_refl _) ?_
    refine tm_w C tfo_Mo to_Mo_step 2 rfl rfl rfl ⟨rfl, rfl, trivial⟩ ?_
    refine tm_b C to_Mo_step rfl rfl (fun h => ?_) (fun h => ?_)
    · have hf := (if_pos h).symm.trans hf
      refine tm_wk (lv' := [some (.ref 39), none]) ⟨Or.inr rfl, Or.inl rfl, trivial⟩ ?_
      exact j_Mo_step_b174 C G hf
    · have hf := (if_neg h).symm.trans hf
      refine tm_w C tfo_Mo to_Mo_step 1 rfl rfl rfl trivial ?_
      obtain ⟨v4, hv4, hf⟩ := Option.bind_eq_some_iff.mp hf
      refine tm_cV C Ro to_Mo_step tl_Mo_255 rfl (ct_Mo_obey hv4) rfl rfl rfl rfl rfl rfl rfl (Nat.le_refl _) (Nat.le_refl _) ?_
      refine tm_wk (lv' := [some (.ref 39), none]) ⟨Or.inr rfl, Or.inl rfl, trivial⟩ ?_
      exact j_Mo_step_b174 C G hf
  · have hf := (if_neg h).symm.trans hf
    refine tm_w C tfo_Mo to_Mo_step 3 rfl rfl rfl ⟨rfl, trivial⟩ ?_
    refine tm_wk (lv' := [some (.ref 39), none]) ⟨Or.inr rfl, Or.inl rfl, trivial⟩ ?_
    exact j_Mo_step_b174 C G hf
set_option maxRecDepth 100000 in
set_option maxHeartbeats 4000000 in
theorem j_Mo_step_b89 {Γ : tm_G} {ex : List tm_Sh} {av : List Value} {X0 : tm_X} {r : Int32 × tm_I × tm_L} (C : tm_C Γ ty_Mo_step.1.cls ty_Mo_step.2.1 ty_Mo_step.2.2.1) (G : tm_Γ ty_Mo_step 9 217 0 0 av X0 (tm_is (some (.int r.1)) (sh0 ++ ex, r.2.1, r.2.2, rr)) Γ) {s1 : Int32} {mI : tm_I} {mL : tm_L} (hf : f_Mo_step_b89 s1 mI mL = some r) : tm_T Γ 2 0 0 89 [some (.ref 39), none] [.int s1, .ref 39] (sh0 ++ ex) mI mL rr := by
  have Ro := G.ro
  unfold f_Mo_step_b89 at hf
  refine tm_w C tfo_Mo to_Mo_step 1 rfl rfl rfl ⟨rfl, trivial⟩ ?_
  cases hf
  exact tm_ei C G to_Mo_step rfl rfl (Nat.le_refl _) rfl ⟨rfl, rfl⟩
set_option maxRecDepth 100000 in
set_option maxHeartbeats 4000000 in
theorem j_Mo_step_b70 {Γ : tm_G} {ex : List tm_Sh} {av : List Value} {X0 : tm_X} {r : Int32 × tm_I × tm_L} (C : tm_C Γ ty_Mo_step.1.cls ty_Mo_step.2.1 ty_Mo_step.2.2.1) (G : tm_Γ ty_Mo_step 9 217 0 0 av X0 (tm_is (some (.int r.1)) (sh0 ++ ex, r.2.1, r.2.2, rr)) Γ) {s1 : Int32} {mI : tm_I} {mL : tm_L} (hf : f_Mo_step_b70 s1 mI mL = some r) : tm_T Γ 2 0 0 70 [some (.ref 39), none] [.int s1, .ref 39] (sh0 ++ ex) mI mL rr := by
  have Ro := G.ro
  unfold f_Mo_step_b70 at hf
  refine tm_w C tfo_Mo to_Mo_step 3 rfl rfl rfl ⟨rfl, rfl, trivial⟩ ?_
  refine tm_b C to_Mo_step rfl rfl (fun h => ?_) (fun h => ?_)
  · have hf := (if_pos h).symm.trans hf
    refine tm_w C tfo_Mo to_Mo_step 0 rfl rfl rfl trivial ?_
    refine tm_wk (lv' := [some (.ref 39), none]) ⟨Or.inr rfl, Or.inl rfl, trivial⟩ ?_
    exact j_Mo_step_b89 C G hf
  · have hf := (if_neg h).symm.trans hf
    refine tm_w C tfo_Mo to_Mo_step 2 rfl rfl rfl ⟨rfl, trivial⟩ ?_
    refine tm_wk (lv' := [some (.ref 39), none]) ⟨Or.inr rfl, Or.inl rfl, trivial⟩ ?_
    exact j_Mo_step_b89 C G hf
set_option maxRecDepth 100000 in
set_option maxHeartbeats 4000000 in
theorem j_Mo_step_b49 {Γ : tm_G} {ex : List tm_Sh} {av : List Value} {X0 : tm_X} {r : Int32 × tm_I × tm_L} (C : tm_C Γ ty_Mo_step.1.cls ty_Mo_step.2.1 ty_Mo_step.2.2.1) (G : tm_Γ ty_Mo_step 9 217 0 0 av X0 (tm_is (some (.int r.1)) (sh0 ++ ex, r.2.1, r.2.2, rr)) Γ) {mI : tm_I} {mL : tm_L} (hf : f_Mo_step_b49  mI mL = some r) : tm_T Γ 2 0 0 49 [some (.ref 39), none] [] (sh0 ++ ex) mI mL rr := by
  have Ro := G.ro
  unfold f_Mo_step_b49 at hf
  refine tm_w C tfo_Mo to_Mo_step 1 rfl rfl rfl ⟨rfl, trivial⟩ ?_
  refine tm_b C to_Mo_step rfl rfl (fun h => ?_) (fun h => ?_)
  · have hf := (if_pos h).symm.trans hf
    refine tm_w C tfo_Mo to_Mo_step 2 rfl rfl rfl ⟨rfl, trivial⟩ ?_
    refine tm_b C to_Mo_step rfl rfl (fun h => ?_) (fun h => ?_)
    · have hf := (if_pos h).symm.trans hf
      refine tm_w C tfo_Mo to_Mo_step 1 rfl rfl rfl ⟨rfl, trivial⟩ ?_
      refine tm_wk (lv' := [some (.ref 39), none]) ⟨Or.inr rfl, Or.inl rfl, trivial⟩ ?_
      exact j_Mo_step_b118 C G hf
    · have hf := (if_neg h).symm.trans hf
      refine tm_w C tfo_Mo to_Mo_step 5 rfl rfl rfl ⟨rfl, rfl, trivial⟩ ?_
      refine tm_wk (lv' := [some (.ref 39), none]) ⟨Or.inr rfl, Or.inl rfl, trivial⟩ ?_
      exact j_Mo_step_b118 C G hf
  · have hf := (if_neg h).symm.trans hf
    refine tm_w C tfo_Mo to_Mo_step 2 rfl rfl rfl ⟨rfl, trivial⟩ ?_
    refine tm_b C to_Mo_step rfl rfl (fun h => ?_) (fun h => ?_)
    · have hf := (if_pos h).symm.trans hf
      refine tm_w C tfo_Mo to_Mo_step 0 rfl rfl rfl trivial ?_
      refine tm_wk (lv' := [some (.ref 39), none]) ⟨Or.inr rfl, Or.inl rfl, trivial⟩ ?_
      exact j_Mo_step_b70 C G hf
    · have hf := (if_neg h).symm.trans hf
      refine tm_w C tfo_Mo to_Mo_step 1 rfl rfl rfl trivial ?_
      refine tm_wk (lv' := [some (.ref 39), none]) ⟨Or.inr rfl, Or.inl rfl, trivial⟩ ?_
      exact j_Mo_step_b70 C G hf
set_option maxRecDepth 100000 in
set_option maxHeartbeats 4000000 in
theorem j_Mo_step_b38 {Γ : tm_G} {ex : List tm_Sh} {av : List Value} {X0 : tm_X} {r0 : tm_I → tm_L → Option (Int32 × tm_I × tm_L)} {r : Int32 × tm_I × tm_L} (C : tm_C Γ ty_Mo_step.1.cls ty_Mo_step.2.1 ty_Mo_step.2.2.1) (G : tm_Γ ty_Mo_step 9 217 0 0 av X0 (tm_is (some (.int r.1)) (sh0 ++ ex, r.2.1, r.2.2, rr)) Γ) (H0 : ∀  (mI : tm_I) (mL : tm_L), r0  mI mL = some r → tm_T Γ 2 0 0 0 [some (.ref 39), none] [] (sh0 ++ ex) mI mL rr) {s1 : Int32} {mI : tm_I} {mL : tm_L} (hf : f_Mo_step_b38 r0 s1 mI mL = some r) : tm_T Γ 2 0 0 38 [some (.ref 39), none] [.int s1, .ref 39] (sh0 ++ ex) mI mL rr := by
  have Ro := G.ro
  unfold f_Mo_step_b38 at hf
  refine tm_w C tfo_Mo to_Mo_step 1 rfl rfl rfl ⟨rfl, trivial⟩ ?_
  obtain ⟨v5, hv5, hf⟩ := Option.bind_eq_some_iff.mp hf
  refine tm_cV C Ro to_Mo_step tl_Mo_95 rfl (ct_Mo_next hv5) rfl rfl rfl rfl rfl rfl rfl (Nat.le_refl _) (Nat.le_refl _) ?_
  refine tm_w C tfo_Mo to_Mo_step 1 rfl rfl rfl trivial ?_
  refine tm_wk (lv' := [some (.ref 39), none]) ⟨Or.inr rfl, Or.inl rfl, trivial⟩ ?_
  exact H0 _ _ hf
set_option maxRecDepth 100000 in
set_option maxHeartbeats 4000000 in
theorem j_Mo_step_l0 {Γ : tm_G} {ex : List tm_Sh} {av : List Value} {X0 : tm_X} {r : Int32 × tm_I × tm_L} (C : tm_C Γ ty_Mo_step.1.cls ty_Mo_step.2.1 ty_Mo_step.2.2.1) (G : tm_Γ ty_Mo_step 9 217 0 0 av X0 (tm_is (some (.int r.1)) (sh0 ++ ex, r.2.1, r.2.2, rr)) Γ) : ∀ (n : Nat)  (mI : tm_I) (mL : tm_L), f_Mo_step_l0 n  mI mL = some r → tm_T Γ 2 0 0 0 [some (.ref 39), none] [] (sh0 ++ ex) mI mL rr := by
  have Ro := G.ro
  intro n
  induction n with
  | zero => intro  mI mL hf; cases hf
  | succ n ih =>
    intro  mI mL hf
    rw [f_Mo_step_l0] at hf
    refine tm_w C tfo_Mo to_Mo_step 1 rfl rfl rfl ⟨rfl, trivial⟩ ?_
    refine tm_b C to_Mo_step rfl rfl (fun h => ?_) (fun h => ?_)
    · have hf := (if_pos h).symm.trans hf
      refine tm_wk (lv' := [some (.ref 39), none]) ⟨Or.inr rfl, Or.inl rfl, trivial⟩ ?_
      exact j_Mo_step_b49 C G hf
    · have hf := (if_neg h).symm.trans hf
      refine tm_w C tfo_Mo to_Mo_step 0 rfl rfl rfl trivial ?_
      obtain ⟨v6, hv6, hf⟩ := Option.bind_eq_some_iff.mp hf
      refine tm_cV C Ro to_Mo_step tl_Mo_76 rfl (ct_Mo_peek hv6) rfl rfl rfl rfl rfl rfl rfl (Nat.le_refl _) (Nat.le_refl _) ?_
      refine tm_w C tfo_Mo to_Mo_step 0 rfl rfl rfl trivial ?_
      refine tm_b C to_Mo_step rfl rfl (fun h => ?_) (fun h => ?_)
      · have hf := (if_pos h).symm.trans hf
        refine tm_wk (lv' := [some (.ref 39), none]) ⟨Or.inr rfl, Or.inl rfl, trivial⟩ ?_
        exact j_Mo_step_b49 C G hf
      · have hf := (if_neg h).symm.trans hf
        refine tm_w C tfo_Mo to_Mo_step 1 rfl rfl rfl trivial ?_
        obtain ⟨v7, hv7, hf⟩ := Option.bind_eq_some_iff.mp hf
        refine tm_cV C Ro to_Mo_step tl_Mo_76 rfl (ct_Mo_peek hv7) rfl rfl rfl rfl rfl rfl rfl (Nat.le_refl _) (Nat.le_refl _) ?_
        refine tm_w C tfo_Mo to_Mo_step 0 rfl rfl rfl trivial ?_
        refine tm_b C to_Mo_step rfl rfl (fun h => ?_) (fun h => ?_)
        · have hf := (if_pos h).symm.trans hf
          refine tm_w C tfo_Mo to_Mo_step 1 rfl rfl rfl ⟨rfl, trivial⟩ ?_
          refine tm_wk (lv' := [some (.ref 39), none]) ⟨Or.inr rfl, Or.inl rfl, trivial⟩ ?_
          exact j_Mo_step_b38 C G (ih) hf
        · have hf := (if_neg h).symm.trans hf
          refine tm_w C tfo_Mo to_Mo_step 4 rfl rfl rfl ⟨rfl, trivial⟩ ?_
          refine tm_wk (lv' := [some (.ref 39), none]) ⟨Or.inr rfl, Or.inl rfl, trivial⟩ ?_
          exact j_Mo_step_b38 C G (ih) hf
set_option maxRecDepth 100000 in
theorem ct_Mo_step {ex : List tm_Sh}  {mI : tm_I} {mL : tm_L} {r : Int32 × tm_I × tm_L} (hf : f_Mo_step  mI mL = some r) : tm_M ty_Mo_step 9 217 0 0 [.ref 39] (sh0 ++ ex, mI, mL, rr) (tm_is (some (.int r.1)) (sh0 ++ ex, r.2.1, r.2.2, rr)) := by
  refine tm_body (by decide) (Nat.le_of_ble_eq_true rfl) fun Γ C G => ?_
  exact j_Mo_step_l0 C G _ _ _ hf
/-! Mo_read -/
def f_Mo_read_l79 : Nat → Int32 → tm_I → tm_L → Option (Int32 × tm_I × tm_L)
  | 0, _, _, _ => none
  | n + 1, x1, mI, mL => if x1 = 0 then if (mI 39 13) ≤ 0 then some ((mI 39 35), mI, mL) else some ((-1 : Int32), tm_up (tm_up mI 39 35 (0 : Int32)) 39 37 (0 : Int32), mL) else (f_Mo_step mI mL).bind fun v1 => (f_Mo_read_l79 n) v1.1 v1.2.1 v1.2.2
def f_Mo_read_l17 : Nat → Int32 → tm_I → tm_L → Option (Int32 × tm_I × tm_L)
  | 0, _, _, _ => none
  | n + 1, x1, mI, mL => if x1 < 0 then f_Mo_read_l79 tm_F (1 : Int32) (tm_up (tm_up (tm_up (tm_up (tm_up mI 39 9 (0 : Int32)) 39 11 (0 : Int32)) 39 18 (0 : Int32)) 39 35 (0 : Int32)) 39 37 (0 : Int32)) mL else if ¬ (x1 < 0 ∨ 4096 ≤ Int32.toNatClampNeg x1) then if ¬ ((mI 39 8) < 0 ∨ 5800 ≤ Int32.toNatClampNeg (mI 39 8)) then (f_Mo_read_l17 n) (x1 + (-1 : Int32)) (tm_up (tm_up mI 45 (Int32.toNatClampNeg (mI 39 8)) (mI 40 (Int32.toNatClampNeg x1))) 39 8 (((tm_up mI 45 (Int32.toNatClampNeg (mI 39 8)) (mI 40 (Int32.toNatClampNeg x1))) 39 8) + (1 : Int32))) mL else none else none
def f_Mo_read_b0  (mI : tm_I) (mL : tm_L) : Option (Int32 × tm_I × tm_L) := f_Mo_read_l17 tm_F (((tm_up (tm_up mI 39 0 (0 : Int32)) 39 8 (0 : Int32)) 39 2) - (1 : Int32)) (tm_up (tm_up mI 39 0 (0 : Int32)) 39 8 (0 : Int32)) mL
abbrev f_Mo_read  (mI : tm_I) (mL : tm_L) : Option (Int32 × tm_I × tm_L) := f_Mo_read_b0  mI mL
set_option maxRecDepth 100000 in
set_option maxHeartbeats 4000000 in
theorem j_Mo_read_l79 {Γ : tm_G} {ex : List tm_Sh} {av : List Value} {X0 : tm_X} {r : Int32 × tm_I × tm_L} (C : tm_C Γ ty_Mo_read.1.cls ty_Mo_read.2.1 ty_Mo_read.2.2.1) (G : tm_Γ ty_Mo_read 10 238 0 0 av X0 (tm_is (some (.int r.1)) (sh0 ++ ex, r.2.1, r.2.2, rr)) Γ) : ∀ (n : Nat) (x1 : Int32) (mI : tm_I) (mL : tm_L), f_Mo_read_l79 n x1 mI mL = some r → tm_T Γ 2 0 0 79 [some (.ref 39), some (.int x1)] [] (sh0 ++ ex) mI mL rr := by
  have Ro := G.ro
  intro n
  induction n with
  | zero => intro x1 mI mL hf; cases hf
  | succ n ih =>
    intro x1 mI mL hf
    rw [f_Mo_read_l79] at hf
    refine tm_w C tfo_Mo to_Mo_read 0 rfl rfl rfl trivial ?_
    refine tm_b C to_Mo_read rfl rfl (fun h => ?_) (fun h => ?_)
    · have hf := (if_pos h).symm.trans hf
      refine tm_w C tfo_Mo to_Mo_read 1 rfl rfl rfl ⟨rfl, trivial⟩ ?_
      refine tm_b C to_Mo_read rfl rfl (fun h => ?_) (fun h => ?_)
      · have hf := (if_pos h).symm.trans hf
        refine tm_w C tfo_Mo to_Mo_read 1 rfl rfl rfl ⟨rfl, trivial⟩ ?_
        cases hf
        exact tm_ei C G to_Mo_read rfl rfl (Nat.le_refl _) rfl ⟨rfl, rfl⟩
      · have hf := (if_neg h).symm.trans hf
        refine tm_w C tfo_Mo to_Mo_read 6 rfl rfl rfl ⟨rfl, rfl, trivial⟩ ?_
        cases hf
        exact tm_ei C G to_Mo_read rfl rfl (Nat.le_refl _) rfl ⟨rfl, rfl⟩
    · have hf := (if_neg h).symm.trans hf
      refine tm_w C tfo_Mo to_Mo_read 0 rfl rfl rfl trivial ?_
      obtain ⟨v1, hv1, hf⟩ := Option.bind_eq_some_iff.mp hf
      refine tm_cV C Ro to_Mo_read tl_Mo_258 rfl (ct_Mo_step hv1) rfl rfl rfl rfl rfl rfl rfl (Nat.le_refl _) (Nat.le_refl _) ?_
      refine tm_w C tfo_Mo to_Mo_read 1 rfl rfl rfl trivial ?_
      refine tm_wk (lv' := [some (.ref 39), some (.int v1.1)]) ⟨Or.inr rfl, Or.inr rfl, trivial⟩ ?_
      exact ih _ _ _ hf
set_option maxRecDepth 100000 in
set_option maxHeartbeats 4000000 in
theorem j_Mo_read_l17 {Γ : tm_G} {ex : List tm_Sh} {av : List Value} {X0 : tm_X} {r : Int32 × tm_I × tm_L} (C : tm_C Γ ty_Mo_read.1.cls ty_Mo_read.2.1 ty_Mo_read.2.2.1) (G : tm_Γ ty_Mo_read 10 238 0 0 av X0 (tm_is (some (.int r.1)) (sh0 ++ ex, r.2.1, r.2.2, rr)) Γ) : ∀ (n : Nat) (x1 : Int32) (mI : tm_I) (mL : tm_L), f_Mo_read_l17 n x1 mI mL = some r → tm_T Γ 2 0 0 17 [some (.ref 39), some (.int x1)] [] (sh0 ++ ex) mI mL rr := by
  have Ro := G.ro
  intro n
  induction n with
  | zero => intro x1 mI mL hf; cases hf
  | succ n ih =>
    intro x1 mI mL hf
    rw [f_Mo_read_l17] at hf
    refine tm_w C tfo_Mo to_Mo_read 0 rfl rfl rfl trivial ?_
    refine tm_b C to_Mo_read rfl rfl (fun h => ?_) (fun h => ?_)
    · have hf := (if_pos h).symm.trans hf
      refine tm_w C tfo_Mo to_Mo_read 16 rfl rfl rfl ⟨rfl, rfl, rfl, rfl, rfl, rfl, rfl, trivial⟩ ?_
      refine tm_wk (lv' := [some (.ref 39), some (.int (1 : Int32))]) ⟨Or.inr rfl, Or.inr rfl, trivial⟩ ?_
      exact j_Mo_read_l79 C G _ _ _ _ hf
    · have hf := (if_neg h).symm.trans hf
      obtain ⟨c1, hf⟩ := tm_iteN hf
      obtain ⟨c2, hf⟩ := tm_iteN hf
      refine tm_w C tfo_Mo to_Mo_read 16 rfl rfl rfl ⟨rfl, rfl, rfl, ⟨_, rfl, c1⟩, ⟨_, rfl, c2⟩, rfl, rfl, trivial⟩ ?_
      refine tm_wk (lv' := [some (.ref 39), some (.int (x1 + (-1 : Int32)))]) ⟨Or.inr rfl, Or.inr rfl, trivial⟩ ?_
      exact ih _ _ _ hf
set_option maxRecDepth 100000 in
set_option maxHeartbeats 4000000 in
theorem j_Mo_read_b0 {Γ : tm_G} {ex : List tm_Sh} {av : List Value} {X0 : tm_X} {r : Int32 × tm_I × tm_L} (C : tm_C Γ ty_Mo_read.1.cls ty_Mo_read.2.1 ty_Mo_read.2.2.1) (G : tm_Γ ty_Mo_read 10 238 0 0 av X0 (tm_is (some (.int r.1)) (sh0 ++ ex, r.2.1, r.2.2, rr)) Γ) {mI : tm_I} {mL : tm_L} (hf : f_Mo_read_b0  mI mL = some r) : tm_T Γ 2 0 0 0 [some (.ref 39), none] [] (sh0 ++ ex) mI mL rr := by
  have Ro := G.ro
  unfold f_Mo_read_b0 at hf
  refine tm_w C tfo_Mo to_Mo_read 10 rfl rfl rfl ⟨rfl, rfl, rfl, trivial⟩ ?_
  refine tm_wk (lv' := [some (.ref 39), some (.int (((tm_up (tm_up mI 39 0 (0 : Int32)) 39 8 (0 : Int32)) 39 2) - (1 : Int32)))]) ⟨Or.inr rfl, Or.inr rfl, trivial⟩ ?_
  exact j_Mo_read_l17 C G _ _ _ _ hf
set_option maxRecDepth 100000 in
theorem ct_Mo_read {ex : List tm_Sh}  {mI : tm_I} {mL : tm_L} {r : Int32 × tm_I × tm_L} (hf : f_Mo_read  mI mL = some r) : tm_M ty_Mo_read 10 238 0 0 [.ref 39] (sh0 ++ ex, mI, mL, rr) (tm_is (some (.int r.1)) (sh0 ++ ex, r.2.1, r.2.2, rr)) := by
  refine tm_body (by decide) (Nat.le_of_ble_eq_true rfl) fun Γ C G => ?_
  exact j_Mo_read_b0 C G hf
/-! Mo_fault -/
def f_Mo_fault_b0  (mI : tm_I) (mL : tm_L) : Option (Int32 × tm_I × tm_L) := some (((tm_up mI 39 0 (0 : Int32)) 39 13), tm_up mI 39 0 (0 : Int32), mL)
abbrev f_Mo_fault  (mI : tm_I) (mL : tm_L) : Option (Int32 × tm_I × tm_L) := f_Mo_fault_b0  mI mL
set_option maxRecDepth 100000 in
set_option maxHeartbeats 4000000 in
theorem j_Mo_fault_b0 {Γ : tm_G} {ex : List tm_Sh} {av : List Value} {X0 : tm_X} {r : Int32 × tm_I × tm_L} (C : tm_C Γ ty_Mo_fault.1.cls ty_Mo_fault.2.1 ty_Mo_fault.2.2.1) (G : tm_Γ ty_Mo_fault 0 0 0 0 av X0 (tm_is (some (.int r.1)) (sh0 ++ ex, r.2.1, r.2.2, rr)) Γ) {mI : tm_I} {mL : tm_L} (hf : f_Mo_fault_b0  mI mL = some r) : tm_T Γ 1 0 0 0 [some (.ref 39)] [] (sh0 ++ ex) mI mL rr := by
  have Ro := G.ro
  unfold f_Mo_fault_b0 at hf
  refine tm_w C tfo_Mo to_Mo_fault 4 rfl rfl rfl ⟨rfl, rfl, trivial⟩ ?_
  cases hf
  exact tm_ei C G to_Mo_fault rfl rfl (Nat.le_refl _) rfl ⟨rfl, rfl⟩
set_option maxRecDepth 100000 in
theorem ct_Mo_fault {ex : List tm_Sh}  {mI : tm_I} {mL : tm_L} {r : Int32 × tm_I × tm_L} (hf : f_Mo_fault  mI mL = some r) : tm_M ty_Mo_fault 0 0 0 0 [.ref 39] (sh0 ++ ex, mI, mL, rr) (tm_is (some (.int r.1)) (sh0 ++ ex, r.2.1, r.2.2, rr)) := by
  refine tm_body (by decide) (Nat.le_of_ble_eq_true rfl) fun Γ C G => ?_
  exact j_Mo_fault_b0 C G hf
/-! Mo_place -/
def f_Mo_place_b0  (mI : tm_I) (mL : tm_L) : Option (Int32 × tm_I × tm_L) := some (((tm_up mI 39 0 (0 : Int32)) 39 14), tm_up mI 39 0 (0 : Int32), mL)
abbrev f_Mo_place  (mI : tm_I) (mL : tm_L) : Option (Int32 × tm_I × tm_L) := f_Mo_place_b0  mI mL
set_option maxRecDepth 100000 in
set_option maxHeartbeats 4000000 in
theorem j_Mo_place_b0 {Γ : tm_G} {ex : List tm_Sh} {av : List Value} {X0 : tm_X} {r : Int32 × tm_I × tm_L} (C : tm_C Γ ty_Mo_place.1.cls ty_Mo_place.2.1 ty_Mo_place.2.2.1) (G : tm_Γ ty_Mo_place 0 0 0 0 av X0 (tm_is (some (.int r.1)) (sh0 ++ ex, r.2.1, r.2.2, rr)) Γ) {mI : tm_I} {mL : tm_L} (hf : f_Mo_place_b0  mI mL = some r) : tm_T Γ 1 0 0 0 [some (.ref 39)] [] (sh0 ++ ex) mI mL rr := by
  have Ro := G.ro
  unfold f_Mo_place_b0 at hf
  refine tm_w C tfo_Mo to_Mo_place 4 rfl rfl rfl ⟨rfl, rfl, trivial⟩ ?_
  cases hf
  exact tm_ei C G to_Mo_place rfl rfl (Nat.le_refl _) rfl ⟨rfl, rfl⟩
set_option maxRecDepth 100000 in
theorem ct_Mo_place {ex : List tm_Sh}  {mI : tm_I} {mL : tm_L} {r : Int32 × tm_I × tm_L} (hf : f_Mo_place  mI mL = some r) : tm_M ty_Mo_place 0 0 0 0 [.ref 39] (sh0 ++ ex, mI, mL, rr) (tm_is (some (.int r.1)) (sh0 ++ ex, r.2.1, r.2.2, rr)) := by
  refine tm_body (by decide) (Nat.le_of_ble_eq_true rfl) fun Γ C G => ?_
  exact j_Mo_place_b0 C G hf
/-! Mo_label -/
def f_Mo_label_b53 (x1 : Int32) (x2 : Int32) (s0 : Int32) (mI : tm_I) (mL : tm_L) : Option (Int32 × tm_I × tm_L) := some (s0, mI, mL)
def f_Mo_label_b39 (x1 : Int32) (x2 : Int32) (mI : tm_I) (mL : tm_L) : Option (Int32 × tm_I × tm_L) := f_Mo_label_b53 x1 x2 (-1 : Int32) mI mL
def f_Mo_label_b15 (x1 : Int32) (x2 : Int32) (s1 : Int32) (mI : tm_I) (mL : tm_L) : Option (Int32 × tm_I × tm_L) := if ((tm_up mI 39 0 s1) 39 0) ≤ 0 then if x1 < 0 then f_Mo_label_b39 x1 x2 (tm_up mI 39 0 s1) mL else if x1 < ((tm_up mI 39 0 s1) 39 35) then if ¬ ((((4 : Int32) * x1) + x2) < 0 ∨ 48 ≤ Int32.toNatClampNeg (((4 : Int32) * x1) + x2)) then f_Mo_label_b53 x1 x2 ((tm_up mI 39 0 s1) 54 (Int32.toNatClampNeg (((4 : Int32) * x1) + x2))) (tm_up mI 39 0 s1) mL else none else f_Mo_label_b39 x1 x2 (tm_up mI 39 0 s1) mL else some ((0 : Int32), tm_up mI 39 0 s1, mL)
def f_Mo_label_b10 (x1 : Int32) (x2 : Int32) (mI : tm_I) (mL : tm_L) : Option (Int32 × tm_I × tm_L) := f_Mo_label_b15 x1 x2 (1 : Int32) mI mL
def f_Mo_label_b0 (x1 : Int32) (x2 : Int32) (mI : tm_I) (mL : tm_L) : Option (Int32 × tm_I × tm_L) := if x2 < 0 then f_Mo_label_b10 x1 x2 mI mL else if x2 ≤ (3 : Int32) then f_Mo_label_b15 x1 x2 (0 : Int32) mI mL else f_Mo_label_b10 x1 x2 mI mL
abbrev f_Mo_label (p0 : Int32) (p1 : Int32) (mI : tm_I) (mL : tm_L) : Option (Int32 × tm_I × tm_L) := f_Mo_label_b0 p0 p1 mI mL
set_option maxRecDepth 100000 in
set_option maxHeartbeats 4000000 in
theorem j_Mo_label_b53 {Γ : tm_G} {ex : List tm_Sh} {av : List Value} {X0 : tm_X} {r : Int32 × tm_I × tm_L} (C : tm_C Γ ty_Mo_label.1.cls ty_Mo_label.2.1 ty_Mo_label.2.2.1) (G : tm_Γ ty_Mo_label 0 0 0 0 av X0 (tm_is (some (.int r.1)) (sh0 ++ ex, r.2.1, r.2.2, rr)) Γ) {x1 : Int32} {x2 : Int32} {s0 : Int32} {mI : tm_I} {mL : tm_L} (hf : f_Mo_label_b53 x1 x2 s0 mI mL = some r) : tm_T Γ 3 0 0 53 [some (.ref 39), some (.int x1), some (.int x2)] [.int s0] (sh0 ++ ex) mI mL rr := by
  have Ro := G.ro
  unfold f_Mo_label_b53 at hf
  cases hf
  exact tm_ei C G to_Mo_label rfl rfl (Nat.le_refl _) rfl ⟨rfl, rfl⟩
set_option maxRecDepth 100000 in
set_option maxHeartbeats 4000000 in
theorem j_Mo_label_b39 {Γ : tm_G} {ex : List tm_Sh} {av : List Value} {X0 : tm_X} {r : Int32 × tm_I × tm_L} (C : tm_C Γ ty_Mo_label.1.cls ty_Mo_label.2.1 ty_Mo_label.2.2.1) (G : tm_Γ ty_Mo_label 0 0 0 0 av X0 (tm_is (some (.int r.1)) (sh0 ++ ex, r.2.1, r.2.2, rr)) Γ) {x1 : Int32} {x2 : Int32} {mI : tm_I} {mL : tm_L} (hf : f_Mo_label_b39 x1 x2 mI mL = some r) : tm_T Γ 3 0 0 39 [some (.ref 39), some (.int x1), some (.int x2)] [] (sh0 ++ ex) mI mL rr := by
  have Ro := G.ro
  unfold f_Mo_label_b39 at hf
  refine tm_w C tfo_Mo to_Mo_label 1 rfl rfl rfl trivial ?_
  refine tm_wk (lv' := [some (.ref 39), some (.int x1), some (.int x2)]) ⟨Or.inr rfl, Or.inr rfl, Or.inr rfl, trivial⟩ ?_
  exact j_Mo_label_b53 C G hf
set_option maxRecDepth 100000 in
set_option maxHeartbeats 4000000 in
theorem j_Mo_label_b15 {Γ : tm_G} {ex : List tm_Sh} {av : List Value} {X0 : tm_X} {r : Int32 × tm_I × tm_L} (C : tm_C Γ ty_Mo_label.1.cls ty_Mo_label.2.1 ty_Mo_label.2.2.1) (G : tm_Γ ty_Mo_label 0 0 0 0 av X0 (tm_is (some (.int r.1)) (sh0 ++ ex, r.2.1, r.2.2, rr)) Γ) {x1 : Int32} {x2 : Int32} {s1 : Int32} {mI : tm_I} {mL : tm_L} (hf : f_Mo_label_b15 x1 x2 s1 mI mL = some r) : tm_T Γ 3 0 0 15 [some (.ref 39), some (.int x1), some (.int x2)] [.int s1, .ref 39] (sh0 ++ ex) mI mL rr := by
  have Ro := G.ro
  unfold f_Mo_label_b15 at hf
  refine tm_w C tfo_Mo to_Mo_label 2 rfl rfl rfl ⟨rfl, rfl, trivial⟩ ?_
  refine tm_b C to_Mo_label rfl rfl (fun h => ?_) (fun h => ?_)
  · have hf := (if_pos h).symm.trans hf
    refine tm_w C tfo_Mo to_Mo_label 0 rfl rfl rfl trivial ?_
    refine tm_b C to_Mo_label rfl rfl (fun h => ?_) (fun h => ?_)
    · have hf := (if_pos h).symm.trans hf
      refine tm_wk (lv' := [some (.ref 39), some (.int x1), some (.int x2)]) ⟨Or.inr rfl, Or.inr rfl, Or.inr rfl, trivial⟩ ?_
      exact j_Mo_label_b39 C G hf
    · have hf := (if_neg h).symm.trans hf
      refine tm_w C tfo_Mo to_Mo_label 2 rfl rfl rfl ⟨rfl, trivial⟩ ?_
      refine tm_b C to_Mo_label rfl rfl (fun h => ?_) (fun h => ?_)
      · have hf := (if_pos h).symm.trans hf
        obtain ⟨c1, hf⟩ := tm_iteN hf
        refine tm_w C tfo_Mo to_Mo_label 7 rfl rfl rfl ⟨rfl, ⟨_, rfl, c1⟩, trivial⟩ ?_
        refine tm_wk (lv' := [some (.ref 39), some (.int x1), some (.int x2)]) ⟨Or.inr rfl, Or.inr rfl, Or.inr rfl, trivial⟩ ?_
        exact j_Mo_label_b53 C G hf
      · have hf := (if_neg h).symm.trans hf
        refine tm_wk (lv' := [some (.ref 39), some (.int x1), some (.int x2)]) ⟨Or.inr rfl, Or.inr rfl, Or.inr rfl, trivial⟩ ?_
        exact j_Mo_label_b39 C G hf
  · have hf := (if_neg h).symm.trans hf
    refine tm_w C tfo_Mo to_Mo_label 0 rfl rfl rfl trivial ?_
    cases hf
    exact tm_ei C G to_Mo_label rfl rfl (Nat.le_refl _) rfl ⟨rfl, rfl⟩
set_option maxRecDepth 100000 in
set_option maxHeartbeats 4000000 in
theorem j_Mo_label_b10 {Γ : tm_G} {ex : List tm_Sh} {av : List Value} {X0 : tm_X} {r : Int32 × tm_I × tm_L} (C : tm_C Γ ty_Mo_label.1.cls ty_Mo_label.2.1 ty_Mo_label.2.2.1) (G : tm_Γ ty_Mo_label 0 0 0 0 av X0 (tm_is (some (.int r.1)) (sh0 ++ ex, r.2.1, r.2.2, rr)) Γ) {x1 : Int32} {x2 : Int32} {mI : tm_I} {mL : tm_L} (hf : f_Mo_label_b10 x1 x2 mI mL = some r) : tm_T Γ 3 0 0 10 [some (.ref 39), some (.int x1), some (.int x2)] [.ref 39] (sh0 ++ ex) mI mL rr := by
  have Ro := G.ro
  unfold f_Mo_label_b10 at hf
  refine tm_w C tfo_Mo to_Mo_label 1 rfl rfl rfl trivial ?_
  refine tm_wk (lv' := [some (.ref 39), some (.int x1), some (.int x2)]) ⟨Or.inr rfl, Or.inr rfl, Or.inr rfl, trivial⟩ ?_
  exact j_Mo_label_b15 C G hf
set_option maxRecDepth 100000 in
set_option maxHeartbeats 4000000 in
theorem j_Mo_label_b0 {Γ : tm_G} {ex : List tm_Sh} {av : List Value} {X0 : tm_X} {r : Int32 × tm_I × tm_L} (C : tm_C Γ ty_Mo_label.1.cls ty_Mo_label.2.1 ty_Mo_label.2.2.1) (G : tm_Γ ty_Mo_label 0 0 0 0 av X0 (tm_is (some (.int r.1)) (sh0 ++ ex, r.2.1, r.2.2, rr)) Γ) {x1 : Int32} {x2 : Int32} {mI : tm_I} {mL : tm_L} (hf : f_Mo_label_b0 x1 x2 mI mL = some r) : tm_T Γ 3 0 0 0 [some (.ref 39), some (.int x1), some (.int x2)] [] (sh0 ++ ex) mI mL rr := by
  have Ro := G.ro
  unfold f_Mo_label_b0 at hf
  refine tm_w C tfo_Mo to_Mo_label 1 rfl rfl rfl trivial ?_
  refine tm_b C to_Mo_label rfl rfl (fun h => ?_) (fun h => ?_)
  · have hf := (if_pos h).symm.trans hf
    refine tm_wk (lv' := [some (.ref 39), some (.int x1), some (.int x2)]) ⟨Or.inr rfl, Or.inr rfl, Or.inr rfl, trivial⟩ ?_
    exact j_Mo_label_b10 C G hf
  · have hf := (if_neg h).symm.trans hf
    refine tm_w C tfo_Mo to_Mo_label 1 rfl rfl rfl trivial ?_
    refine tm_b C to_Mo_label rfl rfl (fun h => ?_) (fun h => ?_)
    · have hf := (if_pos h).symm.trans hf
      refine tm_w C tfo_Mo to_Mo_label 0 rfl rfl rfl trivial ?_
      refine tm_wk (lv' := [some (.ref 39), some (.int x1), some (.int x2)]) ⟨Or.inr rfl, Or.inr rfl, Or.inr rfl, trivial⟩ ?_
      exact j_Mo_label_b15 C G hf
    · have hf := (if_neg h).symm.trans hf
      refine tm_wk (lv' := [some (.ref 39), some (.int x1), some (.int x2)]) ⟨Or.inr rfl, Or.inr rfl, Or.inr rfl, trivial⟩ ?_
      exact j_Mo_label_b10 C G hf
set_option maxRecDepth 100000 in
theorem ct_Mo_label {ex : List tm_Sh} {p0 : Int32} {p1 : Int32} {mI : tm_I} {mL : tm_L} {r : Int32 × tm_I × tm_L} (hf : f_Mo_label p0 p1 mI mL = some r) : tm_M ty_Mo_label 0 0 0 0 [.ref 39, .int p0, .int p1] (sh0 ++ ex, mI, mL, rr) (tm_is (some (.int r.1)) (sh0 ++ ex, r.2.1, r.2.2, rr)) := by
  refine tm_body (by decide) (Nat.le_of_ble_eq_true rfl) fun Γ C G => ?_
  exact j_Mo_label_b0 C G hf
/-! Mo_order -/
def f_Mo_order_b57 (x1 : Int32) (x2 : Int32) (s0 : Int32) (mI : tm_I) (mL : tm_L) : Option (Int32 × tm_I × tm_L) := some (s0, mI, mL)
def f_Mo_order_b32 (x1 : Int32) (x2 : Int32) (s1 : Int32) (mI : tm_I) (mL : tm_L) : Option (Int32 × tm_I × tm_L) := if ((tm_up mI 39 0 s1) 39 0) ≤ 0 then if ¬ ((((9 : Int32) * x1) + x2) < 0 ∨ 1080 ≤ Int32.toNatClampNeg (((9 : Int32) * x1) + x2)) then f_Mo_order_b57 x1 x2 ((tm_up mI 39 0 s1) 55 (Int32.toNatClampNeg (((9 : Int32) * x1) + x2))) (tm_up mI 39 0 s1) mL else none else f_Mo_order_b57 x1 x2 (0 : Int32) (tm_up mI 39 0 s1) mL
def f_Mo_order_b11 (x1 : Int32) (x2 : Int32) (mI : tm_I) (mL : tm_L) : Option (Int32 × tm_I × tm_L) := f_Mo_order_b32 x1 x2 (1 : Int32) mI mL
def f_Mo_order_b27 (x1 : Int32) (x2 : Int32) (mI : tm_I) (mL : tm_L) : Option (Int32 × tm_I × tm_L) := f_Mo_order_b32 x1 x2 (2 : Int32) mI mL
def f_Mo_order_b0 (x1 : Int32) (x2 : Int32) (mI : tm_I) (mL : tm_L) : Option (Int32 × tm_I × tm_L) := if x2 < 0 then f_Mo_order_b11 x1 x2 mI mL else if x2 ≤ (8 : Int32) then if x1 < 0 then f_Mo_order_b27 x1 x2 mI mL else if x1 < (mI 39 37) then f_Mo_order_b32 x1 x2 (0 : Int32) mI mL else f_Mo_order_b27 x1 x2 mI mL else f_Mo_order_b11 x1 x2 mI mL
abbrev f_Mo_order (p0 : Int32) (p1 : Int32) (mI : tm_I) (mL : tm_L) : Option (Int32 × tm_I × tm_L) := f_Mo_order_b0 p0 p1 mI mL
set_option maxRecDepth 100000 in
set_option maxHeartbeats 4000000 in
theorem j_Mo_order_b57 {Γ : tm_G} {ex : List tm_Sh} {av : List Value} {X0 : tm_X} {r : Int32 × tm_I × tm_L} (C : tm_C Γ ty_Mo_order.1.cls ty_Mo_order.2.1 ty_Mo_order.2.2.1) (G : tm_Γ ty_Mo_order 0 0 0 0 av X0 (tm_is (some (.int r.1)) (sh0 ++ ex, r.2.1, r.2.2, rr)) Γ) {x1 : Int32} {x2 : Int32} {s0 : Int32} {mI : tm_I} {mL : tm_L} (hf : f_Mo_order_b57 x1 x2 s0 mI mL = some r) : tm_T Γ 3 0 0 57 [some (.ref 39), some (.int x1), some (.int x2)] [.int s0] (sh0 ++ ex) mI mL rr := by
  have Ro := G.ro
  unfold f_Mo_order_b57 at hf
  cases hf
  exact tm_ei C G to_Mo_order rfl rfl (Nat.le_refl _) rfl ⟨rfl, rfl⟩
set_option maxRecDepth 100000 in
set_option maxHeartbeats 4000000 in
theorem j_Mo_order_b32 {Γ : tm_G} {ex : List tm_Sh} {av : List Value} {X0 : tm_X} {r : Int32 × tm_I × tm_L} (C : tm_C Γ ty_Mo_order.1.cls ty_Mo_order.2.1 ty_Mo_order.2.2.1) (G : tm_Γ ty_Mo_order 0 0 0 0 av X0 (tm_is (some (.int r.1)) (sh0 ++ ex, r.2.1, r.2.2, rr)) Γ) {x1 : Int32} {x2 : Int32} {s1 : Int32} {mI : tm_I} {mL : tm_L} (hf : f_Mo_order_b32 x1 x2 s1 mI mL = some r) : tm_T Γ 3 0 0 32 [some (.ref 39), some (.int x1), some (.int x2)] [.int s1, .ref 39] (sh0 ++ ex) mI mL rr := by
  have Ro := G.ro
  unfold f_Mo_order_b32 at hf
  refine tm_w C tfo_Mo to_Mo_order 2 rfl rfl rfl ⟨rfl, rfl, trivial⟩ ?_
  refine tm_b C to_Mo_order rfl rfl (fun h => ?_) (fun h => ?_)
  · have hf := (if_pos h).symm.trans hf
    obtain ⟨c1, hf⟩ := tm_iteN hf
    refine tm_w C tfo_Mo to_Mo_order 7 rfl rfl rfl ⟨rfl, ⟨_, rfl, c1⟩, trivial⟩ ?_
    refine tm_wk (lv' := [some (.ref 39), some (.int x1), some (.int x2)]) ⟨Or.inr rfl, Or.inr rfl, Or.inr rfl, trivial⟩ ?_
    exact j_Mo_order_b57 C G hf
  · have hf := (if_neg h).symm.trans hf
    refine tm_w C tfo_Mo to_Mo_order 1 rfl rfl rfl trivial ?_
    refine tm_wk (lv' := [some (.ref 39), some (.int x1), some (.int x2)]) ⟨Or.inr rfl, Or.inr rfl, Or.inr rfl, trivial⟩ ?_
    exact j_Mo_order_b57 C G hf
set_option maxRecDepth 100000 in
set_option maxHeartbeats 4000000 in
theorem j_Mo_order_b11 {Γ : tm_G} {ex : List tm_Sh} {av : List Value} {X0 : tm_X} {r : Int32 × tm_I × tm_L} (C : tm_C Γ ty_Mo_order.1.cls ty_Mo_order.2.1 ty_Mo_order.2.2.1) (G : tm_Γ ty_Mo_order 0 0 0 0 av X0 (tm_is (some (.int r.1)) (sh0 ++ ex, r.2.1, r.2.2, rr)) Γ) {x1 : Int32} {x2 : Int32} {mI : tm_I} {mL : tm_L} (hf : f_Mo_order_b11 x1 x2 mI mL = some r) : tm_T Γ 3 0 0 11 [some (.ref 39), some (.int x1), some (.int x2)] [.ref 39] (sh0 ++ ex) mI mL rr := by
  have Ro := G.ro
  unfold f_Mo_order_b11 at hf
  refine tm_w C tfo_Mo to_Mo_order 1 rfl rfl rfl trivial ?_
  refine tm_wk (lv' := [some (.ref 39), some (.int x1), some (.int x2)]) ⟨Or.inr rfl, Or.inr rfl, Or.inr rfl, trivial⟩ ?_
  exact j_Mo_order_b32 C G hf
set_option maxRecDepth 100000 in
set_option maxHeartbeats 4000000 in
theorem j_Mo_order_b27 {Γ : tm_G} {ex : List tm_Sh} {av : List Value} {X0 : tm_X} {r : Int32 × tm_I × tm_L} (C : tm_C Γ ty_Mo_order.1.cls ty_Mo_order.2.1 ty_Mo_order.2.2.1) (G : tm_Γ ty_Mo_order 0 0 0 0 av X0 (tm_is (some (.int r.1)) (sh0 ++ ex, r.2.1, r.2.2, rr)) Γ) {x1 : Int32} {x2 : Int32} {mI : tm_I} {mL : tm_L} (hf : f_Mo_order_b27 x1 x2 mI mL = some r) : tm_T Γ 3 0 0 27 [some (.ref 39), some (.int x1), some (.int x2)] [.ref 39] (sh0 ++ ex) mI mL rr := by
  have Ro := G.ro
  unfold f_Mo_order_b27 at hf
  refine tm_w C tfo_Mo to_Mo_order 1 rfl rfl rfl trivial ?_
  refine tm_wk (lv' := [some (.ref 39), some (.int x1), some (.int x2)]) ⟨Or.inr rfl, Or.inr rfl, Or.inr rfl, trivial⟩ ?_
  exact j_Mo_order_b32 C G hf
set_option maxRecDepth 100000 in
set_option maxHeartbeats 4000000 in
theorem j_Mo_order_b0 {Γ : tm_G} {ex : List tm_Sh} {av : List Value} {X0 : tm_X} {r : Int32 × tm_I × tm_L} (C : tm_C Γ ty_Mo_order.1.cls ty_Mo_order.2.1 ty_Mo_order.2.2.1) (G : tm_Γ ty_Mo_order 0 0 0 0 av X0 (tm_is (some (.int r.1)) (sh0 ++ ex, r.2.1, r.2.2, rr)) Γ) {x1 : Int32} {x2 : Int32} {mI : tm_I} {mL : tm_L} (hf : f_Mo_order_b0 x1 x2 mI mL = some r) : tm_T Γ 3 0 0 0 [some (.ref 39), some (.int x1), some (.int x2)] [] (sh0 ++ ex) mI mL rr := by
  have Ro := G.ro
  unfold f_Mo_order_b0 at hf
  refine tm_w C tfo_Mo to_Mo_order 1 rfl rfl rfl trivial ?_
  refine tm_b C to_Mo_order rfl rfl (fun h => ?_) (fun h => ?_)
  · have hf := (if_pos h).symm.trans hf
    refine tm_wk (lv' := [some (.ref 39), some (.int x1), some (.int x2)]) ⟨Or.inr rfl, Or.inr rfl, Or.inr rfl, trivial⟩ ?_
    exact j_Mo_order_b11 C G hf
  · have hf := (if_neg h).symm.trans hf
    refine tm_w C tfo_Mo to_Mo_order 1 rfl rfl rfl trivial ?_
    refine tm_b C to_Mo_order rfl rfl (fun h => ?_) (fun h => ?_)
    · have hf := (if_pos h).symm.trans hf
      refine tm_w C tfo_Mo to_Mo_order 0 rfl rfl rfl trivial ?_
      refine tm_b C to_Mo_order rfl rfl (fun h => ?_) (fun h => ?_)
      · have hf := (if_pos h).symm.trans hf
        refine tm_wk (lv' := [some (.ref 39), some (.int x1), some (.int x2)]) ⟨Or.inr rfl, Or.inr rfl, Or.inr rfl, trivial⟩ ?_
        exact j_Mo_order_b27 C G hf
      · have hf := (if_neg h).symm.trans hf
        refine tm_w C tfo_Mo to_Mo_order 2 rfl rfl rfl ⟨rfl, trivial⟩ ?_
        refine tm_b C to_Mo_order rfl rfl (fun h => ?_) (fun h => ?_)
        · have hf := (if_pos h).symm.trans hf
          refine tm_w C tfo_Mo to_Mo_order 0 rfl rfl rfl trivial ?_
          refine tm_wk (lv' := [some (.ref 39), some (.int x1), some (.int x2)]) ⟨Or.inr rfl, Or.inr rfl, Or.inr rfl, trivial⟩ ?_
          exact j_Mo_order_b32 C G hf
        · have hf := (if_neg h).symm.trans hf
          refine tm_wk (lv' := [some (.ref 39), some (.int x1), some (.int x2)]) ⟨Or.inr rfl, Or.inr rfl, Or.inr rfl, trivial⟩ ?_
          exact j_Mo_order_b27 C G hf
    · have hf := (if_neg h).symm.trans hf
      refine tm_wk (lv' := [some (.ref 39), some (.int x1), some (.int x2)]) ⟨Or.inr rfl, Or.inr rfl, Or.inr rfl, trivial⟩ ?_
      exact j_Mo_order_b11 C G hf
set_option maxRecDepth 100000 in
theorem ct_Mo_order {ex : List tm_Sh} {p0 : Int32} {p1 : Int32} {mI : tm_I} {mL : tm_L} {r : Int32 × tm_I × tm_L} (hf : f_Mo_order p0 p1 mI mL = some r) : tm_M ty_Mo_order 0 0 0 0 [.ref 39, .int p0, .int p1] (sh0 ++ ex, mI, mL, rr) (tm_is (some (.int r.1)) (sh0 ++ ex, r.2.1, r.2.2, rr)) := by
  refine tm_body (by decide) (Nat.le_of_ble_eq_true rfl) fun Γ C G => ?_
  exact j_Mo_order_b0 C G hf
/-! Mo_data -/
def f_Mo_data_b104 (x1 : Int32) (x2 : Int32) (x3 : Int64) (x5 : Int32) (mI : tm_I) (mL : tm_L) : Option (Int64 × tm_I × tm_L) := some (x3, mI, mL)
def f_Mo_data_b98 (r26 : Int32 → Int32 → Int64 → Int32 → tm_I → tm_L → Option (Int64 × tm_I × tm_L)) (x1 : Int32) (x2 : Int32) (x3 : Int64) (x5 : Int32) (x6 : Int64) (mI : tm_I) (mL : tm_L) : Option (Int64 × tm_I × tm_L) := r26 x1 x2 x3 (x5 + (1 : Int32)) mI mL
def f_Mo_data_l26 : Nat → Int32 → Int32 → Int64 → Int32 → tm_I → tm_L → Option (Int64 × tm_I × tm_L)
  | 0, _, _, _, _, _, _ => none
  | n + 1, x1, x2, x3, x5, mI, mL => if (8 : Int32) ≤ x5 then f_Mo_data_b104 x1 x2 x3 x5 mI mL else if ¬ (mI 39 0) = 0 then f_Mo_data_b104 x1 x2 x3 x5 mI mL else if (lg_cmp ((Int32.toInt64 x2) + (Int32.toInt64 x5)) (0 : Int64)) < 0 then f_Mo_data_b98 (f_Mo_data_l26 n) x1 x2 x3 x5 ((Int32.toInt64 x2) + (Int32.toInt64 x5)) mI mL else if ¬ ((((9 : Int32) * x1) + (8 : Int32)) < 0 ∨ 1080 ≤ Int32.toNatClampNeg (((9 : Int32) * x1) + (8 : Int32))) then if 0 ≤ (lg_cmp ((Int32.toInt64 x2) + (Int32.toInt64 x5)) (Int32.toInt64 (mI 55 (Int32.toNatClampNeg (((9 : Int32) * x1) + (8 : Int32)))))) then f_Mo_data_b98 (f_Mo_data_l26 n) x1 x2 x3 x5 ((Int32.toInt64 x2) + (Int32.toInt64 x5)) mI mL else if ¬ ((((200 : Int32) * x1) + (Int64.toInt32 ((Int32.toInt64 x2) + (Int32.toInt64 x5)))) < 0 ∨ 24000 ≤ Int32.toNatClampNeg (((200 : Int32) * x1) + (Int64.toInt32 ((Int32.toInt64 x2) + (Int32.toInt64 x5))))) then f_Mo_data_b98 (f_Mo_data_l26 n) x1 x2 (x3 ||| ((Int32.toInt64 (mI 56 (Int32.toNatClampNeg (((200 : Int32) * x1) + (Int64.toInt32 ((Int32.toInt64 x2) + (Int32.toInt64 x5))))))) <<< (Int32.toInt64 ((8 : Int32) * x5) &&& 63))) x5 ((Int32.toInt64 x2) + (Int32.toInt64 x5)) mI mL else none else none
def f_Mo_data_b18 (x1 : Int32) (x2 : Int32) (s1 : Int32) (mI : tm_I) (mL : tm_L) : Option (Int64 × tm_I × tm_L) := f_Mo_data_l26 tm_F x1 x2 (0 : Int64) (0 : Int32) (tm_up mI 39 0 s1) mL
def f_Mo_data_b13 (x1 : Int32) (x2 : Int32) (mI : tm_I) (mL : tm_L) : Option (Int64 × tm_I × tm_L) := f_Mo_data_b18 x1 x2 (1 : Int32) mI mL
def f_Mo_data_b0 (x1 : Int32) (x2 : Int32) (mI : tm_I) (mL : tm_L) : Option (Int64 × tm_I × tm_L) := if x1 < 0 then f_Mo_data_b13 x1 x2 mI mL else if x1 < (mI 39 37) then f_Mo_data_b18 x1 x2 (0 : Int32) mI mL else f_Mo_data_b13 x1 x2 mI mL
abbrev f_Mo_data (p0 : Int32) (p1 : Int32) (mI : tm_I) (mL : tm_L) : Option (Int64 × tm_I × tm_L) := f_Mo_data_b0 p0 p1 mI mL
set_option maxRecDepth 100000 in
set_option maxHeartbeats 4000000 in
theorem j_Mo_data_b104 {Γ : tm_G} {ex : List tm_Sh} {av : List Value} {X0 : tm_X} {r : Int64 × tm_I × tm_L} (C : tm_C Γ ty_Mo_data.1.cls ty_Mo_data.2.1 ty_Mo_data.2.2.1) (G : tm_Γ ty_Mo_data 0 0 0 0 av X0 (tm_is (some (.long r.1)) (sh0 ++ ex, r.2.1, r.2.2, rr)) Γ) {x1 : Int32} {x2 : Int32} {x3 : Int64} {x5 : Int32} {mI : tm_I} {mL : tm_L} (hf : f_Mo_data_b104 x1 x2 x3 x5 mI mL = some r) : tm_T Γ 8 0 0 104 [some (.ref 39), some (.int x1), some (.int x2), some (.long x3), none, some (.int x5), none, none] [] (sh0 ++ ex) mI mL rr := by
  have Ro := G.ro
  unfold f_Mo_data_b104 at hf
  refine tm_w C tfo_Mo to_Mo_data 0 rfl rfl rfl trivial ?_
  cases hf
  exact tm_el C G to_Mo_data rfl rfl (Nat.le_refl _) ⟨rfl, rfl⟩
set_option maxRecDepth 100000 in
set_option maxHeartbeats 4000000 in
theorem j_Mo_data_b98 {Γ : tm_G} {ex : List tm_Sh} {av : List Value} {X0 : tm_X} {r26 : Int32 → Int32 → Int64 → Int32 → tm_I → tm_L → Option (Int64 × tm_I × tm_L)} {r : Int64 × tm_I × tm_L} (C : tm_C Γ ty_Mo_data.1.cls ty_Mo_data.2.1 ty_Mo_data.2.2.1) (G : tm_Γ ty_Mo_data 0 0 0 0 av X0 (tm_is (some (.long r.1)) (sh0 ++ ex, r.2.1, r.2.2, rr)) Γ) (H26 : ∀ (x1 : Int32) (x2 : Int32) (x3 : Int64) (x5 : Int32) (mI : tm_I) (mL : tm_L), r26 x1 x2 x3 x5 mI mL = some r → tm_T Γ 8 0 0 26 [some (.ref 39), some (.int x1), some (.int x2), some (.long x3), none, some (.int x5), none, none] [] (sh0 ++ ex) mI mL rr) {x1 : Int32} {x2 : Int32} {x3 : Int64} {x5 : Int32} {x6 : Int64} {mI : tm_I} {mL : tm_L} (hf : f_Mo_data_b98 r26 x1 x2 x3 x5 x6 mI mL = some r) : tm_T Γ 8 0 0 98 [some (.ref 39), some (.int x1), some (.int x2), some (.long x3), none, some (.int x5), some (.long x6), none] [] (sh0 ++ ex) mI mL rr := by
  have Ro := G.ro
  unfold f_Mo_data_b98 at hf
  refine tm_w C tfo_Mo to_Mo_data 1 rfl rfl rfl trivial ?_
  refine tm_wk (lv' := [some (.ref 39), some (.int x1), some (.int x2), some (.long x3), none, some (.int (x5 + (1 : Int32))), none, none]) ⟨Or.inr rfl, Or.inr rfl, Or.inr rfl, Or.inr rfl, Or.inl rfl, Or.inr rfl, Or.inl rfl, Or.inl rfl, trivial⟩ ?_
  exact H26 _ _ _ _ _ _ hf
set_option maxRecDepth 100000 in
set_option maxHeartbeats 4000000 in
theorem j_Mo_data_l26 {Γ : tm_G} {ex : List tm_Sh} {av : List Value} {X0 : tm_X} {r : Int64 × tm_I × tm_L} (C : tm_C Γ ty_Mo_data.1.cls ty_Mo_data.2.1 ty_Mo_data.2.2.1) (G : tm_Γ ty_Mo_data 0 0 0 0 av X0 (tm_is (some (.long r.1)) (sh0 ++ ex, r.2.1, r.2.2, rr)) Γ) : ∀ (n : Nat) (x1 : Int32) (x2 : Int32) (x3 : Int64) (x5 : Int32) (mI : tm_I) (mL : tm_L), f_Mo_data_l26 n x1 x2 x3 x5 mI mL = some r → tm_T Γ 8 0 0 26 [some (.ref 39), some (.int x1), some (.int x2), some (.long x3), none, some (.int x5), none, none] [] (sh0 ++ ex) mI mL rr := by
  have Ro := G.ro
  intro n
  induction n with
  | zero => intro x1 x2 x3 x5 mI mL hf; cases hf
  | succ n ih =>
    intro x1 x2 x3 x5 mI mL hf
    rw [f_Mo_data_l26] at hf
    refine tm_w C tfo_Mo to_Mo_data 1 rfl rfl rfl trivial ?_
    refine tm_b C to_Mo_data rfl rfl (fun h => ?_) (fun h => ?_)
    · have hf := (if_pos h).symm.trans hf
      refine tm_wk (lv' := [some (.ref 39), some (.int x1), some (.int x2), some (.long x3), none, some (.int x5), none, none]) ⟨Or.inr rfl, Or.inr rfl, Or.inr rfl, Or.inr rfl, Or.inl rfl, Or.inr rfl, Or.inl rfl, Or.inl rfl, trivial⟩ ?_
      exact j_Mo_data_b104 C G hf
    · have hf := (if_neg h).symm.trans hf
      refine tm_w C tfo_Mo to_Mo_data 1 rfl rfl rfl ⟨rfl, trivial⟩ ?_
      refine tm_b C to_Mo_data rfl rfl (fun h => ?_) (fun h => ?_)
      · have hf := (if_pos h).symm.trans hf
        refine tm_wk (lv' := [some (.ref 39), some (.int x1), some (.int x2), some (.long x3), none, some (.int x5), none, none]) ⟨Or.inr rfl, Or.inr rfl, Or.inr rfl, Or.inr rfl, Or.inl rfl, Or.inr rfl, Or.inl rfl, Or.inl rfl, trivial⟩ ?_
        exact j_Mo_data_b104 C G hf
      · have hf := (if_neg h).symm.trans hf
        refine tm_w C tfo_Mo to_Mo_data 8 rfl rfl rfl trivial ?_
        refine tm_b C to_Mo_data rfl rfl (fun h => ?_) (fun h => ?_)
        · have hf := (if_pos h).symm.trans hf
          refine tm_wk (lv' := [some (.ref 39), some (.int x1), some (.int x2), some (.long x3), none, some (.int x5), some (.long ((Int32.toInt64 x2) + (Int32.toInt64 x5))), none]) ⟨Or.inr rfl, Or.inr rfl, Or.inr rfl, Or.inr rfl, Or.inl rfl, Or.inr rfl, Or.inr rfl, Or.inl rfl, trivial⟩ ?_
          exact j_Mo_data_b98 C G (ih) hf
        · have hf := (if_neg h).symm.trans hf
          obtain ⟨c1, hf⟩ := tm_iteN hf
          refine tm_w C tfo_Mo to_Mo_data 10 rfl rfl rfl ⟨rfl, ⟨_, rfl, c1⟩, trivial⟩ ?_
          refine tm_b C to_Mo_data rfl rfl (fun h => ?_) (fun h => ?_)
          · have hf := (if_pos h).symm.trans hf
            refine tm_wk (lv' := [some (.ref 39), some (.int x1), some (.int x2), some (.long x3), none, some (.int x5), some (.long ((Int32.toInt64 x2) + (Int32.toInt64 x5))), none]) ⟨Or.inr rfl, Or.inr rfl, Or.inr rfl, Or.inr rfl, Or.inl rfl, Or.inr rfl, Or.inr rfl, Or.inl rfl, trivial⟩ ?_
            exact j_Mo_data_b98 C G (ih) hf
          · have hf := (if_neg h).symm.trans hf
            obtain ⟨c2, hf⟩ := tm_iteN hf
            refine tm_w C tfo_Mo to_Mo_data 16 rfl rfl rfl ⟨rfl, ⟨_, rfl, c2⟩, trivial⟩ ?_
            refine tm_wk (lv' := [some (.ref 39), some (.int x1), some (.int x2), some (.long (x3 ||| ((Int32.toInt64 (mI 56 (Int32.toNatClampNeg (((200 : Int32) * x1) + (Int64.toInt32 ((Int32.toInt64 x2) + (Int32.toInt64 x5))))))) <<< (Int32.toInt64 ((8 : Int32) * x5) &&& 63)))), none, some (.int x5), some (.long ((Int32.toInt64 x2) + (Int32.toInt64 x5))), none]) ⟨Or.inr rfl, Or.inr rfl, Or.inr rfl, Or.inr rfl, Or.inl rfl, Or.inr rfl, Or.inr rfl, Or.inl rfl, trivial⟩ ?_
            exact j_Mo_data_b98 C G (ih) hf
set_option maxRecDepth 100000 in
set_option maxHeartbeats 4000000 in
theorem j_Mo_data_b18 {Γ : tm_G} {ex : List tm_Sh} {av : List Value} {X0 : tm_X} {r : Int64 × tm_I × tm_L} (C : tm_C Γ ty_Mo_data.1.cls ty_Mo_data.2.1 ty_Mo_data.2.2.1) (G : tm_Γ ty_Mo_data 0 0 0 0 av X0 (tm_is (some (.long r.1)) (sh0 ++ ex, r.2.1, r.2.2, rr)) Γ) {x1 : Int32} {x2 : Int32} {s1 : Int32} {mI : tm_I} {mL : tm_L} (hf : f_Mo_data_b18 x1 x2 s1 mI mL = some r) : tm_T Γ 8 0 0 18 [some (.ref 39), some (.int x1), some (.int x2), none, none, none, none, none] [.int s1, .ref 39] (sh0 ++ ex) mI mL rr := by
  have Ro := G.ro
  unfold f_Mo_data_b18 at hf
  refine tm_w C tfo_Mo to_Mo_data 4 rfl rfl rfl ⟨rfl, trivial⟩ ?_
  refine tm_wk (lv' := [some (.ref 39), some (.int x1), some (.int x2), some (.long (0 : Int64)), none, some (.int (0 : Int32)), none, none]) ⟨Or.inr rfl, Or.inr rfl, Or.inr rfl, Or.inr rfl, Or.inl rfl, Or.inr rfl, Or.inl rfl, Or.inl rfl, trivial⟩ ?_
  exact j_Mo_data_l26 C G _ _ _ _ _ _ _ hf
set_option maxRecDepth 100000 in
set_option maxHeartbeats 4000000 in
theorem j_Mo_data_b13 {Γ : tm_G} {ex : List tm_Sh} {av : List Value} {X0 : tm_X} {r : Int64 × tm_I × tm_L} (C : tm_C Γ ty_Mo_data.1.cls ty_Mo_data.2.1 ty_Mo_data.2.2.1) (G : tm_Γ ty_Mo_data 0 0 0 0 av X0 (tm_is (some (.long r.1)) (sh0 ++ ex, r.2.1, r.2.2, rr)) Γ) {x1 : Int32} {x2 : Int32} {mI : tm_I} {mL : tm_L} (hf : f_Mo_data_b13 x1 x2 mI mL = some r) : tm_T Γ 8 0 0 13 [some (.ref 39), some (.int x1), some (.int x2), none, none, none, none, none] [.ref 39] (sh0 ++ ex) mI mL rr := by
  have Ro := G.ro
  unfold f_Mo_data_b13 at hf
  refine tm_w C tfo_Mo to_Mo_data 1 rfl rfl rfl trivial ?_
  refine tm_wk (lv' := [some (.ref 39), some (.int x1), some (.int x2), none, none, none, none, none]) ⟨Or.inr rfl, Or.inr rfl, Or.inr rfl, Or.inl rfl, Or.inl rfl, Or.inl rfl, Or.inl rfl, Or.inl rfl, trivial⟩ ?_
  exact j_Mo_data_b18 C G hf
set_option maxRecDepth 100000 in
set_option maxHeartbeats 4000000 in
theorem j_Mo_data_b0 {Γ : tm_G} {ex : List tm_Sh} {av : List Value} {X0 : tm_X} {r : Int64 × tm_I × tm_L} (C : tm_C Γ ty_Mo_data.1.cls ty_Mo_data.2.1 ty_Mo_data.2.2.1) (G : tm_Γ ty_Mo_data 0 0 0 0 av X0 (tm_is (some (.long r.1)) (sh0 ++ ex, r.2.1, r.2.2, rr)) Γ) {x1 : Int32} {x2 : Int32} {mI : tm_I} {mL : tm_L} (hf : f_Mo_data_b0 x1 x2 mI mL = some r) : tm_T Γ 8 0 0 0 [some (.ref 39), some (.int x1), some (.int x2), none, none, none, none, none] [] (sh0 ++ ex) mI mL rr := by
  have Ro := G.ro
  unfold f_Mo_data_b0 at hf
  refine tm_w C tfo_Mo to_Mo_data 1 rfl rfl rfl trivial ?_
  refine tm_b C to_Mo_data rfl rfl (fun h => ?_) (fun h => ?_)
  · have hf := (if_pos h).symm.trans hf
    refine tm_wk (lv' := [some (.ref 39), some (.int x1), some (.int x2), none, none, none, none, none]) ⟨Or.inr rfl, Or.inr rfl, Or.inr rfl, Or.inl rfl, Or.inl rfl, Or.inl rfl, Or.inl rfl, Or.inl rfl, trivial⟩ ?_
    exact j_Mo_data_b13 C G hf
  · have hf := (if_neg h).symm.trans hf
    refine tm_w C tfo_Mo to_Mo_data 2 rfl rfl rfl ⟨rfl, trivial⟩ ?_
    refine tm_b C to_Mo_data rfl rfl (fun h => ?_) (fun h => ?_)
    · have hf := (if_pos h).symm.trans hf
      refine tm_w C tfo_Mo to_Mo_data 0 rfl rfl rfl trivial ?_
      refine tm_wk (lv' := [some (.ref 39), some (.int x1), some (.int x2), none, none, none, none, none]) ⟨Or.inr rfl, Or.inr rfl, Or.inr rfl, Or.inl rfl, Or.inl rfl, Or.inl rfl, Or.inl rfl, Or.inl rfl, trivial⟩ ?_
      exact j_Mo_data_b18 C G hf
    · have hf := (if_neg h).symm.trans hf
      refine tm_wk (lv' := [some (.ref 39), some (.int x1), some (.int x2), none, none, none, none, none]) ⟨Or.inr rfl, Or.inr rfl, Or.inr rfl, Or.inl rfl, Or.inl rfl, Or.inl rfl, Or.inl rfl, Or.inl rfl, trivial⟩ ?_
      exact j_Mo_data_b13 C G hf
set_option maxRecDepth 100000 in
theorem ct_Mo_data {ex : List tm_Sh} {p0 : Int32} {p1 : Int32} {mI : tm_I} {mL : tm_L} {r : Int64 × tm_I × tm_L} (hf : f_Mo_data p0 p1 mI mL = some r) : tm_M ty_Mo_data 0 0 0 0 [.ref 39, .int p0, .int p1] (sh0 ++ ex, mI, mL, rr) (tm_is (some (.long r.1)) (sh0 ++ ex, r.2.1, r.2.2, rr)) := by
  refine tm_body (by decide) (Nat.le_of_ble_eq_true rfl) fun Γ C G => ?_
  exact j_Mo_data_b0 C G hf
