/-! Mo_isFar -/
def f_Mo_isFar_b19 (x0 : Int32) (s0 : Int32) (mI : tm_I) (mL : tm_L) : Option (Int32 × tm_I × tm_L) := if s0 = 0 ∨ s0 = 1 then some (s0, mI, mL) else none
def f_Mo_isFar_b14 (x0 : Int32) (mI : tm_I) (mL : tm_L) : Option (Int32 × tm_I × tm_L) := f_Mo_isFar_b19 x0 (1 : Int32) mI mL
def f_Mo_isFar_b0 (x0 : Int32) (mI : tm_I) (mL : tm_L) : Option (Int32 × tm_I × tm_L) := if x0 < (-4096 : Int32) then f_Mo_isFar_b14 x0 mI mL else if x0 ≤ (4096 : Int32) then f_Mo_isFar_b19 x0 (0 : Int32) mI mL else f_Mo_isFar_b14 x0 mI mL
abbrev f_Mo_isFar (p0 : Int32) (mI : tm_I) (mL : tm_L) : Option (Int32 × tm_I × tm_L) := f_Mo_isFar_b0 p0 mI mL
set_option maxRecDepth 100000 in
set_option maxHeartbeats 4000000 in
theorem j_Mo_isFar_b19 {Γ : tm_G} {ex : List tm_Sh} {av : List Value} {X0 : tm_X} {r : Int32 × tm_I × tm_L} (C : tm_C Γ ty_Mo_isFar.1.cls ty_Mo_isFar.2.1 ty_Mo_isFar.2.2.1) (G : tm_Γ ty_Mo_isFar 0 0 0 0 av X0 (tm_is (some (.int r.1)) (sh0 ++ ex, r.2.1, r.2.2, rr)) Γ) {x0 : Int32} {s0 : Int32} {mI : tm_I} {mL : tm_L} (hf : f_Mo_isFar_b19 x0 s0 mI mL = some r) : tm_T Γ 1 0 0 19 [some (.int x0)] [.int s0] (sh0 ++ ex) mI mL rr := by
  have Ro := G.ro
  unfold f_Mo_isFar_b19 at hf
  obtain ⟨c1, hf⟩ := tm_iteN hf
  cases hf
  exact tm_ei C G to_Mo_isFar rfl rfl (Nat.le_refl _) (tm_nz c1) ⟨rfl, rfl⟩
set_option maxRecDepth 100000 in
set_option maxHeartbeats 4000000 in
theorem j_Mo_isFar_b14 {Γ : tm_G} {ex : List tm_Sh} {av : List Value} {X0 : tm_X} {r : Int32 × tm_I × tm_L} (C : tm_C Γ ty_Mo_isFar.1.cls ty_Mo_isFar.2.1 ty_Mo_isFar.2.2.1) (G : tm_Γ ty_Mo_isFar 0 0 0 0 av X0 (tm_is (some (.int r.1)) (sh0 ++ ex, r.2.1, r.2.2, rr)) Γ) {x0 : Int32} {mI : tm_I} {mL : tm_L} (hf : f_Mo_isFar_b14 x0 mI mL = some r) : tm_T Γ 1 0 0 14 [some (.int x0)] [] (sh0 ++ ex) mI mL rr := by
  have Ro := G.ro
  unfold f_Mo_isFar_b14 at hf
  refine tm_w C tfo_Mo to_Mo_isFar 1 rfl rfl rfl trivial ?_
  refine tm_wk (lv' := [some (.int x0)]) ⟨Or.inr rfl, trivial⟩ ?_
  exact j_Mo_isFar_b19 C G hf
set_option maxRecDepth 100000 in
set_option maxHeartbeats 4000000 in
theorem j_Mo_isFar_b0 {Γ : tm_G} {ex : List tm_Sh} {av : List Value} {X0 : tm_X} {r : Int32 × tm_I × tm_L} (C : tm_C Γ ty_Mo_isFar.1.cls ty_Mo_isFar.2.1 ty_Mo_isFar.2.2.1) (G : tm_Γ ty_Mo_isFar 0 0 0 0 av X0 (tm_is (some (.int r.1)) (sh0 ++ ex, r.2.1, r.2.2, rr)) Γ) {x0 : Int32} {mI : tm_I} {mL : tm_L} (hf : f_Mo_isFar_b0 x0 mI mL = some r) : tm_T Γ 1 0 0 0 [some (.int x0)] [] (sh0 ++ ex) mI mL rr := by
  have Ro := G.ro
  unfold f_Mo_isFar_b0 at hf
  refine tm_w C tfo_Mo to_Mo_isFar 1 rfl rfl rfl trivial ?_
  refine tm_b C to_Mo_isFar rfl rfl (fun h => ?_) (fun h => ?_)
  · have hf := (if_pos h).symm.trans hf
    refine tm_wk (lv' := [some (.int x0)]) ⟨Or.inr rfl, trivial⟩ ?_
    exact j_Mo_isFar_b14 C G hf
  · have hf := (if_neg h).symm.trans hf
    refine tm_w C tfo_Mo to_Mo_isFar 1 rfl rfl rfl trivial ?_
    refine tm_b C to_Mo_isFar rfl rfl (fun h => ?_) (fun h => ?_)
    · have hf := (if_pos h).symm.trans hf
      refine tm_w C tfo_Mo to_Mo_isFar 0 rfl rfl rfl trivial ?_
      refine tm_wk (lv' := [some (.int x0)]) ⟨Or.inr rfl, trivial⟩ ?_
      exact j_Mo_isFar_b19 C G hf
    · have hf := (if_neg h).symm.trans hf
      refine tm_wk (lv' := [some (.int x0)]) ⟨Or.inr rfl, trivial⟩ ?_
      exact j_Mo_isFar_b14 C G hf
set_option maxRecDepth 100000 in
theorem ct_Mo_isFar {ex : List tm_Sh} {p0 : Int32} {mI : tm_I} {mL : tm_L} {r : Int32 × tm_I × tm_L} (hf : f_Mo_isFar p0 mI mL = some r) : tm_M ty_Mo_isFar 0 0 0 0 [.int p0] (sh0 ++ ex, mI, mL, rr) (tm_is (some (.int r.1)) (sh0 ++ ex, r.2.1, r.2.2, rr)) := by
  refine tm_body (by decide) (Nat.le_of_ble_eq_true rfl) fun Γ C G => ?_
  exact j_Mo_isFar_b0 C G hf
/-! Mo_lay -/
def f_Mo_lay_l100 : Nat → Int32 → tm_I → tm_L → Option (Int32 × tm_I × tm_L)
  | 0, _, _, _ => none
  | n + 1, x1, mI, mL => if (200 : Int32) ≤ x1 then some (0, mI, mL) else if ¬ (x1 < 0 ∨ 200 ≤ Int32.toNatClampNeg x1) then if ¬ ((((200 : Int32) * (mI 39 25)) + x1) < 0 ∨ 24200 ≤ Int32.toNatClampNeg (((200 : Int32) * (mI 39 25)) + x1)) then (f_Mo_lay_l100 n) (x1 + (1 : Int32)) (tm_up mI 52 (Int32.toNatClampNeg (((200 : Int32) * (mI 39 25)) + x1)) (mI 51 (Int32.toNatClampNeg x1))) mL else none else none
def f_Mo_lay_l66 : Nat → Int32 → tm_I → tm_L → Option (Int32 × tm_I × tm_L)
  | 0, _, _, _ => none
  | n + 1, x1, mI, mL => if (16 : Int32) ≤ x1 then f_Mo_lay_l100 tm_F (0 : Int32) mI mL else if ¬ (x1 < 0 ∨ 16 ≤ Int32.toNatClampNeg x1) then if ¬ ((((16 : Int32) * (mI 39 25)) + x1) < 0 ∨ 2000 ≤ Int32.toNatClampNeg (((16 : Int32) * (mI 39 25)) + x1)) then (f_Mo_lay_l66 n) (x1 + (1 : Int32)) (tm_up mI 50 (Int32.toNatClampNeg (((16 : Int32) * (mI 39 25)) + x1)) (mI 49 (Int32.toNatClampNeg x1))) mL else none else none
def f_Mo_lay_l38 : Nat → Int32 → tm_I → tm_L → Option (Int32 × tm_I × tm_L)
  | 0, _, _, _ => none
  | n + 1, x1, mI, mL => if (4 : Int32) ≤ x1 then f_Mo_lay_l66 tm_F (0 : Int32) mI mL else if ¬ (x1 < 0 ∨ 4 ≤ Int32.toNatClampNeg x1) then if ¬ (((11 : Int32) + x1) < 0 ∨ 16 ≤ Int32.toNatClampNeg ((11 : Int32) + x1)) then (f_Mo_lay_l38 n) (x1 + (1 : Int32)) (tm_up mI 49 (Int32.toNatClampNeg ((11 : Int32) + x1)) (mI 48 (Int32.toNatClampNeg x1))) mL else none else none
def f_Mo_lay_b0  (mI : tm_I) (mL : tm_L) : Option (Int32 × tm_I × tm_L) := if ¬ ((5 : Int32) < 0 ∨ 16 ≤ Int32.toNatClampNeg (5 : Int32)) then if ¬ ((5 : Int32) < 0 ∨ 16 ≤ Int32.toNatClampNeg (5 : Int32)) then if ¬ ((6 : Int32) < 0 ∨ 16 ≤ Int32.toNatClampNeg (6 : Int32)) then if ¬ ((6 : Int32) < 0 ∨ 16 ≤ Int32.toNatClampNeg (6 : Int32)) then f_Mo_lay_l38 tm_F (0 : Int32) (tm_up (tm_up mI 49 (Int32.toNatClampNeg (5 : Int32)) ((mI 49 (Int32.toNatClampNeg (5 : Int32))) + (mI 39 22))) 49 (Int32.toNatClampNeg (6 : Int32)) (((tm_up mI 49 (Int32.toNatClampNeg (5 : Int32)) ((mI 49 (Int32.toNatClampNeg (5 : Int32))) + (mI 39 22))) 49 (Int32.toNatClampNeg (6 : Int32))) + ((tm_up mI 49 (Int32.toNatClampNeg (5 : Int32)) ((mI 49 (Int32.toNatClampNeg (5 : Int32))) + (mI 39 22))) 39 23))) mL else none else none else none else none
abbrev f_Mo_lay  (mI : tm_I) (mL : tm_L) : Option (Int32 × tm_I × tm_L) := f_Mo_lay_b0  mI mL
set_option maxRecDepth 100000 in
set_option maxHeartbeats 4000000 in
theorem j_Mo_lay_l100 {Γ : tm_G} {ex : List tm_Sh} {av : List Value} {X0 : tm_X} {r : Int32 × tm_I × tm_L} (C : tm_C Γ ty_Mo_lay.1.cls ty_Mo_lay.2.1 ty_Mo_lay.2.2.1) (G : tm_Γ ty_Mo_lay 0 0 0 0 av X0 (tm_is none (sh0 ++ ex, r.2.1, r.2.2, rr)) Γ) : ∀ (n : Nat) (x1 : Int32) (mI : tm_I) (mL : tm_L), f_Mo_lay_l100 n x1 mI mL = some r → tm_T Γ 2 0 0 100 [some (.ref 39), some (.int x1)] [] (sh0 ++ ex) mI mL rr := by
  have Ro := G.ro
  intro n
  induction n with
  | zero => intro x1 mI mL hf; cases hf
  | succ n ih =>
    intro x1 mI mL hf
    rw [f_Mo_lay_l100] at hf
    refine tm_w C tfo_Mo to_Mo_lay 1 rfl rfl rfl trivial ?_
    refine tm_b C to_Mo_lay rfl rfl (fun h => ?_) (fun h => ?_)
    · have hf := (if_pos h).symm.trans hf
      cases hf
      exact tm_ev C G to_Mo_lay rfl rfl (Nat.le_refl _) ⟨rfl, rfl⟩
    · have hf := (if_neg h).symm.trans hf
      obtain ⟨c1, hf⟩ := tm_iteN hf
      obtain ⟨c2, hf⟩ := tm_iteN hf
      refine tm_w C tfo_Mo to_Mo_lay 14 rfl rfl rfl ⟨rfl, rfl, rfl, ⟨_, rfl, c1⟩, ⟨_, rfl, c2⟩, trivial⟩ ?_
      refine tm_wk (lv' := [some (.ref 39), some (.int (x1 + (1 : Int32)))]) ⟨Or.inr rfl, Or.inr rfl, trivial⟩ ?_
      exact ih _ _ _ hf
set_option maxRecDepth 100000 in
set_option maxHeartbeats 4000000 in
theorem j_Mo_lay_l66 {Γ : tm_G} {ex : List tm_Sh} {av : List Value} {X0 : tm_X} {r : Int32 × tm_I × tm_L} (C : tm_C Γ ty_Mo_lay.1.cls ty_Mo_lay.2.1 ty_Mo_lay.2.2.1) (G : tm_Γ ty_Mo_lay 0 0 0 0 av X0 (tm_is none (sh0 ++ ex, r.2.1, r.2.2, rr)) Γ) : ∀ (n : Nat) (x1 : Int32) (mI : tm_I) (mL : tm_L), f_Mo_lay_l66 n x1 mI mL = some r → tm_T Γ 2 0 0 66 [some (.ref 39), some (.int x1)] [] (sh0 ++ ex) mI mL rr := by
  have Ro := G.ro
  intro n
  induction n with
  | zero => intro x1 mI mL hf; cases hf
  | succ n ih =>
    intro x1 mI mL hf
    rw [f_Mo_lay_l66] at hf
    refine tm_w C tfo_Mo to_Mo_lay 1 rfl rfl rfl trivial ?_
    refine tm_b C to_Mo_lay rfl rfl (fun h => ?_) (fun h => ?_)
    · have hf := (if_pos h).symm.trans hf
      refine tm_w C tfo_Mo to_Mo_lay 1 rfl rfl rfl trivial ?_
      refine tm_wk (lv' := [some (.ref 39), some (.int (0 : Int32))]) ⟨Or.inr rfl, Or.inr rfl, trivial⟩ ?_
      exact j_Mo_lay_l100 C G _ _ _ _ hf
    · have hf := (if_neg h).symm.trans hf
      obtain ⟨c3, hf⟩ := tm_iteN hf
      obtain ⟨c4, hf⟩ := tm_iteN hf
      refine tm_w C tfo_Mo to_Mo_lay 14 rfl rfl rfl ⟨rfl, rfl, rfl, ⟨_, rfl, c3⟩, ⟨_, rfl, c4⟩, trivial⟩ ?_
      refine tm_wk (lv' := [some (.ref 39), some (.int (x1 + (1 : Int32)))]) ⟨Or.inr rfl, Or.inr rfl, trivial⟩ ?_
      exact ih _ _ _ hf
set_option maxRecDepth 100000 in
set_option maxHeartbeats 4000000 in
theorem j_Mo_lay_l38 {Γ : tm_G} {ex : List tm_Sh} {av : List Value} {X0 : tm_X} {r : Int32 × tm_I × tm_L} (C : tm_C Γ ty_Mo_lay.1.cls ty_Mo_lay.2.1 ty_Mo_lay.2.2.1) (G : tm_Γ ty_Mo_lay 0 0 0 0 av X0 (tm_is none (sh0 ++ ex, r.2.1, r.2.2, rr)) Γ) : ∀ (n : Nat) (x1 : Int32) (mI : tm_I) (mL : tm_L), f_Mo_lay_l38 n x1 mI mL = some r → tm_T Γ 2 0 0 38 [some (.ref 39), some (.int x1)] [] (sh0 ++ ex) mI mL rr := by
  have Ro := G.ro
  intro n
  induction n with
  | zero => intro x1 mI mL hf; cases hf
  | succ n ih =>
    intro x1 mI mL hf
    rw [f_Mo_lay_l38] at hf
    refine tm_w C tfo_Mo to_Mo_lay 1 rfl rfl rfl trivial ?_
    refine tm_b C to_Mo_lay rfl rfl (fun h => ?_) (fun h => ?_)
    · have hf := (if_pos h).symm.trans hf
      refine tm_w C tfo_Mo to_Mo_lay 1 rfl rfl rfl trivial ?_
      refine tm_wk (lv' := [some (.ref 39), some (.int (0 : Int32))]) ⟨Or.inr rfl, Or.inr rfl, trivial⟩ ?_
      exact j_Mo_lay_l66 C G _ _ _ _ hf
    · have hf := (if_neg h).symm.trans hf
      obtain ⟨c5, hf⟩ := tm_iteN hf
      obtain ⟨c6, hf⟩ := tm_iteN hf
      refine tm_w C tfo_Mo to_Mo_lay 11 rfl rfl rfl ⟨rfl, rfl, ⟨_, rfl, c5⟩, ⟨_, rfl, c6⟩, trivial⟩ ?_
      refine tm_wk (lv' := [some (.ref 39), some (.int (x1 + (1 : Int32)))]) ⟨Or.inr rfl, Or.inr rfl, trivial⟩ ?_
      exact ih _ _ _ hf
set_option maxRecDepth 100000 in
set_option maxHeartbeats 4000000 in
theorem j_Mo_lay_b0 {Γ : tm_G} {ex : List tm_Sh} {av : List Value} {X0 : tm_X} {r : Int32 × tm_I × tm_L} (C : tm_C Γ ty_Mo_lay.1.cls ty_Mo_lay.2.1 ty_Mo_lay.2.2.1) (G : tm_Γ ty_Mo_lay 0 0 0 0 av X0 (tm_is none (sh0 ++ ex, r.2.1, r.2.2, rr)) Γ) {mI : tm_I} {mL : tm_L} (hf : f_Mo_lay_b0  mI mL = some r) : tm_T Γ 2 0 0 0 [some (.ref 39), none] [] (sh0 ++ ex) mI mL rr := by
  have Ro := G.ro
  unfold f_Mo_lay_b0 at hf
  obtain ⟨c7, hf⟩ := tm_iteN hf
  obtain ⟨c8, hf⟩ := tm_iteN hf
  obtain ⟨c9, hf⟩ := tm_iteN hf
  obtain ⟨c10, hf⟩ := tm_iteN hf
  refine tm_w C tfo_Mo to_Mo_lay 23 rfl rfl rfl ⟨rfl, rfl, ⟨_, rfl, c7⟩, rfl, ⟨_, rfl, c8⟩, rfl, rfl, ⟨_, rfl, c9⟩, rfl, ⟨_, rfl, c10⟩, trivial⟩ ?_
  refine tm_wk (lv' := [some (.ref 39), some (.int (0 : Int32))]) ⟨Or.inr rfl, Or.inr rfl, trivial⟩ ?_
  exact j_Mo_lay_l38 C G _ _ _ _ hf
set_option maxRecDepth 100000 in
theorem ct_Mo_lay {ex : List tm_Sh}  {mI : tm_I} {mL : tm_L} {r : Int32 × tm_I × tm_L} (hf : f_Mo_lay  mI mL = some r) : tm_M ty_Mo_lay 0 0 0 0 [.ref 39] (sh0 ++ ex, mI, mL, rr) (tm_is none (sh0 ++ ex, r.2.1, r.2.2, rr)) := by
  refine tm_body (by decide) (Nat.le_of_ble_eq_true rfl) fun Γ C G => ?_
  exact j_Mo_lay_b0 C G hf
/-! Mo_kindOf -/
def f_Mo_kindOf_b125 (x0 : Int32) (mI : tm_I) (mL : tm_L) : Option (Int32 × tm_I × tm_L) := some ((-1 : Int32), mI, mL)
def f_Mo_kindOf_b0 (x0 : Int32) (mI : tm_I) (mL : tm_L) : Option (Int32 × tm_I × tm_L) := if x0 = (66 : Int32) then some ((1 : Int32), mI, mL) else if x0 = (70 : Int32) then some ((4 : Int32), mI, mL) else if x0 = (71 : Int32) then some ((6 : Int32), mI, mL) else if x0 = (73 : Int32) then some ((5 : Int32), mI, mL) else if x0 = (78 : Int32) then some ((2 : Int32), mI, mL) else if x0 = (80 : Int32) then some ((7 : Int32), mI, mL) else if x0 = (81 : Int32) then some ((3 : Int32), mI, mL) else if x0 = (84 : Int32) then some ((0 : Int32), mI, mL) else if x0 = (87 : Int32) then some ((8 : Int32), mI, mL) else f_Mo_kindOf_b125 x0 mI mL
abbrev f_Mo_kindOf (p0 : Int32) (mI : tm_I) (mL : tm_L) : Option (Int32 × tm_I × tm_L) := f_Mo_kindOf_b0 p0 mI mL
set_option maxRecDepth 100000 in
set_option maxHeartbeats 4000000 in
theorem j_Mo_kindOf_b125 {Γ : tm_G} {ex : List tm_Sh} {av : List Value} {X0 : tm_X} {r : Int32 × tm_I × tm_L} (C : tm_C Γ ty_Mo_kindOf.1.cls ty_Mo_kindOf.2.1 ty_Mo_kindOf.2.2.1) (G : tm_Γ ty_Mo_kindOf 0 0 0 0 av X0 (tm_is (some (.int r.1)) (sh0 ++ ex, r.2.1, r.2.2, rr)) Γ) {x0 : Int32} {mI : tm_I} {mL : tm_L} (hf : f_Mo_kindOf_b125 x0 mI mL = some r) : tm_T Γ 1 0 0 125 [some (.int x0)] [] (sh0 ++ ex) mI mL rr := by
  have Ro := G.ro
  unfold f_Mo_kindOf_b125 at hf
  refine tm_w C tfo_Mo to_Mo_kindOf 0 rfl rfl rfl trivial ?_
  cases hf
  exact tm_ei C G to_Mo_kindOf rfl rfl (Nat.le_refl _) rfl ⟨rfl, rfl⟩
set_option maxRecDepth 100000 in
set_option maxHeartbeats 4000000 in
theorem j_Mo_kindOf_b0 {Γ : tm_G} {ex : List tm_Sh} {av : List Value} {X0 : tm_X} {r : Int32 × tm_I × tm_L} (C : tm_C Γ ty_Mo_kindOf.1.cls ty_Mo_kindOf.2.1 ty_Mo_kindOf.2.2.1) (G : tm_Γ ty_Mo_kindOf 0 0 0 0 av X0 (tm_is (some (.int r.1)) (sh0 ++ ex, r.2.1, r.2.2, rr)) Γ) {x0 : Int32} {mI : tm_I} {mL : tm_L} (hf : f_Mo_kindOf_b0 x0 mI mL = some r) : tm_T Γ 1 0 0 0 [some (.int x0)] [] (sh0 ++ ex) mI mL rr := by
  have Ro := G.ro
  unfold f_Mo_kindOf_b0 at hf
  refine tm_w C tfo_Mo to_Mo_kindOf 0 rfl rfl rfl trivial ?_
  by_cases h66 : x0 = (66 : Int32)
  · have hf := (if_pos h66).symm.trans hf
    refine tm_swI (tgt := 106) C (tm_get_d to_Mo_kindOf rfl) (66 : Int32) (105) h66 (by decide) (by decide) (by decide) (by decide) ?_
    refine tm_w C tfo_Mo to_Mo_kindOf 0 rfl rfl rfl trivial ?_
    cases hf
    exact tm_ei C G to_Mo_kindOf rfl rfl (Nat.le_refl _) rfl ⟨rfl, rfl⟩
  have hf := (if_neg h66).symm.trans hf
  by_cases h70 : x0 = (70 : Int32)
  · have hf := (if_pos h70).symm.trans hf
    refine tm_swI (tgt := 112) C (tm_get_d to_Mo_kindOf rfl) (70 : Int32) (111) h70 (by decide) (by decide) (by decide) (by decide) ?_
    refine tm_w C tfo_Mo to_Mo_kindOf 0 rfl rfl rfl trivial ?_
    cases hf
    exact tm_ei C G to_Mo_kindOf rfl rfl (Nat.le_refl _) rfl ⟨rfl, rfl⟩
  have hf := (if_neg h70).symm.trans hf
  by_cases h71 : x0 = (71 : Int32)
  · have hf := (if_pos h71).symm.trans hf
    refine tm_swI (tgt := 116) C (tm_get_d to_Mo_kindOf rfl) (71 : Int32) (115) h71 (by decide) (by decide) (by decide) (by decide) ?_
    refine tm_w C tfo_Mo to_Mo_kindOf 0 rfl rfl rfl trivial ?_
    cases hf
    exact tm_ei C G to_Mo_kindOf rfl rfl (Nat.le_refl _) rfl ⟨rfl, rfl⟩
  have hf := (if_neg h71).symm.trans hf
  by_cases h73 : x0 = (73 : Int32)
  · have hf := (if_pos h73).symm.trans hf
    refine tm_swI (tgt := 114) C (tm_get_d to_Mo_kindOf rfl) (73 : Int32) (113) h73 (by decide) (by decide) (by decide) (by decide) ?_
    refine tm_w C tfo_Mo to_Mo_kindOf 0 rfl rfl rfl trivial ?_
    cases hf
    exact tm_ei C G to_Mo_kindOf rfl rfl (Nat.le_refl _) rfl ⟨rfl, rfl⟩
  have hf := (if_neg h73).symm.trans hf
  by_cases h78 : x0 = (78 : Int32)
  · have hf := (if_pos h78).symm.trans hf
    refine tm_swI (tgt := 108) C (tm_get_d to_Mo_kindOf rfl) (78 : Int32) (107) h78 (by decide) (by decide) (by decide) (by decide) ?_
    refine tm_w C tfo_Mo to_Mo_kindOf 0 rfl rfl rfl trivial ?_
    cases hf
    exact tm_ei C G to_Mo_kindOf rfl rfl (Nat.le_refl _) rfl ⟨rfl, rfl⟩
  have hf := (if_neg h78).symm.trans hf
  by_cases h80 : x0 = (80 : Int32)
  · have hf := (if_pos h80).symm.trans hf
    refine tm_swI (tgt := 119) C (tm_get_d to_Mo_kindOf rfl) (80 : Int32) (118) h80 (by decide) (by decide) (by decide) (by decide) ?_
    refine tm_w C tfo_Mo to_Mo_kindOf 0 rfl rfl rfl trivial ?_
    cases hf
    exact tm_ei C G to_Mo_kindOf rfl rfl (Nat.le_refl _) rfl ⟨rfl, rfl⟩
  have hf := (if_neg h80).symm.trans hf
  by_cases h81 : x0 = (81 : Int32)
  · have hf := (if_pos h81).symm.trans hf
    refine tm_swI (tgt := 110) C (tm_get_d to_Mo_kindOf rfl) (81 : Int32) (109) h81 (by decide) (by decide) (by decide) (by decide) ?_
    refine tm_w C tfo_Mo to_Mo_kindOf 0 rfl rfl rfl trivial ?_
    cases hf
    exact tm_ei C G to_Mo_kindOf rfl rfl (Nat.le_refl _) rfl ⟨rfl, rfl⟩
  have hf := (if_neg h81).symm.trans hf
  by_cases h84 : x0 = (84 : Int32)
  · have hf := (if_pos h84).symm.trans hf
    refine tm_swI (tgt := 104) C (tm_get_d to_Mo_kindOf rfl) (84 : Int32) (103) h84 (by decide) (by decide) (by decide) (by decide) ?_
    refine tm_w C tfo_Mo to_Mo_kindOf 0 rfl rfl rfl trivial ?_
    cases hf
    exact tm_ei C G to_Mo_kindOf rfl rfl (Nat.le_refl _) rfl ⟨rfl, rfl⟩
  have hf := (if_neg h84).symm.trans hf
  by_cases h87 : x0 = (87 : Int32)
  · have hf := (if_pos h87).symm.trans hf
    refine tm_swI (tgt := 122) C (tm_get_d to_Mo_kindOf rfl) (87 : Int32) (121) h87 (by decide) (by decide) (by decide) (by decide) ?_
    refine tm_w C tfo_Mo to_Mo_kindOf 0 rfl rfl rfl trivial ?_
    cases hf
    exact tm_ei C G to_Mo_kindOf rfl rfl (Nat.le_refl _) rfl ⟨rfl, rfl⟩
  have hf := (if_neg h87).symm.trans hf
  refine tm_swD (tgt := 125) C (tm_get_d to_Mo_kindOf rfl) [(66 : Int32), (70 : Int32), (71 : Int32), (73 : Int32), (78 : Int32), (80 : Int32), (81 : Int32), (84 : Int32), (87 : Int32)] (by decide) (by decide) (List.forall_mem_cons.mpr ⟨h66, List.forall_mem_cons.mpr ⟨h70, List.forall_mem_cons.mpr ⟨h71, List.forall_mem_cons.mpr ⟨h73, List.forall_mem_cons.mpr ⟨h78, List.forall_mem_cons.mpr ⟨h80, List.forall_mem_cons.mpr ⟨h81, List.forall_mem_cons.mpr ⟨h84, List.forall_mem_cons.mpr ⟨h87, fun _ h => nomatch h⟩⟩⟩⟩⟩⟩⟩⟩⟩) (by decide) ?_
  refine tm_wk (lv' := [some (.int x0)]) ⟨Or.inr rfl, trivial⟩ ?_
  exact j_Mo_kindOf_b125 C G hf
set_option maxRecDepth 100000 in
theorem ct_Mo_kindOf {ex : List tm_Sh} {p0 : Int32} {mI : tm_I} {mL : tm_L} {r : Int32 × tm_I × tm_L} (hf : f_Mo_kindOf p0 mI mL = some r) : tm_M ty_Mo_kindOf 0 0 0 0 [.int p0] (sh0 ++ ex, mI, mL, rr) (tm_is (some (.int r.1)) (sh0 ++ ex, r.2.1, r.2.2, rr)) := by
  refine tm_body (by decide) (Nat.le_of_ble_eq_true rfl) fun Γ C G => ?_
  exact j_Mo_kindOf_b0 C G hf
/-! Mo_fits -/
def f_Mo_fits_b180 (x1 : Int32) (x2 : Int32) (x3 : Int32) (x4 : Int32) (s0 : Int32) (mI : tm_I) (mL : tm_L) : Option (Int32 × tm_I × tm_L) := if s0 = 0 ∨ s0 = 1 then some (s0, mI, mL) else none
def f_Mo_fits_b175 (x1 : Int32) (x2 : Int32) (x3 : Int32) (x4 : Int32) (mI : tm_I) (mL : tm_L) : Option (Int32 × tm_I × tm_L) := f_Mo_fits_b180 x1 x2 x3 x4 (1 : Int32) mI mL
def f_Mo_fits_b163 (x1 : Int32) (x2 : Int32) (x3 : Int32) (x4 : Int32) (s0 : Int32) (mI : tm_I) (mL : tm_L) : Option (Int32 × tm_I × tm_L) := if s0 = 0 ∨ s0 = 1 then some (s0, mI, mL) else none
def f_Mo_fits_b162 (x1 : Int32) (x2 : Int32) (x3 : Int32) (x4 : Int32) (mI : tm_I) (mL : tm_L) : Option (Int32 × tm_I × tm_L) := f_Mo_fits_b163 x1 x2 x3 x4 (0 : Int32) mI mL
def f_Mo_fits_b121 (r76 : Int32 → Int32 → Int32 → Int32 → tm_I → tm_L → Option (Int32 × tm_I × tm_L)) (x1 : Int32) (x2 : Int32) (x3 : Int32) (x4 : Int32) (mI : tm_I) (mL : tm_L) : Option (Int32 × tm_I × tm_L) := r76 x1 x2 x3 (x4 + (1 : Int32)) mI mL
def f_Mo_fits_b119 (x1 : Int32) (x2 : Int32) (x3 : Int32) (x4 : Int32) (mI : tm_I) (mL : tm_L) : Option (Int32 × tm_I × tm_L) := some ((0 : Int32), mI, mL)
def f_Mo_fits_b100 (r76 : Int32 → Int32 → Int32 → Int32 → tm_I → tm_L → Option (Int32 × tm_I × tm_L)) (x1 : Int32) (x2 : Int32) (x3 : Int32) (x4 : Int32) (mI : tm_I) (mL : tm_L) : Option (Int32 × tm_I × tm_L) := if ¬ x1 = (7 : Int32) then f_Mo_fits_b121 r76 x1 x2 x3 x4 mI mL else if ¬ (x4 < 0 ∨ 200 ≤ Int32.toNatClampNeg x4) then (f_Mo_hex (mI 51 (Int32.toNatClampNeg x4)) mI mL).bind fun v1 => if 0 ≤ v1.1 then f_Mo_fits_b121 r76 x1 x2 x3 x4 v1.2.1 v1.2.2 else f_Mo_fits_b119 x1 x2 x3 x4 v1.2.1 v1.2.2 else none
def f_Mo_fits_l76 : Nat → Int32 → Int32 → Int32 → Int32 → tm_I → tm_L → Option (Int32 × tm_I × tm_L)
  | 0, _, _, _, _, _, _ => none
  | n + 1, x1, x2, x3, x4, mI, mL => if x2 ≤ x4 then if ¬ x1 = (7 : Int32) then if ¬ x1 = (2 : Int32) then f_Mo_fits_b175 x1 x2 x3 x4 mI mL else if ¬ x2 = (12 : Int32) then f_Mo_fits_b180 x1 x2 x3 x4 (0 : Int32) mI mL else f_Mo_fits_b175 x1 x2 x3 x4 mI mL else if ¬ (x2 - x2 / (2 : Int32) * (2 : Int32)) = 0 then f_Mo_fits_b162 x1 x2 x3 x4 mI mL else if ¬ ((1 : Int32) < 0 ∨ 16 ≤ Int32.toNatClampNeg (1 : Int32)) then if ¬ (((mI 49 (Int32.toNatClampNeg (1 : Int32))) + (7 : Int32)) / (8 : Int32)) = 0 then if ¬ ((x2 / (2 : Int32)) - (x2 / (2 : Int32)) / (((mI 49 (Int32.toNatClampNeg (1 : Int32))) + (7 : Int32)) / (8 : Int32)) * (((mI 49 (Int32.toNatClampNeg (1 : Int32))) + (7 : Int32)) / (8 : Int32))) = 0 then f_Mo_fits_b162 x1 x2 x3 x4 mI mL else f_Mo_fits_b163 x1 x2 x3 x4 (1 : Int32) mI mL else none else none else if ¬ x1 = (2 : Int32) then f_Mo_fits_b100 (f_Mo_fits_l76 n) x1 x2 x3 x4 mI mL else if ¬ (x4 < 0 ∨ 200 ≤ Int32.toNatClampNeg x4) then (f_Mo_isDigit (mI 51 (Int32.toNatClampNeg x4)) mI mL).bind fun v2 => if v2.1 = 0 then f_Mo_fits_b119 x1 x2 x3 x4 v2.2.1 v2.2.2 else f_Mo_fits_b100 (f_Mo_fits_l76 n) x1 x2 x3 x4 v2.2.1 v2.2.2 else none
def f_Mo_fits_b73 (x1 : Int32) (x2 : Int32) (x3 : Int32) (mI : tm_I) (mL : tm_L) : Option (Int32 × tm_I × tm_L) := f_Mo_fits_l76 tm_F x1 x2 x3 (0 : Int32) mI mL
def f_Mo_fits_b71 (x1 : Int32) (x2 : Int32) (x3 : Int32) (mI : tm_I) (mL : tm_L) : Option (Int32 × tm_I × tm_L) := some ((0 : Int32), mI, mL)
def f_Mo_fits_b42 (x1 : Int32) (x2 : Int32) (x3 : Int32) (mI : tm_I) (mL : tm_L) : Option (Int32 × tm_I × tm_L) := if ¬ ((8 : Int32) < 0 ∨ 16 ≤ Int32.toNatClampNeg (8 : Int32)) then if ¬ (mI 49 (Int32.toNatClampNeg (8 : Int32))) = (1 : Int32) then f_Mo_fits_b73 x1 x2 x3 mI mL else if x2 = 0 then f_Mo_fits_b71 x1 x2 x3 mI mL else if ¬ ((x2 - (1 : Int32)) < 0 ∨ 200 ≤ Int32.toNatClampNeg (x2 - (1 : Int32))) then (f_Mo_isDigit (mI 51 (Int32.toNatClampNeg (x2 - (1 : Int32)))) mI mL).bind fun v3 => if ¬ v3.1 = 0 then f_Mo_fits_b73 x1 x2 x3 v3.2.1 v3.2.2 else f_Mo_fits_b71 x1 x2 x3 v3.2.1 v3.2.2 else none else none
def f_Mo_fits_b31 (x1 : Int32) (x2 : Int32) (s0 : Int32) (mI : tm_I) (mL : tm_L) : Option (Int32 × tm_I × tm_L) := if ¬ s0 = 0 then f_Mo_fits_b42 x1 x2 s0 mI mL else if ¬ x2 = 0 then f_Mo_fits_b42 x1 x2 s0 mI mL else some ((0 : Int32), mI, mL)
def f_Mo_fits_b30 (x1 : Int32) (x2 : Int32) (mI : tm_I) (mL : tm_L) : Option (Int32 × tm_I × tm_L) := f_Mo_fits_b31 x1 x2 (0 : Int32) mI mL
def f_Mo_fits_b0  (mI : tm_I) (mL : tm_L) : Option (Int32 × tm_I × tm_L) := if ¬ ((0 : Int32) < 0 ∨ 16 ≤ Int32.toNatClampNeg (0 : Int32)) then if ¬ ((10 : Int32) < 0 ∨ 16 ≤ Int32.toNatClampNeg (10 : Int32)) then if (mI 49 (Int32.toNatClampNeg (0 : Int32))) < (4 : Int32) then f_Mo_fits_b30 (mI 49 (Int32.toNatClampNeg (0 : Int32))) (mI 49 (Int32.toNatClampNeg (10 : Int32))) mI mL else if (6 : Int32) < (mI 49 (Int32.toNatClampNeg (0 : Int32))) then f_Mo_fits_b30 (mI 49 (Int32.toNatClampNeg (0 : Int32))) (mI 49 (Int32.toNatClampNeg (10 : Int32))) mI mL else f_Mo_fits_b31 (mI 49 (Int32.toNatClampNeg (0 : Int32))) (mI 49 (Int32.toNatClampNeg (10 : Int32))) (1 : Int32) mI mL else none else none
abbrev f_Mo_fits  (mI : tm_I) (mL : tm_L) : Option (Int32 × tm_I × tm_L) := f_Mo_fits_b0  mI mL
set_option maxRecDepth 100000 in
set_option maxHeartbeats 4000000 in
theorem j_Mo_fits_b180 {Γ : tm_G} {ex : List tm_Sh} {av : List Value} {X0 : tm_X} {r : Int32 × tm_I × tm_L} (C : tm_C Γ ty_Mo_fits.1.cls ty_Mo_fits.2.1 ty_Mo_fits.2.2.1) (G : tm_Γ ty_Mo_fits 2 40 0 0 av X0 (tm_is (some (.int r.1)) (sh0 ++ ex, r.2.1, r.2.2, rr)) Γ) {x1 : Int32} {x2 : Int32} {x3 : Int32} {x4 : Int32} {s0 : Int32} {mI : tm_I} {mL : tm_L} (hf : f_Mo_fits_b180 x1 x2 x3 x4 s0 mI mL = some r) : tm_T Γ 5 0 0 180 [some (.ref 39), some (.int x1), some (.int x2), some (.int x3), some (.int x4)] [.int s0] (sh0 ++ ex) mI mL rr := by
  have Ro := G.ro
  unfold f_Mo_fits_b180 at hf
  obtain ⟨c1, hf⟩ := tm_iteN hf
  cases hf
  exact tm_ei C G to_Mo_fits rfl rfl (Nat.le_refl _) (tm_nz c1) ⟨rfl, rfl⟩
set_option maxRecDepth 100000 in
set_option maxHeartbeats 4000000 in
theorem j_Mo_fits_b175 {Γ : tm_G} {ex : List tm_Sh} {av : List Value} {X0 : tm_X} {r : Int32 × tm_I × tm_L} (C : tm_C Γ ty_Mo_fits.1.cls ty_Mo_fits.2.1 ty_Mo_fits.2.2.1) (G : tm_Γ ty_Mo_fits 2 40 0 0 av X0 (tm_is (some (.int r.1)) (sh0 ++ ex, r.2.1, r.2.2, rr)) Γ) {x1 : Int32} {x2 : Int32} {x3 : Int32} {x4 : Int32} {mI : tm_I} {mL : tm_L} (hf : f_Mo_fits_b175 x1 x2 x3 x4 mI mL = some r) : tm_T Γ 5 0 0 175 [some (.ref 39), some (.int x1), some (.int x2), some (.int x3), some (.int x4)] [] (sh0 ++ ex) mI mL rr := by
  have Ro := G.ro
  unfold f_Mo_fits_b175 at hf
  refine tm_w C tfo_Mo to_Mo_fits 1 rfl rfl rfl trivial ?_
  refine tm_wk (lv' := [some (.ref 39), some (.int x1), some (.int x2), some (.int x3), some (.int x4)]) ⟨Or.inr rfl, Or.inr rfl, Or.inr rfl, Or.inr rfl, Or.inr rfl, trivial⟩ ?_
  exact j_Mo_fits_b180 C G hf
set_option maxRecDepth 100000 in
set_option maxHeartbeats 4000000 in
theorem j_Mo_fits_b163 {Γ : tm_G} {ex : List tm_Sh} {av : List Value} {X0 : tm_X} {r : Int32 × tm_I × tm_L} (C : tm_C Γ ty_Mo_fits.1.cls ty_Mo_fits.2.1 ty_Mo_fits.2.2.1) (G : tm_Γ ty_Mo_fits 2 40 0 0 av X0 (tm_is (some (.int r.1)) (sh0 ++ ex, r.2.1, r.2.2, rr)) Γ) {x1 : Int32} {x2 : Int32} {x3 : Int32} {x4 : Int32} {s0 : Int32} {mI : tm_I} {mL : tm_L} (hf : f_Mo_fits_b163 x1 x2 x3 x4 s0 mI mL = some r) : tm_T Γ 5 0 0 163 [some (.ref 39), some (.int x1), some (.int x2), some (.int x3), some (.int x4)] [.int s0] (sh0 ++ ex) mI mL rr := by
  have Ro := G.ro
  unfold f_Mo_fits_b163 at hf
  obtain ⟨c2, hf⟩ := tm_iteN hf
  cases hf
  exact tm_ei C G to_Mo_fits rfl rfl (Nat.le_refl _) (tm_nz c2) ⟨rfl, rfl⟩
set_option maxRecDepth 100000 in
set_option maxHeartbeats 4000000 in
theorem j_Mo_fits_b162 {Γ : tm_G} {ex : List tm_Sh} {av : List Value} {X0 : tm_X} {r : Int32 × tm_I × tm_L} (C : tm_C Γ ty_Mo_fits.1.cls ty_Mo_fits.2.1 ty_Mo_fits.2.2.1) (G : tm_Γ ty_Mo_fits 2 40 0 0 av X0 (tm_is (some (.int r.1)) (sh0 ++ ex, r.2.1, r.2.2, rr)) Γ) {x1 : Int32} {x2 : Int32} {x3 : Int32} {x4 : Int32} {mI : tm_I} {mL : tm_L} (hf : f_Mo_fits_b162 x1 x2 x3 x4 mI mL = some r) : tm_T Γ 5 0 0 162 [some (.ref 39), some (.int x1), some (.int x2), some (.int x3), some (.int x4)] [] (sh0 ++ ex) mI mL rr := by
  have Ro := G.ro
  unfold f_Mo_fits_b162 at hf
  refine tm_w C tfo_Mo to_Mo_fits 0 rfl rfl rfl trivial ?_
  refine tm_wk (lv' := [some (.ref 39), some (.int x1), some (.int x2), some (.int x3), some (.int x4)]) ⟨Or.inr rfl, Or.inr rfl, Or.inr rfl, Or.inr rfl, Or.inr rfl, trivial⟩ ?_
  exact j_Mo_fits_b163 C G hf
set_option maxRecDepth 100000 in
set_option maxHeartbeats 4000000 in
theorem j_Mo_fits_b121 {Γ : tm_G} {ex : List tm_Sh} {av : List Value} {X0 : tm_X} {r76 : Int32 → Int32 → Int32 → Int32 → tm_I → tm_L → Option (Int32 × tm_I × tm_L)} {r : Int32 × tm_I × tm_L} (C : tm_C Γ ty_Mo_fits.1.cls ty_Mo_fits.2.1 ty_Mo_fits.2.2.1) (G : tm_Γ ty_Mo_fits 2 40 0 0 av X0 (tm_is (some (.int r.1)) (sh0 ++ ex, r.2.1, r.2.2, rr)) Γ) (H76 : ∀ (x1 : Int32) (x2 : Int32) (x3 : Int32) (x4 : Int32) (mI : tm_I) (mL : tm_L), r76 x1 x2 x3 x4 mI mL = some r → tm_T Γ 5 0 0 76 [some (.ref 39), some (.int x1), some (.int x2), some (.int x3), some (.int x4)] [] (sh0 ++ ex) mI mL rr) {x1 : Int32} {x2 : Int32} {x3 : Int32} {x4 : Int32} {mI : tm_I} {mL : tm_L} (hf : f_Mo_fits_b121 r76 x1 x2 x3 x4 mI mL = some r) : tm_T Γ 5 0 0 121 [some (.ref 39), some (.int x1), some (.int x2), some (.int x3), some (.int x4)] [] (sh0 ++ ex) mI mL rr := by
  have Ro := G.ro
  unfold f_Mo_fits_b121 at hf
  refine tm_w C tfo_Mo to_Mo_fits 1 rfl rfl rfl trivial ?_
  refine tm_wk (lv' := [some (.ref 39), some (.int x1), some (.int x2), some (.int x3), some (.int (x4 + (1 : Int32)))]) ⟨Or.inr rfl, Or.inr rfl, Or.inr rfl, Or.inr rfl, Or.inr rfl, trivial⟩ ?_
  exact H76 _ _ _ _ _ _ hf
set_option maxRecDepth 100000 in
set_option maxHeartbeats 4000000 in
theorem j_Mo_fits_b119 {Γ : tm_G} {ex : List tm_Sh} {av : List Value} {X0 : tm_X} {r : Int32 × tm_I × tm_L} (C : tm_C Γ ty_Mo_fits.1.cls ty_Mo_fits.2.1 ty_Mo_fits.2.2.1) (G : tm_Γ ty_Mo_fits 2 40 0 0 av X0 (tm_is (some (.int r.1)) (sh0 ++ ex, r.2.1, r.2.2, rr)) Γ) {x1 : Int32} {x2 : Int32} {x3 : Int32} {x4 : Int32} {mI : tm_I} {mL : tm_L} (hf : f_Mo_fits_b119 x1 x2 x3 x4 mI mL = some r) : tm_T Γ 5 0 0 119 [some (.ref 39), some (.int x1), some (.int x2), some (.int x3), some (.int x4)] [] (sh0 ++ ex) mI mL rr := by
  have Ro := G.ro
  unfold f_Mo_fits_b119 at hf
  refine tm_w C tfo_Mo to_Mo_fits 0 rfl rfl rfl trivial ?_
  cases hf
  exact tm_ei C G to_Mo_fits rfl rfl (Nat.le_refl _) rfl ⟨rfl, rfl⟩
set_option maxRecDepth 100000 in
set_option maxHeartbeats 4000000 in
theorem j_Mo_fits_b100 {Γ : tm_G} {ex : List tm_Sh} {av : List Value} {X0 : tm_X} {r76 : Int32 → Int32 → Int32 → Int32 → tm_I → tm_L → Option (Int32 × tm_I × tm_L)} {r : Int32 × tm_I × tm_L} (C : tm_C Γ ty_Mo_fits.1.cls ty_Mo_fits.2.1 ty_Mo_fits.2.2.1) (G : tm_Γ ty_Mo_fits 2 40 0 0 av X0 (tm_is (some (.int r.1)) (sh0 ++ ex, r.2.1, r.2.2, rr)) Γ) (H76 : ∀ (x1 : Int32) (x2 : Int32) (x3 : Int32) (x4 : Int32) (mI : tm_I) (mL : tm_L), r76 x1 x2 x3 x4 mI mL = some r → tm_T Γ 5 0 0 76 [some (.ref 39), some (.int x1), some (.int x2), some (.int x3), some (.int x4)] [] (sh0 ++ ex) mI mL rr) {x1 : Int32} {x2 : Int32} {x3 : Int32} {x4 : Int32} {mI : tm_I} {mL : tm_L} (hf : f_Mo_fits_b100 r76 x1 x2 x3 x4 mI mL = some r) : tm_T Γ 5 0 0 100 [some (.ref 39), some (.int x1), some (.int x2), some (.int x3), some (.int x4)] [] (sh0 ++ ex) mI mL rr := by
  have Ro := G.ro
  unfold f_Mo_fits_b100 at hf
  refine tm_w C tfo_Mo to_Mo_fits 1 rfl rfl rfl trivial ?_
  refine tm_b C to_Mo_fits rfl rfl (fun h => ?_) (fun h => ?_)
  · have hf := (if_pos h).symm.trans hf
    refine tm_wk (lv' := [some (.ref 39), some (.int x1), some (.int x2), some (.int x3), some (.int x4)]) ⟨Or.inr rfl, Or.inr rfl, Or.inr rfl, Or.inr rfl, Or.inr rfl, trivial⟩ ?_
    exact j_Mo_fits_b121 C G (H76) hf
  · have hf := (if_neg h).symm.trans hf
    obtain ⟨c3, hf⟩ := tm_iteN hf
    refine tm_w C tfo_Mo to_Mo_fits 3 rfl rfl rfl ⟨rfl, ⟨_, rfl, c3⟩, trivial⟩ ?_
    obtain ⟨v1, hv1, hf⟩ := Option.bind_eq_some_iff.mp hf
    refine tm_cS C Ro to_Mo_fits tl_Mo_104 rfl (ct_Mo_hex hv1) rfl rfl rfl rfl rfl (Nat.le_refl _) (Nat.le_refl _) ?_
    refine tm_b C to_Mo_fits rfl rfl (fun h => ?_) (fun h => ?_)
    · have hf := (if_pos h).symm.trans hf
      refine tm_wk (lv' := [some (.ref 39), some (.int x1), some (.int x2), some (.int x3), some (.int x4)]) ⟨Or.inr rfl, Or.inr rfl, Or.inr rfl, Or.inr rfl, Or.inr rfl, trivial⟩ ?_
      exact j_Mo_fits_b121 C G (H76) hf
    · have hf := (if_neg h).symm.trans hf
      refine tm_wk (lv' := [some (.ref 39), some (.int x1), some (.int x2), some (.int x3), some (.int x4)]) ⟨Or.inr rfl, Or.inr rfl, Or.inr rfl, Or.inr rfl, Or.inr rfl, trivial⟩ ?_
      exact j_Mo_fits_b119 C G hf
set_option maxRecDepth 100000 in
set_option maxHeartbeats 4000000 in
theorem j_Mo_fits_l76 {Γ : tm_G} {ex : List tm_Sh} {av : List Value} {X0 : tm_X} {r : Int32 × tm_I × tm_L} (C : tm_C Γ ty_Mo_fits.1.cls ty_Mo_fits.2.1 ty_Mo_fits.2.2.1) (G : tm_Γ ty_Mo_fits 2 40 0 0 av X0 (tm_is (some (.int r.1)) (sh0 ++ ex, r.2.1, r.2.2, rr)) Γ) : ∀ (n : Nat) (x1 : Int32) (x2 : Int32) (x3 : Int32) (x4 : Int32) (mI : tm_I) (mL : tm_L), f_Mo_fits_l76 n x1 x2 x3 x4 mI mL = some r → tm_T Γ 5 0 0 76 [some (.ref 39), some (.int x1), some (.int x2), some (.int x3), some (.int x4)] [] (sh0 ++ ex) mI mL rr := by
  have Ro := G.ro
  intro n
  induction n with
  | zero => intro x1 x2 x3 x4 mI mL hf; cases hf
  | succ n ih =>
    intro x1 x2 x3 x4 mI mL hf
    rw [f_Mo_fits_l76] at hf
    refine tm_w C tfo_Mo to_Mo_fits 1 rfl rfl rfl trivial ?_
    refine tm_b C to_Mo_fits rfl rfl (fun h => ?_) (fun h => ?_)
    · have hf := (if_pos h).symm.trans hf
      refine tm_w C tfo_Mo to_Mo_fits 1 rfl rfl rfl trivial ?_
      refine tm_b C to_Mo_fits rfl rfl (fun h => ?_) (fun h => ?_)
      · have hf := (if_pos h).symm.trans hf
        refine tm_w C tfo_Mo to_Mo_fits 1 rfl rfl rfl trivial ?_
        refine tm_b C to_Mo_fits rfl rfl (fun h => ?_) (fun h => ?_)
        · have hf := (if_pos h).symm.trans hf
          refine tm_wk (lv' := [some (.ref 39), some (.int x1), some (.int x2), some (.int x3), some (.int x4)]) ⟨Or.inr rfl, Or.inr rfl, Or.inr rfl, Or.inr rfl, Or.inr rfl, trivial⟩ ?_
          exact j_Mo_fits_b175 C G hf
        · have hf := (if_neg h).symm.trans hf
          refine tm_w C tfo_Mo to_Mo_fits 1 rfl rfl rfl trivial ?_
          refine tm_b C to_Mo_fits rfl rfl (fun h => ?_) (fun h => ?_)
          · have hf := (if_pos h).symm.trans hf
            refine tm_w C tfo_Mo to_Mo_fits 0 rfl rfl rfl trivial ?_
            refine tm_wk (lv' := [some (.ref 39), some (.int x1), some (.int x2), some (.int x3), some (.int x4)]) ⟨Or.inr rfl, Or.inr rfl, Or.inr rfl, Or.inr rfl, Or.inr rfl, trivial⟩ ?_
            exact j_Mo_fits_b180 C G hf
          · have hf := (if_neg h).symm.trans hf
            refine tm_wk (lv' := [some (.ref 39), some (.int x1), some (.int x2), some (.int x3), some (.int x4)]) ⟨Or.inr rfl, Or.inr rfl, Or.inr rfl, Or.inr rfl, Or.inr rfl, trivial⟩ ?_
            exact j_Mo_fits_b175 C G hf
      · have hf := (if_neg h).symm.trans hf
        refine tm_w C tfo_Mo to_Mo_fits 2 rfl rfl rfl ⟨(by decide), trivial⟩ ?_
        refine tm_b C to_Mo_fits rfl rfl (fun h => ?_) (fun h => ?_)
        · have hf := (if_pos h).symm.trans hf
          refine tm_wk (lv' := [some (.ref 39), some (.int x1), some (.int x2), some (.int x3), some (.int x4)]) ⟨Or.inr rfl, Or.inr rfl, Or.inr rfl, Or.inr rfl, Or.inr rfl, trivial⟩ ?_
          exact j_Mo_fits_b162 C G hf
        · have hf := (if_neg h).symm.trans hf
          obtain ⟨c4, hf⟩ := tm_iteN hf
          obtain ⟨c5, hf⟩ := tm_iteN hf
          refine tm_w C tfo_Mo to_Mo_fits 11 rfl rfl rfl ⟨(by decide), rfl, ⟨_, rfl, c4⟩, (by decide), c5, trivial⟩ ?_
          refine tm_b C to_Mo_fits rfl rfl (fun h => ?_) (fun h => ?_)
          · have hf := (if_pos h).symm.trans hf
            refine tm_wk (lv' := [some (.ref 39), some (.int x1), some (.int x2), some (.int x3), some (.int x4)]) ⟨Or.inr rfl, Or.inr rfl, Or.inr rfl, Or.inr rfl, Or.inr rfl, trivial⟩ ?_
            exact j_Mo_fits_b162 C G hf
          · have hf := (if_neg h).symm.trans hf
            refine tm_w C tfo_Mo to_Mo_fits 1 rfl rfl rfl trivial ?_
            refine tm_wk (lv' := [some (.ref 39), some (.int x1), some (.int x2), some (.int x3), some (.int x4)]) ⟨Or.inr rfl, Or.inr rfl, Or.inr rfl, Or.inr rfl, Or.inr rfl, trivial⟩ ?_
            exact j_Mo_fits_b163 C G hf
    · have hf := (if_neg h).symm.trans hf
      refine tm_w C tfo_Mo to_Mo_fits 1 rfl rfl rfl trivial ?_
      refine tm_b C to_Mo_fits rfl rfl (fun h => ?_) (fun h => ?_)
      · have hf := (if_pos h).symm.trans hf
        refine tm_wk (lv' := [some (.ref 39), some (.int x1), some (.int x2), some (.int x3), some (.int x4)]) ⟨Or.inr rfl, Or.inr rfl, Or.inr rfl, Or.inr rfl, Or.inr rfl, trivial⟩ ?_
        exact j_Mo_fits_b100 C G (ih) hf
      · have hf := (if_neg h).symm.trans hf
        obtain ⟨c6, hf⟩ := tm_iteN hf
        refine tm_w C tfo_Mo to_Mo_fits 3 rfl rfl rfl ⟨rfl, ⟨_, rfl, c6⟩, trivial⟩ ?_
        obtain ⟨v2, hv2, hf⟩ := Option.bind_eq_some_iff.mp hf
        refine tm_cS C Ro to_Mo_fits tl_Mo_80 rfl (ct_Mo_isDigit hv2) rfl rfl rfl rfl rfl (Nat.le_refl _) (Nat.le_refl _) ?_
        refine tm_b C to_Mo_fits rfl rfl (fun h => ?_) (fun h => ?_)
        · have hf := (if_pos h).symm.trans hf
          refine tm_wk (lv' := [some (.ref 39), some (.int x1), some (.int x2), some (.int x3), some (.int x4)]) ⟨Or.inr rfl, Or.inr rfl, Or.inr rfl, Or.inr rfl, Or.inr rfl, trivial⟩ ?_
          exact j_Mo_fits_b119 C G hf
        · have hf := (if_neg h).symm.trans hf
          refine tm_wk (lv' := [some (.ref 39), some (.int x1), some (.int x2), some (.int x3), some (.int x4)]) ⟨Or.inr rfl, Or.inr rfl, Or.inr rfl, Or.inr rfl, Or.inr rfl, trivial⟩ ?_
          exact j_Mo_fits_b100 C G (ih) hf
set_option maxRecDepth 100000 in
set_option maxHeartbeats 4000000 in
theorem j_Mo_fits_b73 {Γ : tm_G} {ex : List tm_Sh} {av : List Value} {X0 : tm_X} {r : Int32 × tm_I × tm_L} (C : tm_C Γ ty_Mo_fits.1.cls ty_Mo_fits.2.1 ty_Mo_fits.2.2.1) (G : tm_Γ ty_Mo_fits 2 40 0 0 av X0 (tm_is (some (.int r.1)) (sh0 ++ ex, r.2.1, r.2.2, rr)) Γ) {x1 : Int32} {x2 : Int32} {x3 : Int32} {mI : tm_I} {mL : tm_L} (hf : f_Mo_fits_b73 x1 x2 x3 mI mL = some r) : tm_T Γ 5 0 0 73 [some (.ref 39), some (.int x1), some (.int x2), some (.int x3), none] [] (sh0 ++ ex) mI mL rr := by
  have Ro := G.ro
  unfold f_Mo_fits_b73 at hf
  refine tm_w C tfo_Mo to_Mo_fits 1 rfl rfl rfl trivial ?_
  refine tm_wk (lv' := [some (.ref 39), some (.int x1), some (.int x2), some (.int x3), some (.int (0 : Int32))]) ⟨Or.inr rfl, Or.inr rfl, Or.inr rfl, Or.inr rfl, Or.inr rfl, trivial⟩ ?_
  exact j_Mo_fits_l76 C G _ _ _ _ _ _ _ hf
set_option maxRecDepth 100000 in
set_option maxHeartbeats 4000000 in
theorem j_Mo_fits_b71 {Γ : tm_G} {ex : List tm_Sh} {av : List Value} {X0 : tm_X} {r : Int32 × tm_I × tm_L} (C : tm_C Γ ty_Mo_fits.1.cls ty_Mo_fits.2.1 ty_Mo_fits.2.2.1) (G : tm_Γ ty_Mo_fits 2 40 0 0 av X0 (tm_is (some (.int r.1)) (sh0 ++ ex, r.2.1, r.2.2, rr)) Γ) {x1 : Int32} {x2 : Int32} {x3 : Int32} {mI : tm_I} {mL : tm_L} (hf : f_Mo_fits_b71 x1 x2 x3 mI mL = some r) : tm_T Γ 5 0 0 71 [some (.ref 39), some (.int x1), some (.int x2), some (.int x3), none] [] (sh0 ++ ex) mI mL rr := by
  have Ro := G.ro
  unfold f_Mo_fits_b71 at hf
  refine tm_w C tfo_Mo to_Mo_fits 0 rfl rfl rfl trivial ?_
  cases hf
  exact tm_ei C G to_Mo_fits rfl rfl (Nat.le_refl _) rfl ⟨rfl, rfl⟩
set_option maxRecDepth 100000 in
set_option maxHeartbeats 4000000 in
theorem j_Mo_fits_b42 {Γ : tm_G} {ex : List tm_Sh} {av : List Value} {X0 : tm_X} {r : Int32 × tm_I × tm_L} (C : tm_C Γ ty_Mo_fits.1.cls ty_Mo_fits.2.1 ty_Mo_fits.2.2.1) (G : tm_Γ ty_Mo_fits 2 40 0 0 av X0 (tm_is (some (.int r.1)) (sh0 ++ ex, r.2.1, r.2.2, rr)) Γ) {x1 : Int32} {x2 : Int32} {x3 : Int32} {mI : tm_I} {mL : tm_L} (hf : f_Mo_fits_b42 x1 x2 x3 mI mL = some r) : tm_T Γ 5 0 0 42 [some (.ref 39), some (.int x1), some (.int x2), some (.int x3), none] [] (sh0 ++ ex) mI mL rr := by
  have Ro := G.ro
  unfold f_Mo_fits_b42 at hf
  obtain ⟨c7, hf⟩ := tm_iteN hf
  refine tm_w C tfo_Mo to_Mo_fits 4 rfl rfl rfl ⟨rfl, ⟨_, rfl, c7⟩, trivial⟩ ?_
  refine tm_b C to_Mo_fits rfl rfl (fun h => ?_) (fun h => ?_)
  · have hf := (if_pos h).symm.trans hf
    refine tm_wk (lv' := [some (.ref 39), some (.int x1), some (.int x2), some (.int x3), none]) ⟨Or.inr rfl, Or.inr rfl, Or.inr rfl, Or.inr rfl, Or.inl rfl, trivial⟩ ?_
    exact j_Mo_fits_b73 C G hf
  · have hf := (if_neg h).symm.trans hf
    refine tm_w C tfo_Mo to_Mo_fits 0 rfl rfl rfl trivial ?_
    refine tm_b C to_Mo_fits rfl rfl (fun h => ?_) (fun h => ?_)
    · have hf := (if_pos h).symm.trans hf
      refine tm_wk (lv' := [some (.ref 39), some (.int x1), some (.int x2), some (.int x3), none]) ⟨Or.inr rfl, Or.inr rfl, Or.inr rfl, Or.inr rfl, Or.inl rfl, trivial⟩ ?_
      exact j_Mo_fits_b71 C G hf
    · have hf := (if_neg h).symm.trans hf
      obtain ⟨c8, hf⟩ := tm_iteN hf
      refine tm_w C tfo_Mo to_Mo_fits 5 rfl rfl rfl ⟨rfl, ⟨_, rfl, c8⟩, trivial⟩ ?_
      obtain ⟨v3, hv3, hf⟩ := Option.bind_eq_some_iff.mp hf
      refine tm_cS C Ro to_Mo_fits tl_Mo_80 rfl (ct_Mo_isDigit hv3) rfl rfl rfl rfl rfl (Nat.le_refl _) (Nat.le_refl _) ?_
      refine tm_b C to_Mo_fits rfl rfl (fun h => ?_) (fun h => ?_)
      · have hf := (if_pos h).symm.trans hf
        refine tm_wk (lv' := [some (.ref 39), some (.int x1), some (.int x2), some (.int x3), none]) ⟨Or.inr rfl, Or.inr rfl, Or.inr rfl, Or.inr rfl, Or.inl rfl, trivial⟩ ?_
        exact j_Mo_fits_b73 C G hf
      · have hf := (if_neg h).symm.trans hf
        refine tm_wk (lv' := [some (.ref 39), some (.int x1), some (.int x2), some (.int x3), none]) ⟨Or.inr rfl, Or.inr rfl, Or.inr rfl, Or.inr rfl, Or.inl rfl, trivial⟩ ?_
        exact j_Mo_fits_b71 C G hf
set_option maxRecDepth 100000 in
set_option maxHeartbeats 4000000 in
theorem j_Mo_fits_b31 {Γ : tm_G} {ex : List tm_Sh} {av : List Value} {X0 : tm_X} {r : Int32 × tm_I × tm_L} (C : tm_C Γ ty_Mo_fits.1.cls ty_Mo_fits.2.1 ty_Mo_fits.2.2.1) (G : tm_Γ ty_Mo_fits 2 40 0 0 av X0 (tm_is (some (.int r.1)) (sh0 ++ ex, r.2.1, r.2.2, rr)) Γ) {x1 : Int32} {x2 : Int32} {s0 : Int32} {mI : tm_I} {mL : tm_L} (hf : f_Mo_fits_b31 x1 x2 s0 mI mL = some r) : tm_T Γ 5 0 0 31 [some (.ref 39), some (.int x1), some (.int x2), none, none] [.int s0] (sh0 ++ ex) mI mL rr := by
  have Ro := G.ro
  unfold f_Mo_fits_b31 at hf
  refine tm_w C tfo_Mo to_Mo_fits 1 rfl rfl rfl trivial ?_
  refine tm_b C to_Mo_fits rfl rfl (fun h => ?_) (fun h => ?_)
  · have hf := (if_pos h).symm.trans hf
    refine tm_wk (lv' := [some (.ref 39), some (.int x1), some (.int x2), some (.int s0), none]) ⟨Or.inr rfl, Or.inr rfl, Or.inr rfl, Or.inr rfl, Or.inl rfl, trivial⟩ ?_
    exact j_Mo_fits_b42 C G hf
  · have hf := (if_neg h).symm.trans hf
    refine tm_w C tfo_Mo to_Mo_fits 0 rfl rfl rfl trivial ?_
    refine tm_b C to_Mo_fits rfl rfl (fun h => ?_) (fun h => ?_)
    · have hf := (if_pos h).symm.trans hf
      refine tm_wk (lv' := [some (.ref 39), some (.int x1), some (.int x2), some (.int s0), none]) ⟨Or.inr rfl, Or.inr rfl, Or.inr rfl, Or.inr rfl, Or.inl rfl, trivial⟩ ?_
      exact j_Mo_fits_b42 C G hf
    · have hf := (if_neg h).symm.trans hf
      refine tm_w C tfo_Mo to_Mo_fits 0 rfl rfl rfl trivial ?_
      cases hf
      exact tm_ei C G to_Mo_fits rfl rfl (Nat.le_refl _) rfl ⟨rfl, rfl⟩
set_option maxRecDepth 100000 in
set_option maxHeartbeats 4000000 in
theorem j_Mo_fits_b30 {Γ : tm_G} {ex : List tm_Sh} {av : List Value} {X0 : tm_X} {r : Int32 × tm_I × tm_L} (C : tm_C Γ ty_Mo_fits.1.cls ty_Mo_fits.2.1 ty_Mo_fits.2.2.1) (G : tm_Γ ty_Mo_fits 2 40 0 0 av X0 (tm_is (some (.int r.1)) (sh0 ++ ex, r.2.1, r.2.2, rr)) Γ) {x1 : Int32} {x2 : Int32} {mI : tm_I} {mL : tm_L} (hf : f_Mo_fits_b30 x1 x2 mI mL = some r) : tm_T Γ 5 0 0 30 [some (.ref 39), some (.int x1), some (.int x2), none, none] [] (sh0 ++ ex) mI mL rr := by
  have Ro := G.ro
  unfold f_Mo_fits_b30 at hf
  refine tm_w C tfo_Mo to_Mo_fits 0 rfl rfl rfl trivial ?_
  refine tm_wk (lv' := [some (.ref 39), some (.int x1), some (.int x2), none, none]) ⟨Or.inr rfl, Or.inr rfl, Or.inr rfl, Or.inl rfl, Or.inl rfl, trivial⟩ ?_
  exact j_Mo_fits_b31 C G hf
set_option maxRecDepth 100000 in
set_option maxHeartbeats 4000000 in
theorem j_Mo_fits_b0 {Γ : tm_G} {ex : List tm_Sh} {av : List Value} {X0 : tm_X} {r : Int32 × tm_I × tm_L} (C : tm_C Γ ty_Mo_fits.1.cls ty_Mo_fits.2.1 ty_Mo_fits.2.2.1) (G : tm_Γ ty_Mo_fits 2 40 0 0 av X0 (tm_is (some (.int r.1)) (sh0 ++ ex, r.2.1, r.2.2, rr)) Γ) {mI : tm_I} {mL : tm_L} (hf : f_Mo_fits_b0  mI mL = some r) : tm_T Γ 5 0 0 0 [some (.ref 39), none, none, none, none] [] (sh0 ++ ex) mI mL rr := by
  have Ro := G.ro
  unfold f_Mo_fits_b0 at hf
  obtain ⟨c9, hf⟩ := tm_iteN hf
  obtain ⟨c10, hf⟩ := tm_iteN hf
  refine tm_w C tfo_Mo to_Mo_fits 11 rfl rfl rfl ⟨rfl, ⟨_, rfl, c9⟩, rfl, ⟨_, rfl, c10⟩, trivial⟩ ?_
  refine tm_b C to_Mo_fits rfl rfl (fun h => ?_) (fun h => ?_)
  · have hf := (if_pos h).symm.trans hf
    refine tm_wk (lv' := [some (.ref 39), some (.int (mI 49 (Int32.toNatClampNeg (0 : Int32)))), some (.int (mI 49 (Int32.toNatClampNeg (10 : Int32)))), none, none]) ⟨Or.inr rfl, Or.inr rfl, Or.inr rfl, Or.inl rfl, Or.inl rfl, trivial⟩ ?_
    exact j_Mo_fits_b30 C G hf
  · have hf := (if_neg h).symm.trans hf
    refine tm_w C tfo_Mo to_Mo_fits 1 rfl rfl rfl trivial ?_
    refine tm_b C to_Mo_fits rfl rfl (fun h => ?_) (fun h => ?_)
    · have hf := (if_pos h).symm.trans hf
      refine tm_wk (lv' := [some (.ref 39), some (.int (mI 49 (Int32.toNatClampNeg (0 : Int32)))), some (.int (mI 49 (Int32.toNatClampNeg (10 : Int32)))), none, none]) ⟨Or.inr rfl, Or.inr rfl, Or.inr rfl, Or.inl rfl, Or.inl rfl, trivial⟩ ?_
      exact j_Mo_fits_b30 C G hf
    · have hf := (if_neg h).symm.trans hf
      refine tm_w C tfo_Mo to_Mo_fits 1 rfl rfl rfl trivial ?_
      refine tm_wk (lv' := [some (.ref 39), some (.int (mI 49 (Int32.toNatClampNeg (0 : Int32)))), some (.int (mI 49 (Int32.toNatClampNeg (10 : Int32)))), none, none]) ⟨Or.inr rfl, Or.inr rfl, Or.inr rfl, Or.inl rfl, Or.inl rfl, trivial⟩ ?_
      exact j_Mo_fits_b31 C G hf
set_option maxRecDepth 100000 in
theorem ct_Mo_fits {ex : List tm_Sh}  {mI : tm_I} {mL : tm_L} {r : Int32 × tm_I × tm_L} (hf : f_Mo_fits  mI mL = some r) : tm_M ty_Mo_fits 2 40 0 0 [.ref 39] (sh0 ++ ex, mI, mL, rr) (tm_is (some (.int r.1)) (sh0 ++ ex, r.2.1, r.2.2, rr)) := by
  refine tm_body (by decide) (Nat.le_of_ble_eq_true rfl) fun Γ C G => ?_
  exact j_Mo_fits_b0 C G hf
/-! Mo_takeCopy -/
def f_Mo_takeCopy_l180 : Nat → Int32 → Int32 → Int32 → Int32 → Int64 → Int64 → Int32 → tm_I → tm_L → Option (Int32 × tm_I × tm_L)
  | 0, _, _, _, _, _, _, _, _, _ => none
  | n + 1, x1, x2, x3, x4, x5, x7, x9, mI, mL => if x4 ≤ x9 then some (0, mI, mL) else if ¬ (((x3 - (1 : Int32)) - x9) < 0 ∨ 200 ≤ Int32.toNatClampNeg ((x3 - (1 : Int32)) - x9)) then (f_Mo_takeCopy_l180 n) x1 x2 x3 x4 (x5 / (10 : Int64)) x7 (x9 + (1 : Int32)) (tm_up mI 53 (Int32.toNatClampNeg ((x3 - (1 : Int32)) - x9)) ((48 : Int32) + (Int64.toInt32 (x5 - x5 / (10 : Int64) * (10 : Int64))))) mL else none
def f_Mo_takeCopy_l160 : Nat → Int32 → Int32 → Int32 → Int32 → Int64 → Int64 → tm_I → tm_L → Option (Int32 × tm_I × tm_L)
  | 0, _, _, _, _, _, _, _, _ => none
  | n + 1, x1, x2, x3, x4, x5, x7, mI, mL => if 0 ≤ (lg_cmp x5 (0 : Int64)) then f_Mo_takeCopy_l180 tm_F x1 x2 x3 x4 x5 x7 (0 : Int32) mI mL else (f_Mo_takeCopy_l160 n) x1 x2 x3 x4 (x5 + x7) x7 mI mL
def f_Mo_takeCopy_b140 (x1 : Int32) (x2 : Int32) (x3 : Int32) (x4 : Int32) (x5 : Int64) (x7 : Int64) (mI : tm_I) (mL : tm_L) : Option (Int32 × tm_I × tm_L) := if ¬ ((((16 : Int32) * x1) + (9 : Int32)) < 0 ∨ 2000 ≤ Int32.toNatClampNeg (((16 : Int32) * x1) + (9 : Int32))) then f_Mo_takeCopy_l160 tm_F x1 x2 x3 x4 (x5 + (Int32.toInt64 ((mI 50 (Int32.toNatClampNeg (((16 : Int32) * x1) + (9 : Int32)))) * x2))) x7 mI mL else none
def f_Mo_takeCopy_l73 : Nat → Int32 → Int32 → Int32 → Int32 → Int64 → Int64 → tm_I → tm_L → Option (Int32 × tm_I × tm_L)
  | 0, _, _, _, _, _, _, _, _ => none
  | n + 1, x1, x2, x3, x4, x5, x7, mI, mL => if (9 : Int32) ≤ x4 then f_Mo_takeCopy_b140 x1 x2 x3 x4 x5 x7 mI mL else if x3 ≤ x4 then f_Mo_takeCopy_b140 x1 x2 x3 x4 x5 x7 mI mL else if ¬ (((x3 - (1 : Int32)) - x4) < 0 ∨ 200 ≤ Int32.toNatClampNeg ((x3 - (1 : Int32)) - x4)) then (f_Mo_isDigit (mI 53 (Int32.toNatClampNeg ((x3 - (1 : Int32)) - x4))) mI mL).bind fun v1 => if v1.1 = 0 then f_Mo_takeCopy_b140 x1 x2 x3 x4 x5 x7 v1.2.1 v1.2.2 else if ¬ (((x3 - (1 : Int32)) - x4) < 0 ∨ 200 ≤ Int32.toNatClampNeg ((x3 - (1 : Int32)) - x4)) then (f_Mo_takeCopy_l73 n) x1 x2 x3 (x4 + (1 : Int32)) (x5 + (x7 * (Int32.toInt64 ((v1.2.1 53 (Int32.toNatClampNeg ((x3 - (1 : Int32)) - x4))) - (48 : Int32))))) ((10 : Int64) * x7) v1.2.1 v1.2.2 else none else none
def f_Mo_takeCopy_l16 : Nat → Int32 → Int32 → Int32 → Int32 → tm_I → tm_L → Option (Int32 × tm_I × tm_L)
  | 0, _, _, _, _, _, _ => none
  | n + 1, x1, x2, x3, x4, mI, mL => if x3 ≤ x4 then if ¬ ((((16 : Int32) * x1) + (8 : Int32)) < 0 ∨ 2000 ≤ Int32.toNatClampNeg (((16 : Int32) * x1) + (8 : Int32))) then if ¬ (mI 50 (Int32.toNatClampNeg (((16 : Int32) * x1) + (8 : Int32)))) = 0 then f_Mo_takeCopy_l73 tm_F x1 x2 x3 (0 : Int32) (0 : Int64) (1 : Int64) mI mL else some (0, mI, mL) else none else if ¬ ((((200 : Int32) * x1) + x4) < 0 ∨ 24200 ≤ Int32.toNatClampNeg (((200 : Int32) * x1) + x4)) then if ¬ (x4 < 0 ∨ 200 ≤ Int32.toNatClampNeg x4) then (f_Mo_takeCopy_l16 n) x1 x2 x3 (x4 + (1 : Int32)) (tm_up mI 53 (Int32.toNatClampNeg x4) (mI 52 (Int32.toNatClampNeg (((200 : Int32) * x1) + x4)))) mL else none else none
def f_Mo_takeCopy_b0 (x1 : Int32) (x2 : Int32) (mI : tm_I) (mL : tm_L) : Option (Int32 × tm_I × tm_L) := if ¬ ((((16 : Int32) * x1) + (10 : Int32)) < 0 ∨ 2000 ≤ Int32.toNatClampNeg (((16 : Int32) * x1) + (10 : Int32))) then f_Mo_takeCopy_l16 tm_F x1 x2 (mI 50 (Int32.toNatClampNeg (((16 : Int32) * x1) + (10 : Int32)))) (0 : Int32) mI mL else none
abbrev f_Mo_takeCopy (p0 : Int32) (p1 : Int32) (mI : tm_I) (mL : tm_L) : Option (Int32 × tm_I × tm_L) := f_Mo_takeCopy_b0 p0 p1 mI mL
set_option maxRecDepth 100000 in
set_option maxHeartbeats 4000000 in
theorem j_Mo_takeCopy_l180 {Γ : tm_G} {ex : List tm_Sh} {av : List Value} {X0 : tm_X} {r : Int32 × tm_I × tm_L} (C : tm_C Γ ty_Mo_takeCopy.1.cls ty_Mo_takeCopy.2.1 ty_Mo_takeCopy.2.2.1) (G : tm_Γ ty_Mo_takeCopy 1 20 0 0 av X0 (tm_is none (sh0 ++ ex, r.2.1, r.2.2, rr)) Γ) : ∀ (n : Nat) (x1 : Int32) (x2 : Int32) (x3 : Int32) (x4 : Int32) (x5 : Int64) (x7 : Int64) (x9 : Int32) (mI : tm_I) (mL : tm_L), f_Mo_takeCopy_l180 n x1 x2 x3 x4 x5 x7 x9 mI mL = some r → tm_T Γ 10 0 0 180 [some (.ref 39), some (.int x1), some (.int x2), some (.int x3), some (.int x4), some (.long x5), none, some (.long x7), none, some (.int x9)] [] (sh0 ++ ex) mI mL rr := by
  have Ro := G.ro
  intro n
  induction n with
  | zero => intro x1 x2 x3 x4 x5 x7 x9 mI mL hf; cases hf
  | succ n ih =>
    intro x1 x2 x3 x4 x5 x7 x9 mI mL hf
    rw [f_Mo_takeCopy_l180] at hf
    refine tm_w C tfo_Mo to_Mo_takeCopy 1 rfl rfl rfl trivial ?_
    refine tm_b C to_Mo_takeCopy rfl rfl (fun h => ?_) (fun h => ?_)
    · have hf := (if_pos h).symm.trans hf
      cases hf
      exact tm_ev C G to_Mo_takeCopy rfl rfl (Nat.le_refl _) ⟨rfl, rfl⟩
    · have hf := (if_neg h).symm.trans hf
      refine tm_w C tfo_Mo to_Mo_takeCopy 8 rfl rfl rfl ⟨rfl, trivial⟩ ?_
      refine tm_ldc2 (v := (10 : Int64)) C (tm_in 1154 (by decide +kernel) rfl) (tm_get_d to_Mo_takeCopy rfl) ?_
      obtain ⟨c1, hf⟩ := tm_iteN hf
      refine tm_w C tfo_Mo to_Mo_takeCopy 4 rfl rfl rfl ⟨(by decide), ⟨_, rfl, c1⟩, trivial⟩ ?_
      refine tm_ldc2 (v := (10 : Int64)) C (tm_in 1154 (by decide +kernel) rfl) (tm_get_d to_Mo_takeCopy rfl) ?_
      refine tm_w C tfo_Mo to_Mo_takeCopy 3 rfl rfl rfl ⟨(by decide), trivial⟩ ?_
      refine tm_wk (lv' := [some (.ref 39), some (.int x1), some (.int x2), some (.int x3), some (.int x4), some (.long (x5 / (10 : Int64))), none, some (.long x7), none, some (.int (x9 + (1 : Int32)))]) ⟨Or.inr rfl, Or.inr rfl, Or.inr rfl, Or.inr rfl, Or.inr rfl, Or.inr rfl, Or.inl rfl, Or.inr rfl, Or.inl rfl, Or.inr rfl, trivial⟩ ?_
      exact ih _ _ _ _ _ _ _ _ _ hf
set_option maxRecDepth 100000 in
set_option maxHeartbeats 4000000 in
theorem j_Mo_takeCopy_l160 {Γ : tm_G} {ex : List tm_Sh} {av : List Value} {X0 : tm_X} {r : Int32 × tm_I × tm_L} (C : tm_C Γ ty_Mo_takeCopy.1.cls ty_Mo_takeCopy.2.1 ty_Mo_takeCopy.2.2.1) (G : tm_Γ ty_Mo_takeCopy 1 20 0 0 av X0 (tm_is none (sh0 ++ ex, r.2.1, r.2.2, rr)) Γ) : ∀ (n : Nat) (x1 : Int32) (x2 : Int32) (x3 : Int32) (x4 : Int32) (x5 : Int64) (x7 : Int64) (mI : tm_I) (mL : tm_L), f_Mo_takeCopy_l160 n x1 x2 x3 x4 x5 x7 mI mL = some r → tm_T Γ 10 0 0 160 [some (.ref 39), some (.int x1), some (.int x2), some (.int x3), some (.int x4), some (.long x5), none, some (.long x7), none, none] [] (sh0 ++ ex) mI mL rr := by
  have Ro := G.ro
  intro n
  induction n with
  | zero => intro x1 x2 x3 x4 x5 x7 mI mL hf; cases hf
  | succ n ih =>
    intro x1 x2 x3 x4 x5 x7 mI mL hf
    rw [f_Mo_takeCopy_l160] at hf
    refine tm_w C tfo_Mo to_Mo_takeCopy 2 rfl rfl rfl trivial ?_
    refine tm_b C to_Mo_takeCopy rfl rfl (fun h => ?_) (fun h => ?_)
    · have hf := (if_pos h).symm.trans hf
      refine tm_w C tfo_Mo to_Mo_takeCopy 1 rfl rfl rfl trivial ?_
      refine tm_wk (lv' := [some (.ref 39), some (.int x1), some (.int x2), some (.int x3), some (.int x4), some (.long x5), none, some (.long x7), none, some (.int (0 : Int32))]) ⟨Or.inr rfl, Or.inr rfl, Or.inr rfl, Or.inr rfl, Or.inr rfl, Or.inr rfl, Or.inl rfl, Or.inr rfl, Or.inl rfl, Or.inr rfl, trivial⟩ ?_
      exact j_Mo_takeCopy_l180 C G _ _ _ _ _ _ _ _ _ _ hf
    · have hf := (if_neg h).symm.trans hf
      refine tm_w C tfo_Mo to_Mo_takeCopy 4 rfl rfl rfl trivial ?_
      refine tm_wk (lv' := [some (.ref 39), some (.int x1), some (.int x2), some (.int x3), some (.int x4), some (.long (x5 + x7)), none, some (.long x7), none, none]) ⟨Or.inr rfl, Or.inr rfl, Or.inr rfl, Or.inr rfl, Or.inr rfl, Or.inr rfl, Or.inl rfl, Or.inr rfl, Or.inl rfl, Or.inl rfl, trivial⟩ ?_
      exact ih _ _ _ _ _ _ _ _ hf
set_option maxRecDepth 100000 in
set_option maxHeartbeats 4000000 in
theorem j_Mo_takeCopy_b140 {Γ : tm_G} {ex : List tm_Sh} {av : List Value} {X0 : tm_X} {r : Int32 × tm_I × tm_L} (C : tm_C Γ ty_Mo_takeCopy.1.cls ty_Mo_takeCopy.2.1 ty_Mo_takeCopy.2.2.1) (G : tm_Γ ty_Mo_takeCopy 1 20 0 0 av X0 (tm_is none (sh0 ++ ex, r.2.1, r.2.2, rr)) Γ) {x1 : Int32} {x2 : Int32} {x3 : Int32} {x4 : Int32} {x5 : Int64} {x7 : Int64} {mI : tm_I} {mL : tm_L} (hf : f_Mo_takeCopy_b140 x1 x2 x3 x4 x5 x7 mI mL = some r) : tm_T Γ 10 0 0 140 [some (.ref 39), some (.int x1), some (.int x2), some (.int x3), some (.int x4), some (.long x5), none, some (.long x7), none, none] [] (sh0 ++ ex) mI mL rr := by
  have Ro := G.ro
  unfold f_Mo_takeCopy_b140 at hf
  obtain ⟨c2, hf⟩ := tm_iteN hf
  refine tm_w C tfo_Mo to_Mo_takeCopy 13 rfl rfl rfl ⟨rfl, ⟨_, rfl, c2⟩, trivial⟩ ?_
  refine tm_wk (lv' := [some (.ref 39), some (.int x1), some (.int x2), some (.int x3), some (.int x4), some (.long (x5 + (Int32.toInt64 ((mI 50 (Int32.toNatClampNeg (((16 : Int32) * x1) + (9 : Int32)))) * x2)))), none, some (.long x7), none, none]) ⟨Or.inr rfl, Or.inr rfl, Or.inr rfl, Or.inr rfl, Or.inr rfl, Or.inr rfl, Or.inl rfl, Or.inr rfl, Or.inl rfl, Or.inl rfl, trivial⟩ ?_
  exact j_Mo_takeCopy_l160 C G _ _ _ _ _ _ _ _ _ hf
set_option maxRecDepth 100000 in
set_option maxHeartbeats 4000000 in
theorem j_Mo_takeCopy_l73 {Γ : tm_G} {ex : List tm_Sh} {av : List Value} {X0 : tm_X} {r : Int32 × tm_I × tm_L} (C : tm_C Γ ty_Mo_takeCopy.1.cls ty_Mo_takeCopy.2.1 ty_Mo_takeCopy.2.2.1) (G : tm_Γ ty_Mo_takeCopy 1 20 0 0 av X0 (tm_is none (sh0 ++ ex, r.2.1, r.2.2, rr)) Γ) : ∀ (n : Nat) (x1 : Int32) (x2 : Int32) (x3 : Int32) (x4 : Int32) (x5 : Int64) (x7 : Int64) (mI : tm_I) (mL : tm_L), f_Mo_takeCopy_l73 n x1 x2 x3 x4 x5 x7 mI mL = some r → tm_T Γ 10 0 0 73 [some (.ref 39), some (.int x1), some (.int x2), some (.int x3), some (.int x4), some (.long x5), none, some (.long x7), none, none] [] (sh0 ++ ex) mI mL rr := by
  have Ro := G.ro
  intro n
  induction n with
  | zero => intro x1 x2 x3 x4 x5 x7 mI mL hf; cases hf
  | succ n ih =>
    intro x1 x2 x3 x4 x5 x7 mI mL hf
    rw [f_Mo_takeCopy_l73] at hf
    refine tm_w C tfo_Mo to_Mo_takeCopy 1 rfl rfl rfl trivial ?_
    refine tm_b C to_Mo_takeCopy rfl rfl (fun h => ?_) (fun h => ?_)
    · have hf := (if_pos h).symm.trans hf
      refine tm_wk (lv' := [some (.ref 39), some (.int x1), some (.int x2), some (.int x3), some (.int x4), some (.long x5), none, some (.long x7), none, none]) ⟨Or.inr rfl, Or.inr rfl, Or.inr rfl, Or.inr rfl, Or.inr rfl, Or.inr rfl, Or.inl rfl, Or.inr rfl, Or.inl rfl, Or.inl rfl, trivial⟩ ?_
      exact j_Mo_takeCopy_b140 C G hf
    · have hf := (if_neg h).symm.trans hf
      refine tm_w C tfo_Mo to_Mo_takeCopy 1 rfl rfl rfl trivial ?_
      refine tm_b C to_Mo_takeCopy rfl rfl (fun h => ?_) (fun h => ?_)
      · have hf := (if_pos h).symm.trans hf
        refine tm_wk (lv' := [some (.ref 39), some (.int x1), some (.int x2), some (.int x3), some (.int x4), some (.long x5), none, some (.long x7), none, none]) ⟨Or.inr rfl, Or.inr rfl, Or.inr rfl, Or.inr rfl, Or.inr rfl, Or.inr rfl, Or.inl rfl, Or.inr rfl, Or.inl rfl, Or.inl rfl, trivial⟩ ?_
        exact j_Mo_takeCopy_b140 C G hf
      · have hf := (if_neg h).symm.trans hf
        obtain ⟨c3, hf⟩ := tm_iteN hf
        refine tm_w C tfo_Mo to_Mo_takeCopy 7 rfl rfl rfl ⟨rfl, ⟨_, rfl, c3⟩, trivial⟩ ?_
        obtain ⟨v1, hv1, hf⟩ := Option.bind_eq_some_iff.mp hf
        refine tm_cS C Ro to_Mo_takeCopy tl_Mo_80 rfl (ct_Mo_isDigit hv1) rfl rfl rfl rfl rfl (Nat.le_refl _) (Nat.le_refl _) ?_
        refine tm_b C to_Mo_takeCopy rfl rfl (fun h => ?_) (fun h => ?_)
        · have hf := (if_pos h).symm.trans hf
          refine tm_wk (lv' := [some (.ref 39), some (.int x1), some (.int x2), some (.int x3), some (.int x4), some (.long x5), none, some (.long x7), none, none]) ⟨Or.inr rfl, Or.inr rfl, Or.inr rfl, Or.inr rfl, Or.inr rfl, Or.inr rfl, Or.inl rfl, Or.inr rfl, Or.inl rfl, Or.inl rfl, trivial⟩ ?_
          exact j_Mo_takeCopy_b140 C G hf
        · have hf := (if_neg h).symm.trans hf
          obtain ⟨c4, hf⟩ := tm_iteN hf
          refine tm_w C tfo_Mo to_Mo_takeCopy 15 rfl rfl rfl ⟨rfl, ⟨_, rfl, c4⟩, trivial⟩ ?_
          refine tm_ldc2 (v := (10 : Int64)) C (tm_in 1154 (by decide +kernel) rfl) (tm_get_d to_Mo_takeCopy rfl) ?_
          refine tm_w C tfo_Mo to_Mo_takeCopy 4 rfl rfl rfl trivial ?_
          refine tm_wk (lv' := [some (.ref 39), some (.int x1), some (.int x2), some (.int x3), some (.int (x4 + (1 : Int32))), some (.long (x5 + (x7 * (Int32.toInt64 ((v1.2.1 53 (Int32.toNatClampNeg ((x3 - (1 : Int32)) - x4))) - (48 : Int32)))))), none, some (.long ((10 : Int64) * x7)), none, none]) ⟨Or.inr rfl, Or.inr rfl, Or.inr rfl, Or.inr rfl, Or.inr rfl, Or.inr rfl, Or.inl rfl, Or.inr rfl, Or.inl rfl, Or.inl rfl, trivial⟩ ?_
          exact ih _ _ _ _ _ _ _ _ hf
set_option maxRecDepth 100000 in
set_option maxHeartbeats 4000000 in
theorem j_Mo_takeCopy_l16 {Γ : tm_G} {ex : List tm_Sh} {av : List Value} {X0 : tm_X} {r : Int32 × tm_I × tm_L} (C : tm_C Γ ty_Mo_takeCopy.1.cls ty_Mo_takeCopy.2.1 ty_Mo_takeCopy.2.2.1) (G : tm_Γ ty_Mo_takeCopy 1 20 0 0 av X0 (tm_is none (sh0 ++ ex, r.2.1, r.2.2, rr)) Γ) : ∀ (n : Nat) (x1 : Int32) (x2 : Int32) (x3 : Int32) (x4 : Int32) (mI : tm_I) (mL : tm_L), f_Mo_takeCopy_l16 n x1 x2 x3 x4 mI mL = some r → tm_T Γ 10 0 0 16 [some (.ref 39), some (.int x1), some (.int x2), some (.int x3), some (.int x4), none, none, none, none, none] [] (sh0 ++ ex) mI mL rr := by
  have Ro := G.ro
  intro n
  induction n with
  | zero => intro x1 x2 x3 x4 mI mL hf; cases hf
  | succ n ih =>
    intro x1 x2 x3 x4 mI mL hf
    rw [f_Mo_takeCopy_l16] at hf
    refine tm_w C tfo_Mo to_Mo_takeCopy 1 rfl rfl rfl trivial ?_
    refine tm_b C to_Mo_takeCopy rfl rfl (fun h => ?_) (fun h => ?_)
    · have hf := (if_pos h).symm.trans hf
      obtain ⟨c5, hf⟩ := tm_iteN hf
      refine tm_w C tfo_Mo to_Mo_takeCopy 7 rfl rfl rfl ⟨rfl, ⟨_, rfl, c5⟩, trivial⟩ ?_
      refine tm_b C to_Mo_takeCopy rfl rfl (fun h => ?_) (fun h => ?_)
      · have hf := (if_pos h).symm.trans hf
        refine tm_w C tfo_Mo to_Mo_takeCopy 5 rfl rfl rfl trivial ?_
        refine tm_wk (lv' := [some (.ref 39), some (.int x1), some (.int x2), some (.int x3), some (.int (0 : Int32)), some (.long (0 : Int64)), none, some (.long (1 : Int64)), none, none]) ⟨Or.inr rfl, Or.inr rfl, Or.inr rfl, Or.inr rfl, Or.inr rfl, Or.inr rfl, Or.inl rfl, Or.inr rfl, Or.inl rfl, Or.inl rfl, trivial⟩ ?_
        exact j_Mo_takeCopy_l73 C G _ _ _ _ _ _ _ _ _ hf
      · have hf := (if_neg h).symm.trans hf
        cases hf
        exact tm_ev C G to_Mo_takeCopy rfl rfl (Nat.le_refl _) ⟨rfl, rfl⟩
    · have hf := (if_neg h).symm.trans hf
      obtain ⟨c6, hf⟩ := tm_iteN hf
      obtain ⟨c7, hf⟩ := tm_iteN hf
      refine tm_w C tfo_Mo to_Mo_takeCopy 13 rfl rfl rfl ⟨rfl, rfl, ⟨_, rfl, c6⟩, ⟨_, rfl, c7⟩, trivial⟩ ?_
      refine tm_wk (lv' := [some (.ref 39), some (.int x1), some (.int x2), some (.int x3), some (.int (x4 + (1 : Int32))), none, none, none, none, none]) ⟨Or.inr rfl, Or.inr rfl, Or.inr rfl, Or.inr rfl, Or.inr rfl, Or.inl rfl, Or.inl rfl, Or.inl rfl, Or.inl rfl, Or.inl rfl, trivial⟩ ?_
      exact ih _ _ _ _ _ _ hf
set_option maxRecDepth 100000 in
set_option maxHeartbeats 4000000 in
theorem j_Mo_takeCopy_b0 {Γ : tm_G} {ex : List tm_Sh} {av : List Value} {X0 : tm_X} {r : Int32 × tm_I × tm_L} (C : tm_C Γ ty_Mo_takeCopy.1.cls ty_Mo_takeCopy.2.1 ty_Mo_takeCopy.2.2.1) (G : tm_Γ ty_Mo_takeCopy 1 20 0 0 av X0 (tm_is none (sh0 ++ ex, r.2.1, r.2.2, rr)) Γ) {x1 : Int32} {x2 : Int32} {mI : tm_I} {mL : tm_L} (hf : f_Mo_takeCopy_b0 x1 x2 mI mL = some r) : tm_T Γ 10 0 0 0 [some (.ref 39), some (.int x1), some (.int x2), none, none, none, none, none, none, none] [] (sh0 ++ ex) mI mL rr := by
  have Ro := G.ro
  unfold f_Mo_takeCopy_b0 at hf
  obtain ⟨c8, hf⟩ := tm_iteN hf
  refine tm_w C tfo_Mo to_Mo_takeCopy 10 rfl rfl rfl ⟨rfl, ⟨_, rfl, c8⟩, trivial⟩ ?_
  refine tm_wk (lv' := [some (.ref 39), some (.int x1), some (.int x2), some (.int (mI 50 (Int32.toNatClampNeg (((16 : Int32) * x1) + (10 : Int32))))), some (.int (0 : Int32)), none, none, none, none, none]) ⟨Or.inr rfl, Or.inr rfl, Or.inr rfl, Or.inr rfl, Or.inr rfl, Or.inl rfl, Or.inl rfl, Or.inl rfl, Or.inl rfl, Or.inl rfl, trivial⟩ ?_
  exact j_Mo_takeCopy_l16 C G _ _ _ _ _ _ _ hf
set_option maxRecDepth 100000 in
theorem ct_Mo_takeCopy {ex : List tm_Sh} {p0 : Int32} {p1 : Int32} {mI : tm_I} {mL : tm_L} {r : Int32 × tm_I × tm_L} (hf : f_Mo_takeCopy p0 p1 mI mL = some r) : tm_M ty_Mo_takeCopy 1 20 0 0 [.ref 39, .int p0, .int p1] (sh0 ++ ex, mI, mL, rr) (tm_is none (sh0 ++ ex, r.2.1, r.2.2, rr)) := by
  refine tm_body (by decide) (Nat.le_of_ble_eq_true rfl) fun Γ C G => ?_
  exact j_Mo_takeCopy_b0 C G hf
/-! Mo_stepX -/
def f_Mo_stepX_b35 (x0 : Int32) (x1 : Int32) (x2 : Int32) (x3 : Int32) (s0 : Int32) (mI : tm_I) (mL : tm_L) : Option (Int32 × tm_I × tm_L) := some (s0, mI, mL)
def f_Mo_stepX_b0 (x0 : Int32) (x1 : Int32) (x2 : Int32) (x3 : Int32) (mI : tm_I) (mL : tm_L) : Option (Int32 × tm_I × tm_L) := if ¬ x3 = 0 then if ¬ x3 = (1 : Int32) then if ¬ x3 = (2 : Int32) then f_Mo_stepX_b35 x0 x1 x2 x3 (x0 + x2) mI mL else f_Mo_stepX_b35 x0 x1 x2 x3 (x0 - x1) mI mL else f_Mo_stepX_b35 x0 x1 x2 x3 (x0 - x2) mI mL else f_Mo_stepX_b35 x0 x1 x2 x3 (x0 + x1) mI mL
abbrev f_Mo_stepX (p0 : Int32) (p1 : Int32) (p2 : Int32) (p3 : Int32) (mI : tm_I) (mL : tm_L) : Option (Int32 × tm_I × tm_L) := f_Mo_stepX_b0 p0 p1 p2 p3 mI mL
set_option maxRecDepth 100000 in
set_option maxHeartbeats 4000000 in
theorem j_Mo_stepX_b35 {Γ : tm_G} {ex : List tm_Sh} {av : List Value} {X0 : tm_X} {r : Int32 × tm_I × tm_L} (C : tm_C Γ ty_Mo_stepX.1.cls ty_Mo_stepX.2.1 ty_Mo_stepX.2.2.1) (G : tm_Γ ty_Mo_stepX 0 0 0 0 av X0 (tm_is (some (.int r.1)) (sh0 ++ ex, r.2.1, r.2.2, rr)) Γ) {x0 : Int32} {x1 : Int32} {x2 : Int32} {x3 : Int32} {s0 : Int32} {mI : tm_I} {mL : tm_L} (hf : f_Mo_stepX_b35 x0 x1 x2 x3 s0 mI mL = some r) : tm_T Γ 4 0 0 35 [some (.int x0), some (.int x1), some (.int x2), some (.int x3)] [.int s0] (sh0 ++ ex) mI mL rr := by
  have Ro := G.ro
  unfold f_Mo_stepX_b35 at hf
  cases hf
  exact tm_ei C G to_Mo_stepX rfl rfl (Nat.le_refl _) rfl ⟨rfl, rfl⟩
set_option maxRecDepth 100000 in
set_option maxHeartbeats 4000000 in
theorem j_Mo_stepX_b0 {Γ : tm_G} {ex : List tm_Sh} {av : List Value} {X0 : tm_X} {r : Int32 × tm_I × tm_L} (C : tm_C Γ ty_Mo_stepX.1.cls ty_Mo_stepX.2.1 ty_Mo_stepX.2.2.1) (G : tm_Γ ty_Mo_stepX 0 0 0 0 av X0 (tm_is (some (.int r.1)) (sh0 ++ ex, r.2.1, r.2.2, rr)) Γ) {x0 : Int32} {x1 : Int32} {x2 : Int32} {x3 : Int32} {mI : tm_I} {mL : tm_L} (hf : f_Mo_stepX_b0 x0 x1 x2 x3 mI mL = some r) : tm_T Γ 4 0 0 0 [some (.int x0), some (.int x1), some (.int x2), some (.int x3)] [] (sh0 ++ ex) mI mL rr := by
  have Ro := G.ro
  unfold f_Mo_stepX_b0 at hf
  refine tm_w C tfo_Mo to_Mo_stepX 0 rfl rfl rfl trivial ?_
  refine tm_b C to_Mo_stepX rfl rfl (fun h => ?_) (fun h => ?_)
  · have hf := (if_pos h).symm.trans hf
    refine tm_w C tfo_Mo to_Mo_stepX 1 rfl rfl rfl trivial ?_
    refine tm_b C to_Mo_stepX rfl rfl (fun h => ?_) (fun h => ?_)
    · have hf := (if_pos h).symm.trans hf
      refine tm_w C tfo_Mo to_Mo_stepX 1 rfl rfl rfl trivial ?_
      refine tm_b C to_Mo_stepX rfl rfl (fun h => ?_) (fun h => ?_)
      · have hf := (if_pos h).symm.trans hf
        refine tm_w C tfo_Mo to_Mo_stepX 2 rfl rfl rfl trivial ?_
        refine tm_wk (lv' := [some (.int x0), some (.int x1), some (.int x2), some (.int x3)]) ⟨Or.inr rfl, Or.inr rfl, Or.inr rfl, Or.inr rfl, trivial⟩ ?_
        exact j_Mo_stepX_b35 C G hf
      · have hf := (if_neg h).symm.trans hf
        refine tm_w C tfo_Mo to_Mo_stepX 3 rfl rfl rfl trivial ?_
        refine tm_wk (lv' := [some (.int x0), some (.int x1), some (.int x2), some (.int x3)]) ⟨Or.inr rfl, Or.inr rfl, Or.inr rfl, Or.inr rfl, trivial⟩ ?_
        exact j_Mo_stepX_b35 C G hf
    · have hf := (if_neg h).symm.trans hf
      refine tm_w C tfo_Mo to_Mo_stepX 3 rfl rfl rfl trivial ?_
      refine tm_wk (lv' := [some (.int x0), some (.int x1), some (.int x2), some (.int x3)]) ⟨Or.inr rfl, Or.inr rfl, Or.inr rfl, Or.inr rfl, trivial⟩ ?_
      exact j_Mo_stepX_b35 C G hf
  · have hf := (if_neg h).symm.trans hf
    refine tm_w C tfo_Mo to_Mo_stepX 3 rfl rfl rfl trivial ?_
    refine tm_wk (lv' := [some (.int x0), some (.int x1), some (.int x2), some (.int x3)]) ⟨Or.inr rfl, Or.inr rfl, Or.inr rfl, Or.inr rfl, trivial⟩ ?_
    exact j_Mo_stepX_b35 C G hf
set_option maxRecDepth 100000 in
theorem ct_Mo_stepX {ex : List tm_Sh} {p0 : Int32} {p1 : Int32} {p2 : Int32} {p3 : Int32} {mI : tm_I} {mL : tm_L} {r : Int32 × tm_I × tm_L} (hf : f_Mo_stepX p0 p1 p2 p3 mI mL = some r) : tm_M ty_Mo_stepX 0 0 0 0 [.int p0, .int p1, .int p2, .int p3] (sh0 ++ ex, mI, mL, rr) (tm_is (some (.int r.1)) (sh0 ++ ex, r.2.1, r.2.2, rr)) := by
  refine tm_body (by decide) (Nat.le_of_ble_eq_true rfl) fun Γ C G => ?_
  exact j_Mo_stepX_b0 C G hf
/-! Mo_stepY -/
def f_Mo_stepY_b35 (x0 : Int32) (x1 : Int32) (x2 : Int32) (x3 : Int32) (s0 : Int32) (mI : tm_I) (mL : tm_L) : Option (Int32 × tm_I × tm_L) := some (s0, mI, mL)
def f_Mo_stepY_b0 (x0 : Int32) (x1 : Int32) (x2 : Int32) (x3 : Int32) (mI : tm_I) (mL : tm_L) : Option (Int32 × tm_I × tm_L) := if ¬ x3 = 0 then if ¬ x3 = (1 : Int32) then if ¬ x3 = (2 : Int32) then f_Mo_stepY_b35 x0 x1 x2 x3 (x0 - x1) mI mL else f_Mo_stepY_b35 x0 x1 x2 x3 (x0 - x2) mI mL else f_Mo_stepY_b35 x0 x1 x2 x3 (x0 + x1) mI mL else f_Mo_stepY_b35 x0 x1 x2 x3 (x0 + x2) mI mL
abbrev f_Mo_stepY (p0 : Int32) (p1 : Int32) (p2 : Int32) (p3 : Int32) (mI : tm_I) (mL : tm_L) : Option (Int32 × tm_I × tm_L) := f_Mo_stepY_b0 p0 p1 p2 p3 mI mL
set_option maxRecDepth 100000 in
set_option maxHeartbeats 4000000 in
theorem j_Mo_stepY_b35 {Γ : tm_G} {ex : List tm_Sh} {av : List Value} {X0 : tm_X} {r : Int32 × tm_I × tm_L} (C : tm_C Γ ty_Mo_stepY.1.cls ty_Mo_stepY.2.1 ty_Mo_stepY.2.2.1) (G : tm_Γ ty_Mo_stepY 0 0 0 0 av X0 (tm_is (some (.int r.1)) (sh0 ++ ex, r.2.1, r.2.2, rr)) Γ) {x0 : Int32} {x1 : Int32} {x2 : Int32} {x3 : Int32} {s0 : Int32} {mI : tm_I} {mL : tm_L} (hf : f_Mo_stepY_b35 x0 x1 x2 x3 s0 mI mL = some r) : tm_T Γ 4 0 0 35 [some (.int x0), some (.int x1), some (.int x2), some (.int x3)] [.int s0] (sh0 ++ ex) mI mL rr := by
  have Ro := G.ro
  unfold f_Mo_stepY_b35 at hf
  cases hf
  exact tm_ei C G to_Mo_stepY rfl rfl (Nat.le_refl _) rfl ⟨rfl, rfl⟩
set_option maxRecDepth 100000 in
set_option maxHeartbeats 4000000 in
theorem j_Mo_stepY_b0 {Γ : tm_G} {ex : List tm_Sh} {av : List Value} {X0 : tm_X} {r : Int32 × tm_I × tm_L} (C : tm_C Γ ty_Mo_stepY.1.cls ty_Mo_stepY.2.1 ty_Mo_stepY.2.2.1) (G : tm_Γ ty_Mo_stepY 0 0 0 0 av X0 (tm_is (some (.int r.1)) (sh0 ++ ex, r.2.1, r.2.2, rr)) Γ) {x0 : Int32} {x1 : Int32} {x2 : Int32} {x3 : Int32} {mI : tm_I} {mL : tm_L} (hf : f_Mo_stepY_b0 x0 x1 x2 x3 mI mL = some r) : tm_T Γ 4 0 0 0 [some (.int x0), some (.int x1), some (.int x2), some (.int x3)] [] (sh0 ++ ex) mI mL rr := by
  have Ro := G.ro
  unfold f_Mo_stepY_b0 at hf
  refine tm_w C tfo_Mo to_Mo_stepY 0 rfl rfl rfl trivial ?_
  refine tm_b C to_Mo_stepY rfl rfl (fun h => ?_) (fun h => ?_)
  · have hf := (if_pos h).symm.trans hf
    refine tm_w C tfo_Mo to_Mo_stepY 1 rfl rfl rfl trivial ?_
    refine tm_b C to_Mo_stepY rfl rfl (fun h => ?_) (fun h => ?_)
    · have hf := (if_pos h).symm.trans hf
      refine tm_w C tfo_Mo to_Mo_stepY 1 rfl rfl rfl trivial ?_
      refine tm_b C to_Mo_stepY rfl rfl (fun h => ?_) (fun h => ?_)
      · have hf := (if_pos h).symm.trans hf
        refine tm_w C tfo_Mo to_Mo_stepY 2 rfl rfl rfl trivial ?_
        refine tm_wk (lv' := [some (.int x0), some (.int x1), some (.int x2), some (.int x3)]) ⟨Or.inr rfl, Or.inr rfl, Or.inr rfl, Or.inr rfl, trivial⟩ ?_
        exact j_Mo_stepY_b35 C G hf
      · have hf := (if_neg h).symm.trans hf
        refine tm_w C tfo_Mo to_Mo_stepY 3 rfl rfl rfl trivial ?_
        refine tm_wk (lv' := [some (.int x0), some (.int x1), some (.int x2), some (.int x3)]) ⟨Or.inr rfl, Or.inr rfl, Or.inr rfl, Or.inr rfl, trivial⟩ ?_
        exact j_Mo_stepY_b35 C G hf
    · have hf := (if_neg h).symm.trans hf
      refine tm_w C tfo_Mo to_Mo_stepY 3 rfl rfl rfl trivial ?_
      refine tm_wk (lv' := [some (.int x0), some (.int x1), some (.int x2), some (.int x3)]) ⟨Or.inr rfl, Or.inr rfl, Or.inr rfl, Or.inr rfl, trivial⟩ ?_
      exact j_Mo_stepY_b35 C G hf
  · have hf := (if_neg h).symm.trans hf
    refine tm_w C tfo_Mo to_Mo_stepY 3 rfl rfl rfl trivial ?_
    refine tm_wk (lv' := [some (.int x0), some (.int x1), some (.int x2), some (.int x3)]) ⟨Or.inr rfl, Or.inr rfl, Or.inr rfl, Or.inr rfl, trivial⟩ ?_
    exact j_Mo_stepY_b35 C G hf
set_option maxRecDepth 100000 in
theorem ct_Mo_stepY {ex : List tm_Sh} {p0 : Int32} {p1 : Int32} {p2 : Int32} {p3 : Int32} {mI : tm_I} {mL : tm_L} {r : Int32 × tm_I × tm_L} (hf : f_Mo_stepY p0 p1 p2 p3 mI mL = some r) : tm_M ty_Mo_stepY 0 0 0 0 [.int p0, .int p1, .int p2, .int p3] (sh0 ++ ex, mI, mL, rr) (tm_is (some (.int r.1)) (sh0 ++ ex, r.2.1, r.2.2, rr)) := by
  refine tm_body (by decide) (Nat.le_of_ble_eq_true rfl) fun Γ C G => ?_
  exact j_Mo_stepY_b0 C G hf
/-! Mo_give -/
def f_Mo_give_b281 (r210 : Int32 → Int32 → Int32 → Int32 → Int32 → Int32 → Int32 → Int32 → Int32 → Int32 → Int32 → tm_I → tm_L → Option (Int32 × tm_I × tm_L)) (x1 : Int32) (x2 : Int32) (x3 : Int32) (x4 : Int32) (x5 : Int32) (x6 : Int32) (x7 : Int32) (x8 : Int32) (x9 : Int32) (x10 : Int32) (x11 : Int32) (s1 : Int32) (s2 : Int32) (mI : tm_I) (mL : tm_L) : Option (Int32 × tm_I × tm_L) := if ¬ (s1 < 0 ∨ 24000 ≤ Int32.toNatClampNeg s1) then r210 x1 x2 x3 x4 x5 x6 x7 x8 x9 x10 (x11 + (1 : Int32)) (tm_up mI 56 (Int32.toNatClampNeg s1) s2) mL else none
def f_Mo_give_l210 : Nat → Int32 → Int32 → Int32 → Int32 → Int32 → Int32 → Int32 → Int32 → Int32 → Int32 → Int32 → tm_I → tm_L → Option (Int32 × tm_I × tm_L)
  | 0, _, _, _, _, _, _, _, _, _, _, _, _, _ => none
  | n + 1, x1, x2, x3, x4, x5, x6, x7, x8, x9, x10, x11, mI, mL => if x7 ≤ x11 then some (0, tm_up mI 39 37 ((mI 39 37) + (1 : Int32)), mL) else if ¬ x2 = (7 : Int32) then if ¬ ((x6 + x11) < 0 ∨ 200 ≤ Int32.toNatClampNeg (x6 + x11)) then f_Mo_give_b281 (f_Mo_give_l210 n) x1 x2 x3 x4 x5 x6 x7 x8 x9 x10 x11 (((200 : Int32) * (mI 39 37)) + x11) (mI 53 (Int32.toNatClampNeg (x6 + x11))) mI mL else none else if ¬ (((2 : Int32) * x11) < 0 ∨ 200 ≤ Int32.toNatClampNeg ((2 : Int32) * x11)) then (f_Mo_hex (mI 53 (Int32.toNatClampNeg ((2 : Int32) * x11))) mI mL).bind fun v1 => if ¬ ((((2 : Int32) * x11) + (1 : Int32)) < 0 ∨ 200 ≤ Int32.toNatClampNeg (((2 : Int32) * x11) + (1 : Int32))) then (f_Mo_hex (v1.2.1 53 (Int32.toNatClampNeg (((2 : Int32) * x11) + (1 : Int32)))) v1.2.1 v1.2.2).bind fun v2 => f_Mo_give_b281 (f_Mo_give_l210 n) x1 x2 x3 x4 x5 x6 x7 x8 x9 x10 x11 (((200 : Int32) * (mI 39 37)) + x11) (((16 : Int32) * v1.1) + v2.1) v2.2.1 v2.2.2 else none else none
def f_Mo_give_b72 (x1 : Int32) (x2 : Int32) (x3 : Int32) (x4 : Int32) (x5 : Int32) (x6 : Int32) (x7 : Int32) (x8 : Int32) (x9 : Int32) (s1 : Int32) (mI : tm_I) (mL : tm_L) : Option (Int32 × tm_I × tm_L) := if s1 = 0 ∨ s1 = 1 then if ¬ ((tm_up (tm_up mI 39 32 s1) 39 26 (((tm_up mI 39 32 s1) 39 26) + (1 : Int32))) 39 33) = 0 then if ¬ (((9 : Int32) * ((tm_up (tm_up mI 39 32 s1) 39 26 (((tm_up mI 39 32 s1) 39 26) + (1 : Int32))) 39 37)) < 0 ∨ 1080 ≤ Int32.toNatClampNeg ((9 : Int32) * ((tm_up (tm_up mI 39 32 s1) 39 26 (((tm_up mI 39 32 s1) 39 26) + (1 : Int32))) 39 37))) then if ¬ ((((9 : Int32) * ((tm_up (tm_up mI 39 32 s1) 39 26 (((tm_up mI 39 32 s1) 39 26) + (1 : Int32))) 39 37)) + (1 : Int32)) < 0 ∨ 1080 ≤ Int32.toNatClampNeg (((9 : Int32) * ((tm_up (tm_up mI 39 32 s1) 39 26 (((tm_up mI 39 32 s1) 39 26) + (1 : Int32))) 39 37)) + (1 : Int32))) then if ¬ ((((9 : Int32) * ((tm_up (tm_up mI 39 32 s1) 39 26 (((tm_up mI 39 32 s1) 39 26) + (1 : Int32))) 39 37)) + (2 : Int32)) < 0 ∨ 1080 ≤ Int32.toNatClampNeg (((9 : Int32) * ((tm_up (tm_up mI 39 32 s1) 39 26 (((tm_up mI 39 32 s1) 39 26) + (1 : Int32))) 39 37)) + (2 : Int32))) then if ¬ ((((9 : Int32) * ((tm_up (tm_up mI 39 32 s1) 39 26 (((tm_up mI 39 32 s1) 39 26) + (1 : Int32))) 39 37)) + (3 : Int32)) < 0 ∨ 1080 ≤ Int32.toNatClampNeg (((9 : Int32) * ((tm_up (tm_up mI 39 32 s1) 39 26 (((tm_up mI 39 32 s1) 39 26) + (1 : Int32))) 39 37)) + (3 : Int32))) then if ¬ ((((16 : Int32) * x1) + (7 : Int32)) < 0 ∨ 2000 ≤ Int32.toNatClampNeg (((16 : Int32) * x1) + (7 : Int32))) then if ¬ ((((9 : Int32) * ((tm_up (tm_up mI 39 32 s1) 39 26 (((tm_up mI 39 32 s1) 39 26) + (1 : Int32))) 39 37)) + (4 : Int32)) < 0 ∨ 1080 ≤ Int32.toNatClampNeg (((9 : Int32) * ((tm_up (tm_up mI 39 32 s1) 39 26 (((tm_up mI 39 32 s1) 39 26) + (1 : Int32))) 39 37)) + (4 : Int32))) then if ¬ ((((9 : Int32) * ((tm_up (tm_up mI 39 32 s1) 39 26 (((tm_up mI 39 32 s1) 39 26) + (1 : Int32))) 39 37)) + (5 : Int32)) < 0 ∨ 1080 ≤ Int32.toNatClampNeg (((9 : Int32) * ((tm_up (tm_up mI 39 32 s1) 39 26 (((tm_up mI 39 32 s1) 39 26) + (1 : Int32))) 39 37)) + (5 : Int32))) then if ¬ ((((9 : Int32) * ((tm_up (tm_up mI 39 32 s1) 39 26 (((tm_up mI 39 32 s1) 39 26) + (1 : Int32))) 39 37)) + (6 : Int32)) < 0 ∨ 1080 ≤ Int32.toNatClampNeg (((9 : Int32) * ((tm_up (tm_up mI 39 32 s1) 39 26 (((tm_up mI 39 32 s1) 39 26) + (1 : Int32))) 39 37)) + (6 : Int32))) then if ¬ ((((9 : Int32) * ((tm_up (tm_up mI 39 32 s1) 39 26 (((tm_up mI 39 32 s1) 39 26) + (1 : Int32))) 39 37)) + (7 : Int32)) < 0 ∨ 1080 ≤ Int32.toNatClampNeg (((9 : Int32) * ((tm_up (tm_up mI 39 32 s1) 39 26 (((tm_up mI 39 32 s1) 39 26) + (1 : Int32))) 39 37)) + (7 : Int32))) then if ¬ ((((9 : Int32) * ((tm_up (tm_up mI 39 32 s1) 39 26 (((tm_up mI 39 32 s1) 39 26) + (1 : Int32))) 39 37)) + (8 : Int32)) < 0 ∨ 1080 ≤ Int32.toNatClampNeg (((9 : Int32) * ((tm_up (tm_up mI 39 32 s1) 39 26 (((tm_up mI 39 32 s1) 39 26) + (1 : Int32))) 39 37)) + (8 : Int32))) then f_Mo_give_l210 tm_F x1 x2 x3 x4 x5 x6 x7 x8 x9 ((9 : Int32) * ((tm_up (tm_up mI 39 32 s1) 39 26 (((tm_up mI 39 32 s1) 39 26) + (1 : Int32))) 39 37)) (0 : Int32) (tm_up (tm_up (tm_up (tm_up (tm_up (tm_up (tm_up (tm_up (tm_up (tm_up (tm_up mI 39 32 s1) 39 26 (((tm_up mI 39 32 s1) 39 26) + (1 : Int32))) 55 (Int32.toNatClampNeg ((9 : Int32) * ((tm_up (tm_up mI 39 32 s1) 39 26 (((tm_up mI 39 32 s1) 39 26) + (1 : Int32))) 39 37))) x2) 55 (Int32.toNatClampNeg (((9 : Int32) * ((tm_up (tm_up mI 39 32 s1) 39 26 (((tm_up mI 39 32 s1) 39 26) + (1 : Int32))) 39 37)) + (1 : Int32))) x8) 55 (Int32.toNatClampNeg (((9 : Int32) * ((tm_up (tm_up mI 39 32 s1) 39 26 (((tm_up mI 39 32 s1) 39 26) + (1 : Int32))) 39 37)) + (2 : Int32))) x9) 55 (Int32.toNatClampNeg (((9 : Int32) * ((tm_up (tm_up mI 39 32 s1) 39 26 (((tm_up mI 39 32 s1) 39 26) + (1 : Int32))) 39 37)) + (3 : Int32))) x3) 55 (Int32.toNatClampNeg (((9 : Int32) * ((tm_up (tm_up mI 39 32 s1) 39 26 (((tm_up mI 39 32 s1) 39 26) + (1 : Int32))) 39 37)) + (4 : Int32))) ((tm_up (tm_up (tm_up (tm_up (tm_up (tm_up mI 39 32 s1) 39 26 (((tm_up mI 39 32 s1) 39 26) + (1 : Int32))) 55 (Int32.toNatClampNeg ((9 : Int32) * ((tm_up (tm_up mI 39 32 s1) 39 26 (((tm_up mI 39 32 s1) 39 26) + (1 : Int32))) 39 37))) x2) 55 (Int32.toNatClampNeg (((9 : Int32) * ((tm_up (tm_up mI 39 32 s1) 39 26 (((tm_up mI 39 32 s1) 39 26) + (1 : Int32))) 39 37)) + (1 : Int32))) x8) 55 (Int32.toNatClampNeg (((9 : Int32) * ((tm_up (tm_up mI 39 32 s1) 39 26 (((tm_up mI 39 32 s1) 39 26) + (1 : Int32))) 39 37)) + (2 : Int32))) x9) 55 (Int32.toNatClampNeg (((9 : Int32) * ((tm_up (tm_up mI 39 32 s1) 39 26 (((tm_up mI 39 32 s1) 39 26) + (1 : Int32))) 39 37)) + (3 : Int32))) x3) 50 (Int32.toNatClampNeg (((16 : Int32) * x1) + (7 : Int32))))) 55 (Int32.toNatClampNeg (((9 : Int32) * ((tm_up (tm_up mI 39 32 s1) 39 26 (((tm_up mI 39 32 s1) 39 26) + (1 : Int32))) 39 37)) + (5 : Int32))) (0 : Int32)) 55 (Int32.toNatClampNeg (((9 : Int32) * ((tm_up (tm_up mI 39 32 s1) 39 26 (((tm_up mI 39 32 s1) 39 26) + (1 : Int32))) 39 37)) + (6 : Int32))) (0 : Int32)) 55 (Int32.toNatClampNeg (((9 : Int32) * ((tm_up (tm_up mI 39 32 s1) 39 26 (((tm_up mI 39 32 s1) 39 26) + (1 : Int32))) 39 37)) + (7 : Int32))) (0 : Int32)) 55 (Int32.toNatClampNeg (((9 : Int32) * ((tm_up (tm_up mI 39 32 s1) 39 26 (((tm_up mI 39 32 s1) 39 26) + (1 : Int32))) 39 37)) + (8 : Int32))) x7) mL else none else none else none else none else none else none else none else none else none else none else some (0, tm_up (tm_up mI 39 32 s1) 39 26 (((tm_up mI 39 32 s1) 39 26) + (1 : Int32)), mL) else none
def f_Mo_give_b67 (x1 : Int32) (x2 : Int32) (x3 : Int32) (x4 : Int32) (x5 : Int32) (x6 : Int32) (x7 : Int32) (x8 : Int32) (x9 : Int32) (mI : tm_I) (mL : tm_L) : Option (Int32 × tm_I × tm_L) := f_Mo_give_b72 x1 x2 x3 x4 x5 x6 x7 x8 x9 (1 : Int32) mI mL
def f_Mo_give_b0 (x1 : Int32) (x2 : Int32) (x3 : Int32) (x4 : Int32) (x5 : Int32) (x6 : Int32) (x7 : Int32) (mI : tm_I) (mL : tm_L) : Option (Int32 × tm_I × tm_L) := if ¬ ((((16 : Int32) * x1) + (5 : Int32)) < 0 ∨ 2000 ≤ Int32.toNatClampNeg (((16 : Int32) * x1) + (5 : Int32))) then (f_Mo_stepX (mI 50 (Int32.toNatClampNeg (((16 : Int32) * x1) + (5 : Int32)))) x4 x5 x3 mI mL).bind fun v3 => if ¬ ((((16 : Int32) * x1) + (6 : Int32)) < 0 ∨ 2000 ≤ Int32.toNatClampNeg (((16 : Int32) * x1) + (6 : Int32))) then (f_Mo_stepY (v3.2.1 50 (Int32.toNatClampNeg (((16 : Int32) * x1) + (6 : Int32)))) x4 x5 x3 v3.2.1 v3.2.2).bind fun v4 => if ¬ (v4.2.1 39 32) = 0 then f_Mo_give_b67 x1 x2 x3 x4 x5 x6 x7 v3.1 v4.1 v4.2.1 v4.2.2 else (f_Mo_isFar v3.1 v4.2.1 v4.2.2).bind fun v5 => if ¬ v5.1 = 0 then f_Mo_give_b67 x1 x2 x3 x4 x5 x6 x7 v3.1 v4.1 v5.2.1 v5.2.2 else (f_Mo_isFar v4.1 v5.2.1 v5.2.2).bind fun v6 => if v6.1 = 0 then f_Mo_give_b72 x1 x2 x3 x4 x5 x6 x7 v3.1 v4.1 (0 : Int32) v6.2.1 v6.2.2 else f_Mo_give_b67 x1 x2 x3 x4 x5 x6 x7 v3.1 v4.1 v6.2.1 v6.2.2 else none else none
abbrev f_Mo_give (p0 : Int32) (p1 : Int32) (p2 : Int32) (p3 : Int32) (p4 : Int32) (p5 : Int32) (p6 : Int32) (mI : tm_I) (mL : tm_L) : Option (Int32 × tm_I × tm_L) := f_Mo_give_b0 p0 p1 p2 p3 p4 p5 p6 mI mL
set_option maxRecDepth 100000 in
set_option maxHeartbeats 4000000 in
theorem j_Mo_give_b281 {Γ : tm_G} {ex : List tm_Sh} {av : List Value} {X0 : tm_X} {r210 : Int32 → Int32 → Int32 → Int32 → Int32 → Int32 → Int32 → Int32 → Int32 → Int32 → Int32 → tm_I → tm_L → Option (Int32 × tm_I × tm_L)} {r : Int32 × tm_I × tm_L} (C : tm_C Γ ty_Mo_give.1.cls ty_Mo_give.2.1 ty_Mo_give.2.2.1) (G : tm_Γ ty_Mo_give 2 40 0 0 av X0 (tm_is none (sh0 ++ ex, r.2.1, r.2.2, rr)) Γ) (H210 : ∀ (x1 : Int32) (x2 : Int32) (x3 : Int32) (x4 : Int32) (x5 : Int32) (x6 : Int32) (x7 : Int32) (x8 : Int32) (x9 : Int32) (x10 : Int32) (x11 : Int32) (mI : tm_I) (mL : tm_L), r210 x1 x2 x3 x4 x5 x6 x7 x8 x9 x10 x11 mI mL = some r → tm_T Γ 12 0 0 210 [some (.ref 39), some (.int x1), some (.int x2), some (.int x3), some (.int x4), some (.int x5), some (.int x6), some (.int x7), some (.int x8), some (.int x9), some (.int x10), some (.int x11)] [] (sh0 ++ ex) mI mL rr) {x1 : Int32} {x2 : Int32} {x3 : Int32} {x4 : Int32} {x5 : Int32} {x6 : Int32} {x7 : Int32} {x8 : Int32} {x9 : Int32} {x10 : Int32} {x11 : Int32} {s1 : Int32} {s2 : Int32} {mI : tm_I} {mL : tm_L} (hf : f_Mo_give_b281 r210 x1 x2 x3 x4 x5 x6 x7 x8 x9 x10 x11 s1 s2 mI mL = some r) : tm_T Γ 12 0 0 281 [some (.ref 39), some (.int x1), some (.int x2), some (.int x3), some (.int x4), some (.int x5), some (.int x6), some (.int x7), some (.int x8), some (.int x9), some (.int x10), some (.int x11)] [.int s2, .int s1, .ref 56] (sh0 ++ ex) mI mL rr := by
  have Ro := G.ro
  unfold f_Mo_give_b281 at hf
  obtain ⟨c1, hf⟩ := tm_iteN hf
  refine tm_w C tfo_Mo to_Mo_give 2 rfl rfl rfl ⟨⟨_, rfl, c1⟩, trivial⟩ ?_
  refine tm_wk (lv' := [some (.ref 39), some (.int x1), some (.int x2), some (.int x3), some (.int x4), some (.int x5), some (.int x6), some (.int x7), some (.int x8), some (.int x9), some (.int x10), some (.int (x11 + (1 : Int32)))]) ⟨Or.inr rfl, Or.inr rfl, Or.inr rfl, Or.inr rfl, Or.inr rfl, Or.inr rfl, Or.inr rfl, Or.inr rfl, Or.inr rfl, Or.inr rfl, Or.inr rfl, Or.inr rfl, trivial⟩ ?_
  exact H210 _ _ _ _ _ _ _ _ _ _ _ _ _ hf
set_option maxRecDepth 100000 in
set_option maxHeartbeats 4000000 in
theorem j_Mo_give_l210 {Γ : tm_G} {ex : List tm_Sh} {av : List Value} {X0 : tm_X} {r : Int32 × tm_I × tm_L} (C : tm_C Γ ty_Mo_give.1.cls ty_Mo_give.2.1 ty_Mo_give.2.2.1) (G : tm_Γ ty_Mo_give 2 40 0 0 av X0 (tm_is none (sh0 ++ ex, r.2.1, r.2.2, rr)) Γ) : ∀ (n : Nat) (x1 : Int32) (x2 : Int32) (x3 : Int32) (x4 : Int32) (x5 : Int32) (x6 : Int32) (x7 : Int32) (x8 : Int32) (x9 : Int32) (x10 : Int32) (x11 : Int32) (mI : tm_I) (mL : tm_L), f_Mo_give_l210 n x1 x2 x3 x4 x5 x6 x7 x8 x9 x10 x11 mI mL = some r → tm_T Γ 12 0 0 210 [some (.ref 39), some (.int x1), some (.int x2), some (.int x3), some (.int x4), some (.int x5), some (.int x6), some (.int x7), some (.int x8), some (.int x9), some (.int x10), some (.int x11)] [] (sh0 ++ ex) mI mL rr := by
  have Ro := G.ro
  intro n
  induction n with
  | zero => intro x1 x2 x3 x4 x5 x6 x7 x8 x9 x10 x11 mI mL hf; cases hf
  | succ n ih =>
    intro x1 x2 x3 x4 x5 x6 x7 x8 x9 x10 x11 mI mL hf
    rw [f_Mo_give_l210] at hf
    refine tm_w C tfo_Mo to_Mo_give 1 rfl rfl rfl trivial ?_
    refine tm_b C to_Mo_give rfl rfl (fun h => ?_) (fun h => ?_)
    · have hf := (if_pos h).symm.trans hf
      refine tm_w C tfo_Mo to_Mo_give 5 rfl rfl rfl ⟨rfl, rfl, trivial⟩ ?_
      cases hf
      exact tm_ev C G to_Mo_give rfl rfl (Nat.le_refl _) ⟨rfl, rfl⟩
    · have hf := (if_neg h).symm.trans hf
      refine tm_w C tfo_Mo to_Mo_give 9 rfl rfl rfl ⟨rfl, rfl, trivial⟩ ?_
      refine tm_b C to_Mo_give rfl rfl (fun h => ?_) (fun h => ?_)
      · have hf := (if_pos h).symm.trans hf
        obtain ⟨c2, hf⟩ := tm_iteN hf
        refine tm_w C tfo_Mo to_Mo_give 5 rfl rfl rfl ⟨rfl, ⟨_, rfl, c2⟩, trivial⟩ ?_
        refine tm_wk (lv' := [some (.ref 39), some (.int x1), some (.int x2), some (.int x3), some (.int x4), some (.int x5), some (.int x6), some (.int x7), some (.int x8), some (.int x9), some (.int x10), some (.int x11)]) ⟨Or.inr rfl, Or.inr rfl, Or.inr rfl, Or.inr rfl, Or.inr rfl, Or.inr rfl, Or.inr rfl, Or.inr rfl, Or.inr rfl, Or.inr rfl, Or.inr rfl, Or.inr rfl, trivial⟩ ?_
        exact j_Mo_give_b281 C G (ih) hf
      · have hf := (if_neg h).symm.trans hf
        obtain ⟨c3, hf⟩ := tm_iteN hf
        refine tm_w C tfo_Mo to_Mo_give 6 rfl rfl rfl ⟨rfl, ⟨_, rfl, c3⟩, trivial⟩ ?_
        obtain ⟨v1, hv1, hf⟩ := Option.bind_eq_some_iff.mp hf
        refine tm_cS C Ro to_Mo_give tl_Mo_104 rfl (ct_Mo_hex hv1) rfl rfl rfl rfl rfl (Nat.le_refl _) (Nat.le_refl _) ?_
        obtain ⟨c4, hf⟩ := tm_iteN hf
        refine tm_w C tfo_Mo to_Mo_give 8 rfl rfl rfl ⟨rfl, ⟨_, rfl, c4⟩, trivial⟩ ?_
        obtain ⟨v2, hv2, hf⟩ := Option.bind_eq_some_iff.mp hf
        refine tm_cS C Ro to_Mo_give tl_Mo_104 rfl (ct_Mo_hex hv2) rfl rfl rfl rfl rfl (Nat.le_refl _) (Nat.le_refl _) ?_
        refine tm_w C tfo_Mo to_Mo_give 1 rfl rfl rfl trivial ?_
        refine tm_wk (lv' := [some (.ref 39), some (.int x1), some (.int x2), some (.int x3), some (.int x4), some (.int x5), some (.int x6), some (.int x7), some (.int x8), some (.int x9), some (.int x10), some (.int x11)]) ⟨Or.inr rfl, Or.inr rfl, Or.inr rfl, Or.inr rfl, Or.inr rfl, Or.inr rfl, Or.inr rfl, Or.inr rfl, Or.inr rfl, Or.inr rfl, Or.inr rfl, Or.inr rfl, trivial⟩ ?_
        exact j_Mo_give_b281 C G (ih) hf
set_option maxRecDepth 100000 in
set_option maxHeartbeats 4000000 in
theorem j_Mo_give_b72 {Γ : tm_G} {ex : List tm_Sh} {av : List Value} {X0 : tm_X} {r : Int32 × tm_I × tm_L} (C : tm_C Γ ty_Mo_give.1.cls ty_Mo_give.2.1 ty_Mo_give.2.2.1) (G : tm_Γ ty_Mo_give 2 40 0 0 av X0 (tm_is none (sh0 ++ ex, r.2.1, r.2.2, rr)) Γ) {x1 : Int32} {x2 : Int32} {x3 : Int32} {x4 : Int32} {x5 : Int32} {x6 : Int32} {x7 : Int32} {x8 : Int32} {x9 : Int32} {s1 : Int32} {mI : tm_I} {mL : tm_L} (hf : f_Mo_give_b72 x1 x2 x3 x4 x5 x6 x7 x8 x9 s1 mI mL = some r) : tm_T Γ 12 0 0 72 [some (.ref 39), some (.int x1), some (.int x2), some (.int x3), some (.int x4), some (.int x5), some (.int x6), some (.int x7), some (.int x8), some (.int x9), none, none] [.int s1, .ref 39] (sh0 ++ ex) mI mL rr := by
  have Ro := G.ro
  unfold f_Mo_give_b72 at hf
  obtain ⟨c5, hf⟩ := tm_iteN hf
  refine tm_w C tfo_Mo to_Mo_give 8 rfl rfl rfl ⟨rfl, (tm_nz c5), (tm_fz c5), rfl, rfl, rfl, trivial⟩ ?_
  refine tm_b C to_Mo_give rfl rfl (fun h => ?_) (fun h => ?_)
  · have hf := (if_pos h).symm.trans hf
    obtain ⟨c6, hf⟩ := tm_iteN hf
    obtain ⟨c7, hf⟩ := tm_iteN hf
    obtain ⟨c8, hf⟩ := tm_iteN hf
    obtain ⟨c9, hf⟩ := tm_iteN hf
    obtain ⟨c10, hf⟩ := tm_iteN hf
    obtain ⟨c11, hf⟩ := tm_iteN hf
    obtain ⟨c12, hf⟩ := tm_iteN hf
    obtain ⟨c13, hf⟩ := tm_iteN hf
    obtain ⟨c14, hf⟩ := tm_iteN hf
    obtain ⟨c15, hf⟩ := tm_iteN hf
    refine tm_w C tfo_Mo to_Mo_give 74 rfl rfl rfl ⟨rfl, rfl, ⟨_, rfl, c6⟩, rfl, ⟨_, rfl, c7⟩, rfl, ⟨_, rfl, c8⟩, rfl, ⟨_, rfl, c9⟩, rfl, rfl, ⟨_, rfl, c10⟩, ⟨_, rfl, c11⟩, rfl, ⟨_, rfl, c12⟩, rfl, ⟨_, rfl, c13⟩, rfl, ⟨_, rfl, c14⟩, rfl, ⟨_, rfl, c15⟩, trivial⟩ ?_
    refine tm_wk (lv' := [some (.ref 39), some (.int x1), some (.int x2), some (.int x3), some (.int x4), some (.int x5), some (.int x6), some (.int x7), some (.int x8), some (.int x9), some (.int ((9 : Int32) * ((tm_up (tm_up mI 39 32 s1) 39 26 (((tm_up mI 39 32 s1) 39 26) + (1 : Int32))) 39 37))), some (.int (0 : Int32))]) ⟨Or.inr rfl, Or.inr rfl, Or.inr rfl, Or.inr rfl, Or.inr rfl, Or.inr rfl, Or.inr rfl, Or.inr rfl, Or.inr rfl, Or.inr rfl, Or.inr rfl, Or.inr rfl, trivial⟩ ?_
    exact j_Mo_give_l210 C G _ _ _ _ _ _ _ _ _ _ _ _ _ _ hf
  · have hf := (if_neg h).symm.trans hf
    cases hf
    exact tm_ev C G to_Mo_give rfl rfl (Nat.le_refl _) ⟨rfl, rfl⟩
set_option maxRecDepth 100000 in
set_option maxHeartbeats 4000000 in
theorem j_Mo_give_b67 {Γ : tm_G} {ex : List tm_Sh} {av : List Value} {X0 : tm_X} {r : Int32 × tm_I × tm_L} (C : tm_C Γ ty_Mo_give.1.cls ty_Mo_give.2.1 ty_Mo_give.2.2.1) (G : tm_Γ ty_Mo_give 2 40 0 0 av X0 (tm_is none (sh0 ++ ex, r.2.1, r.2.2, rr)) Γ) {x1 : Int32} {x2 : Int32} {x3 : Int32} {x4 : Int32} {x5 : Int32} {x6 : Int32} {x7 : Int32} {x8 : Int32} {x9 : Int32} {mI : tm_I} {mL : tm_L} (hf : f_Mo_give_b67 x1 x2 x3 x4 x5 x6 x7 x8 x9 mI mL = some r) : tm_T Γ 12 0 0 67 [some (.ref 39), some (.int x1), some (.int x2), some (.int x3), some (.int x4), some (.int x5), some (.int x6), some (.int x7), some (.int x8), some (.int x9), none, none] [.ref 39] (sh0 ++ ex) mI mL rr := by
  have Ro := G.ro
  unfold f_Mo_give_b67 at hf
  refine tm_w C tfo_Mo to_Mo_give 1 rfl rfl rfl trivial ?_
  refine tm_wk (lv' := [some (.ref 39), some (.int x1), some (.int x2), some (.int x3), some (.int x4), some (.int x5), some (.int x6), some (.int x7), some (.int x8), some (.int x9), none, none]) ⟨Or.inr rfl, Or.inr rfl, Or.inr rfl, Or.inr rfl, Or.inr rfl, Or.inr rfl, Or.inr rfl, Or.inr rfl, Or.inr rfl, Or.inr rfl, Or.inl rfl, Or.inl rfl, trivial⟩ ?_
  exact j_Mo_give_b72 C G hf
set_option maxRecDepth 100000 in
set_option maxHeartbeats 4000000 in
theorem j_Mo_give_b0 {Γ : tm_G} {ex : List tm_Sh} {av : List Value} {X0 : tm_X} {r : Int32 × tm_I × tm_L} (C : tm_C Γ ty_Mo_give.1.cls ty_Mo_give.2.1 ty_Mo_give.2.2.1) (G : tm_Γ ty_Mo_give 2 40 0 0 av X0 (tm_is none (sh0 ++ ex, r.2.1, r.2.2, rr)) Γ) {x1 : Int32} {x2 : Int32} {x3 : Int32} {x4 : Int32} {x5 : Int32} {x6 : Int32} {x7 : Int32} {mI : tm_I} {mL : tm_L} (hf : f_Mo_give_b0 x1 x2 x3 x4 x5 x6 x7 mI mL = some r) : tm_T Γ 12 0 0 0 [some (.ref 39), some (.int x1), some (.int x2), some (.int x3), some (.int x4), some (.int x5), some (.int x6), some (.int x7), none, none, none, none] [] (sh0 ++ ex) mI mL rr := by
  have Ro := G.ro
  unfold f_Mo_give_b0 at hf
  obtain ⟨c16, hf⟩ := tm_iteN hf
  refine tm_w C tfo_Mo to_Mo_give 10 rfl rfl rfl ⟨rfl, ⟨_, rfl, c16⟩, trivial⟩ ?_
  obtain ⟨v3, hv3, hf⟩ := Option.bind_eq_some_iff.mp hf
  refine tm_cS C Ro to_Mo_give tl_Mo_145 rfl (ct_Mo_stepX hv3) rfl rfl rfl rfl rfl (Nat.le_refl _) (Nat.le_refl _) ?_
  obtain ⟨c17, hf⟩ := tm_iteN hf
  refine tm_w C tfo_Mo to_Mo_give 11 rfl rfl rfl ⟨rfl, ⟨_, rfl, c17⟩, trivial⟩ ?_
  obtain ⟨v4, hv4, hf⟩ := Option.bind_eq_some_iff.mp hf
  refine tm_cS C Ro to_Mo_give tl_Mo_149 rfl (ct_Mo_stepY hv4) rfl rfl rfl rfl rfl (Nat.le_refl _) (Nat.le_refl _) ?_
  refine tm_w C tfo_Mo to_Mo_give 3 rfl rfl rfl ⟨rfl, trivial⟩ ?_
  refine tm_b C to_Mo_give rfl rfl (fun h => ?_) (fun h => ?_)
  · have hf := (if_pos h).symm.trans hf
    refine tm_wk (lv' := [some (.ref 39), some (.int x1), some (.int x2), some (.int x3), some (.int x4), some (.int x5), some (.int x6), some (.int x7), some (.int v3.1), some (.int v4.1), none, none]) ⟨Or.inr rfl, Or.inr rfl, Or.inr rfl, Or.inr rfl, Or.inr rfl, Or.inr rfl, Or.inr rfl, Or.inr rfl, Or.inr rfl, Or.inr rfl, Or.inl rfl, Or.inl rfl, trivial⟩ ?_
    exact j_Mo_give_b67 C G hf
  · have hf := (if_neg h).symm.trans hf
    refine tm_w C tfo_Mo to_Mo_give 0 rfl rfl rfl trivial ?_
    obtain ⟨v5, hv5, hf⟩ := Option.bind_eq_some_iff.mp hf
    refine tm_cS C Ro to_Mo_give tl_Mo_152 rfl (ct_Mo_isFar hv5) rfl rfl rfl rfl rfl (Nat.le_refl _) (Nat.le_refl _) ?_
    refine tm_b C to_Mo_give rfl rfl (fun h => ?_) (fun h => ?_)
    · have hf := (if_pos h).symm.trans hf
      refine tm_wk (lv' := [some (.ref 39), some (.int x1), some (.int x2), some (.int x3), some (.int x4), some (.int x5), some (.int x6), some (.int x7), some (.int v3.1), some (.int v4.1), none, none]) ⟨Or.inr rfl, Or.inr rfl, Or.inr rfl, Or.inr rfl, Or.inr rfl, Or.inr rfl, Or.inr rfl, Or.inr rfl, Or.inr rfl, Or.inr rfl, Or.inl rfl, Or.inl rfl, trivial⟩ ?_
      exact j_Mo_give_b67 C G hf
    · have hf := (if_neg h).symm.trans hf
      refine tm_w C tfo_Mo to_Mo_give 0 rfl rfl rfl trivial ?_
      obtain ⟨v6, hv6, hf⟩ := Option.bind_eq_some_iff.mp hf
      refine tm_cS C Ro to_Mo_give tl_Mo_152 rfl (ct_Mo_isFar hv6) rfl rfl rfl rfl rfl (Nat.le_refl _) (Nat.le_refl _) ?_
      refine tm_b C to_Mo_give rfl rfl (fun h => ?_) (fun h => ?_)
      · have hf := (if_pos h).symm.trans hf
        refine tm_w C tfo_Mo to_Mo_give 0 rfl rfl rfl trivial ?_
        refine tm_wk (lv' := [some (.ref 39), some (.int x1), some (.int x2), some (.int x3), some (.int x4), some (.int x5), some (.int x6), some (.int x7), some (.int v3.1), some (.int v4.1), none, none]) ⟨Or.inr rfl, Or.inr rfl, Or.inr rfl, Or.inr rfl, Or.inr rfl, Or.inr rfl, Or.inr rfl, Or.inr rfl, Or.inr rfl, Or.inr rfl, Or.inl rfl, Or.inl rfl, trivial⟩ ?_
        exact j_Mo_give_b72 C G hf
      · have hf := (if_neg h).symm.trans hf
        refine tm_wk (lv' := [some (.ref 39), some (.int x1), some (.int x2), some (.int x3), some (.int x4), some (.int x5), some (.int x6), some (.int x7), some (.int v3.1), some (.int v4.1), none, none]) ⟨Or.inr rfl, Or.inr rfl, Or.inr rfl, Or.inr rfl, Or.inr rfl, Or.inr rfl, Or.inr rfl, Or.inr rfl, Or.inr rfl, Or.inr rfl, Or.inl rfl, Or.inl rfl, trivial⟩ ?_
        exact j_Mo_give_b67 C G hf
set_option maxRecDepth 100000 in
theorem ct_Mo_give {ex : List tm_Sh} {p0 : Int32} {p1 : Int32} {p2 : Int32} {p3 : Int32} {p4 : Int32} {p5 : Int32} {p6 : Int32} {mI : tm_I} {mL : tm_L} {r : Int32 × tm_I × tm_L} (hf : f_Mo_give p0 p1 p2 p3 p4 p5 p6 mI mL = some r) : tm_M ty_Mo_give 2 40 0 0 [.ref 39, .int p0, .int p1, .int p2, .int p3, .int p4, .int p5, .int p6] (sh0 ++ ex, mI, mL, rr) (tm_is none (sh0 ++ ex, r.2.1, r.2.2, rr)) := by
  refine tm_body (by decide) (Nat.le_of_ble_eq_true rfl) fun Γ C G => ?_
  exact j_Mo_give_b0 C G hf
