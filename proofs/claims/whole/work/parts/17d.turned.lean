/-! Mo_have -/
def f_Mo_have_b52 (x1 : Int32) (x2 : Int32) (x3 : Int32) (mI : tm_I) (mL : tm_L) : Option (Int32 × tm_I × tm_L) := some (0, mI, mL)
def f_Mo_have_b0 (x1 : Int32) (x2 : Int32) (x3 : Int32) (mI : tm_I) (mL : tm_L) : Option (Int32 × tm_I × tm_L) := if (mI 39 33) = 0 then f_Mo_have_b52 x1 x2 x3 mI mL else if ¬ ((((9 : Int32) * (mI 39 37)) - (4 : Int32)) < 0 ∨ 1080 ≤ Int32.toNatClampNeg (((9 : Int32) * (mI 39 37)) - (4 : Int32))) then if ¬ ((((9 : Int32) * ((tm_up mI 55 (Int32.toNatClampNeg (((9 : Int32) * (mI 39 37)) - (4 : Int32))) x1) 39 37)) - (3 : Int32)) < 0 ∨ 1080 ≤ Int32.toNatClampNeg (((9 : Int32) * ((tm_up mI 55 (Int32.toNatClampNeg (((9 : Int32) * (mI 39 37)) - (4 : Int32))) x1) 39 37)) - (3 : Int32))) then if ¬ ((((9 : Int32) * ((tm_up (tm_up mI 55 (Int32.toNatClampNeg (((9 : Int32) * (mI 39 37)) - (4 : Int32))) x1) 55 (Int32.toNatClampNeg (((9 : Int32) * ((tm_up mI 55 (Int32.toNatClampNeg (((9 : Int32) * (mI 39 37)) - (4 : Int32))) x1) 39 37)) - (3 : Int32))) x2) 39 37)) - (2 : Int32)) < 0 ∨ 1080 ≤ Int32.toNatClampNeg (((9 : Int32) * ((tm_up (tm_up mI 55 (Int32.toNatClampNeg (((9 : Int32) * (mI 39 37)) - (4 : Int32))) x1) 55 (Int32.toNatClampNeg (((9 : Int32) * ((tm_up mI 55 (Int32.toNatClampNeg (((9 : Int32) * (mI 39 37)) - (4 : Int32))) x1) 39 37)) - (3 : Int32))) x2) 39 37)) - (2 : Int32))) then f_Mo_have_b52 x1 x2 x3 (tm_up (tm_up (tm_up mI 55 (Int32.toNatClampNeg (((9 : Int32) * (mI 39 37)) - (4 : Int32))) x1) 55 (Int32.toNatClampNeg (((9 : Int32) * ((tm_up mI 55 (Int32.toNatClampNeg (((9 : Int32) * (mI 39 37)) - (4 : Int32))) x1) 39 37)) - (3 : Int32))) x2) 55 (Int32.toNatClampNeg (((9 : Int32) * ((tm_up (tm_up mI 55 (Int32.toNatClampNeg (((9 : Int32) * (mI 39 37)) - (4 : Int32))) x1) 55 (Int32.toNatClampNeg (((9 : Int32) * ((tm_up mI 55 (Int32.toNatClampNeg (((9 : Int32) * (mI 39 37)) - (4 : Int32))) x1) 39 37)) - (3 : Int32))) x2) 39 37)) - (2 : Int32))) x3) mL else none else none else none
abbrev f_Mo_have (p0 : Int32) (p1 : Int32) (p2 : Int32) (mI : tm_I) (mL : tm_L) : Option (Int32 × tm_I × tm_L) := f_Mo_have_b0 p0 p1 p2 mI mL
set_option maxRecDepth 100000 in
set_option maxHeartbeats 4000000 in
theorem j_Mo_have_b52 {Γ : tm_G} {ex : List tm_Sh} {av : List Value} {X0 : tm_X} {r : Int32 × tm_I × tm_L} (C : tm_C Γ ty_Mo_have.1.cls ty_Mo_have.2.1 ty_Mo_have.2.2.1) (G : tm_Γ ty_Mo_have 0 0 0 0 av X0 (tm_is none (sh0 ++ ex, r.2.1, r.2.2, rr)) Γ) {x1 : Int32} {x2 : Int32} {x3 : Int32} {mI : tm_I} {mL : tm_L} (hf : f_Mo_have_b52 x1 x2 x3 mI mL = some r) : tm_T Γ 4 0 0 52 [some (.ref 39), some (.int x1), some (.int x2), some (.int x3)] [] (sh0 ++ ex) mI mL rr := by
  have Ro := G.ro
  unfold f_Mo_have_b52 at hf
  cases hf
  exact tm_ev C G to_Mo_have rfl rfl (Nat.le_refl _) ⟨rfl, rfl⟩
set_option maxRecDepth 100000 in
set_option maxHeartbeats 4000000 in
theorem j_Mo_have_b0 {Γ : tm_G} {ex : List tm_Sh} {av : List Value} {X0 : tm_X} {r : Int32 × tm_I × tm_L} (C : tm_C Γ ty_Mo_have.1.cls ty_Mo_have.2.1 ty_Mo_have.2.2.1) (G : tm_Γ ty_Mo_have 0 0 0 0 av X0 (tm_is none (sh0 ++ ex, r.2.1, r.2.2, rr)) Γ) {x1 : Int32} {x2 : Int32} {x3 : Int32} {mI : tm_I} {mL : tm_L} (hf : f_Mo_have_b0 x1 x2 x3 mI mL = some r) : tm_T Γ 4 0 0 0 [some (.ref 39), some (.int x1), some (.int x2), some (.int x3)] [] (sh0 ++ ex) mI mL rr := by
  have Ro := G.ro
  unfold f_Mo_have_b0 at hf
  refine tm_w C tfo_Mo to_Mo_have 1 rfl rfl rfl ⟨rfl, trivial⟩ ?_
  refine tm_b C to_Mo_have rfl rfl (fun h => ?_) (fun h => ?_)
  · have hf := (if_pos h).symm.trans hf
    refine tm_wk (lv' := [some (.ref 39), some (.int x1), some (.int x2), some (.int x3)]) ⟨Or.inr rfl, Or.inr rfl, Or.inr rfl, Or.inr rfl, trivial⟩ ?_
    exact j_Mo_have_b52 C G hf
  · have hf := (if_neg h).symm.trans hf
    obtain ⟨c1, hf⟩ := tm_iteN hf
    obtain ⟨c2, hf⟩ := tm_iteN hf
    obtain ⟨c3, hf⟩ := tm_iteN hf
    refine tm_w C tfo_Mo to_Mo_have 29 rfl rfl rfl ⟨rfl, rfl, ⟨_, rfl, c1⟩, rfl, rfl, ⟨_, rfl, c2⟩, rfl, rfl, ⟨_, rfl, c3⟩, trivial⟩ ?_
    refine tm_wk (lv' := [some (.ref 39), some (.int x1), some (.int x2), some (.int x3)]) ⟨Or.inr rfl, Or.inr rfl, Or.inr rfl, Or.inr rfl, trivial⟩ ?_
    exact j_Mo_have_b52 C G hf
set_option maxRecDepth 100000 in
theorem ct_Mo_have {ex : List tm_Sh} {p0 : Int32} {p1 : Int32} {p2 : Int32} {mI : tm_I} {mL : tm_L} {r : Int32 × tm_I × tm_L} (hf : f_Mo_have p0 p1 p2 mI mL = some r) : tm_M ty_Mo_have 0 0 0 0 [.ref 39, .int p0, .int p1, .int p2] (sh0 ++ ex, mI, mL, rr) (tm_is none (sh0 ++ ex, r.2.1, r.2.2, rr)) := by
  refine tm_body (by decide) (Nat.le_of_ble_eq_true rfl) fun Γ C G => ?_
  exact j_Mo_have_b0 C G hf
/-! Mo_pieceEnd -/
def f_Mo_pieceEnd_b24 (x1 : Int32) (x2 : Int32) (x3 : Int32) (mI : tm_I) (mL : tm_L) : Option (Int32 × tm_I × tm_L) := some (x3, mI, mL)
def f_Mo_pieceEnd_l2 : Nat → Int32 → Int32 → Int32 → tm_I → tm_L → Option (Int32 × tm_I × tm_L)
  | 0, _, _, _, _, _ => none
  | n + 1, x1, x2, x3, mI, mL => if x2 ≤ x3 then f_Mo_pieceEnd_b24 x1 x2 x3 mI mL else if ¬ (x3 < 0 ∨ 200 ≤ Int32.toNatClampNeg x3) then if (mI 53 (Int32.toNatClampNeg x3)) = (10 : Int32) then f_Mo_pieceEnd_b24 x1 x2 x3 mI mL else (f_Mo_pieceEnd_l2 n) x1 x2 (x3 + (1 : Int32)) mI mL else none
def f_Mo_pieceEnd_b0 (x1 : Int32) (x2 : Int32) (mI : tm_I) (mL : tm_L) : Option (Int32 × tm_I × tm_L) := f_Mo_pieceEnd_l2 tm_F x1 x2 x1 mI mL
abbrev f_Mo_pieceEnd (p0 : Int32) (p1 : Int32) (mI : tm_I) (mL : tm_L) : Option (Int32 × tm_I × tm_L) := f_Mo_pieceEnd_b0 p0 p1 mI mL
set_option maxRecDepth 100000 in
set_option maxHeartbeats 4000000 in
theorem j_Mo_pieceEnd_b24 {Γ : tm_G} {ex : List tm_Sh} {av : List Value} {X0 : tm_X} {r : Int32 × tm_I × tm_L} (C : tm_C Γ ty_Mo_pieceEnd.1.cls ty_Mo_pieceEnd.2.1 ty_Mo_pieceEnd.2.2.1) (G : tm_Γ ty_Mo_pieceEnd 0 0 0 0 av X0 (tm_is (some (.int r.1)) (sh0 ++ ex, r.2.1, r.2.2, rr)) Γ) {x1 : Int32} {x2 : Int32} {x3 : Int32} {mI : tm_I} {mL : tm_L} (hf : f_Mo_pieceEnd_b24 x1 x2 x3 mI mL = some r) : tm_T Γ 4 0 0 24 [some (.ref 39), some (.int x1), some (.int x2), some (.int x3)] [] (sh0 ++ ex) mI mL rr := by
  have Ro := G.ro
  unfold f_Mo_pieceEnd_b24 at hf
  refine tm_w C tfo_Mo to_Mo_pieceEnd 0 rfl rfl rfl trivial ?_
  cases hf
  exact tm_ei C G to_Mo_pieceEnd rfl rfl (Nat.le_refl _) rfl ⟨rfl, rfl⟩
set_option maxRecDepth 100000 in
set_option maxHeartbeats 4000000 in
theorem j_Mo_pieceEnd_l2 {Γ : tm_G} {ex : List tm_Sh} {av : List Value} {X0 : tm_X} {r : Int32 × tm_I × tm_L} (C : tm_C Γ ty_Mo_pieceEnd.1.cls ty_Mo_pieceEnd.2.1 ty_Mo_pieceEnd.2.2.1) (G : tm_Γ ty_Mo_pieceEnd 0 0 0 0 av X0 (tm_is (some (.int r.1)) (sh0 ++ ex, r.2.1, r.2.2, rr)) Γ) : ∀ (n : Nat) (x1 : Int32) (x2 : Int32) (x3 : Int32) (mI : tm_I) (mL : tm_L), f_Mo_pieceEnd_l2 n x1 x2 x3 mI mL = some r → tm_T Γ 4 0 0 2 [some (.ref 39), some (.int x1), some (.int x2), some (.int x3)] [] (sh0 ++ ex) mI mL rr := by
  have Ro := G.ro
  intro n
  induction n with
  | zero => intro x1 x2 x3 mI mL hf; cases hf
  | succ n ih =>
    intro x1 x2 x3 mI mL hf
    rw [f_Mo_pieceEnd_l2] at hf
    refine tm_w C tfo_Mo to_Mo_pieceEnd 1 rfl rfl rfl trivial ?_
    refine tm_b C to_Mo_pieceEnd rfl rfl (fun h => ?_) (fun h => ?_)
    · have hf := (if_pos h).symm.trans hf
      refine tm_wk (lv' := [some (.ref 39), some (.int x1), some (.int x2), some (.int x3)]) ⟨Or.inr rfl, Or.inr rfl, Or.inr rfl, Or.inr rfl, trivial⟩ ?_
      exact j_Mo_pieceEnd_b24 C G hf
    · have hf := (if_neg h).symm.trans hf
      obtain ⟨c1, hf⟩ := tm_iteN hf
      refine tm_w C tfo_Mo to_Mo_pieceEnd 4 rfl rfl rfl ⟨rfl, ⟨_, rfl, c1⟩, trivial⟩ ?_
      refine tm_b C to_Mo_pieceEnd rfl rfl (fun h => ?_) (fun h => ?_)
      · have hf := (if_pos h).symm.trans hf
        refine tm_wk (lv' := [some (.ref 39), some (.int x1), some (.int x2), some (.int x3)]) ⟨Or.inr rfl, Or.inr rfl, Or.inr rfl, Or.inr rfl, trivial⟩ ?_
        exact j_Mo_pieceEnd_b24 C G hf
      · have hf := (if_neg h).symm.trans hf
        refine tm_w C tfo_Mo to_Mo_pieceEnd 1 rfl rfl rfl trivial ?_
        refine tm_wk (lv' := [some (.ref 39), some (.int x1), some (.int x2), some (.int (x3 + (1 : Int32)))]) ⟨Or.inr rfl, Or.inr rfl, Or.inr rfl, Or.inr rfl, trivial⟩ ?_
        exact ih _ _ _ _ _ hf
set_option maxRecDepth 100000 in
set_option maxHeartbeats 4000000 in
theorem j_Mo_pieceEnd_b0 {Γ : tm_G} {ex : List tm_Sh} {av : List Value} {X0 : tm_X} {r : Int32 × tm_I × tm_L} (C : tm_C Γ ty_Mo_pieceEnd.1.cls ty_Mo_pieceEnd.2.1 ty_Mo_pieceEnd.2.2.1) (G : tm_Γ ty_Mo_pieceEnd 0 0 0 0 av X0 (tm_is (some (.int r.1)) (sh0 ++ ex, r.2.1, r.2.2, rr)) Γ) {x1 : Int32} {x2 : Int32} {mI : tm_I} {mL : tm_L} (hf : f_Mo_pieceEnd_b0 x1 x2 mI mL = some r) : tm_T Γ 4 0 0 0 [some (.ref 39), some (.int x1), some (.int x2), none] [] (sh0 ++ ex) mI mL rr := by
  have Ro := G.ro
  unfold f_Mo_pieceEnd_b0 at hf
  refine tm_w C tfo_Mo to_Mo_pieceEnd 1 rfl rfl rfl trivial ?_
  refine tm_wk (lv' := [some (.ref 39), some (.int x1), some (.int x2), some (.int x1)]) ⟨Or.inr rfl, Or.inr rfl, Or.inr rfl, Or.inr rfl, trivial⟩ ?_
  exact j_Mo_pieceEnd_l2 C G _ _ _ _ _ _ hf
set_option maxRecDepth 100000 in
theorem ct_Mo_pieceEnd {ex : List tm_Sh} {p0 : Int32} {p1 : Int32} {mI : tm_I} {mL : tm_L} {r : Int32 × tm_I × tm_L} (hf : f_Mo_pieceEnd p0 p1 mI mL = some r) : tm_M ty_Mo_pieceEnd 0 0 0 0 [.ref 39, .int p0, .int p1] (sh0 ++ ex, mI, mL, rr) (tm_is (some (.int r.1)) (sh0 ++ ex, r.2.1, r.2.2, rr)) := by
  refine tm_body (by decide) (Nat.le_of_ble_eq_true rfl) fun Γ C G => ?_
  exact j_Mo_pieceEnd_b0 C G hf
/-! Mo_giveLine -/
def f_Mo_giveLine_b78 (x1 : Int32) (x2 : Int32) (x3 : Int32) (x4 : Int32) (x5 : Int32) (x6 : Int32) (s0 : Int32) (mI : tm_I) (mL : tm_L) : Option (Int32 × tm_I × tm_L) := if ¬ ((x5 + (14 : Int32)) < 0 ∨ 2000 ≤ Int32.toNatClampNeg (x5 + (14 : Int32))) then if ¬ ((x5 + (2 : Int32)) < 0 ∨ 2000 ≤ Int32.toNatClampNeg (x5 + (2 : Int32))) then (f_Mo_give x1 (0 : Int32) (mI 50 (Int32.toNatClampNeg (x5 + (14 : Int32)))) s0 (x2 * (mI 50 (Int32.toNatClampNeg (x5 + (2 : Int32))))) x3 x4 mI mL).bind fun v1 => if ¬ ((x5 + (11 : Int32)) < 0 ∨ 2000 ≤ Int32.toNatClampNeg (x5 + (11 : Int32))) then if ¬ ((x5 + (12 : Int32)) < 0 ∨ 2000 ≤ Int32.toNatClampNeg (x5 + (12 : Int32))) then if ¬ ((x5 + (13 : Int32)) < 0 ∨ 2000 ≤ Int32.toNatClampNeg (x5 + (13 : Int32))) then (f_Mo_have (v1.2.1 50 (Int32.toNatClampNeg (x5 + (11 : Int32)))) (v1.2.1 50 (Int32.toNatClampNeg (x5 + (12 : Int32)))) (v1.2.1 50 (Int32.toNatClampNeg (x5 + (13 : Int32)))) v1.2.1 v1.2.2).bind fun v2 => some (0, v2.2.1, v2.2.2) else none else none else none else none else none
def f_Mo_giveLine_b0 (x1 : Int32) (x2 : Int32) (x3 : Int32) (x4 : Int32) (mI : tm_I) (mL : tm_L) : Option (Int32 × tm_I × tm_L) := if ¬ ((((16 : Int32) * x1) + (1 : Int32)) < 0 ∨ 2000 ≤ Int32.toNatClampNeg (((16 : Int32) * x1) + (1 : Int32))) then if ¬ ((((16 : Int32) * x1) + (3 : Int32)) < 0 ∨ 2000 ≤ Int32.toNatClampNeg (((16 : Int32) * x1) + (3 : Int32))) then if ¬ (mI 50 (Int32.toNatClampNeg (((16 : Int32) * x1) + (3 : Int32)))) = 0 then if ¬ ((((16 : Int32) * x1) + (3 : Int32)) < 0 ∨ 2000 ≤ Int32.toNatClampNeg (((16 : Int32) * x1) + (3 : Int32))) then if ¬ (mI 50 (Int32.toNatClampNeg (((16 : Int32) * x1) + (3 : Int32)))) = (1 : Int32) then if ¬ ((((16 : Int32) * x1) + (4 : Int32)) < 0 ∨ 2000 ≤ Int32.toNatClampNeg (((16 : Int32) * x1) + (4 : Int32))) then f_Mo_giveLine_b78 x1 x2 x3 x4 ((16 : Int32) * x1) ((mI 50 (Int32.toNatClampNeg (((16 : Int32) * x1) + (1 : Int32)))) - x4) ((mI 50 (Int32.toNatClampNeg (((16 : Int32) * x1) + (4 : Int32)))) * (((mI 50 (Int32.toNatClampNeg (((16 : Int32) * x1) + (1 : Int32)))) - x4) / (2 : Int32))) mI mL else none else if ¬ ((((16 : Int32) * x1) + (4 : Int32)) < 0 ∨ 2000 ≤ Int32.toNatClampNeg (((16 : Int32) * x1) + (4 : Int32))) then f_Mo_giveLine_b78 x1 x2 x3 x4 ((16 : Int32) * x1) ((mI 50 (Int32.toNatClampNeg (((16 : Int32) * x1) + (1 : Int32)))) - x4) ((mI 50 (Int32.toNatClampNeg (((16 : Int32) * x1) + (4 : Int32)))) * ((mI 50 (Int32.toNatClampNeg (((16 : Int32) * x1) + (1 : Int32)))) - x4)) mI mL else none else none else f_Mo_giveLine_b78 x1 x2 x3 x4 ((16 : Int32) * x1) ((mI 50 (Int32.toNatClampNeg (((16 : Int32) * x1) + (1 : Int32)))) - x4) (0 : Int32) mI mL else none else none
abbrev f_Mo_giveLine (p0 : Int32) (p1 : Int32) (p2 : Int32) (p3 : Int32) (mI : tm_I) (mL : tm_L) : Option (Int32 × tm_I × tm_L) := f_Mo_giveLine_b0 p0 p1 p2 p3 mI mL
set_option maxRecDepth 100000 in
set_option maxHeartbeats 4000000 in
theorem j_Mo_giveLine_b78 {Γ : tm_G} {ex : List tm_Sh} {av : List Value} {X0 : tm_X} {r : Int32 × tm_I × tm_L} (C : tm_C Γ ty_Mo_giveLine.1.cls ty_Mo_giveLine.2.1 ty_Mo_giveLine.2.2.1) (G : tm_Γ ty_Mo_giveLine 3 71 0 0 av X0 (tm_is none (sh0 ++ ex, r.2.1, r.2.2, rr)) Γ) {x1 : Int32} {x2 : Int32} {x3 : Int32} {x4 : Int32} {x5 : Int32} {x6 : Int32} {s0 : Int32} {mI : tm_I} {mL : tm_L} (hf : f_Mo_giveLine_b78 x1 x2 x3 x4 x5 x6 s0 mI mL = some r) : tm_T Γ 8 0 0 78 [some (.ref 39), some (.int x1), some (.int x2), some (.int x3), some (.int x4), some (.int x5), some (.int x6), none] [.int s0] (sh0 ++ ex) mI mL rr := by
  have Ro := G.ro
  unfold f_Mo_giveLine_b78 at hf
  obtain ⟨c1, hf⟩ := tm_iteN hf
  obtain ⟨c2, hf⟩ := tm_iteN hf
  refine tm_w C tfo_Mo to_Mo_giveLine 20 rfl rfl rfl ⟨rfl, ⟨_, rfl, c1⟩, rfl, ⟨_, rfl, c2⟩, trivial⟩ ?_
  obtain ⟨v1, hv1, hf⟩ := Option.bind_eq_some_iff.mp hf
  refine tm_cV C Ro to_Mo_giveLine tl_Mo_161 rfl (ct_Mo_give hv1) rfl rfl rfl rfl rfl rfl rfl (Nat.le_refl _) (Nat.le_refl _) ?_
  obtain ⟨c3, hf⟩ := tm_iteN hf
  obtain ⟨c4, hf⟩ := tm_iteN hf
  obtain ⟨c5, hf⟩ := tm_iteN hf
  refine tm_w C tfo_Mo to_Mo_giveLine 18 rfl rfl rfl ⟨rfl, ⟨_, rfl, c3⟩, rfl, ⟨_, rfl, c4⟩, rfl, ⟨_, rfl, c5⟩, trivial⟩ ?_
  obtain ⟨v2, hv2, hf⟩ := Option.bind_eq_some_iff.mp hf
  refine tm_cV C Ro to_Mo_giveLine tl_Mo_165 rfl (ct_Mo_have hv2) rfl rfl rfl rfl rfl rfl rfl (Nat.le_refl _) (Nat.le_refl _) ?_
  cases hf
  exact tm_ev C G to_Mo_giveLine rfl rfl (Nat.le_refl _) ⟨rfl, rfl⟩
set_option maxRecDepth 100000 in
set_option maxHeartbeats 4000000 in
theorem j_Mo_giveLine_b0 {Γ : tm_G} {ex : List tm_Sh} {av : List Value} {X0 : tm_X} {r : Int32 × tm_I × tm_L} (C : tm_C Γ ty_Mo_giveLine.1.cls ty_Mo_giveLine.2.1 ty_Mo_giveLine.2.2.1) (G : tm_Γ ty_Mo_giveLine 3 71 0 0 av X0 (tm_is none (sh0 ++ ex, r.2.1, r.2.2, rr)) Γ) {x1 : Int32} {x2 : Int32} {x3 : Int32} {x4 : Int32} {mI : tm_I} {mL : tm_L} (hf : f_Mo_giveLine_b0 x1 x2 x3 x4 mI mL = some r) : tm_T Γ 8 0 0 0 [some (.ref 39), some (.int x1), some (.int x2), some (.int x3), some (.int x4), none, none, none] [] (sh0 ++ ex) mI mL rr := by
  have Ro := G.ro
  unfold f_Mo_giveLine_b0 at hf
  obtain ⟨c6, hf⟩ := tm_iteN hf
  obtain ⟨c7, hf⟩ := tm_iteN hf
  refine tm_w C tfo_Mo to_Mo_giveLine 18 rfl rfl rfl ⟨rfl, ⟨_, rfl, c6⟩, rfl, ⟨_, rfl, c7⟩, trivial⟩ ?_
  refine tm_b C to_Mo_giveLine rfl rfl (fun h => ?_) (fun h => ?_)
  · have hf := (if_pos h).symm.trans hf
    obtain ⟨c8, hf⟩ := tm_iteN hf
    refine tm_w C tfo_Mo to_Mo_giveLine 6 rfl rfl rfl ⟨rfl, ⟨_, rfl, c8⟩, trivial⟩ ?_
    refine tm_b C to_Mo_giveLine rfl rfl (fun h => ?_) (fun h => ?_)
    · have hf := (if_pos h).symm.trans hf
      obtain ⟨c9, hf⟩ := tm_iteN hf
      refine tm_w C tfo_Mo to_Mo_giveLine 9 rfl rfl rfl ⟨rfl, ⟨_, rfl, c9⟩, (by decide), trivial⟩ ?_
      refine tm_wk (lv' := [some (.ref 39), some (.int x1), some (.int x2), some (.int x3), some (.int x4), some (.int ((16 : Int32) * x1)), some (.int ((mI 50 (Int32.toNatClampNeg (((16 : Int32) * x1) + (1 : Int32)))) - x4)), none]) ⟨Or.inr rfl, Or.inr rfl, Or.inr rfl, Or.inr rfl, Or.inr rfl, Or.inr rfl, Or.inr rfl, Or.inl rfl, trivial⟩ ?_
      exact j_Mo_giveLine_b78 C G hf
    · have hf := (if_neg h).symm.trans hf
      obtain ⟨c10, hf⟩ := tm_iteN hf
      refine tm_w C tfo_Mo to_Mo_giveLine 8 rfl rfl rfl ⟨rfl, ⟨_, rfl, c10⟩, trivial⟩ ?_
      refine tm_wk (lv' := [some (.ref 39), some (.int x1), some (.int x2), some (.int x3), some (.int x4), some (.int ((16 : Int32) * x1)), some (.int ((mI 50 (Int32.toNatClampNeg (((16 : Int32) * x1) + (1 : Int32)))) - x4)), none]) ⟨Or.inr rfl, Or.inr rfl, Or.inr rfl, Or.inr rfl, Or.inr rfl, Or.inr rfl, Or.inr rfl, Or.inl rfl, trivial⟩ ?_
      exact j_Mo_giveLine_b78 C G hf
  · have hf := (if_neg h).symm.trans hf
    refine tm_w C tfo_Mo to_Mo_giveLine 1 rfl rfl rfl trivial ?_
    refine tm_wk (lv' := [some (.ref 39), some (.int x1), some (.int x2), some (.int x3), some (.int x4), some (.int ((16 : Int32) * x1)), some (.int ((mI 50 (Int32.toNatClampNeg (((16 : Int32) * x1) + (1 : Int32)))) - x4)), none]) ⟨Or.inr rfl, Or.inr rfl, Or.inr rfl, Or.inr rfl, Or.inr rfl, Or.inr rfl, Or.inr rfl, Or.inl rfl, trivial⟩ ?_
    exact j_Mo_giveLine_b78 C G hf
set_option maxRecDepth 100000 in
theorem ct_Mo_giveLine {ex : List tm_Sh} {p0 : Int32} {p1 : Int32} {p2 : Int32} {p3 : Int32} {mI : tm_I} {mL : tm_L} {r : Int32 × tm_I × tm_L} (hf : f_Mo_giveLine p0 p1 p2 p3 mI mL = some r) : tm_M ty_Mo_giveLine 3 71 0 0 [.ref 39, .int p0, .int p1, .int p2, .int p3] (sh0 ++ ex, mI, mL, rr) (tm_is none (sh0 ++ ex, r.2.1, r.2.2, rr)) := by
  refine tm_body (by decide) (Nat.le_of_ble_eq_true rfl) fun Γ C G => ?_
  exact j_Mo_giveLine_b0 C G hf
/-! Mo_makeLines -/
def f_Mo_makeLines_b149 (r34 : Int32 → Int32 → Int32 → Int32 → Int32 → Int32 → tm_I → tm_L → Option (Int32 × tm_I × tm_L)) (x1 : Int32) (x2 : Int32) (x3 : Int32) (x4 : Int32) (x5 : Int32) (x6 : Int32) (x7 : Int32) (x8 : Int32) (x9 : Int32) (s0 : Int32) (mI : tm_I) (mL : tm_L) : Option (Int32 × tm_I × tm_L) := r34 x1 x2 x3 x4 x9 s0 mI mL
def f_Mo_makeLines_b121 (r34 : Int32 → Int32 → Int32 → Int32 → Int32 → Int32 → tm_I → tm_L → Option (Int32 × tm_I × tm_L)) (x1 : Int32) (x2 : Int32) (x3 : Int32) (x4 : Int32) (x5 : Int32) (x6 : Int32) (x7 : Int32) (x8 : Int32) (x9 : Int32) (mI : tm_I) (mL : tm_L) : Option (Int32 × tm_I × tm_L) := (f_Mo_giveLine x1 x4 x5 (x8 - x5) mI mL).bind fun v1 => if x2 < x9 then f_Mo_makeLines_b149 r34 x1 x2 x3 (x4 + (1 : Int32)) x5 x6 x7 x8 x9 (0 : Int32) v1.2.1 v1.2.2 else f_Mo_makeLines_b149 r34 x1 x2 x3 (x4 + (1 : Int32)) x5 x6 x7 x8 x9 (1 : Int32) v1.2.1 v1.2.2
def f_Mo_makeLines_b98 (r34 : Int32 → Int32 → Int32 → Int32 → Int32 → Int32 → tm_I → tm_L → Option (Int32 × tm_I × tm_L)) (x1 : Int32) (x2 : Int32) (x3 : Int32) (x4 : Int32) (x5 : Int32) (x6 : Int32) (x7 : Int32) (x8 : Int32) (x9 : Int32) (mI : tm_I) (mL : tm_L) : Option (Int32 × tm_I × tm_L) := if x5 ≤ x8 then f_Mo_makeLines_b121 r34 x1 x2 x3 x4 x5 x6 x7 x8 (x8 + (1 : Int32)) mI mL else f_Mo_makeLines_b121 r34 x1 x2 x3 x4 x5 x6 x7 (x5 + x3) (x5 + x3) mI mL
def f_Mo_makeLines_l73 (r34 : Int32 → Int32 → Int32 → Int32 → Int32 → Int32 → tm_I → tm_L → Option (Int32 × tm_I × tm_L)) : Nat → Int32 → Int32 → Int32 → Int32 → Int32 → Int32 → Int32 → Int32 → Int32 → tm_I → tm_L → Option (Int32 × tm_I × tm_L)
  | 0, _, _, _, _, _, _, _, _, _, _, _ => none
  | n + 1, x1, x2, x3, x4, x5, x6, x7, x8, x9, mI, mL => if x8 < x5 then f_Mo_makeLines_b98 r34 x1 x2 x3 x4 x5 x6 x7 x8 x9 mI mL else if ¬ (x8 < 0 ∨ 200 ≤ Int32.toNatClampNeg x8) then if (mI 53 (Int32.toNatClampNeg x8)) = (32 : Int32) then f_Mo_makeLines_b98 r34 x1 x2 x3 x4 x5 x6 x7 x8 x9 mI mL else (f_Mo_makeLines_l73 r34 n) x1 x2 x3 x4 x5 x6 x7 (x8 + (-1 : Int32)) x9 mI mL else none
def f_Mo_makeLines_l34 : Nat → Int32 → Int32 → Int32 → Int32 → Int32 → Int32 → tm_I → tm_L → Option (Int32 × tm_I × tm_L)
  | 0, _, _, _, _, _, _, _, _ => none
  | n + 1, x1, x2, x3, x4, x5, x6, mI, mL => if x6 = 0 then some (0, mI, mL) else (f_Mo_pieceEnd x5 x2 mI mL).bind fun v2 => if (v2.1 - x5) ≤ x3 then f_Mo_makeLines_b121 (f_Mo_makeLines_l34 n) x1 x2 x3 x4 x5 x6 v2.1 v2.1 (v2.1 + (1 : Int32)) v2.2.1 v2.2.2 else f_Mo_makeLines_l73 (f_Mo_makeLines_l34 n) tm_F x1 x2 x3 x4 x5 x6 v2.1 (x5 + x3) (v2.1 + (1 : Int32)) v2.2.1 v2.2.2
def f_Mo_makeLines_b0 (x1 : Int32) (mI : tm_I) (mL : tm_L) : Option (Int32 × tm_I × tm_L) := if ¬ ((((16 : Int32) * x1) + (10 : Int32)) < 0 ∨ 2000 ≤ Int32.toNatClampNeg (((16 : Int32) * x1) + (10 : Int32))) then if ¬ ((((16 : Int32) * x1) + (1 : Int32)) < 0 ∨ 2000 ≤ Int32.toNatClampNeg (((16 : Int32) * x1) + (1 : Int32))) then f_Mo_makeLines_l34 tm_F x1 (mI 50 (Int32.toNatClampNeg (((16 : Int32) * x1) + (10 : Int32)))) (mI 50 (Int32.toNatClampNeg (((16 : Int32) * x1) + (1 : Int32)))) (0 : Int32) (0 : Int32) (1 : Int32) mI mL else none else none
abbrev f_Mo_makeLines (p0 : Int32) (mI : tm_I) (mL : tm_L) : Option (Int32 × tm_I × tm_L) := f_Mo_makeLines_b0 p0 mI mL
set_option maxRecDepth 100000 in
set_option maxHeartbeats 4000000 in
theorem j_Mo_makeLines_b149 {Γ : tm_G} {ex : List tm_Sh} {av : List Value} {X0 : tm_X} {r34 : Int32 → Int32 → Int32 → Int32 → Int32 → Int32 → tm_I → tm_L → Option (Int32 × tm_I × tm_L)} {r : Int32 × tm_I × tm_L} (C : tm_C Γ ty_Mo_makeLines.1.cls ty_Mo_makeLines.2.1 ty_Mo_makeLines.2.2.1) (G : tm_Γ ty_Mo_makeLines 4 98 0 0 av X0 (tm_is none (sh0 ++ ex, r.2.1, r.2.2, rr)) Γ) (H34 : ∀ (x1 : Int32) (x2 : Int32) (x3 : Int32) (x4 : Int32) (x5 : Int32) (x6 : Int32) (mI : tm_I) (mL : tm_L), r34 x1 x2 x3 x4 x5 x6 mI mL = some r → tm_T Γ 10 0 0 34 [some (.ref 39), some (.int x1), some (.int x2), some (.int x3), some (.int x4), some (.int x5), some (.int x6), none, none, none] [] (sh0 ++ ex) mI mL rr) {x1 : Int32} {x2 : Int32} {x3 : Int32} {x4 : Int32} {x5 : Int32} {x6 : Int32} {x7 : Int32} {x8 : Int32} {x9 : Int32} {s0 : Int32} {mI : tm_I} {mL : tm_L} (hf : f_Mo_makeLines_b149 r34 x1 x2 x3 x4 x5 x6 x7 x8 x9 s0 mI mL = some r) : tm_T Γ 10 0 0 149 [some (.ref 39), some (.int x1), some (.int x2), some (.int x3), some (.int x4), some (.int x5), some (.int x6), some (.int x7), some (.int x8), some (.int x9)] [.int s0] (sh0 ++ ex) mI mL rr := by
  have Ro := G.ro
  unfold f_Mo_makeLines_b149 at hf
  refine tm_w C tfo_Mo to_Mo_makeLines 3 rfl rfl rfl trivial ?_
  refine tm_wk (lv' := [some (.ref 39), some (.int x1), some (.int x2), some (.int x3), some (.int x4), some (.int x9), some (.int s0), none, none, none]) ⟨Or.inr rfl, Or.inr rfl, Or.inr rfl, Or.inr rfl, Or.inr rfl, Or.inr rfl, Or.inr rfl, Or.inl rfl, Or.inl rfl, Or.inl rfl, trivial⟩ ?_
  exact H34 _ _ _ _ _ _ _ _ hf
set_option maxRecDepth 100000 in
set_option maxHeartbeats 4000000 in
theorem j_Mo_makeLines_b121 {Γ : tm_G} {ex : List tm_Sh} {av : List Value} {X0 : tm_X} {r34 : Int32 → Int32 → Int32 → Int32 → Int32 → Int32 → tm_I → tm_L → Option (Int32 × tm_I × tm_L)} {r : Int32 × tm_I × tm_L} (C : tm_C Γ ty_Mo_makeLines.1.cls ty_Mo_makeLines.2.1 ty_Mo_makeLines.2.2.1) (G : tm_Γ ty_Mo_makeLines 4 98 0 0 av X0 (tm_is none (sh0 ++ ex, r.2.1, r.2.2, rr)) Γ) (H34 : ∀ (x1 : Int32) (x2 : Int32) (x3 : Int32) (x4 : Int32) (x5 : Int32) (x6 : Int32) (mI : tm_I) (mL : tm_L), r34 x1 x2 x3 x4 x5 x6 mI mL = some r → tm_T Γ 10 0 0 34 [some (.ref 39), some (.int x1), some (.int x2), some (.int x3), some (.int x4), some (.int x5), some (.int x6), none, none, none] [] (sh0 ++ ex) mI mL rr) {x1 : Int32} {x2 : Int32} {x3 : Int32} {x4 : Int32} {x5 : Int32} {x6 : Int32} {x7 : Int32} {x8 : Int32} {x9 : Int32} {mI : tm_I} {mL : tm_L} (hf : f_Mo_makeLines_b121 r34 x1 x2 x3 x4 x5 x6 x7 x8 x9 mI mL = some r) : tm_T Γ 10 0 0 121 [some (.ref 39), some (.int x1), some (.int x2), some (.int x3), some (.int x4), some (.int x5), some (.int x6), some (.int x7), some (.int x8), some (.int x9)] [] (sh0 ++ ex) mI mL rr := by
  have Ro := G.ro
  unfold f_Mo_makeLines_b121 at hf
  refine tm_w C tfo_Mo to_Mo_makeLines 6 rfl rfl rfl trivial ?_
  obtain ⟨v1, hv1, hf⟩ := Option.bind_eq_some_iff.mp hf
  refine tm_cV C Ro to_Mo_makeLines tl_Mo_176 rfl (ct_Mo_giveLine hv1) rfl rfl rfl rfl rfl rfl rfl (Nat.le_refl _) (Nat.le_refl _) ?_
  refine tm_w C tfo_Mo to_Mo_makeLines 2 rfl rfl rfl trivial ?_
  refine tm_b C to_Mo_makeLines rfl rfl (fun h => ?_) (fun h => ?_)
  · have hf := (if_pos h).symm.trans hf
    refine tm_w C tfo_Mo to_Mo_makeLines 0 rfl rfl rfl trivial ?_
    refine tm_wk (lv' := [some (.ref 39), some (.int x1), some (.int x2), some (.int x3), some (.int (x4 + (1 : Int32))), some (.int x5), some (.int x6), some (.int x7), some (.int x8), some (.int x9)]) ⟨Or.inr rfl, Or.inr rfl, Or.inr rfl, Or.inr rfl, Or.inr rfl, Or.inr rfl, Or.inr rfl, Or.inr rfl, Or.inr rfl, Or.inr rfl, trivial⟩ ?_
    exact j_Mo_makeLines_b149 C G (H34) hf
  · have hf := (if_neg h).symm.trans hf
    refine tm_w C tfo_Mo to_Mo_makeLines 1 rfl rfl rfl trivial ?_
    refine tm_wk (lv' := [some (.ref 39), some (.int x1), some (.int x2), some (.int x3), some (.int (x4 + (1 : Int32))), some (.int x5), some (.int x6), some (.int x7), some (.int x8), some (.int x9)]) ⟨Or.inr rfl, Or.inr rfl, Or.inr rfl, Or.inr rfl, Or.inr rfl, Or.inr rfl, Or.inr rfl, Or.inr rfl, Or.inr rfl, Or.inr rfl, trivial⟩ ?_
    exact j_Mo_makeLines_b149 C G (H34) hf
set_option maxRecDepth 100000 in
set_option maxHeartbeats 4000000 in
theorem j_Mo_makeLines_b98 {Γ : tm_G} {ex : List tm_Sh} {av : List Value} {X0 : tm_X} {r34 : Int32 → Int32 → Int32 → Int32 → Int32 → Int32 → tm_I → tm_L → Option (Int32 × tm_I × tm_L)} {r : Int32 × tm_I × tm_L} (C : tm_C Γ ty_Mo_makeLines.1.cls ty_Mo_makeLines.2.1 ty_Mo_makeLines.2.2.1) (G : tm_Γ ty_Mo_makeLines 4 98 0 0 av X0 (tm_is none (sh0 ++ ex, r.2.1, r.2.2, rr)) Γ) (H34 : ∀ (x1 : Int32) (x2 : Int32) (x3 : Int32) (x4 : Int32) (x5 : Int32) (x6 : Int32) (mI : tm_I) (mL : tm_L), r34 x1 x2 x3 x4 x5 x6 mI mL = some r → tm_T Γ 10 0 0 34 [some (.ref 39), some (.int x1), some (.int x2), some (.int x3), some (.int x4), some (.int x5), some (.int x6), none, none, none] [] (sh0 ++ ex) mI mL rr) {x1 : Int32} {x2 : Int32} {x3 : Int32} {x4 : Int32} {x5 : Int32} {x6 : Int32} {x7 : Int32} {x8 : Int32} {x9 : Int32} {mI : tm_I} {mL : tm_L} (hf : f_Mo_makeLines_b98 r34 x1 x2 x3 x4 x5 x6 x7 x8 x9 mI mL = some r) : tm_T Γ 10 0 0 98 [some (.ref 39), some (.int x1), some (.int x2), some (.int x3), some (.int x4), some (.int x5), some (.int x6), some (.int x7), some (.int x8), some (.int x9)] [] (sh0 ++ ex) mI mL rr := by
  have Ro := G.ro
  unfold f_Mo_makeLines_b98 at hf
  refine tm_w C tfo_Mo to_Mo_makeLines 5 rfl rfl rfl trivial ?_
  refine tm_b C to_Mo_makeLines rfl rfl (fun h => ?_) (fun h => ?_)
  · have hf := (if_pos h).symm.trans hf
    refine tm_wk (lv' := [some (.ref 39), some (.int x1), some (.int x2), some (.int x3), some (.int x4), some (.int x5), some (.int x6), some (.int x7), some (.int x8), some (.int (x8 + (1 : Int32)))]) ⟨Or.inr rfl, Or.inr rfl, Or.inr rfl, Or.inr rfl, Or.inr rfl, Or.inr rfl, Or.inr rfl, Or.inr rfl, Or.inr rfl, Or.inr rfl, trivial⟩ ?_
    exact j_Mo_makeLines_b121 C G (H34) hf
  · have hf := (if_neg h).symm.trans hf
    refine tm_w C tfo_Mo to_Mo_makeLines 5 rfl rfl rfl trivial ?_
    refine tm_wk (lv' := [some (.ref 39), some (.int x1), some (.int x2), some (.int x3), some (.int x4), some (.int x5), some (.int x6), some (.int x7), some (.int (x5 + x3)), some (.int (x5 + x3))]) ⟨Or.inr rfl, Or.inr rfl, Or.inr rfl, Or.inr rfl, Or.inr rfl, Or.inr rfl, Or.inr rfl, Or.inr rfl, Or.inr rfl, Or.inr rfl, trivial⟩ ?_
    exact j_Mo_makeLines_b121 C G (H34) hf
set_option maxRecDepth 100000 in
set_option maxHeartbeats 4000000 in
theorem j_Mo_makeLines_l73 {Γ : tm_G} {ex : List tm_Sh} {av : List Value} {X0 : tm_X} {r34 : Int32 → Int32 → Int32 → Int32 → Int32 → Int32 → tm_I → tm_L → Option (Int32 × tm_I × tm_L)} {r : Int32 × tm_I × tm_L} (C : tm_C Γ ty_Mo_makeLines.1.cls ty_Mo_makeLines.2.1 ty_Mo_makeLines.2.2.1) (G : tm_Γ ty_Mo_makeLines 4 98 0 0 av X0 (tm_is none (sh0 ++ ex, r.2.1, r.2.2, rr)) Γ) (H34 : ∀ (x1 : Int32) (x2 : Int32) (x3 : Int32) (x4 : Int32) (x5 : Int32) (x6 : Int32) (mI : tm_I) (mL : tm_L), r34 x1 x2 x3 x4 x5 x6 mI mL = some r → tm_T Γ 10 0 0 34 [some (.ref 39), some (.int x1), some (.int x2), some (.int x3), some (.int x4), some (.int x5), some (.int x6), none, none, none] [] (sh0 ++ ex) mI mL rr) : ∀ (n : Nat) (x1 : Int32) (x2 : Int32) (x3 : Int32) (x4 : Int32) (x5 : Int32) (x6 : Int32) (x7 : Int32) (x8 : Int32) (x9 : Int32) (mI : tm_I) (mL : tm_L), f_Mo_makeLines_l73 r34 n x1 x2 x3 x4 x5 x6 x7 x8 x9 mI mL = some r → tm_T Γ 10 0 0 73 [some (.ref 39), some (.int x1), some (.int x2), some (.int x3), some (.int x4), some (.int x5), some (.int x6), some (.int x7), some (.int x8), some (.int x9)] [] (sh0 ++ ex) mI mL rr := by
  have Ro := G.ro
  intro n
  induction n with
  | zero => intro x1 x2 x3 x4 x5 x6 x7 x8 x9 mI mL hf; cases hf
  | succ n ih =>
    intro x1 x2 x3 x4 x5 x6 x7 x8 x9 mI mL hf
    rw [f_Mo_makeLines_l73] at hf
    refine tm_w C tfo_Mo to_Mo_makeLines 1 rfl rfl rfl trivial ?_
    refine tm_b C to_Mo_makeLines rfl rfl (fun h => ?_) (fun h => ?_)
    · have hf := (if_pos h).symm.trans hf
      refine tm_wk (lv' := [some (.ref 39), some (.int x1), some (.int x2), some (.int x3), some (.int x4), some (.int x5), some (.int x6), some (.int x7), some (.int x8), some (.int x9)]) ⟨Or.inr rfl, Or.inr rfl, Or.inr rfl, Or.inr rfl, Or.inr rfl, Or.inr rfl, Or.inr rfl, Or.inr rfl, Or.inr rfl, Or.inr rfl, trivial⟩ ?_
      exact j_Mo_makeLines_b98 C G (H34) hf
    · have hf := (if_neg h).symm.trans hf
      obtain ⟨c1, hf⟩ := tm_iteN hf
      refine tm_w C tfo_Mo to_Mo_makeLines 4 rfl rfl rfl ⟨rfl, ⟨_, rfl, c1⟩, trivial⟩ ?_
      refine tm_b C to_Mo_makeLines rfl rfl (fun h => ?_) (fun h => ?_)
      · have hf := (if_pos h).symm.trans hf
        refine tm_wk (lv' := [some (.ref 39), some (.int x1), some (.int x2), some (.int x3), some (.int x4), some (.int x5), some (.int x6), some (.int x7), some (.int x8), some (.int x9)]) ⟨Or.inr rfl, Or.inr rfl, Or.inr rfl, Or.inr rfl, Or.inr rfl, Or.inr rfl, Or.inr rfl, Or.inr rfl, Or.inr rfl, Or.inr rfl, trivial⟩ ?_
        exact j_Mo_makeLines_b98 C G (H34) hf
      · have hf := (if_neg h).symm.trans hf
        refine tm_w C tfo_Mo to_Mo_makeLines 1 rfl rfl rfl trivial ?_
        refine tm_wk (lv' := [some (.ref 39), some (.int x1), some (.int x2), some (.int x3), some (.int x4), some (.int x5), some (.int x6), some (.int x7), some (.int (x8 + (-1 : Int32))), some (.int x9)]) ⟨Or.inr rfl, Or.inr rfl, Or.inr rfl, Or.inr rfl, Or.inr rfl, Or.inr rfl, Or.inr rfl, Or.inr rfl, Or.inr rfl, Or.inr rfl, trivial⟩ ?_
        exact ih _ _ _ _ _ _ _ _ _ _ _ hf
set_option maxRecDepth 100000 in
set_option maxHeartbeats 4000000 in
theorem j_Mo_makeLines_l34 {Γ : tm_G} {ex : List tm_Sh} {av : List Value} {X0 : tm_X} {r : Int32 × tm_I × tm_L} (C : tm_C Γ ty_Mo_makeLines.1.cls ty_Mo_makeLines.2.1 ty_Mo_makeLines.2.2.1) (G : tm_Γ ty_Mo_makeLines 4 98 0 0 av X0 (tm_is none (sh0 ++ ex, r.2.1, r.2.2, rr)) Γ) : ∀ (n : Nat) (x1 : Int32) (x2 : Int32) (x3 : Int32) (x4 : Int32) (x5 : Int32) (x6 : Int32) (mI : tm_I) (mL : tm_L), f_Mo_makeLines_l34 n x1 x2 x3 x4 x5 x6 mI mL = some r → tm_T Γ 10 0 0 34 [some (.ref 39), some (.int x1), some (.int x2), some (.int x3), some (.int x4), some (.int x5), some (.int x6), none, none, none] [] (sh0 ++ ex) mI mL rr := by
  have Ro := G.ro
  intro n
  induction n with
  | zero => intro x1 x2 x3 x4 x5 x6 mI mL hf; cases hf
  | succ n ih =>
    intro x1 x2 x3 x4 x5 x6 mI mL hf
    rw [f_Mo_makeLines_l34] at hf
    refine tm_w C tfo_Mo to_Mo_makeLines 0 rfl rfl rfl trivial ?_
    refine tm_b C to_Mo_makeLines rfl rfl (fun h => ?_) (fun h => ?_)
    · have hf := (if_pos h).symm.trans hf
      cases hf
      exact tm_ev C G to_Mo_makeLines rfl rfl (Nat.le_refl _) ⟨rfl, rfl⟩
    · have hf := (if_neg h).symm.trans hf
      refine tm_w C tfo_Mo to_Mo_makeLines 2 rfl rfl rfl trivial ?_
      obtain ⟨v2, hv2, hf⟩ := Option.bind_eq_some_iff.mp hf
      refine tm_cV C Ro to_Mo_makeLines tl_Mo_173 rfl (ct_Mo_pieceEnd hv2) rfl rfl rfl rfl rfl rfl rfl (Nat.le_refl _) (Nat.le_refl _) ?_
      refine tm_w C tfo_Mo to_Mo_makeLines 10 rfl rfl rfl trivial ?_
      refine tm_b C to_Mo_makeLines rfl rfl (fun h => ?_) (fun h => ?_)
      · have hf := (if_pos h).symm.trans hf
        refine tm_wk (lv' := [some (.ref 39), some (.int x1), some (.int x2), some (.int x3), some (.int x4), some (.int x5), some (.int x6), some (.int v2.1), some (.int v2.1), some (.int (v2.1 + (1 : Int32)))]) ⟨Or.inr rfl, Or.inr rfl, Or.inr rfl, Or.inr rfl, Or.inr rfl, Or.inr rfl, Or.inr rfl, Or.inr rfl, Or.inr rfl, Or.inr rfl, trivial⟩ ?_
        exact j_Mo_makeLines_b121 C G (ih) hf
      · have hf := (if_neg h).symm.trans hf
        refine tm_w C tfo_Mo to_Mo_makeLines 3 rfl rfl rfl trivial ?_
        refine tm_wk (lv' := [some (.ref 39), some (.int x1), some (.int x2), some (.int x3), some (.int x4), some (.int x5), some (.int x6), some (.int v2.1), some (.int (x5 + x3)), some (.int (v2.1 + (1 : Int32)))]) ⟨Or.inr rfl, Or.inr rfl, Or.inr rfl, Or.inr rfl, Or.inr rfl, Or.inr rfl, Or.inr rfl, Or.inr rfl, Or.inr rfl, Or.inr rfl, trivial⟩ ?_
        exact j_Mo_makeLines_l73 C G (ih) _ _ _ _ _ _ _ _ _ _ _ _ hf
set_option maxRecDepth 100000 in
set_option maxHeartbeats 4000000 in
theorem j_Mo_makeLines_b0 {Γ : tm_G} {ex : List tm_Sh} {av : List Value} {X0 : tm_X} {r : Int32 × tm_I × tm_L} (C : tm_C Γ ty_Mo_makeLines.1.cls ty_Mo_makeLines.2.1 ty_Mo_makeLines.2.2.1) (G : tm_Γ ty_Mo_makeLines 4 98 0 0 av X0 (tm_is none (sh0 ++ ex, r.2.1, r.2.2, rr)) Γ) {x1 : Int32} {mI : tm_I} {mL : tm_L} (hf : f_Mo_makeLines_b0 x1 mI mL = some r) : tm_T Γ 10 0 0 0 [some (.ref 39), some (.int x1), none, none, none, none, none, none, none, none] [] (sh0 ++ ex) mI mL rr := by
  have Ro := G.ro
  unfold f_Mo_makeLines_b0 at hf
  obtain ⟨c2, hf⟩ := tm_iteN hf
  obtain ⟨c3, hf⟩ := tm_iteN hf
  refine tm_w C tfo_Mo to_Mo_makeLines 23 rfl rfl rfl ⟨rfl, ⟨_, rfl, c2⟩, rfl, ⟨_, rfl, c3⟩, trivial⟩ ?_
  refine tm_wk (lv' := [some (.ref 39), some (.int x1), some (.int (mI 50 (Int32.toNatClampNeg (((16 : Int32) * x1) + (10 : Int32))))), some (.int (mI 50 (Int32.toNatClampNeg (((16 : Int32) * x1) + (1 : Int32))))), some (.int (0 : Int32)), some (.int (0 : Int32)), some (.int (1 : Int32)), none, none, none]) ⟨Or.inr rfl, Or.inr rfl, Or.inr rfl, Or.inr rfl, Or.inr rfl, Or.inr rfl, Or.inr rfl, Or.inl rfl, Or.inl rfl, Or.inl rfl, trivial⟩ ?_
  exact j_Mo_makeLines_l34 C G _ _ _ _ _ _ _ _ _ hf
set_option maxRecDepth 100000 in
theorem ct_Mo_makeLines {ex : List tm_Sh} {p0 : Int32} {mI : tm_I} {mL : tm_L} {r : Int32 × tm_I × tm_L} (hf : f_Mo_makeLines p0 mI mL = some r) : tm_M ty_Mo_makeLines 4 98 0 0 [.ref 39, .int p0] (sh0 ++ ex, mI, mL, rr) (tm_is none (sh0 ++ ex, r.2.1, r.2.2, rr)) := by
  refine tm_body (by decide) (Nat.le_of_ble_eq_true rfl) fun Γ C G => ?_
  exact j_Mo_makeLines_b0 C G hf
/-! Mo_makeField -/
def f_Mo_makeField_b431 (x1 : Int32) (x2 : Int32) (x3 : Int32) (x4 : Int32) (x5 : Int32) (x6 : Int32) (mI : tm_I) (mL : tm_L) : Option (Int32 × tm_I × tm_L) := some (0, mI, mL)
def f_Mo_makeField_b428 (x1 : Int32) (x2 : Int32) (x3 : Int32) (x4 : Int32) (x5 : Int32) (x6 : Int32) (s1 : Int32) (mI : tm_I) (mL : tm_L) : Option (Int32 × tm_I × tm_L) := if s1 = 0 ∨ s1 = 1 then f_Mo_makeField_b431 x1 x2 x3 x4 x5 x6 (tm_up mI 39 32 s1) mL else none
def f_Mo_makeField_b423 (x1 : Int32) (x2 : Int32) (x3 : Int32) (x4 : Int32) (x5 : Int32) (x6 : Int32) (mI : tm_I) (mL : tm_L) : Option (Int32 × tm_I × tm_L) := f_Mo_makeField_b428 x1 x2 x3 x4 x5 x6 (1 : Int32) mI mL
def f_Mo_makeField_b427 (x1 : Int32) (x2 : Int32) (x3 : Int32) (x4 : Int32) (x5 : Int32) (x6 : Int32) (mI : tm_I) (mL : tm_L) : Option (Int32 × tm_I × tm_L) := f_Mo_makeField_b428 x1 x2 x3 x4 x5 x6 (0 : Int32) mI mL
def f_Mo_makeField_b337 (x1 : Int32) (x2 : Int32) (x3 : Int32) (x4 : Int32) (x5 : Int32) (x6 : Int32) (mI : tm_I) (mL : tm_L) : Option (Int32 × tm_I × tm_L) := if ¬ (x3 < 0 ∨ 2000 ≤ Int32.toNatClampNeg x3) then (f_Mo_give x1 (mI 50 (Int32.toNatClampNeg x3)) (0 : Int32) (0 : Int32) (0 : Int32) (0 : Int32) (0 : Int32) mI mL).bind fun v1 => if ¬ ((x3 + (3 : Int32)) < 0 ∨ 2000 ≤ Int32.toNatClampNeg (x3 + (3 : Int32))) then (f_Mo_have x4 x5 (v1.2.1 50 (Int32.toNatClampNeg (x3 + (3 : Int32)))) v1.2.1 v1.2.2).bind fun v2 => if ¬ (v2.2.1 39 32) = 0 then f_Mo_makeField_b423 x1 x2 x3 x4 x5 x6 v2.2.1 v2.2.2 else if ¬ (x3 < 0 ∨ 2000 ≤ Int32.toNatClampNeg x3) then if ¬ (v2.2.1 50 (Int32.toNatClampNeg x3)) = (6 : Int32) then f_Mo_makeField_b427 x1 x2 x3 x4 x5 x6 v2.2.1 v2.2.2 else if ¬ ((x3 + (5 : Int32)) < 0 ∨ 2000 ≤ Int32.toNatClampNeg (x3 + (5 : Int32))) then (f_Mo_isFar ((v2.2.1 50 (Int32.toNatClampNeg (x3 + (5 : Int32)))) + x4) v2.2.1 v2.2.2).bind fun v3 => if ¬ v3.1 = 0 then f_Mo_makeField_b423 x1 x2 x3 x4 x5 x6 v3.2.1 v3.2.2 else if ¬ ((x3 + (6 : Int32)) < 0 ∨ 2000 ≤ Int32.toNatClampNeg (x3 + (6 : Int32))) then (f_Mo_isFar ((v3.2.1 50 (Int32.toNatClampNeg (x3 + (6 : Int32)))) + x5) v3.2.1 v3.2.2).bind fun v4 => if v4.1 = 0 then f_Mo_makeField_b427 x1 x2 x3 x4 x5 x6 v4.2.1 v4.2.2 else f_Mo_makeField_b423 x1 x2 x3 x4 x5 x6 v4.2.1 v4.2.2 else none else none else none else none else none
def f_Mo_makeField_b0 (x1 : Int32) (x2 : Int32) (mI : tm_I) (mL : tm_L) : Option (Int32 × tm_I × tm_L) := if ¬ ((((16 : Int32) * x1) + (1 : Int32)) < 0 ∨ 2000 ≤ Int32.toNatClampNeg (((16 : Int32) * x1) + (1 : Int32))) then if ¬ ((((16 : Int32) * x1) + (2 : Int32)) < 0 ∨ 2000 ≤ Int32.toNatClampNeg (((16 : Int32) * x1) + (2 : Int32))) then if ¬ ((((16 : Int32) * x1) + (10 : Int32)) < 0 ∨ 2000 ≤ Int32.toNatClampNeg (((16 : Int32) * x1) + (10 : Int32))) then (f_Mo_takeCopy x1 x2 mI mL).bind fun v5 => if ¬ (((16 : Int32) * x1) < 0 ∨ 2000 ≤ Int32.toNatClampNeg ((16 : Int32) * x1)) then if (v5.2.1 50 (Int32.toNatClampNeg ((16 : Int32) * x1))) = (0 : Int32) then if ¬ ((((16 : Int32) * x1) + (4 : Int32)) < 0 ∨ 2000 ≤ Int32.toNatClampNeg (((16 : Int32) * x1) + (4 : Int32))) then (f_Mo_give x1 (0 : Int32) (v5.2.1 50 (Int32.toNatClampNeg (((16 : Int32) * x1) + (4 : Int32)))) (0 : Int32) (0 : Int32) (0 : Int32) (mI 50 (Int32.toNatClampNeg (((16 : Int32) * x1) + (10 : Int32)))) v5.2.1 v5.2.2).bind fun v6 => if ¬ ((((16 : Int32) * x1) + (3 : Int32)) < 0 ∨ 2000 ≤ Int32.toNatClampNeg (((16 : Int32) * x1) + (3 : Int32))) then (f_Mo_have (mI 50 (Int32.toNatClampNeg (((16 : Int32) * x1) + (1 : Int32)))) (mI 50 (Int32.toNatClampNeg (((16 : Int32) * x1) + (2 : Int32)))) (v6.2.1 50 (Int32.toNatClampNeg (((16 : Int32) * x1) + (3 : Int32)))) v6.2.1 v6.2.2).bind fun v7 => f_Mo_makeField_b431 x1 x2 ((16 : Int32) * x1) (mI 50 (Int32.toNatClampNeg (((16 : Int32) * x1) + (1 : Int32)))) (mI 50 (Int32.toNatClampNeg (((16 : Int32) * x1) + (2 : Int32)))) (mI 50 (Int32.toNatClampNeg (((16 : Int32) * x1) + (10 : Int32)))) v7.2.1 v7.2.2 else none else none else if (v5.2.1 50 (Int32.toNatClampNeg ((16 : Int32) * x1))) = (1 : Int32) then if ¬ ((((16 : Int32) * x1) + (3 : Int32)) < 0 ∨ 2000 ≤ Int32.toNatClampNeg (((16 : Int32) * x1) + (3 : Int32))) then (f_Mo_give x1 (1 : Int32) (v5.2.1 50 (Int32.toNatClampNeg (((16 : Int32) * x1) + (3 : Int32)))) (0 : Int32) (0 : Int32) (0 : Int32) (mI 50 (Int32.toNatClampNeg (((16 : Int32) * x1) + (10 : Int32)))) v5.2.1 v5.2.2).bind fun v8 => (f_Mo_have (mI 50 (Int32.toNatClampNeg (((16 : Int32) * x1) + (1 : Int32)))) (mI 50 (Int32.toNatClampNeg (((16 : Int32) * x1) + (2 : Int32)))) (0 : Int32) v8.2.1 v8.2.2).bind fun v9 => if ¬ ((((16 : Int32) * x1) + (4 : Int32)) < 0 ∨ 2000 ≤ Int32.toNatClampNeg (((16 : Int32) * x1) + (4 : Int32))) then if ¬ (v9.2.1 50 (Int32.toNatClampNeg (((16 : Int32) * x1) + (4 : Int32)))) = (1 : Int32) then f_Mo_makeField_b431 x1 x2 ((16 : Int32) * x1) (mI 50 (Int32.toNatClampNeg (((16 : Int32) * x1) + (1 : Int32)))) (mI 50 (Int32.toNatClampNeg (((16 : Int32) * x1) + (2 : Int32)))) (mI 50 (Int32.toNatClampNeg (((16 : Int32) * x1) + (10 : Int32)))) v9.2.1 v9.2.2 else if ¬ ((((16 : Int32) * x1) + (3 : Int32)) < 0 ∨ 2000 ≤ Int32.toNatClampNeg (((16 : Int32) * x1) + (3 : Int32))) then (f_Mo_give x1 (0 : Int32) (v9.2.1 50 (Int32.toNatClampNeg (((16 : Int32) * x1) + (3 : Int32)))) (0 : Int32) ((mI 50 (Int32.toNatClampNeg (((16 : Int32) * x1) + (2 : Int32)))) + (3 : Int32)) (0 : Int32) (mI 50 (Int32.toNatClampNeg (((16 : Int32) * x1) + (10 : Int32)))) v9.2.1 v9.2.2).bind fun v10 => if ¬ ((((16 : Int32) * x1) + (11 : Int32)) < 0 ∨ 2000 ≤ Int32.toNatClampNeg (((16 : Int32) * x1) + (11 : Int32))) then if ¬ ((((16 : Int32) * x1) + (12 : Int32)) < 0 ∨ 2000 ≤ Int32.toNatClampNeg (((16 : Int32) * x1) + (12 : Int32))) then if ¬ ((((16 : Int32) * x1) + (13 : Int32)) < 0 ∨ 2000 ≤ Int32.toNatClampNeg (((16 : Int32) * x1) + (13 : Int32))) then (f_Mo_have (v10.2.1 50 (Int32.toNatClampNeg (((16 : Int32) * x1) + (11 : Int32)))) (v10.2.1 50 (Int32.toNatClampNeg (((16 : Int32) * x1) + (12 : Int32)))) (v10.2.1 50 (Int32.toNatClampNeg (((16 : Int32) * x1) + (13 : Int32)))) v10.2.1 v10.2.2).bind fun v11 => f_Mo_makeField_b431 x1 x2 ((16 : Int32) * x1) (mI 50 (Int32.toNatClampNeg (((16 : Int32) * x1) + (1 : Int32)))) (mI 50 (Int32.toNatClampNeg (((16 : Int32) * x1) + (2 : Int32)))) (mI 50 (Int32.toNatClampNeg (((16 : Int32) * x1) + (10 : Int32)))) v11.2.1 v11.2.2 else none else none else none else none else none else none else if (v5.2.1 50 (Int32.toNatClampNeg ((16 : Int32) * x1))) = (2 : Int32) then if ¬ ((((16 : Int32) * x1) + (3 : Int32)) < 0 ∨ 2000 ≤ Int32.toNatClampNeg (((16 : Int32) * x1) + (3 : Int32))) then (f_Mo_give x1 (2 : Int32) (v5.2.1 50 (Int32.toNatClampNeg (((16 : Int32) * x1) + (3 : Int32)))) (0 : Int32) (0 : Int32) (0 : Int32) (mI 50 (Int32.toNatClampNeg (((16 : Int32) * x1) + (10 : Int32)))) v5.2.1 v5.2.2).bind fun v12 => (f_Mo_have (mI 50 (Int32.toNatClampNeg (((16 : Int32) * x1) + (1 : Int32)))) (mI 50 (Int32.toNatClampNeg (((16 : Int32) * x1) + (2 : Int32)))) (0 : Int32) v12.2.1 v12.2.2).bind fun v13 => f_Mo_makeField_b431 x1 x2 ((16 : Int32) * x1) (mI 50 (Int32.toNatClampNeg (((16 : Int32) * x1) + (1 : Int32)))) (mI 50 (Int32.toNatClampNeg (((16 : Int32) * x1) + (2 : Int32)))) (mI 50 (Int32.toNatClampNeg (((16 : Int32) * x1) + (10 : Int32)))) v13.2.1 v13.2.2 else none else if (v5.2.1 50 (Int32.toNatClampNeg ((16 : Int32) * x1))) = (3 : Int32) then if ¬ ((((16 : Int32) * x1) + (4 : Int32)) < 0 ∨ 2000 ≤ Int32.toNatClampNeg (((16 : Int32) * x1) + (4 : Int32))) then (f_Mo_give x1 (3 : Int32) (v5.2.1 50 (Int32.toNatClampNeg (((16 : Int32) * x1) + (4 : Int32)))) (0 : Int32) (0 : Int32) (0 : Int32) (mI 50 (Int32.toNatClampNeg (((16 : Int32) * x1) + (10 : Int32)))) v5.2.1 v5.2.2).bind fun v14 => if ¬ ((((16 : Int32) * x1) + (3 : Int32)) < 0 ∨ 2000 ≤ Int32.toNatClampNeg (((16 : Int32) * x1) + (3 : Int32))) then (f_Mo_have (mI 50 (Int32.toNatClampNeg (((16 : Int32) * x1) + (1 : Int32)))) (mI 50 (Int32.toNatClampNeg (((16 : Int32) * x1) + (2 : Int32)))) (v14.2.1 50 (Int32.toNatClampNeg (((16 : Int32) * x1) + (3 : Int32)))) v14.2.1 v14.2.2).bind fun v15 => f_Mo_makeField_b431 x1 x2 ((16 : Int32) * x1) (mI 50 (Int32.toNatClampNeg (((16 : Int32) * x1) + (1 : Int32)))) (mI 50 (Int32.toNatClampNeg (((16 : Int32) * x1) + (2 : Int32)))) (mI 50 (Int32.toNatClampNeg (((16 : Int32) * x1) + (10 : Int32)))) v15.2.1 v15.2.2 else none else none else if (v5.2.1 50 (Int32.toNatClampNeg ((16 : Int32) * x1))) = (7 : Int32) then (f_Mo_give x1 (7 : Int32) (0 : Int32) (0 : Int32) (0 : Int32) (0 : Int32) ((mI 50 (Int32.toNatClampNeg (((16 : Int32) * x1) + (10 : Int32)))) / (2 : Int32)) v5.2.1 v5.2.2).bind fun v16 => (f_Mo_have (mI 50 (Int32.toNatClampNeg (((16 : Int32) * x1) + (1 : Int32)))) (0 : Int32) (0 : Int32) v16.2.1 v16.2.2).bind fun v17 => f_Mo_makeField_b431 x1 x2 ((16 : Int32) * x1) (mI 50 (Int32.toNatClampNeg (((16 : Int32) * x1) + (1 : Int32)))) (mI 50 (Int32.toNatClampNeg (((16 : Int32) * x1) + (2 : Int32)))) (mI 50 (Int32.toNatClampNeg (((16 : Int32) * x1) + (10 : Int32)))) v17.2.1 v17.2.2 else if (v5.2.1 50 (Int32.toNatClampNeg ((16 : Int32) * x1))) = (8 : Int32) then (f_Mo_makeLines x1 v5.2.1 v5.2.2).bind fun v18 => f_Mo_makeField_b431 x1 x2 ((16 : Int32) * x1) (mI 50 (Int32.toNatClampNeg (((16 : Int32) * x1) + (1 : Int32)))) (mI 50 (Int32.toNatClampNeg (((16 : Int32) * x1) + (2 : Int32)))) (mI 50 (Int32.toNatClampNeg (((16 : Int32) * x1) + (10 : Int32)))) v18.2.1 v18.2.2 else f_Mo_makeField_b337 x1 x2 ((16 : Int32) * x1) (mI 50 (Int32.toNatClampNeg (((16 : Int32) * x1) + (1 : Int32)))) (mI 50 (Int32.toNatClampNeg (((16 : Int32) * x1) + (2 : Int32)))) (mI 50 (Int32.toNatClampNeg (((16 : Int32) * x1) + (10 : Int32)))) v5.2.1 v5.2.2 else none else none else none else none
abbrev f_Mo_makeField (p0 : Int32) (p1 : Int32) (mI : tm_I) (mL : tm_L) : Option (Int32 × tm_I × tm_L) := f_Mo_makeField_b0 p0 p1 mI mL
set_option maxRecDepth 100000 in
set_option maxHeartbeats 4000000 in
theorem j_Mo_makeField_b431 {Γ : tm_G} {ex : List tm_Sh} {av : List Value} {X0 : tm_X} {r : Int32 × tm_I × tm_L} (C : tm_C Γ ty_Mo_makeField.1.cls ty_Mo_makeField.2.1 ty_Mo_makeField.2.2.1) (G : tm_Γ ty_Mo_makeField 5 127 0 0 av X0 (tm_is none (sh0 ++ ex, r.2.1, r.2.2, rr)) Γ) {x1 : Int32} {x2 : Int32} {x3 : Int32} {x4 : Int32} {x5 : Int32} {x6 : Int32} {mI : tm_I} {mL : tm_L} (hf : f_Mo_makeField_b431 x1 x2 x3 x4 x5 x6 mI mL = some r) : tm_T Γ 7 0 0 431 [some (.ref 39), some (.int x1), some (.int x2), some (.int x3), some (.int x4), some (.int x5), some (.int x6)] [] (sh0 ++ ex) mI mL rr := by
  have Ro := G.ro
  unfold f_Mo_makeField_b431 at hf
  cases hf
  exact tm_ev C G to_Mo_makeField rfl rfl (Nat.le_refl _) ⟨rfl, rfl⟩
set_option maxRecDepth 100000 in
set_option maxHeartbeats 4000000 in
theorem j_Mo_makeField_b428 {Γ : tm_G} {ex : List tm_Sh} {av : List Value} {X0 : tm_X} {r : Int32 × tm_I × tm_L} (C : tm_C Γ ty_Mo_makeField.1.cls ty_Mo_makeField.2.1 ty_Mo_makeField.2.2.1) (G : tm_Γ ty_Mo_makeField 5 127 0 0 av X0 (tm_is none (sh0 ++ ex, r.2.1, r.2.2, rr)) Γ) {x1 : Int32} {x2 : Int32} {x3 : Int32} {x4 : Int32} {x5 : Int32} {x6 : Int32} {s1 : Int32} {mI : tm_I} {mL : tm_L} (hf : f_Mo_makeField_b428 x1 x2 x3 x4 x5 x6 s1 mI mL = some r) : tm_T Γ 7 0 0 428 [some (.ref 39), some (.int x1), some (.int x2), some (.int x3), some (.int x4), some (.int x5), some (.int x6)] [.int s1, .ref 39] (sh0 ++ ex) mI mL rr := by
  have Ro := G.ro
  unfold f_Mo_makeField_b428 at hf
  obtain ⟨c1, hf⟩ := tm_iteN hf
  refine tm_w C tfo_Mo to_Mo_makeField 0 rfl rfl rfl ⟨rfl, (tm_nz c1), (tm_fz c1), trivial⟩ ?_
  refine tm_wk (lv' := [some (.ref 39), some (.int x1), some (.int x2), some (.int x3), some (.int x4), some (.int x5), some (.int x6)]) ⟨Or.inr rfl, Or.inr rfl, Or.inr rfl, Or.inr rfl, Or.inr rfl, Or.inr rfl, Or.inr rfl, trivial⟩ ?_
  exact j_Mo_makeField_b431 C G hf
set_option maxRecDepth 100000 in
set_option maxHeartbeats 4000000 in
theorem j_Mo_makeField_b423 {Γ : tm_G} {ex : List tm_Sh} {av : List Value} {X0 : tm_X} {r : Int32 × tm_I × tm_L} (C : tm_C Γ ty_Mo_makeField.1.cls ty_Mo_makeField.2.1 ty_Mo_makeField.2.2.1) (G : tm_Γ ty_Mo_makeField 5 127 0 0 av X0 (tm_is none (sh0 ++ ex, r.2.1, r.2.2, rr)) Γ) {x1 : Int32} {x2 : Int32} {x3 : Int32} {x4 : Int32} {x5 : Int32} {x6 : Int32} {mI : tm_I} {mL : tm_L} (hf : f_Mo_makeField_b423 x1 x2 x3 x4 x5 x6 mI mL = some r) : tm_T Γ 7 0 0 423 [some (.ref 39), some (.int x1), some (.int x2), some (.int x3), some (.int x4), some (.int x5), some (.int x6)] [.ref 39] (sh0 ++ ex) mI mL rr := by
  have Ro := G.ro
  unfold f_Mo_makeField_b423 at hf
  refine tm_w C tfo_Mo to_Mo_makeField 1 rfl rfl rfl trivial ?_
  refine tm_wk (lv' := [some (.ref 39), some (.int x1), some (.int x2), some (.int x3), some (.int x4), some (.int x5), some (.int x6)]) ⟨Or.inr rfl, Or.inr rfl, Or.inr rfl, Or.inr rfl, Or.inr rfl, Or.inr rfl, Or.inr rfl, trivial⟩ ?_
  exact j_Mo_makeField_b428 C G hf
set_option maxRecDepth 100000 in
set_option maxHeartbeats 4000000 in
theorem j_Mo_makeField_b427 {Γ : tm_G} {ex : List tm_Sh} {av : List Value} {X0 : tm_X} {r : Int32 × tm_I × tm_L} (C : tm_C Γ ty_Mo_makeField.1.cls ty_Mo_makeField.2.1 ty_Mo_makeField.2.2.1) (G : tm_Γ ty_Mo_makeField 5 127 0 0 av X0 (tm_is none (sh0 ++ ex, r.2.1, r.2.2, rr)) Γ) {x1 : Int32} {x2 : Int32} {x3 : Int32} {x4 : Int32} {x5 : Int32} {x6 : Int32} {mI : tm_I} {mL : tm_L} (hf : f_Mo_makeField_b427 x1 x2 x3 x4 x5 x6 mI mL = some r) : tm_T Γ 7 0 0 427 [some (.ref 39), some (.int x1), some (.int x2), some (.int x3), some (.int x4), some (.int x5), some (.int x6)] [.ref 39] (sh0 ++ ex) mI mL rr := by
  have Ro := G.ro
  unfold f_Mo_makeField_b427 at hf
  refine tm_w C tfo_Mo to_Mo_makeField 0 rfl rfl rfl trivial ?_
  refine tm_wk (lv' := [some (.ref 39), some (.int x1), some (.int x2), some (.int x3), some (.int x4), some (.int x5), some (.int x6)]) ⟨Or.inr rfl, Or.inr rfl, Or.inr rfl, Or.inr rfl, Or.inr rfl, Or.inr rfl, Or.inr rfl, trivial⟩ ?_
  exact j_Mo_makeField_b428 C G hf
set_option maxRecDepth 100000 in
set_option maxHeartbeats 4000000 in
theorem j_Mo_makeField_b337 {Γ : tm_G} {ex : List tm_Sh} {av : List Value} {X0 : tm_X} {r : Int32 × tm_I × tm_L} (C : tm_C Γ ty_Mo_makeField.1.cls ty_Mo_makeField.2.1 ty_Mo_makeField.2.2.1) (G : tm_Γ ty_Mo_makeField 5 127 0 0 av X0 (tm_is none (sh0 ++ ex, r.2.1, r.2.2, rr)) Γ) {x1 : Int32} {x2 : Int32} {x3 : Int32} {x4 : Int32} {x5 : Int32} {x6 : Int32} {mI : tm_I} {mL : tm_L} (hf : f_Mo_makeField_b337 x1 x2 x3 x4 x5 x6 mI mL = some r) : tm_T Γ 7 0 0 337 [some (.ref 39), some (.int x1), some (.int x2), some (.int x3), some (.int x4), some (.int x5), some (.int x6)] [] (sh0 ++ ex) mI mL rr := by
  have Ro := G.ro
  unfold f_Mo_makeField_b337 at hf
  obtain ⟨c2, hf⟩ := tm_iteN hf
  refine tm_w C tfo_Mo to_Mo_makeField 10 rfl rfl rfl ⟨rfl, ⟨_, rfl, c2⟩, trivial⟩ ?_
  obtain ⟨v1, hv1, hf⟩ := Option.bind_eq_some_iff.mp hf
  refine tm_cV C Ro to_Mo_makeField tl_Mo_161 rfl (ct_Mo_give hv1) rfl rfl rfl rfl rfl rfl rfl (Nat.le_refl _) (Nat.le_refl _) ?_
  obtain ⟨c3, hf⟩ := tm_iteN hf
  refine tm_w C tfo_Mo to_Mo_makeField 8 rfl rfl rfl ⟨rfl, ⟨_, rfl, c3⟩, trivial⟩ ?_
  obtain ⟨v2, hv2, hf⟩ := Option.bind_eq_some_iff.mp hf
  refine tm_cV C Ro to_Mo_makeField tl_Mo_165 rfl (ct_Mo_have hv2) rfl rfl rfl rfl rfl rfl rfl (Nat.le_refl _) (Nat.le_refl _) ?_
  refine tm_w C tfo_Mo to_Mo_makeField 2 rfl rfl rfl ⟨rfl, trivial⟩ ?_
  refine tm_b C to_Mo_makeField rfl rfl (fun h => ?_) (fun h => ?_)
  · have hf := (if_pos h).symm.trans hf
    refine tm_wk (lv' := [some (.ref 39), some (.int x1), some (.int x2), some (.int x3), some (.int x4), some (.int x5), some (.int x6)]) ⟨Or.inr rfl, Or.inr rfl, Or.inr rfl, Or.inr rfl, Or.inr rfl, Or.inr rfl, Or.inr rfl, trivial⟩ ?_
    exact j_Mo_makeField_b423 C G hf
  · have hf := (if_neg h).symm.trans hf
    obtain ⟨c4, hf⟩ := tm_iteN hf
    refine tm_w C tfo_Mo to_Mo_makeField 4 rfl rfl rfl ⟨rfl, ⟨_, rfl, c4⟩, trivial⟩ ?_
    refine tm_b C to_Mo_makeField rfl rfl (fun h => ?_) (fun h => ?_)
    · have hf := (if_pos h).symm.trans hf
      refine tm_wk (lv' := [some (.ref 39), some (.int x1), some (.int x2), some (.int x3), some (.int x4), some (.int x5), some (.int x6)]) ⟨Or.inr rfl, Or.inr rfl, Or.inr rfl, Or.inr rfl, Or.inr rfl, Or.inr rfl, Or.inr rfl, trivial⟩ ?_
      exact j_Mo_makeField_b427 C G hf
    · have hf := (if_neg h).symm.trans hf
      obtain ⟨c5, hf⟩ := tm_iteN hf
      refine tm_w C tfo_Mo to_Mo_makeField 7 rfl rfl rfl ⟨rfl, ⟨_, rfl, c5⟩, trivial⟩ ?_
      obtain ⟨v3, hv3, hf⟩ := Option.bind_eq_some_iff.mp hf
      refine tm_cS C Ro to_Mo_makeField tl_Mo_152 rfl (ct_Mo_isFar hv3) rfl rfl rfl rfl rfl (Nat.le_refl _) (Nat.le_refl _) ?_
      refine tm_b C to_Mo_makeField rfl rfl (fun h => ?_) (fun h => ?_)
      · have hf := (if_pos h).symm.trans hf
        refine tm_wk (lv' := [some (.ref 39), some (.int x1), some (.int x2), some (.int x3), some (.int x4), some (.int x5), some (.int x6)]) ⟨Or.inr rfl, Or.inr rfl, Or.inr rfl, Or.inr rfl, Or.inr rfl, Or.inr rfl, Or.inr rfl, trivial⟩ ?_
        exact j_Mo_makeField_b423 C G hf
      · have hf := (if_neg h).symm.trans hf
        obtain ⟨c6, hf⟩ := tm_iteN hf
        refine tm_w C tfo_Mo to_Mo_makeField 7 rfl rfl rfl ⟨rfl, ⟨_, rfl, c6⟩, trivial⟩ ?_
        obtain ⟨v4, hv4, hf⟩ := Option.bind_eq_some_iff.mp hf
        refine tm_cS C Ro to_Mo_makeField tl_Mo_152 rfl (ct_Mo_isFar hv4) rfl rfl rfl rfl rfl (Nat.le_refl _) (Nat.le_refl _) ?_
        refine tm_b C to_Mo_makeField rfl rfl (fun h => ?_) (fun h => ?_)
        · have hf := (if_pos h).symm.trans hf
          refine tm_wk (lv' := [some (.ref 39), some (.int x1), some (.int x2), some (.int x3), some (.int x4), some (.int x5), some (.int x6)]) ⟨Or.inr rfl, Or.inr rfl, Or.inr rfl, Or.inr rfl, Or.inr rfl, Or.inr rfl, Or.inr rfl, trivial⟩ ?_
          exact j_Mo_makeField_b427 C G hf
        · have hf := (if_neg h).symm.trans hf
          refine tm_wk (lv' := [some (.ref 39), some (.int x1), some (.int x2), some (.int x3), some (.int x4), some (.int x5), some (.int x6)]) ⟨Or.inr rfl, Or.inr rfl, Or.inr rfl, Or.inr rfl, Or.inr rfl, Or.inr rfl, Or.inr rfl, trivial⟩ ?_
          exact j_Mo_makeField_b423 C G hf
set_option maxRecDepth 100000 in
set_option maxHeartbeats 4000000 in
theorem j_Mo_makeField_b0 {Γ : tm_G} {ex : List tm_Sh} {av : List Value} {X0 : tm_X} {r : Int32 × tm_I × tm_L} (C : tm_C Γ ty_Mo_makeField.1.cls ty_Mo_makeField.2.1 ty_Mo_makeField.2.2.1) (G : tm_Γ ty_Mo_makeField 5 127 0 0 av X0 (tm_is none (sh0 ++ ex, r.2.1, r.2.2, rr)) Γ) {x1 : Int32} {x2 : Int32} {mI : tm_I} {mL : tm_L} (hf : f_Mo_makeField_b0 x1 x2 mI mL = some r) : tm_T Γ 7 0 0 0 [some (.ref 39), some (.int x1), some (.int x2), none, none, none, none] [] (sh0 ++ ex) mI mL rr := by
  have Ro := G.ro
  unfold f_Mo_makeField_b0 at hf
  obtain ⟨c7, hf⟩ := tm_iteN hf
  obtain ⟨c8, hf⟩ := tm_iteN hf
  obtain ⟨c9, hf⟩ := tm_iteN hf
  refine tm_w C tfo_Mo to_Mo_makeField 27 rfl rfl rfl ⟨rfl, ⟨_, rfl, c7⟩, rfl, ⟨_, rfl, c8⟩, rfl, ⟨_, rfl, c9⟩, trivial⟩ ?_
  obtain ⟨v5, hv5, hf⟩ := Option.bind_eq_some_iff.mp hf
  refine tm_cV C Ro to_Mo_makeField tl_Mo_158 rfl (ct_Mo_takeCopy hv5) rfl rfl rfl rfl rfl rfl rfl (Nat.le_refl _) (Nat.le_refl _) ?_
  obtain ⟨c10, hf⟩ := tm_iteN hf
  refine tm_w C tfo_Mo to_Mo_makeField 3 rfl rfl rfl ⟨rfl, ⟨_, rfl, c10⟩, trivial⟩ ?_
  by_cases h0 : (v5.2.1 50 (Int32.toNatClampNeg ((16 : Int32) * x1))) = (0 : Int32)
  · have hf := (if_pos h0).symm.trans hf
    refine tm_swI (tgt := 100) C (tm_get_d to_Mo_makeField rfl) (0 : Int32) (52) h0 (by decide) (by decide) (by decide) (by decide) ?_
    obtain ⟨c11, hf⟩ := tm_iteN hf
    refine tm_w C tfo_Mo to_Mo_makeField 12 rfl rfl rfl ⟨rfl, ⟨_, rfl, c11⟩, trivial⟩ ?_
    obtain ⟨v6, hv6, hf⟩ := Option.bind_eq_some_iff.mp hf
    refine tm_cV C Ro to_Mo_makeField tl_Mo_161 rfl (ct_Mo_give hv6) rfl rfl rfl rfl rfl rfl rfl (Nat.le_refl _) (Nat.le_refl _) ?_
    obtain ⟨c12, hf⟩ := tm_iteN hf
    refine tm_w C tfo_Mo to_Mo_makeField 8 rfl rfl rfl ⟨rfl, ⟨_, rfl, c12⟩, trivial⟩ ?_
    obtain ⟨v7, hv7, hf⟩ := Option.bind_eq_some_iff.mp hf
    refine tm_cV C Ro to_Mo_makeField tl_Mo_165 rfl (ct_Mo_have hv7) rfl rfl rfl rfl rfl rfl rfl (Nat.le_refl _) (Nat.le_refl _) ?_
    refine tm_w C tfo_Mo to_Mo_makeField 0 rfl rfl rfl trivial ?_
    refine tm_wk (lv' := [some (.ref 39), some (.int x1), some (.int x2), some (.int ((16 : Int32) * x1)), some (.int (mI 50 (Int32.toNatClampNeg (((16 : Int32) * x1) + (1 : Int32))))), some (.int (mI 50 (Int32.toNatClampNeg (((16 : Int32) * x1) + (2 : Int32))))), some (.int (mI 50 (Int32.toNatClampNeg (((16 : Int32) * x1) + (10 : Int32)))))]) ⟨Or.inr rfl, Or.inr rfl, Or.inr rfl, Or.inr rfl, Or.inr rfl, Or.inr rfl, Or.inr rfl, trivial⟩ ?_
    exact j_Mo_makeField_b431 C G hf
  have hf := (if_neg h0).symm.trans hf
  by_cases h1 : (v5.2.1 50 (Int32.toNatClampNeg ((16 : Int32) * x1))) = (1 : Int32)
  · have hf := (if_pos h1).symm.trans hf
    refine tm_swI (tgt := 138) C (tm_get_d to_Mo_makeField rfl) (1 : Int32) (90) h1 (by decide) (by decide) (by decide) (by decide) ?_
    obtain ⟨c13, hf⟩ := tm_iteN hf
    refine tm_w C tfo_Mo to_Mo_makeField 12 rfl rfl rfl ⟨rfl, ⟨_, rfl, c13⟩, trivial⟩ ?_
    obtain ⟨v8, hv8, hf⟩ := Option.bind_eq_some_iff.mp hf
    refine tm_cV C Ro to_Mo_makeField tl_Mo_161 rfl (ct_Mo_give hv8) rfl rfl rfl rfl rfl rfl rfl (Nat.le_refl _) (Nat.le_refl _) ?_
    refine tm_w C tfo_Mo to_Mo_makeField 3 rfl rfl rfl trivial ?_
    obtain ⟨v9, hv9, hf⟩ := Option.bind_eq_some_iff.mp hf
    refine tm_cV C Ro to_Mo_makeField tl_Mo_165 rfl (ct_Mo_have hv9) rfl rfl rfl rfl rfl rfl rfl (Nat.le_refl _) (Nat.le_refl _) ?_
    obtain ⟨c14, hf⟩ := tm_iteN hf
    refine tm_w C tfo_Mo to_Mo_makeField 6 rfl rfl rfl ⟨rfl, ⟨_, rfl, c14⟩, trivial⟩ ?_
    refine tm_b C to_Mo_makeField rfl rfl (fun h => ?_) (fun h => ?_)
    · have hf := (if_pos h).symm.trans hf
      refine tm_wk (lv' := [some (.ref 39), some (.int x1), some (.int x2), some (.int ((16 : Int32) * x1)), some (.int (mI 50 (Int32.toNatClampNeg (((16 : Int32) * x1) + (1 : Int32))))), some (.int (mI 50 (Int32.toNatClampNeg (((16 : Int32) * x1) + (2 : Int32))))), some (.int (mI 50 (Int32.toNatClampNeg (((16 : Int32) * x1) + (10 : Int32)))))]) ⟨Or.inr rfl, Or.inr rfl, Or.inr rfl, Or.inr rfl, Or.inr rfl, Or.inr rfl, Or.inr rfl, trivial⟩ ?_
      exact j_Mo_makeField_b431 C G hf
    · have hf := (if_neg h).symm.trans hf
      obtain ⟨c15, hf⟩ := tm_iteN hf
      refine tm_w C tfo_Mo to_Mo_makeField 14 rfl rfl rfl ⟨rfl, ⟨_, rfl, c15⟩, trivial⟩ ?_
      obtain ⟨v10, hv10, hf⟩ := Option.bind_eq_some_iff.mp hf
      refine tm_cV C Ro to_Mo_makeField tl_Mo_161 rfl (ct_Mo_give hv10) rfl rfl rfl rfl rfl rfl rfl (Nat.le_refl _) (Nat.le_refl _) ?_
      obtain ⟨c16, hf⟩ := tm_iteN hf
      obtain ⟨c17, hf⟩ := tm_iteN hf
      obtain ⟨c18, hf⟩ := tm_iteN hf
      refine tm_w C tfo_Mo to_Mo_makeField 18 rfl rfl rfl ⟨rfl, ⟨_, rfl, c16⟩, rfl, ⟨_, rfl, c17⟩, rfl, ⟨_, rfl, c18⟩, trivial⟩ ?_
      obtain ⟨v11, hv11, hf⟩ := Option.bind_eq_some_iff.mp hf
      refine tm_cV C Ro to_Mo_makeField tl_Mo_165 rfl (ct_Mo_have hv11) rfl rfl rfl rfl rfl rfl rfl (Nat.le_refl _) (Nat.le_refl _) ?_
      refine tm_w C tfo_Mo to_Mo_makeField 0 rfl rfl rfl trivial ?_
      refine tm_wk (lv' := [some (.ref 39), some (.int x1), some (.int x2), some (.int ((16 : Int32) * x1)), some (.int (mI 50 (Int32.toNatClampNeg (((16 : Int32) * x1) + (1 : Int32))))), some (.int (mI 50 (Int32.toNatClampNeg (((16 : Int32) * x1) + (2 : Int32))))), some (.int (mI 50 (Int32.toNatClampNeg (((16 : Int32) * x1) + (10 : Int32)))))]) ⟨Or.inr rfl, Or.inr rfl, Or.inr rfl, Or.inr rfl, Or.inr rfl, Or.inr rfl, Or.inr rfl, trivial⟩ ?_
      exact j_Mo_makeField_b431 C G hf
  have hf := (if_neg h1).symm.trans hf
  by_cases h2 : (v5.2.1 50 (Int32.toNatClampNeg ((16 : Int32) * x1))) = (2 : Int32)
  · have hf := (if_pos h2).symm.trans hf
    refine tm_swI (tgt := 234) C (tm_get_d to_Mo_makeField rfl) (2 : Int32) (186) h2 (by decide) (by decide) (by decide) (by decide) ?_
    obtain ⟨c19, hf⟩ := tm_iteN hf
    refine tm_w C tfo_Mo to_Mo_makeField 12 rfl rfl rfl ⟨rfl, ⟨_, rfl, c19⟩, trivial⟩ ?_
    obtain ⟨v12, hv12, hf⟩ := Option.bind_eq_some_iff.mp hf
    refine tm_cV C Ro to_Mo_makeField tl_Mo_161 rfl (ct_Mo_give hv12) rfl rfl rfl rfl rfl rfl rfl (Nat.le_refl _) (Nat.le_refl _) ?_
    refine tm_w C tfo_Mo to_Mo_makeField 3 rfl rfl rfl trivial ?_
    obtain ⟨v13, hv13, hf⟩ := Option.bind_eq_some_iff.mp hf
    refine tm_cV C Ro to_Mo_makeField tl_Mo_165 rfl (ct_Mo_have hv13) rfl rfl rfl rfl rfl rfl rfl (Nat.le_refl _) (Nat.le_refl _) ?_
    refine tm_w C tfo_Mo to_Mo_makeField 0 rfl rfl rfl trivial ?_
    refine tm_wk (lv' := [some (.ref 39), some (.int x1), some (.int x2), some (.int ((16 : Int32) * x1)), some (.int (mI 50 (Int32.toNatClampNeg (((16 : Int32) * x1) + (1 : Int32))))), some (.int (mI 50 (Int32.toNatClampNeg (((16 : Int32) * x1) + (2 : Int32))))), some (.int (mI 50 (Int32.toNatClampNeg (((16 : Int32) * x1) + (10 : Int32)))))]) ⟨Or.inr rfl, Or.inr rfl, Or.inr rfl, Or.inr rfl, Or.inr rfl, Or.inr rfl, Or.inr rfl, trivial⟩ ?_
    exact j_Mo_makeField_b431 C G hf
  have hf := (if_neg h2).symm.trans hf
  by_cases h3 : (v5.2.1 50 (Int32.toNatClampNeg ((16 : Int32) * x1))) = (3 : Int32)
  · have hf := (if_pos h3).symm.trans hf
    refine tm_swI (tgt := 265) C (tm_get_d to_Mo_makeField rfl) (3 : Int32) (217) h3 (by decide) (by decide) (by decide) (by decide) ?_
    obtain ⟨c20, hf⟩ := tm_iteN hf
    refine tm_w C tfo_Mo to_Mo_makeField 12 rfl rfl rfl ⟨rfl, ⟨_, rfl, c20⟩, trivial⟩ ?_
    obtain ⟨v14, hv14, hf⟩ := Option.bind_eq_some_iff.mp hf
    refine tm_cV C Ro to_Mo_makeField tl_Mo_161 rfl (ct_Mo_give hv14) rfl rfl rfl rfl rfl rfl rfl (Nat.le_refl _) (Nat.le_refl _) ?_
    obtain ⟨c21, hf⟩ := tm_iteN hf
    refine tm_w C tfo_Mo to_Mo_makeField 8 rfl rfl rfl ⟨rfl, ⟨_, rfl, c21⟩, trivial⟩ ?_
    obtain ⟨v15, hv15, hf⟩ := Option.bind_eq_some_iff.mp hf
    refine tm_cV C Ro to_Mo_makeField tl_Mo_165 rfl (ct_Mo_have hv15) rfl rfl rfl rfl rfl rfl rfl (Nat.le_refl _) (Nat.le_refl _) ?_
    refine tm_w C tfo_Mo to_Mo_makeField 0 rfl rfl rfl trivial ?_
    refine tm_wk (lv' := [some (.ref 39), some (.int x1), some (.int x2), some (.int ((16 : Int32) * x1)), some (.int (mI 50 (Int32.toNatClampNeg (((16 : Int32) * x1) + (1 : Int32))))), some (.int (mI 50 (Int32.toNatClampNeg (((16 : Int32) * x1) + (2 : Int32))))), some (.int (mI 50 (Int32.toNatClampNeg (((16 : Int32) * x1) + (10 : Int32)))))]) ⟨Or.inr rfl, Or.inr rfl, Or.inr rfl, Or.inr rfl, Or.inr rfl, Or.inr rfl, Or.inr rfl, trivial⟩ ?_
    exact j_Mo_makeField_b431 C G hf
  have hf := (if_neg h3).symm.trans hf
  by_cases h7 : (v5.2.1 50 (Int32.toNatClampNeg ((16 : Int32) * x1))) = (7 : Int32)
  · have hf := (if_pos h7).symm.trans hf
    refine tm_swI (tgt := 303) C (tm_get_d to_Mo_makeField rfl) (7 : Int32) (255) h7 (by decide) (by decide) (by decide) (by decide) ?_
    refine tm_w C tfo_Mo to_Mo_makeField 9 rfl rfl rfl ⟨(by decide), trivial⟩ ?_
    obtain ⟨v16, hv16, hf⟩ := Option.bind_eq_some_iff.mp hf
    refine tm_cV C Ro to_Mo_makeField tl_Mo_161 rfl (ct_Mo_give hv16) rfl rfl rfl rfl rfl rfl rfl (Nat.le_refl _) (Nat.le_refl _) ?_
    refine tm_w C tfo_Mo to_Mo_makeField 3 rfl rfl rfl trivial ?_
    obtain ⟨v17, hv17, hf⟩ := Option.bind_eq_some_iff.mp hf
    refine tm_cV C Ro to_Mo_makeField tl_Mo_165 rfl (ct_Mo_have hv17) rfl rfl rfl rfl rfl rfl rfl (Nat.le_refl _) (Nat.le_refl _) ?_
    refine tm_w C tfo_Mo to_Mo_makeField 0 rfl rfl rfl trivial ?_
    refine tm_wk (lv' := [some (.ref 39), some (.int x1), some (.int x2), some (.int ((16 : Int32) * x1)), some (.int (mI 50 (Int32.toNatClampNeg (((16 : Int32) * x1) + (1 : Int32))))), some (.int (mI 50 (Int32.toNatClampNeg (((16 : Int32) * x1) + (2 : Int32))))), some (.int (mI 50 (Int32.toNatClampNeg (((16 : Int32) * x1) + (10 : Int32)))))]) ⟨Or.inr rfl, Or.inr rfl, Or.inr rfl, Or.inr rfl, Or.inr rfl, Or.inr rfl, Or.inr rfl, trivial⟩ ?_
    exact j_Mo_makeField_b431 C G hf
  have hf := (if_neg h7).symm.trans hf
  by_cases h8 : (v5.2.1 50 (Int32.toNatClampNeg ((16 : Int32) * x1))) = (8 : Int32)
  · have hf := (if_pos h8).symm.trans hf
    refine tm_swI (tgt := 329) C (tm_get_d to_Mo_makeField rfl) (8 : Int32) (281) h8 (by decide) (by decide) (by decide) (by decide) ?_
    refine tm_w C tfo_Mo to_Mo_makeField 1 rfl rfl rfl trivial ?_
    obtain ⟨v18, hv18, hf⟩ := Option.bind_eq_some_iff.mp hf
    refine tm_cV C Ro to_Mo_makeField tl_Mo_169 rfl (ct_Mo_makeLines hv18) rfl rfl rfl rfl rfl rfl rfl (Nat.le_refl _) (Nat.le_refl _) ?_
    refine tm_w C tfo_Mo to_Mo_makeField 0 rfl rfl rfl trivial ?_
    refine tm_wk (lv' := [some (.ref 39), some (.int x1), some (.int x2), some (.int ((16 : Int32) * x1)), some (.int (mI 50 (Int32.toNatClampNeg (((16 : Int32) * x1) + (1 : Int32))))), some (.int (mI 50 (Int32.toNatClampNeg (((16 : Int32) * x1) + (2 : Int32))))), some (.int (mI 50 (Int32.toNatClampNeg (((16 : Int32) * x1) + (10 : Int32)))))]) ⟨Or.inr rfl, Or.inr rfl, Or.inr rfl, Or.inr rfl, Or.inr rfl, Or.inr rfl, Or.inr rfl, trivial⟩ ?_
    exact j_Mo_makeField_b431 C G hf
  have hf := (if_neg h8).symm.trans hf
  refine tm_swD (tgt := 337) C (tm_get_d to_Mo_makeField rfl) [(0 : Int32), (1 : Int32), (2 : Int32), (3 : Int32), (7 : Int32), (8 : Int32)] (by decide) (by decide) (List.forall_mem_cons.mpr ⟨h0, List.forall_mem_cons.mpr ⟨h1, List.forall_mem_cons.mpr ⟨h2, List.forall_mem_cons.mpr ⟨h3, List.forall_mem_cons.mpr ⟨h7, List.forall_mem_cons.mpr ⟨h8, fun _ h => nomatch h⟩⟩⟩⟩⟩⟩) (by decide) ?_
  refine tm_wk (lv' := [some (.ref 39), some (.int x1), some (.int x2), some (.int ((16 : Int32) * x1)), some (.int (mI 50 (Int32.toNatClampNeg (((16 : Int32) * x1) + (1 : Int32))))), some (.int (mI 50 (Int32.toNatClampNeg (((16 : Int32) * x1) + (2 : Int32))))), some (.int (mI 50 (Int32.toNatClampNeg (((16 : Int32) * x1) + (10 : Int32)))))]) ⟨Or.inr rfl, Or.inr rfl, Or.inr rfl, Or.inr rfl, Or.inr rfl, Or.inr rfl, Or.inr rfl, trivial⟩ ?_
  exact j_Mo_makeField_b337 C G hf
set_option maxRecDepth 100000 in
theorem ct_Mo_makeField {ex : List tm_Sh} {p0 : Int32} {p1 : Int32} {mI : tm_I} {mL : tm_L} {r : Int32 × tm_I × tm_L} (hf : f_Mo_makeField p0 p1 mI mL = some r) : tm_M ty_Mo_makeField 5 127 0 0 [.ref 39, .int p0, .int p1] (sh0 ++ ex, mI, mL, rr) (tm_is none (sh0 ++ ex, r.2.1, r.2.2, rr)) := by
  refine tm_body (by decide) (Nat.le_of_ble_eq_true rfl) fun Γ C G => ?_
  exact j_Mo_makeField_b0 C G hf
/-! Mo_isPlaced -/
def f_Mo_isPlaced_b79 (x1 : Int32) (x2 : Int32) (s0 : Int32) (mI : tm_I) (mL : tm_L) : Option (Int32 × tm_I × tm_L) := if s0 = 0 ∨ s0 = 1 then some (s0, mI, mL) else none
def f_Mo_isPlaced_b52 (x1 : Int32) (x2 : Int32) (mI : tm_I) (mL : tm_L) : Option (Int32 × tm_I × tm_L) := if ¬ ((tm_up (tm_up mI 39 34 ((mI 39 26) - x2)) 39 26 x2) 39 32) = 0 then f_Mo_isPlaced_b79 x1 x2 (0 : Int32) (tm_up (tm_up mI 39 34 ((mI 39 26) - x2)) 39 26 x2) mL else f_Mo_isPlaced_b79 x1 x2 (1 : Int32) (tm_up (tm_up mI 39 34 ((mI 39 26) - x2)) 39 26 x2) mL
def f_Mo_isPlaced_b0 (x1 : Int32) (mI : tm_I) (mL : tm_L) : Option (Int32 × tm_I × tm_L) := (f_Mo_lay mI mL).bind fun v1 => (f_Mo_makeField x1 (0 : Int32) (tm_up (tm_up v1.2.1 39 32 (0 : Int32)) 39 33 (0 : Int32)) v1.2.2).bind fun v2 => if ¬ ((0 : Int32) < 0 ∨ 16 ≤ Int32.toNatClampNeg (0 : Int32)) then if ¬ (v2.2.1 49 (Int32.toNatClampNeg (0 : Int32))) = (8 : Int32) then f_Mo_isPlaced_b52 x1 ((tm_up (tm_up v1.2.1 39 32 (0 : Int32)) 39 33 (0 : Int32)) 39 26) v2.2.1 v2.2.2 else if ((v2.2.1 39 26) - ((tm_up (tm_up v1.2.1 39 32 (0 : Int32)) 39 33 (0 : Int32)) 39 26)) ≤ (20 : Int32) then f_Mo_isPlaced_b52 x1 ((tm_up (tm_up v1.2.1 39 32 (0 : Int32)) 39 33 (0 : Int32)) 39 26) v2.2.1 v2.2.2 else f_Mo_isPlaced_b52 x1 ((tm_up (tm_up v1.2.1 39 32 (0 : Int32)) 39 33 (0 : Int32)) 39 26) (tm_up v2.2.1 39 32 (1 : Int32)) v2.2.2 else none
abbrev f_Mo_isPlaced (p0 : Int32) (mI : tm_I) (mL : tm_L) : Option (Int32 × tm_I × tm_L) := f_Mo_isPlaced_b0 p0 mI mL
set_option maxRecDepth 100000 in
set_option maxHeartbeats 4000000 in
theorem j_Mo_isPlaced_b79 {Γ : tm_G} {ex : List tm_Sh} {av : List Value} {X0 : tm_X} {r : Int32 × tm_I × tm_L} (C : tm_C Γ ty_Mo_isPlaced.1.cls ty_Mo_isPlaced.2.1 ty_Mo_isPlaced.2.2.1) (G : tm_Γ ty_Mo_isPlaced 6 153 0 0 av X0 (tm_is (some (.int r.1)) (sh0 ++ ex, r.2.1, r.2.2, rr)) Γ) {x1 : Int32} {x2 : Int32} {s0 : Int32} {mI : tm_I} {mL : tm_L} (hf : f_Mo_isPlaced_b79 x1 x2 s0 mI mL = some r) : tm_T Γ 3 0 0 79 [some (.ref 39), some (.int x1), some (.int x2)] [.int s0] (sh0 ++ ex) mI mL rr := by
  have Ro := G.ro
  unfold f_Mo_isPlaced_b79 at hf
  obtain ⟨c1, hf⟩ := tm_iteN hf
  cases hf
  exact tm_ei C G to_Mo_isPlaced rfl rfl (Nat.le_refl _) (tm_nz c1) ⟨rfl, rfl⟩
set_option maxRecDepth 100000 in
set_option maxHeartbeats 4000000 in
theorem j_Mo_isPlaced_b52 {Γ : tm_G} {ex : List tm_Sh} {av : List Value} {X0 : tm_X} {r : Int32 × tm_I × tm_L} (C : tm_C Γ ty_Mo_isPlaced.1.cls ty_Mo_isPlaced.2.1 ty_Mo_isPlaced.2.2.1) (G : tm_Γ ty_Mo_isPlaced 6 153 0 0 av X0 (tm_is (some (.int r.1)) (sh0 ++ ex, r.2.1, r.2.2, rr)) Γ) {x1 : Int32} {x2 : Int32} {mI : tm_I} {mL : tm_L} (hf : f_Mo_isPlaced_b52 x1 x2 mI mL = some r) : tm_T Γ 3 0 0 52 [some (.ref 39), some (.int x1), some (.int x2)] [] (sh0 ++ ex) mI mL rr := by
  have Ro := G.ro
  unfold f_Mo_isPlaced_b52 at hf
  refine tm_w C tfo_Mo to_Mo_isPlaced 10 rfl rfl rfl ⟨rfl, rfl, rfl, rfl, trivial⟩ ?_
  refine tm_b C to_Mo_isPlaced rfl rfl (fun h => ?_) (fun h => ?_)
  · have hf := (if_pos h).symm.trans hf
    refine tm_w C tfo_Mo to_Mo_isPlaced 0 rfl rfl rfl trivial ?_
    refine tm_wk (lv' := [some (.ref 39), some (.int x1), some (.int x2)]) ⟨Or.inr rfl, Or.inr rfl, Or.inr rfl, trivial⟩ ?_
    exact j_Mo_isPlaced_b79 C G hf
  · have hf := (if_neg h).symm.trans hf
    refine tm_w C tfo_Mo to_Mo_isPlaced 1 rfl rfl rfl trivial ?_
    refine tm_wk (lv' := [some (.ref 39), some (.int x1), some (.int x2)]) ⟨Or.inr rfl, Or.inr rfl, Or.inr rfl, trivial⟩ ?_
    exact j_Mo_isPlaced_b79 C G hf
set_option maxRecDepth 100000 in
set_option maxHeartbeats 4000000 in
theorem j_Mo_isPlaced_b0 {Γ : tm_G} {ex : List tm_Sh} {av : List Value} {X0 : tm_X} {r : Int32 × tm_I × tm_L} (C : tm_C Γ ty_Mo_isPlaced.1.cls ty_Mo_isPlaced.2.1 ty_Mo_isPlaced.2.2.1) (G : tm_Γ ty_Mo_isPlaced 6 153 0 0 av X0 (tm_is (some (.int r.1)) (sh0 ++ ex, r.2.1, r.2.2, rr)) Γ) {x1 : Int32} {mI : tm_I} {mL : tm_L} (hf : f_Mo_isPlaced_b0 x1 mI mL = some r) : tm_T Γ 3 0 0 0 [some (.ref 39), some (.int x1), none] [] (sh0 ++ ex) mI mL rr := by
  have Ro := G.ro
  unfold f_Mo_isPlaced_b0 at hf
  refine tm_w C tfo_Mo to_Mo_isPlaced 0 rfl rfl rfl trivial ?_
  obtain ⟨v1, hv1, hf⟩ := Option.bind_eq_some_iff.mp hf
  refine tm_cV C Ro to_Mo_isPlaced tl_Mo_129 rfl (ct_Mo_lay hv1) rfl rfl rfl rfl rfl rfl rfl (Nat.le_refl _) (Nat.le_refl _) ?_
  refine tm_w C tfo_Mo to_Mo_isPlaced 11 rfl rfl rfl ⟨rfl, rfl, rfl, rfl, rfl, rfl, rfl, trivial⟩ ?_
  obtain ⟨v2, hv2, hf⟩ := Option.bind_eq_some_iff.mp hf
  refine tm_cV C Ro to_Mo_isPlaced tl_Mo_139 rfl (ct_Mo_makeField hv2) rfl rfl rfl rfl rfl rfl rfl (Nat.le_refl _) (Nat.le_refl _) ?_
  obtain ⟨c2, hf⟩ := tm_iteN hf
  refine tm_w C tfo_Mo to_Mo_isPlaced 4 rfl rfl rfl ⟨rfl, ⟨_, rfl, c2⟩, trivial⟩ ?_
  refine tm_b C to_Mo_isPlaced rfl rfl (fun h => ?_) (fun h => ?_)
  · have hf := (if_pos h).symm.trans hf
    refine tm_wk (lv' := [some (.ref 39), some (.int x1), some (.int ((tm_up (tm_up v1.2.1 39 32 (0 : Int32)) 39 33 (0 : Int32)) 39 26))]) ⟨Or.inr rfl, Or.inr rfl, Or.inr rfl, trivial⟩ ?_
    exact j_Mo_isPlaced_b52 C G hf
  · have hf := (if_neg h).symm.trans hf
    refine tm_w C tfo_Mo to_Mo_isPlaced 4 rfl rfl rfl ⟨rfl, trivial⟩ ?_
    refine tm_b C to_Mo_isPlaced rfl rfl (fun h => ?_) (fun h => ?_)
    · have hf := (if_pos h).symm.trans hf
      refine tm_wk (lv' := [some (.ref 39), some (.int x1), some (.int ((tm_up (tm_up v1.2.1 39 32 (0 : Int32)) 39 33 (0 : Int32)) 39 26))]) ⟨Or.inr rfl, Or.inr rfl, Or.inr rfl, trivial⟩ ?_
      exact j_Mo_isPlaced_b52 C G hf
    · have hf := (if_neg h).symm.trans hf
      refine tm_w C tfo_Mo to_Mo_isPlaced 2 rfl rfl rfl ⟨rfl, rfl, rfl, trivial⟩ ?_
      refine tm_wk (lv' := [some (.ref 39), some (.int x1), some (.int ((tm_up (tm_up v1.2.1 39 32 (0 : Int32)) 39 33 (0 : Int32)) 39 26))]) ⟨Or.inr rfl, Or.inr rfl, Or.inr rfl, trivial⟩ ?_
      exact j_Mo_isPlaced_b52 C G hf
set_option maxRecDepth 100000 in
theorem ct_Mo_isPlaced {ex : List tm_Sh} {p0 : Int32} {mI : tm_I} {mL : tm_L} {r : Int32 × tm_I × tm_L} (hf : f_Mo_isPlaced p0 mI mL = some r) : tm_M ty_Mo_isPlaced 6 153 0 0 [.ref 39, .int p0] (sh0 ++ ex, mI, mL, rr) (tm_is (some (.int r.1)) (sh0 ++ ex, r.2.1, r.2.2, rr)) := by
  refine tm_body (by decide) (Nat.le_of_ble_eq_true rfl) fun Γ C G => ?_
  exact j_Mo_isPlaced_b0 C G hf
/-! Mo_tryField -/
def f_Mo_tryField_b43 (s0 : Int32) (mI : tm_I) (mL : tm_L) : Option (Int32 × tm_I × tm_L) := some (s0, mI, mL)
def f_Mo_tryField_b18  (mI : tm_I) (mL : tm_L) : Option (Int32 × tm_I × tm_L) := f_Mo_tryField_b43 (8 : Int32) mI mL
def f_Mo_tryField_b0  (mI : tm_I) (mL : tm_L) : Option (Int32 × tm_I × tm_L) := (f_Mo_fits mI mL).bind fun v1 => if v1.1 = 0 then f_Mo_tryField_b18 v1.2.1 v1.2.2 else (f_Mo_isPlaced (v1.2.1 39 25) v1.2.1 v1.2.2).bind fun v2 => if ¬ v2.1 = 0 then if ((v2.2.1 39 26) + (v2.2.1 39 34)) ≤ (120 : Int32) then f_Mo_tryField_b43 (0 : Int32) v2.2.1 v2.2.2 else f_Mo_tryField_b43 (10 : Int32) v2.2.1 v2.2.2 else f_Mo_tryField_b18 v2.2.1 v2.2.2
abbrev f_Mo_tryField  (mI : tm_I) (mL : tm_L) : Option (Int32 × tm_I × tm_L) := f_Mo_tryField_b0  mI mL
set_option maxRecDepth 100000 in
set_option maxHeartbeats 4000000 in
theorem j_Mo_tryField_b43 {Γ : tm_G} {ex : List tm_Sh} {av : List Value} {X0 : tm_X} {r : Int32 × tm_I × tm_L} (C : tm_C Γ ty_Mo_tryField.1.cls ty_Mo_tryField.2.1 ty_Mo_tryField.2.2.1) (G : tm_Γ ty_Mo_tryField 7 175 0 0 av X0 (tm_is (some (.int r.1)) (sh0 ++ ex, r.2.1, r.2.2, rr)) Γ) {s0 : Int32} {mI : tm_I} {mL : tm_L} (hf : f_Mo_tryField_b43 s0 mI mL = some r) : tm_T Γ 1 0 0 43 [some (.ref 39)] [.int s0] (sh0 ++ ex) mI mL rr := by
  have Ro := G.ro
  unfold f_Mo_tryField_b43 at hf
  cases hf
  exact tm_ei C G to_Mo_tryField rfl rfl (Nat.le_refl _) rfl ⟨rfl, rfl⟩
set_option maxRecDepth 100000 in
set_option maxHeartbeats 4000000 in
theorem j_Mo_tryField_b18 {Γ : tm_G} {ex : List tm_Sh} {av : List Value} {X0 : tm_X} {r : Int32 × tm_I × tm_L} (C : tm_C Γ ty_Mo_tryField.1.cls ty_Mo_tryField.2.1 ty_Mo_tryField.2.2.1) (G : tm_Γ ty_Mo_tryField 7 175 0 0 av X0 (tm_is (some (.int r.1)) (sh0 ++ ex, r.2.1, r.2.2, rr)) Γ) {mI : tm_I} {mL : tm_L} (hf : f_Mo_tryField_b18  mI mL = some r) : tm_T Γ 1 0 0 18 [some (.ref 39)] [] (sh0 ++ ex) mI mL rr := by
  have Ro := G.ro
  unfold f_Mo_tryField_b18 at hf
  refine tm_w C tfo_Mo to_Mo_tryField 1 rfl rfl rfl trivial ?_
  refine tm_wk (lv' := [some (.ref 39)]) ⟨Or.inr rfl, trivial⟩ ?_
  exact j_Mo_tryField_b43 C G hf
set_option maxRecDepth 100000 in
set_option maxHeartbeats 4000000 in
theorem j_Mo_tryField_b0 {Γ : tm_G} {ex : List tm_Sh} {av : List Value} {X0 : tm_X} {r : Int32 × tm_I × tm_L} (C : tm_C Γ ty_Mo_tryField.1.cls ty_Mo_tryField.2.1 ty_Mo_tryField.2.2.1) (G : tm_Γ ty_Mo_tryField 7 175 0 0 av X0 (tm_is (some (.int r.1)) (sh0 ++ ex, r.2.1, r.2.2, rr)) Γ) {mI : tm_I} {mL : tm_L} (hf : f_Mo_tryField_b0  mI mL = some r) : tm_T Γ 1 0 0 0 [some (.ref 39)] [] (sh0 ++ ex) mI mL rr := by
  have Ro := G.ro
  unfold f_Mo_tryField_b0 at hf
  refine tm_w C tfo_Mo to_Mo_tryField 0 rfl rfl rfl trivial ?_
  obtain ⟨v1, hv1, hf⟩ := Option.bind_eq_some_iff.mp hf
  refine tm_cV C Ro to_Mo_tryField tl_Mo_116 rfl (ct_Mo_fits hv1) rfl rfl rfl rfl rfl rfl rfl (Nat.le_refl _) (Nat.le_refl _) ?_
  refine tm_b C to_Mo_tryField rfl rfl (fun h => ?_) (fun h => ?_)
  · have hf := (if_pos h).symm.trans hf
    refine tm_wk (lv' := [some (.ref 39)]) ⟨Or.inr rfl, trivial⟩ ?_
    exact j_Mo_tryField_b18 C G hf
  · have hf := (if_neg h).symm.trans hf
    refine tm_w C tfo_Mo to_Mo_tryField 2 rfl rfl rfl ⟨rfl, trivial⟩ ?_
    obtain ⟨v2, hv2, hf⟩ := Option.bind_eq_some_iff.mp hf
    refine tm_cV C Ro to_Mo_tryField tl_Mo_120 rfl (ct_Mo_isPlaced hv2) rfl rfl rfl rfl rfl rfl rfl (Nat.le_refl _) (Nat.le_refl _) ?_
    refine tm_b C to_Mo_tryField rfl rfl (fun h => ?_) (fun h => ?_)
    · have hf := (if_pos h).symm.trans hf
      refine tm_w C tfo_Mo to_Mo_tryField 5 rfl rfl rfl ⟨rfl, rfl, trivial⟩ ?_
      refine tm_b C to_Mo_tryField rfl rfl (fun h => ?_) (fun h => ?_)
      · have hf := (if_pos h).symm.trans hf
        refine tm_w C tfo_Mo to_Mo_tryField 0 rfl rfl rfl trivial ?_
        refine tm_wk (lv' := [some (.ref 39)]) ⟨Or.inr rfl, trivial⟩ ?_
        exact j_Mo_tryField_b43 C G hf
      · have hf := (if_neg h).symm.trans hf
        refine tm_w C tfo_Mo to_Mo_tryField 1 rfl rfl rfl trivial ?_
        refine tm_wk (lv' := [some (.ref 39)]) ⟨Or.inr rfl, trivial⟩ ?_
        exact j_Mo_tryField_b43 C G hf
    · have hf := (if_neg h).symm.trans hf
      refine tm_wk (lv' := [some (.ref 39)]) ⟨Or.inr rfl, trivial⟩ ?_
      exact j_Mo_tryField_b18 C G hf
set_option maxRecDepth 100000 in
theorem ct_Mo_tryField {ex : List tm_Sh}  {mI : tm_I} {mL : tm_L} {r : Int32 × tm_I × tm_L} (hf : f_Mo_tryField  mI mL = some r) : tm_M ty_Mo_tryField 7 175 0 0 [.ref 39] (sh0 ++ ex, mI, mL, rr) (tm_is (some (.int r.1)) (sh0 ++ ex, r.2.1, r.2.2, rr)) := by
  refine tm_body (by decide) (Nat.le_of_ble_eq_true rfl) fun Γ C G => ?_
  exact j_Mo_tryField_b0 C G hf
/-! Mo_mayStand -/
def f_Mo_mayStand_b56 (x1 : Int32) (mI : tm_I) (mL : tm_L) : Option (Int32 × tm_I × tm_L) := some ((0 : Int32), mI, mL)
def f_Mo_mayStand_b79 (x1 : Int32) (s0 : Int32) (mI : tm_I) (mL : tm_L) : Option (Int32 × tm_I × tm_L) := if s0 = 0 ∨ s0 = 1 then some (s0, mI, mL) else none
def f_Mo_mayStand_b74 (x1 : Int32) (mI : tm_I) (mL : tm_L) : Option (Int32 × tm_I × tm_L) := f_Mo_mayStand_b79 x1 (1 : Int32) mI mL
def f_Mo_mayStand_b58 (x1 : Int32) (mI : tm_I) (mL : tm_L) : Option (Int32 × tm_I × tm_L) := if ¬ x1 = (59 : Int32) then f_Mo_mayStand_b74 x1 mI mL else if ¬ ((0 : Int32) < 0 ∨ 16 ≤ Int32.toNatClampNeg (0 : Int32)) then if (mI 49 (Int32.toNatClampNeg (0 : Int32))) = (-1 : Int32) then f_Mo_mayStand_b79 x1 (0 : Int32) mI mL else f_Mo_mayStand_b74 x1 mI mL else none
def f_Mo_mayStand_b30 (x1 : Int32) (s0 : Int32) (mI : tm_I) (mL : tm_L) : Option (Int32 × tm_I × tm_L) := if s0 = 0 ∨ s0 = 1 then some (s0, mI, mL) else none
def f_Mo_mayStand_b25 (x1 : Int32) (mI : tm_I) (mL : tm_L) : Option (Int32 × tm_I × tm_L) := f_Mo_mayStand_b30 x1 (1 : Int32) mI mL
def f_Mo_mayStand_b0 (x1 : Int32) (mI : tm_I) (mL : tm_L) : Option (Int32 × tm_I × tm_L) := if ¬ (mI 39 18) = 0 then if x1 = (83 : Int32) then f_Mo_mayStand_b56 x1 mI mL else if x1 = (76 : Int32) then f_Mo_mayStand_b56 x1 mI mL else if ¬ x1 = (69 : Int32) then f_Mo_mayStand_b58 x1 mI mL else if (mI 39 9) ≤ 0 then f_Mo_mayStand_b58 x1 mI mL else f_Mo_mayStand_b56 x1 mI mL else if x1 = (83 : Int32) then f_Mo_mayStand_b25 x1 mI mL else if x1 = (75 : Int32) then f_Mo_mayStand_b25 x1 mI mL else if ¬ x1 = (76 : Int32) then f_Mo_mayStand_b30 x1 (0 : Int32) mI mL else f_Mo_mayStand_b25 x1 mI mL
abbrev f_Mo_mayStand (p0 : Int32) (mI : tm_I) (mL : tm_L) : Option (Int32 × tm_I × tm_L) := f_Mo_mayStand_b0 p0 mI mL
set_option maxRecDepth 100000 in
set_option maxHeartbeats 4000000 in
theorem j_Mo_mayStand_b56 {Γ : tm_G} {ex : List tm_Sh} {av : List Value} {X0 : tm_X} {r : Int32 × tm_I × tm_L} (C : tm_C Γ ty_Mo_mayStand.1.cls ty_Mo_mayStand.2.1 ty_Mo_mayStand.2.2.1) (G : tm_Γ ty_Mo_mayStand 0 0 0 0 av X0 (tm_is (some (.int r.1)) (sh0 ++ ex, r.2.1, r.2.2, rr)) Γ) {x1 : Int32} {mI : tm_I} {mL : tm_L} (hf : f_Mo_mayStand_b56 x1 mI mL = some r) : tm_T Γ 2 0 0 56 [some (.ref 39), some (.int x1)] [] (sh0 ++ ex) mI mL rr := by
  have Ro := G.ro
  unfold f_Mo_mayStand_b56 at hf
  refine tm_w C tfo_Mo to_Mo_mayStand 0 rfl rfl rfl trivial ?_
  cases hf
  exact tm_ei C G to_Mo_mayStand rfl rfl (Nat.le_refl _) rfl ⟨rfl, rfl⟩
set_option maxRecDepth 100000 in
set_option maxHeartbeats 4000000 in
theorem j_Mo_mayStand_b79 {Γ : tm_G} {ex : List tm_Sh} {av : List Value} {X0 : tm_X} {r : Int32 × tm_I × tm_L} (C : tm_C Γ ty_Mo_mayStand.1.cls ty_Mo_mayStand.2.1 ty_Mo_mayStand.2.2.1) (G : tm_Γ ty_Mo_mayStand 0 0 0 0 av X0 (tm_is (some (.int r.1)) (sh0 ++ ex, r.2.1, r.2.2, rr)) Γ) {x1 : Int32} {s0 : Int32} {mI : tm_I} {mL : tm_L} (hf : f_Mo_mayStand_b79 x1 s0 mI mL = some r) : tm_T Γ 2 0 0 79 [some (.ref 39), some (.int x1)] [.int s0] (sh0 ++ ex) mI mL rr := by
  have Ro := G.ro
  unfold f_Mo_mayStand_b79 at hf
  obtain ⟨c1, hf⟩ := tm_iteN hf
  cases hf
  exact tm_ei C G to_Mo_mayStand rfl rfl (Nat.le_refl _) (tm_nz c1) ⟨rfl, rfl⟩
set_option maxRecDepth 100000 in
set_option maxHeartbeats 4000000 in
theorem j_Mo_mayStand_b74 {Γ : tm_G} {ex : List tm_Sh} {av : List Value} {X0 : tm_X} {r : Int32 × tm_I × tm_L} (C : tm_C Γ ty_Mo_mayStand.1.cls ty_Mo_mayStand.2.1 ty_Mo_mayStand.2.2.1) (G : tm_Γ ty_Mo_mayStand 0 0 0 0 av X0 (tm_is (some (.int r.1)) (sh0 ++ ex, r.2.1, r.2.2, rr)) Γ) {x1 : Int32} {mI : tm_I} {mL : tm_L} (hf : f_Mo_mayStand_b74 x1 mI mL = some r) : tm_T Γ 2 0 0 74 [some (.ref 39), some (.int x1)] [] (sh0 ++ ex) mI mL rr := by
  have Ro := G.ro
  unfold f_Mo_mayStand_b74 at hf
  refine tm_w C tfo_Mo to_Mo_mayStand 1 rfl rfl rfl trivial ?_
  refine tm_wk (lv' := [some (.ref 39), some (.int x1)]) ⟨Or.inr rfl, Or.inr rfl, trivial⟩ ?_
  exact j_Mo_mayStand_b79 C G hf
set_option maxRecDepth 100000 in
set_option maxHeartbeats 4000000 in
theorem j_Mo_mayStand_b58 {Γ : tm_G} {ex : List tm_Sh} {av : List Value} {X0 : tm_X} {r : Int32 × tm_I × tm_L} (C : tm_C Γ ty_Mo_mayStand.1.cls ty_Mo_mayStand.2.1 ty_Mo_mayStand.2.2.1) (G : tm_Γ ty_Mo_mayStand 0 0 0 0 av X0 (tm_is (some (.int r.1)) (sh0 ++ ex, r.2.1, r.2.2, rr)) Γ) {x1 : Int32} {mI : tm_I} {mL : tm_L} (hf : f_Mo_mayStand_b58 x1 mI mL = some r) : tm_T Γ 2 0 0 58 [some (.ref 39), some (.int x1)] [] (sh0 ++ ex) mI mL rr := by
  have Ro := G.ro
  unfold f_Mo_mayStand_b58 at hf
  refine tm_w C tfo_Mo to_Mo_mayStand 1 rfl rfl rfl trivial ?_
  refine tm_b C to_Mo_mayStand rfl rfl (fun h => ?_) (fun h => ?_)
  · have hf := (if_pos h).symm.trans hf
    refine tm_wk (lv' := [some (.ref 39), some (.int x1)]) ⟨Or.inr rfl, Or.inr rfl, trivial⟩ ?_
    exact j_Mo_mayStand_b74 C G hf
  · have hf := (if_neg h).symm.trans hf
    obtain ⟨c2, hf⟩ := tm_iteN hf
    refine tm_w C tfo_Mo to_Mo_mayStand 4 rfl rfl rfl ⟨rfl, ⟨_, rfl, c2⟩, trivial⟩ ?_
    refine tm_b C to_Mo_mayStand rfl rfl (fun h => ?_) (fun h => ?_)
    · have hf := (if_pos h).symm.trans hf
      refine tm_w C tfo_Mo to_Mo_mayStand 0 rfl rfl rfl trivial ?_
      refine tm_wk (lv' := [some (.ref 39), some (.int x1)]) ⟨Or.inr rfl, Or.inr rfl, trivial⟩ ?_
      exact j_Mo_mayStand_b79 C G hf
    · have hf := (if_neg h).symm.trans hf
      refine tm_wk (lv' := [some (.ref 39), some (.int x1)]) ⟨Or.inr rfl, Or.inr rfl, trivial⟩ ?_
      exact j_Mo_mayStand_b74 C G hf
set_option maxRecDepth 100000 in
set_option maxHeartbeats 4000000 in
theorem j_Mo_mayStand_b30 {Γ : tm_G} {ex : List tm_Sh} {av : List Value} {X0 : tm_X} {r : Int32 × tm_I × tm_L} (C : tm_C Γ ty_Mo_mayStand.1.cls ty_Mo_mayStand.2.1 ty_Mo_mayStand.2.2.1) (G : tm_Γ ty_Mo_mayStand 0 0 0 0 av X0 (tm_is (some (.int r.1)) (sh0 ++ ex, r.2.1, r.2.2, rr)) Γ) {x1 : Int32} {s0 : Int32} {mI : tm_I} {mL : tm_L} (hf : f_Mo_mayStand_b30 x1 s0 mI mL = some r) : tm_T Γ 2 0 0 30 [some (.ref 39), some (.int x1)] [.int s0] (sh0 ++ ex) mI mL rr := by
  have Ro := G.ro
  unfold f_Mo_mayStand_b30 at hf
  obtain ⟨c3, hf⟩ := tm_iteN hf
  cases hf
  exact tm_ei C G to_Mo_mayStand rfl rfl (Nat.le_refl _) (tm_nz c3) ⟨rfl, rfl⟩
set_option maxRecDepth 100000 in
set_option maxHeartbeats 4000000 in
theorem j_Mo_mayStand_b25 {Γ : tm_G} {ex : List tm_Sh} {av : List Value} {X0 : tm_X} {r : Int32 × tm_I × tm_L} (C : tm_C Γ ty_Mo_mayStand.1.cls ty_Mo_mayStand.2.1 ty_Mo_mayStand.2.2.1) (G : tm_Γ ty_Mo_mayStand 0 0 0 0 av X0 (tm_is (some (.int r.1)) (sh0 ++ ex, r.2.1, r.2.2, rr)) Γ) {x1 : Int32} {mI : tm_I} {mL : tm_L} (hf : f_Mo_mayStand_b25 x1 mI mL = some r) : tm_T Γ 2 0 0 25 [some (.ref 39), some (.int x1)] [] (sh0 ++ ex) mI mL rr := by
  have Ro := G.ro
  unfold f_Mo_mayStand_b25 at hf
  refine tm_w C tfo_Mo to_Mo_mayStand 1 rfl rfl rfl trivial ?_
  refine tm_wk (lv' := [some (.ref 39), some (.int x1)]) ⟨Or.inr rfl, Or.inr rfl, trivial⟩ ?_
  exact j_Mo_mayStand_b30 C G hf
set_option maxRecDepth 100000 in
set_option maxHeartbeats 4000000 in
theorem j_Mo_mayStand_b0 {Γ : tm_G} {ex : List tm_Sh} {av : List Value} {X0 : tm_X} {r : Int32 × tm_I × tm_L} (C : tm_C Γ ty_Mo_mayStand.1.cls ty_Mo_mayStand.2.1 ty_Mo_mayStand.2.2.1) (G : tm_Γ ty_Mo_mayStand 0 0 0 0 av X0 (tm_is (some (.int r.1)) (sh0 ++ ex, r.2.1, r.2.2, rr)) Γ) {x1 : Int32} {mI : tm_I} {mL : tm_L} (hf : f_Mo_mayStand_b0 x1 mI mL = some r) : tm_T Γ 2 0 0 0 [some (.ref 39), some (.int x1)] [] (sh0 ++ ex) mI mL rr := by
  have Ro := G.ro
  unfold f_Mo_mayStand_b0 at hf
  refine tm_w C tfo_Mo to_Mo_mayStand 1 rfl rfl rfl ⟨rfl, trivial⟩ ?_
  refine tm_b C to_Mo_mayStand rfl rfl (fun h => ?_) (fun h => ?_)
  · have hf := (if_pos h).symm.trans hf
    refine tm_w C tfo_Mo to_Mo_mayStand 1 rfl rfl rfl trivial ?_
    refine tm_b C to_Mo_mayStand rfl rfl (fun h => ?_) (fun h => ?_)
    · have hf := (if_pos h).symm.trans hf
      refine tm_wk (lv' := [some (.ref 39), some (.int x1)]) ⟨Or.inr rfl, Or.inr rfl, trivial⟩ ?_
      exact j_Mo_mayStand_b56 C G hf
    · have hf := (if_neg h).symm.trans hf
      refine tm_w C tfo_Mo to_Mo_mayStand 1 rfl rfl rfl trivial ?_
      refine tm_b C to_Mo_mayStand rfl rfl (fun h => ?_) (fun h => ?_)
      · have hf := (if_pos h).symm.trans hf
        refine tm_wk (lv' := [some (.ref 39), some (.int x1)]) ⟨Or.inr rfl, Or.inr rfl, trivial⟩ ?_
        exact j_Mo_mayStand_b56 C G hf
      · have hf := (if_neg h).symm.trans hf
        refine tm_w C tfo_Mo to_Mo_mayStand 1 rfl rfl rfl trivial ?_
        refine tm_b C to_Mo_mayStand rfl rfl (fun h => ?_) (fun h => ?_)
        · have hf := (if_pos h).symm.trans hf
          refine tm_wk (lv' := [some (.ref 39), some (.int x1)]) ⟨Or.inr rfl, Or.inr rfl, trivial⟩ ?_
          exact j_Mo_mayStand_b58 C G hf
        · have hf := (if_neg h).symm.trans hf
          refine tm_w C tfo_Mo to_Mo_mayStand 1 rfl rfl rfl ⟨rfl, trivial⟩ ?_
          refine tm_b C to_Mo_mayStand rfl rfl (fun h => ?_) (fun h => ?_)
          · have hf := (if_pos h).symm.trans hf
            refine tm_wk (lv' := [some (.ref 39), some (.int x1)]) ⟨Or.inr rfl, Or.inr rfl, trivial⟩ ?_
            exact j_Mo_mayStand_b58 C G hf
          · have hf := (if_neg h).symm.trans hf
            refine tm_wk (lv' := [some (.ref 39), some (.int x1)]) ⟨Or.inr rfl, Or.inr rfl, trivial⟩ ?_
            exact j_Mo_mayStand_b56 C G hf
  · have hf := (if_neg h).symm.trans hf
    refine tm_w C tfo_Mo to_Mo_mayStand 1 rfl rfl rfl trivial ?_
    refine tm_b C to_Mo_mayStand rfl rfl (fun h => ?_) (fun h => ?_)
    · have hf := (if_pos h).symm.trans hf
      refine tm_wk (lv' := [some (.ref 39), some (.int x1)]) ⟨Or.inr rfl, Or.inr rfl, trivial⟩ ?_
      exact j_Mo_mayStand_b25 C G hf
    · have hf := (if_neg h).symm.trans hf
      refine tm_w C tfo_Mo to_Mo_mayStand 1 rfl rfl rfl trivial ?_
      refine tm_b C to_Mo_mayStand rfl rfl (fun h => ?_) (fun h => ?_)
      · have hf := (if_pos h).symm.trans hf
        refine tm_wk (lv' := [some (.ref 39), some (.int x1)]) ⟨Or.inr rfl, Or.inr rfl, trivial⟩ ?_
        exact j_Mo_mayStand_b25 C G hf
      · have hf := (if_neg h).symm.trans hf
        refine tm_w C tfo_Mo to_Mo_mayStand 1 rfl rfl rfl trivial ?_
        refine tm_b C to_Mo_mayStand rfl rfl (fun h => ?_) (fun h => ?_)
        · have hf := (if_pos h).symm.trans hf
          refine tm_w C tfo_Mo to_Mo_mayStand 0 rfl rfl rfl trivial ?_
          refine tm_wk (lv' := [some (.ref 39), some (.int x1)]) ⟨Or.inr rfl, Or.inr rfl, trivial⟩ ?_
          exact j_Mo_mayStand_b30 C G hf
        · have hf := (if_neg h).symm.trans hf
          refine tm_wk (lv' := [some (.ref 39), some (.int x1)]) ⟨Or.inr rfl, Or.inr rfl, trivial⟩ ?_
          exact j_Mo_mayStand_b25 C G hf
set_option maxRecDepth 100000 in
theorem ct_Mo_mayStand {ex : List tm_Sh} {p0 : Int32} {mI : tm_I} {mL : tm_L} {r : Int32 × tm_I × tm_L} (hf : f_Mo_mayStand p0 mI mL = some r) : tm_M ty_Mo_mayStand 0 0 0 0 [.ref 39, .int p0] (sh0 ++ ex, mI, mL, rr) (tm_is (some (.int r.1)) (sh0 ++ ex, r.2.1, r.2.2, rr)) := by
  refine tm_body (by decide) (Nat.le_of_ble_eq_true rfl) fun Γ C G => ?_
  exact j_Mo_mayStand_b0 C G hf
