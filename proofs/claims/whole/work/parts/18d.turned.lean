/-! Sh_addLabel -/
def f_Sh_addLabel_b66 (x1 : Int32) (x2 : Int32) (x3 : Int32) (x4 : Int32) (mI : tm_I) (mL : tm_L) : Option (Int32 × tm_I × tm_L) := some (0, tm_up mI 20 3 ((mI 20 3) + (1 : Int32)), mL)
def f_Sh_addLabel_b0 (x1 : Int32) (x2 : Int32) (x3 : Int32) (mI : tm_I) (mL : tm_L) : Option (Int32 × tm_I × tm_L) := if ((mI 20 3) * (4 : Int32)) < 0 then f_Sh_addLabel_b66 x1 x2 x3 ((mI 20 3) * (4 : Int32)) mI mL else if (Int32.ofNat 48) < (((mI 20 3) * (4 : Int32)) + (4 : Int32)) then f_Sh_addLabel_b66 x1 x2 x3 ((mI 20 3) * (4 : Int32)) mI mL else if ¬ (((mI 20 3) * (4 : Int32)) < 0 ∨ 48 ≤ Int32.toNatClampNeg ((mI 20 3) * (4 : Int32))) then if ¬ ((((mI 20 3) * (4 : Int32)) + (1 : Int32)) < 0 ∨ 48 ≤ Int32.toNatClampNeg (((mI 20 3) * (4 : Int32)) + (1 : Int32))) then if ¬ ((((mI 20 3) * (4 : Int32)) + (2 : Int32)) < 0 ∨ 48 ≤ Int32.toNatClampNeg (((mI 20 3) * (4 : Int32)) + (2 : Int32))) then if ¬ ((((mI 20 3) * (4 : Int32)) + (3 : Int32)) < 0 ∨ 48 ≤ Int32.toNatClampNeg (((mI 20 3) * (4 : Int32)) + (3 : Int32))) then f_Sh_addLabel_b66 x1 x2 x3 ((mI 20 3) * (4 : Int32)) (tm_up (tm_up (tm_up (tm_up mI 21 (Int32.toNatClampNeg ((mI 20 3) * (4 : Int32))) x1) 21 (Int32.toNatClampNeg (((mI 20 3) * (4 : Int32)) + (1 : Int32))) x2) 21 (Int32.toNatClampNeg (((mI 20 3) * (4 : Int32)) + (2 : Int32))) x3) 21 (Int32.toNatClampNeg (((mI 20 3) * (4 : Int32)) + (3 : Int32))) ((tm_up (tm_up (tm_up mI 21 (Int32.toNatClampNeg ((mI 20 3) * (4 : Int32))) x1) 21 (Int32.toNatClampNeg (((mI 20 3) * (4 : Int32)) + (1 : Int32))) x2) 21 (Int32.toNatClampNeg (((mI 20 3) * (4 : Int32)) + (2 : Int32))) x3) 20 5)) mL else none else none else none else none
abbrev f_Sh_addLabel (p0 : Int32) (p1 : Int32) (p2 : Int32) (mI : tm_I) (mL : tm_L) : Option (Int32 × tm_I × tm_L) := f_Sh_addLabel_b0 p0 p1 p2 mI mL
set_option maxRecDepth 100000 in
set_option maxHeartbeats 4000000 in
theorem j_Sh_addLabel_b66 {Γ : tm_G} {ex : List tm_Sh} {av : List Value} {X0 : tm_X} {r : Int32 × tm_I × tm_L} (C : tm_C Γ ty_Sh_addLabel.1.cls ty_Sh_addLabel.2.1 ty_Sh_addLabel.2.2.1) (G : tm_Γ ty_Sh_addLabel 0 0 0 0 av X0 (tm_is none (sh0 ++ ex, r.2.1, r.2.2, rr)) Γ) {x1 : Int32} {x2 : Int32} {x3 : Int32} {x4 : Int32} {mI : tm_I} {mL : tm_L} (hf : f_Sh_addLabel_b66 x1 x2 x3 x4 mI mL = some r) : tm_T Γ 5 0 0 66 [some (.ref 20), some (.int x1), some (.int x2), some (.int x3), some (.int x4)] [] (sh0 ++ ex) mI mL rr := by
  have Ro := G.ro
  unfold f_Sh_addLabel_b66 at hf
  refine tm_w C tfo_Sh to_Sh_addLabel 5 rfl rfl rfl ⟨rfl, rfl, trivial⟩ ?_
  cases hf
  exact tm_ev C G to_Sh_addLabel rfl rfl (Nat.le_refl _) ⟨rfl, rfl⟩
set_option maxRecDepth 100000 in
set_option maxHeartbeats 4000000 in
theorem j_Sh_addLabel_b0 {Γ : tm_G} {ex : List tm_Sh} {av : List Value} {X0 : tm_X} {r : Int32 × tm_I × tm_L} (C : tm_C Γ ty_Sh_addLabel.1.cls ty_Sh_addLabel.2.1 ty_Sh_addLabel.2.2.1) (G : tm_Γ ty_Sh_addLabel 0 0 0 0 av X0 (tm_is none (sh0 ++ ex, r.2.1, r.2.2, rr)) Γ) {x1 : Int32} {x2 : Int32} {x3 : Int32} {mI : tm_I} {mL : tm_L} (hf : f_Sh_addLabel_b0 x1 x2 x3 mI mL = some r) : tm_T Γ 5 0 0 0 [some (.ref 20), some (.int x1), some (.int x2), some (.int x3), none] [] (sh0 ++ ex) mI mL rr := by
  have Ro := G.ro
  unfold f_Sh_addLabel_b0 at hf
  refine tm_w C tfo_Sh to_Sh_addLabel 5 rfl rfl rfl ⟨rfl, trivial⟩ ?_
  refine tm_b C to_Sh_addLabel rfl rfl (fun h => ?_) (fun h => ?_)
  · have hf := (if_pos h).symm.trans hf
    refine tm_wk (lv' := [some (.ref 20), some (.int x1), some (.int x2), some (.int x3), some (.int ((mI 20 3) * (4 : Int32)))]) ⟨Or.inr rfl, Or.inr rfl, Or.inr rfl, Or.inr rfl, Or.inr rfl, trivial⟩ ?_
    exact j_Sh_addLabel_b66 C G hf
  · have hf := (if_neg h).symm.trans hf
    refine tm_w C tfo_Sh to_Sh_addLabel 5 rfl rfl rfl ⟨rfl, trivial⟩ ?_
    refine tm_b C to_Sh_addLabel rfl rfl (fun h => ?_) (fun h => ?_)
    · have hf := (if_pos h).symm.trans hf
      refine tm_wk (lv' := [some (.ref 20), some (.int x1), some (.int x2), some (.int x3), some (.int ((mI 20 3) * (4 : Int32)))]) ⟨Or.inr rfl, Or.inr rfl, Or.inr rfl, Or.inr rfl, Or.inr rfl, trivial⟩ ?_
      exact j_Sh_addLabel_b66 C G hf
    · have hf := (if_neg h).symm.trans hf
      obtain ⟨c1, hf⟩ := tm_iteN hf
      obtain ⟨c2, hf⟩ := tm_iteN hf
      obtain ⟨c3, hf⟩ := tm_iteN hf
      obtain ⟨c4, hf⟩ := tm_iteN hf
      refine tm_w C tfo_Sh to_Sh_addLabel 26 rfl rfl rfl ⟨rfl, ⟨_, rfl, c1⟩, rfl, ⟨_, rfl, c2⟩, rfl, ⟨_, rfl, c3⟩, rfl, rfl, ⟨_, rfl, c4⟩, trivial⟩ ?_
      refine tm_wk (lv' := [some (.ref 20), some (.int x1), some (.int x2), some (.int x3), some (.int ((mI 20 3) * (4 : Int32)))]) ⟨Or.inr rfl, Or.inr rfl, Or.inr rfl, Or.inr rfl, Or.inr rfl, trivial⟩ ?_
      exact j_Sh_addLabel_b66 C G hf
set_option maxRecDepth 100000 in
theorem ct_Sh_addLabel {ex : List tm_Sh} {p0 : Int32} {p1 : Int32} {p2 : Int32} {mI : tm_I} {mL : tm_L} {r : Int32 × tm_I × tm_L} (hf : f_Sh_addLabel p0 p1 p2 mI mL = some r) : tm_M ty_Sh_addLabel 0 0 0 0 [.ref 20, .int p0, .int p1, .int p2] (sh0 ++ ex, mI, mL, rr) (tm_is none (sh0 ++ ex, r.2.1, r.2.2, rr)) := by
  refine tm_body (by decide) (Nat.le_of_ble_eq_true rfl) fun Γ C G => ?_
  exact j_Sh_addLabel_b0 C G hf
/-! Sh_copyOrders -/
def f_Sh_copyOrders_b106 (x1 : Int32) (x2 : Int32) (x3 : Int32) (mI : tm_I) (mL : tm_L) : Option (Int32 × tm_I × tm_L) := some (0, mI, mL)
def f_Sh_copyOrders_l25 (r2 : Int32 → Int32 → Int32 → tm_I → tm_L → Option (Int32 × tm_I × tm_L)) : Nat → Int32 → Int32 → Int32 → Int32 → Int32 → tm_I → tm_L → Option (Int32 × tm_I × tm_L)
  | 0, _, _, _, _, _, _, _ => none
  | n + 1, x1, x2, x3, x4, x5, mI, mL => if (14 : Int32) ≤ x5 then (f_Sh_cell x4 (12 : Int32) mI mL).bind fun v1 => (f_Sh_cell x4 (13 : Int32) v1.2.1 v1.2.2).bind fun v2 => (f_Sh_cell x4 (11 : Int32) v2.2.1 v2.2.2).bind fun v3 => (f_La_tenTo v3.1 v3.2.1 v3.2.2).bind fun v4 => (f_Ma_floorMod (v1.1 + (v2.1 * x2)) v4.1 v4.2.1 v4.2.2).bind fun v5 => (f_Sh_setCell x4 (12 : Int32) v5.1 v5.2.1 v5.2.2).bind fun v6 => r2 x1 x2 (x3 + (1 : Int32)) v6.2.1 v6.2.2 else (f_Sh_cell (x1 + x3) x5 mI mL).bind fun v7 => (f_Sh_setCell x4 x5 v7.1 v7.2.1 v7.2.2).bind fun v8 => (f_Sh_copyOrders_l25 r2 n) x1 x2 x3 x4 (x5 + (1 : Int32)) v8.2.1 v8.2.2
def f_Sh_copyOrders_l2 : Nat → Int32 → Int32 → Int32 → tm_I → tm_L → Option (Int32 × tm_I × tm_L)
  | 0, _, _, _, _, _ => none
  | n + 1, x1, x2, x3, mI, mL => if x2 ≤ 0 then f_Sh_copyOrders_b106 x1 x2 x3 mI mL else if (mI 20 5) ≤ x3 then f_Sh_copyOrders_b106 x1 x2 x3 mI mL else f_Sh_copyOrders_l25 (f_Sh_copyOrders_l2 n) tm_F x1 x2 x3 ((mI 20 4) + x3) (0 : Int32) mI mL
def f_Sh_copyOrders_b0 (x1 : Int32) (x2 : Int32) (mI : tm_I) (mL : tm_L) : Option (Int32 × tm_I × tm_L) := f_Sh_copyOrders_l2 tm_F x1 x2 (0 : Int32) mI mL
abbrev f_Sh_copyOrders (p0 : Int32) (p1 : Int32) (mI : tm_I) (mL : tm_L) : Option (Int32 × tm_I × tm_L) := f_Sh_copyOrders_b0 p0 p1 mI mL
set_option maxRecDepth 100000 in
set_option maxHeartbeats 4000000 in
theorem j_Sh_copyOrders_b106 {Γ : tm_G} {ex : List tm_Sh} {av : List Value} {X0 : tm_X} {r : Int32 × tm_I × tm_L} (C : tm_C Γ ty_Sh_copyOrders.1.cls ty_Sh_copyOrders.2.1 ty_Sh_copyOrders.2.2.1) (G : tm_Γ ty_Sh_copyOrders 1 23 0 0 av X0 (tm_is none (sh0 ++ ex, r.2.1, r.2.2, rr)) Γ) {x1 : Int32} {x2 : Int32} {x3 : Int32} {mI : tm_I} {mL : tm_L} (hf : f_Sh_copyOrders_b106 x1 x2 x3 mI mL = some r) : tm_T Γ 6 0 0 106 [some (.ref 20), some (.int x1), some (.int x2), some (.int x3), none, none] [] (sh0 ++ ex) mI mL rr := by
  have Ro := G.ro
  unfold f_Sh_copyOrders_b106 at hf
  cases hf
  exact tm_ev C G to_Sh_copyOrders rfl rfl (Nat.le_refl _) ⟨rfl, rfl⟩
set_option maxRecDepth 100000 in
set_option maxHeartbeats 4000000 in
theorem j_Sh_copyOrders_l25 {Γ : tm_G} {ex : List tm_Sh} {av : List Value} {X0 : tm_X} {r2 : Int32 → Int32 → Int32 → tm_I → tm_L → Option (Int32 × tm_I × tm_L)} {r : Int32 × tm_I × tm_L} (C : tm_C Γ ty_Sh_copyOrders.1.cls ty_Sh_copyOrders.2.1 ty_Sh_copyOrders.2.2.1) (G : tm_Γ ty_Sh_copyOrders 1 23 0 0 av X0 (tm_is none (sh0 ++ ex, r.2.1, r.2.2, rr)) Γ) (H2 : ∀ (x1 : Int32) (x2 : Int32) (x3 : Int32) (mI : tm_I) (mL : tm_L), r2 x1 x2 x3 mI mL = some r → tm_T Γ 6 0 0 2 [some (.ref 20), some (.int x1), some (.int x2), some (.int x3), none, none] [] (sh0 ++ ex) mI mL rr) : ∀ (n : Nat) (x1 : Int32) (x2 : Int32) (x3 : Int32) (x4 : Int32) (x5 : Int32) (mI : tm_I) (mL : tm_L), f_Sh_copyOrders_l25 r2 n x1 x2 x3 x4 x5 mI mL = some r → tm_T Γ 6 0 0 25 [some (.ref 20), some (.int x1), some (.int x2), some (.int x3), some (.int x4), some (.int x5)] [] (sh0 ++ ex) mI mL rr := by
  have Ro := G.ro
  intro n
  induction n with
  | zero => intro x1 x2 x3 x4 x5 mI mL hf; cases hf
  | succ n ih =>
    intro x1 x2 x3 x4 x5 mI mL hf
    rw [f_Sh_copyOrders_l25] at hf
    refine tm_w C tfo_Sh to_Sh_copyOrders 1 rfl rfl rfl trivial ?_
    refine tm_b C to_Sh_copyOrders rfl rfl (fun h => ?_) (fun h => ?_)
    · have hf := (if_pos h).symm.trans hf
      refine tm_w C tfo_Sh to_Sh_copyOrders 2 rfl rfl rfl trivial ?_
      obtain ⟨v1, hv1, hf⟩ := Option.bind_eq_some_iff.mp hf
      refine tm_cV C Ro to_Sh_copyOrders tl_Sh_80 rfl (ct_Sh_cell hv1) rfl rfl rfl rfl rfl rfl rfl (Nat.le_refl _) (Nat.le_refl _) ?_
      refine tm_w C tfo_Sh to_Sh_copyOrders 2 rfl rfl rfl trivial ?_
      obtain ⟨v2, hv2, hf⟩ := Option.bind_eq_some_iff.mp hf
      refine tm_cV C Ro to_Sh_copyOrders tl_Sh_80 rfl (ct_Sh_cell hv2) rfl rfl rfl rfl rfl rfl rfl (Nat.le_refl _) (Nat.le_refl _) ?_
      refine tm_w C tfo_Sh to_Sh_copyOrders 10 rfl rfl rfl trivial ?_
      obtain ⟨v3, hv3, hf⟩ := Option.bind_eq_some_iff.mp hf
      refine tm_cV C Ro to_Sh_copyOrders tl_Sh_80 rfl (ct_Sh_cell hv3) rfl rfl rfl rfl rfl rfl rfl (Nat.le_refl _) (Nat.le_refl _) ?_
      obtain ⟨v4, hv4, hf⟩ := Option.bind_eq_some_iff.mp hf
      refine tm_cN C Ro to_Sh_copyOrders tl_Sh_87 rfl (ct_La_tenTo hv4) rfl rfl rfl rfl rfl (Nat.le_refl _) (Nat.le_refl _) ?_
      obtain ⟨v5, hv5, hf⟩ := Option.bind_eq_some_iff.mp hf
      refine tm_cS C Ro to_Sh_copyOrders tl_Sh_90 rfl (ct_Ma_floorMod hv5) rfl rfl rfl rfl rfl (Nat.le_refl _) (Nat.le_refl _) ?_
      obtain ⟨v6, hv6, hf⟩ := Option.bind_eq_some_iff.mp hf
      refine tm_cV C Ro to_Sh_copyOrders tl_Sh_84 rfl (ct_Sh_setCell hv6) rfl rfl rfl rfl rfl rfl rfl (Nat.le_refl _) (Nat.le_refl _) ?_
      refine tm_w C tfo_Sh to_Sh_copyOrders 1 rfl rfl rfl trivial ?_
      refine tm_wk (lv' := [some (.ref 20), some (.int x1), some (.int x2), some (.int (x3 + (1 : Int32))), none, none]) ⟨Or.inr rfl, Or.inr rfl, Or.inr rfl, Or.inr rfl, Or.inl rfl, Or.inl rfl, trivial⟩ ?_
      exact H2 _ _ _ _ _ hf
    · have hf := (if_neg h).symm.trans hf
      refine tm_w C tfo_Sh to_Sh_copyOrders 7 rfl rfl rfl trivial ?_
      obtain ⟨v7, hv7, hf⟩ := Option.bind_eq_some_iff.mp hf
      refine tm_cV C Ro to_Sh_copyOrders tl_Sh_80 rfl (ct_Sh_cell hv7) rfl rfl rfl rfl rfl rfl rfl (Nat.le_refl _) (Nat.le_refl _) ?_
      obtain ⟨v8, hv8, hf⟩ := Option.bind_eq_some_iff.mp hf
      refine tm_cV C Ro to_Sh_copyOrders tl_Sh_84 rfl (ct_Sh_setCell hv8) rfl rfl rfl rfl rfl rfl rfl (Nat.le_refl _) (Nat.le_refl _) ?_
      refine tm_w C tfo_Sh to_Sh_copyOrders 1 rfl rfl rfl trivial ?_
      refine tm_wk (lv' := [some (.ref 20), some (.int x1), some (.int x2), some (.int x3), some (.int x4), some (.int (x5 + (1 : Int32)))]) ⟨Or.inr rfl, Or.inr rfl, Or.inr rfl, Or.inr rfl, Or.inr rfl, Or.inr rfl, trivial⟩ ?_
      exact ih _ _ _ _ _ _ _ hf
set_option maxRecDepth 100000 in
set_option maxHeartbeats 4000000 in
theorem j_Sh_copyOrders_l2 {Γ : tm_G} {ex : List tm_Sh} {av : List Value} {X0 : tm_X} {r : Int32 × tm_I × tm_L} (C : tm_C Γ ty_Sh_copyOrders.1.cls ty_Sh_copyOrders.2.1 ty_Sh_copyOrders.2.2.1) (G : tm_Γ ty_Sh_copyOrders 1 23 0 0 av X0 (tm_is none (sh0 ++ ex, r.2.1, r.2.2, rr)) Γ) : ∀ (n : Nat) (x1 : Int32) (x2 : Int32) (x3 : Int32) (mI : tm_I) (mL : tm_L), f_Sh_copyOrders_l2 n x1 x2 x3 mI mL = some r → tm_T Γ 6 0 0 2 [some (.ref 20), some (.int x1), some (.int x2), some (.int x3), none, none] [] (sh0 ++ ex) mI mL rr := by
  have Ro := G.ro
  intro n
  induction n with
  | zero => intro x1 x2 x3 mI mL hf; cases hf
  | succ n ih =>
    intro x1 x2 x3 mI mL hf
    rw [f_Sh_copyOrders_l2] at hf
    refine tm_w C tfo_Sh to_Sh_copyOrders 0 rfl rfl rfl trivial ?_
    refine tm_b C to_Sh_copyOrders rfl rfl (fun h => ?_) (fun h => ?_)
    · have hf := (if_pos h).symm.trans hf
      refine tm_wk (lv' := [some (.ref 20), some (.int x1), some (.int x2), some (.int x3), none, none]) ⟨Or.inr rfl, Or.inr rfl, Or.inr rfl, Or.inr rfl, Or.inl rfl, Or.inl rfl, trivial⟩ ?_
      exact j_Sh_copyOrders_b106 C G hf
    · have hf := (if_neg h).symm.trans hf
      refine tm_w C tfo_Sh to_Sh_copyOrders 2 rfl rfl rfl ⟨rfl, trivial⟩ ?_
      refine tm_b C to_Sh_copyOrders rfl rfl (fun h => ?_) (fun h => ?_)
      · have hf := (if_pos h).symm.trans hf
        refine tm_wk (lv' := [some (.ref 20), some (.int x1), some (.int x2), some (.int x3), none, none]) ⟨Or.inr rfl, Or.inr rfl, Or.inr rfl, Or.inr rfl, Or.inl rfl, Or.inl rfl, trivial⟩ ?_
        exact j_Sh_copyOrders_b106 C G hf
      · have hf := (if_neg h).symm.trans hf
        refine tm_w C tfo_Sh to_Sh_copyOrders 6 rfl rfl rfl ⟨rfl, trivial⟩ ?_
        refine tm_wk (lv' := [some (.ref 20), some (.int x1), some (.int x2), some (.int x3), some (.int ((mI 20 4) + x3)), some (.int (0 : Int32))]) ⟨Or.inr rfl, Or.inr rfl, Or.inr rfl, Or.inr rfl, Or.inr rfl, Or.inr rfl, trivial⟩ ?_
        exact j_Sh_copyOrders_l25 C G (ih) _ _ _ _ _ _ _ _ hf
set_option maxRecDepth 100000 in
set_option maxHeartbeats 4000000 in
theorem j_Sh_copyOrders_b0 {Γ : tm_G} {ex : List tm_Sh} {av : List Value} {X0 : tm_X} {r : Int32 × tm_I × tm_L} (C : tm_C Γ ty_Sh_copyOrders.1.cls ty_Sh_copyOrders.2.1 ty_Sh_copyOrders.2.2.1) (G : tm_Γ ty_Sh_copyOrders 1 23 0 0 av X0 (tm_is none (sh0 ++ ex, r.2.1, r.2.2, rr)) Γ) {x1 : Int32} {x2 : Int32} {mI : tm_I} {mL : tm_L} (hf : f_Sh_copyOrders_b0 x1 x2 mI mL = some r) : tm_T Γ 6 0 0 0 [some (.ref 20), some (.int x1), some (.int x2), none, none, none] [] (sh0 ++ ex) mI mL rr := by
  have Ro := G.ro
  unfold f_Sh_copyOrders_b0 at hf
  refine tm_w C tfo_Sh to_Sh_copyOrders 1 rfl rfl rfl trivial ?_
  refine tm_wk (lv' := [some (.ref 20), some (.int x1), some (.int x2), some (.int (0 : Int32)), none, none]) ⟨Or.inr rfl, Or.inr rfl, Or.inr rfl, Or.inr rfl, Or.inl rfl, Or.inl rfl, trivial⟩ ?_
  exact j_Sh_copyOrders_l2 C G _ _ _ _ _ _ hf
set_option maxRecDepth 100000 in
theorem ct_Sh_copyOrders {ex : List tm_Sh} {p0 : Int32} {p1 : Int32} {mI : tm_I} {mL : tm_L} {r : Int32 × tm_I × tm_L} (hf : f_Sh_copyOrders p0 p1 mI mL = some r) : tm_M ty_Sh_copyOrders 1 23 0 0 [.ref 20, .int p0, .int p1] (sh0 ++ ex, mI, mL, rr) (tm_is none (sh0 ++ ex, r.2.1, r.2.2, rr)) := by
  refine tm_body (by decide) (Nat.le_of_ble_eq_true rfl) fun Γ C G => ?_
  exact j_Sh_copyOrders_b0 C G hf
/-! Sh_endLabel -/
def f_Sh_endLabel_b27 (x1 : Int32) (x2 : Int32) (x3 : Int32) (mI : tm_I) (mL : tm_L) : Option (Int32 × tm_I × tm_L) := some ((0 : Int32), mI, mL)
def f_Sh_endLabel_l38 : Nat → Int32 → Int32 → Int32 → Int32 → Int32 → tm_I → tm_L → Option (Int32 × tm_I × tm_L)
  | 0, _, _, _, _, _, _, _ => none
  | n + 1, x1, x2, x3, x4, x5, mI, mL => if x3 ≤ x5 then some ((1 : Int32), tm_up mI 20 5 (0 : Int32), mL) else (f_Sh_addLabel x1 x2 (mI 20 4) mI mL).bind fun v1 => (f_Sh_copyOrders x4 x5 v1.2.1 v1.2.2).bind fun v2 => (f_Sh_endLabel_l38 n) x1 x2 x3 x4 (x5 + (1 : Int32)) (tm_up v2.2.1 20 4 ((v2.2.1 20 4) + (v2.2.1 20 5))) v2.2.2
def f_Sh_endLabel_b0 (x1 : Int32) (x2 : Int32) (x3 : Int32) (mI : tm_I) (mL : tm_L) : Option (Int32 × tm_I × tm_L) := if (12 : Int32) < ((mI 20 3) + x3) then f_Sh_endLabel_b27 x1 x2 x3 mI mL else if ((mI 20 4) + ((mI 20 5) * x3)) ≤ (120 : Int32) then f_Sh_endLabel_l38 tm_F x1 x2 x3 (mI 20 4) (0 : Int32) mI mL else f_Sh_endLabel_b27 x1 x2 x3 mI mL
abbrev f_Sh_endLabel (p0 : Int32) (p1 : Int32) (p2 : Int32) (mI : tm_I) (mL : tm_L) : Option (Int32 × tm_I × tm_L) := f_Sh_endLabel_b0 p0 p1 p2 mI mL
set_option maxRecDepth 100000 in
set_option maxHeartbeats 4000000 in
theorem j_Sh_endLabel_b27 {Γ : tm_G} {ex : List tm_Sh} {av : List Value} {X0 : tm_X} {r : Int32 × tm_I × tm_L} (C : tm_C Γ ty_Sh_endLabel.1.cls ty_Sh_endLabel.2.1 ty_Sh_endLabel.2.2.1) (G : tm_Γ ty_Sh_endLabel 2 48 0 0 av X0 (tm_is (some (.int r.1)) (sh0 ++ ex, r.2.1, r.2.2, rr)) Γ) {x1 : Int32} {x2 : Int32} {x3 : Int32} {mI : tm_I} {mL : tm_L} (hf : f_Sh_endLabel_b27 x1 x2 x3 mI mL = some r) : tm_T Γ 6 0 0 27 [some (.ref 20), some (.int x1), some (.int x2), some (.int x3), none, none] [] (sh0 ++ ex) mI mL rr := by
  have Ro := G.ro
  unfold f_Sh_endLabel_b27 at hf
  refine tm_w C tfo_Sh to_Sh_endLabel 0 rfl rfl rfl trivial ?_
  cases hf
  exact tm_ei C G to_Sh_endLabel rfl rfl (Nat.le_refl _) rfl ⟨rfl, rfl⟩
set_option maxRecDepth 100000 in
set_option maxHeartbeats 4000000 in
theorem j_Sh_endLabel_l38 {Γ : tm_G} {ex : List tm_Sh} {av : List Value} {X0 : tm_X} {r : Int32 × tm_I × tm_L} (C : tm_C Γ ty_Sh_endLabel.1.cls ty_Sh_endLabel.2.1 ty_Sh_endLabel.2.2.1) (G : tm_Γ ty_Sh_endLabel 2 48 0 0 av X0 (tm_is (some (.int r.1)) (sh0 ++ ex, r.2.1, r.2.2, rr)) Γ) : ∀ (n : Nat) (x1 : Int32) (x2 : Int32) (x3 : Int32) (x4 : Int32) (x5 : Int32) (mI : tm_I) (mL : tm_L), f_Sh_endLabel_l38 n x1 x2 x3 x4 x5 mI mL = some r → tm_T Γ 6 0 0 38 [some (.ref 20), some (.int x1), some (.int x2), some (.int x3), some (.int x4), some (.int x5)] [] (sh0 ++ ex) mI mL rr := by
  have Ro := G.ro
  intro n
  induction n with
  | zero => intro x1 x2 x3 x4 x5 mI mL hf; cases hf
  | succ n ih =>
    intro x1 x2 x3 x4 x5 mI mL hf
    rw [f_Sh_endLabel_l38] at hf
    refine tm_w C tfo_Sh to_Sh_endLabel 1 rfl rfl rfl trivial ?_
    refine tm_b C to_Sh_endLabel rfl rfl (fun h => ?_) (fun h => ?_)
    · have hf := (if_pos h).symm.trans hf
      refine tm_w C tfo_Sh to_Sh_endLabel 3 rfl rfl rfl ⟨rfl, trivial⟩ ?_
      cases hf
      exact tm_ei C G to_Sh_endLabel rfl rfl (Nat.le_refl _) rfl ⟨rfl, rfl⟩
    · have hf := (if_neg h).symm.trans hf
      refine tm_w C tfo_Sh to_Sh_endLabel 4 rfl rfl rfl ⟨rfl, trivial⟩ ?_
      obtain ⟨v1, hv1, hf⟩ := Option.bind_eq_some_iff.mp hf
      refine tm_cV C Ro to_Sh_endLabel tl_Sh_73 rfl (ct_Sh_addLabel hv1) rfl rfl rfl rfl rfl rfl rfl (Nat.le_refl _) (Nat.le_refl _) ?_
      refine tm_w C tfo_Sh to_Sh_endLabel 2 rfl rfl rfl trivial ?_
      obtain ⟨v2, hv2, hf⟩ := Option.bind_eq_some_iff.mp hf
      refine tm_cV C Ro to_Sh_endLabel tl_Sh_77 rfl (ct_Sh_copyOrders hv2) rfl rfl rfl rfl rfl rfl rfl (Nat.le_refl _) (Nat.le_refl _) ?_
      refine tm_w C tfo_Sh to_Sh_endLabel 8 rfl rfl rfl ⟨rfl, rfl, rfl, trivial⟩ ?_
      refine tm_wk (lv' := [some (.ref 20), some (.int x1), some (.int x2), some (.int x3), some (.int x4), some (.int (x5 + (1 : Int32)))]) ⟨Or.inr rfl, Or.inr rfl, Or.inr rfl, Or.inr rfl, Or.inr rfl, Or.inr rfl, trivial⟩ ?_
      exact ih _ _ _ _ _ _ _ hf
set_option maxRecDepth 100000 in
set_option maxHeartbeats 4000000 in
theorem j_Sh_endLabel_b0 {Γ : tm_G} {ex : List tm_Sh} {av : List Value} {X0 : tm_X} {r : Int32 × tm_I × tm_L} (C : tm_C Γ ty_Sh_endLabel.1.cls ty_Sh_endLabel.2.1 ty_Sh_endLabel.2.2.1) (G : tm_Γ ty_Sh_endLabel 2 48 0 0 av X0 (tm_is (some (.int r.1)) (sh0 ++ ex, r.2.1, r.2.2, rr)) Γ) {x1 : Int32} {x2 : Int32} {x3 : Int32} {mI : tm_I} {mL : tm_L} (hf : f_Sh_endLabel_b0 x1 x2 x3 mI mL = some r) : tm_T Γ 6 0 0 0 [some (.ref 20), some (.int x1), some (.int x2), some (.int x3), none, none] [] (sh0 ++ ex) mI mL rr := by
  have Ro := G.ro
  unfold f_Sh_endLabel_b0 at hf
  refine tm_w C tfo_Sh to_Sh_endLabel 4 rfl rfl rfl ⟨rfl, trivial⟩ ?_
  refine tm_b C to_Sh_endLabel rfl rfl (fun h => ?_) (fun h => ?_)
  · have hf := (if_pos h).symm.trans hf
    refine tm_wk (lv' := [some (.ref 20), some (.int x1), some (.int x2), some (.int x3), none, none]) ⟨Or.inr rfl, Or.inr rfl, Or.inr rfl, Or.inr rfl, Or.inl rfl, Or.inl rfl, trivial⟩ ?_
    exact j_Sh_endLabel_b27 C G hf
  · have hf := (if_neg h).symm.trans hf
    refine tm_w C tfo_Sh to_Sh_endLabel 7 rfl rfl rfl ⟨rfl, rfl, trivial⟩ ?_
    refine tm_b C to_Sh_endLabel rfl rfl (fun h => ?_) (fun h => ?_)
    · have hf := (if_pos h).symm.trans hf
      refine tm_w C tfo_Sh to_Sh_endLabel 4 rfl rfl rfl ⟨rfl, trivial⟩ ?_
      refine tm_wk (lv' := [some (.ref 20), some (.int x1), some (.int x2), some (.int x3), some (.int (mI 20 4)), some (.int (0 : Int32))]) ⟨Or.inr rfl, Or.inr rfl, Or.inr rfl, Or.inr rfl, Or.inr rfl, Or.inr rfl, trivial⟩ ?_
      exact j_Sh_endLabel_l38 C G _ _ _ _ _ _ _ _ hf
    · have hf := (if_neg h).symm.trans hf
      refine tm_wk (lv' := [some (.ref 20), some (.int x1), some (.int x2), some (.int x3), none, none]) ⟨Or.inr rfl, Or.inr rfl, Or.inr rfl, Or.inr rfl, Or.inl rfl, Or.inl rfl, trivial⟩ ?_
      exact j_Sh_endLabel_b27 C G hf
set_option maxRecDepth 100000 in
theorem ct_Sh_endLabel {ex : List tm_Sh} {p0 : Int32} {p1 : Int32} {p2 : Int32} {mI : tm_I} {mL : tm_L} {r : Int32 × tm_I × tm_L} (hf : f_Sh_endLabel p0 p1 p2 mI mL = some r) : tm_M ty_Sh_endLabel 2 48 0 0 [.ref 20, .int p0, .int p1, .int p2] (sh0 ++ ex, mI, mL, rr) (tm_is (some (.int r.1)) (sh0 ++ ex, r.2.1, r.2.2, rr)) := by
  refine tm_body (by decide) (Nat.le_of_ble_eq_true rfl) fun Γ C G => ?_
  exact j_Sh_endLabel_b0 C G hf
/-! Sh_toldByte -/
def f_Sh_toldByte_b39 (x1 : Int32) (x2 : Int32) (x3 : Int32) (x4 : Int32) (mI : tm_I) (mL : tm_L) : Option (Int32 × tm_I × tm_L) := (f_Ro_at 23 x3 x2 mI mL).bind fun v1 => some (v1.1, v1.2.1, v1.2.2)
def f_Sh_toldByte_b0 (x1 : Int32) (x2 : Int32) (mI : tm_I) (mL : tm_L) : Option (Int32 × tm_I × tm_L) := (f_Sh_cell x1 (9 : Int32) mI mL).bind fun v2 => (f_Ro_size 23 v2.1 v2.2.1 v2.2.2).bind fun v3 => if ((v3.1 - (1 : Int32)) - x2) < 0 then f_Sh_toldByte_b39 x1 x2 v2.1 ((v3.1 - (1 : Int32)) - x2) v3.2.1 v3.2.2 else (f_Sh_cell x1 (11 : Int32) v3.2.1 v3.2.2).bind fun v4 => if ((v3.1 - (1 : Int32)) - x2) < v4.1 then (f_Sh_cell x1 (12 : Int32) v4.2.1 v4.2.2).bind fun v5 => (f_La_tenTo ((v3.1 - (1 : Int32)) - x2) v5.2.1 v5.2.2).bind fun v6 => if ¬ v6.1 = 0 then some (((48 : Int32) + ((v5.1 / v6.1) - (v5.1 / v6.1) / (10 : Int32) * (10 : Int32))), v6.2.1, v6.2.2) else none else f_Sh_toldByte_b39 x1 x2 v2.1 ((v3.1 - (1 : Int32)) - x2) v4.2.1 v4.2.2
abbrev f_Sh_toldByte (p0 : Int32) (p1 : Int32) (mI : tm_I) (mL : tm_L) : Option (Int32 × tm_I × tm_L) := f_Sh_toldByte_b0 p0 p1 mI mL
set_option maxRecDepth 100000 in
set_option maxHeartbeats 4000000 in
theorem j_Sh_toldByte_b39 {Γ : tm_G} {ex : List tm_Sh} {av : List Value} {X0 : tm_X} {r : Int32 × tm_I × tm_L} (C : tm_C Γ ty_Sh_toldByte.1.cls ty_Sh_toldByte.2.1 ty_Sh_toldByte.2.2.1) (G : tm_Γ ty_Sh_toldByte 1 23 0 0 av X0 (tm_is (some (.int r.1)) (sh0 ++ ex, r.2.1, r.2.2, rr)) Γ) {x1 : Int32} {x2 : Int32} {x3 : Int32} {x4 : Int32} {mI : tm_I} {mL : tm_L} (hf : f_Sh_toldByte_b39 x1 x2 x3 x4 mI mL = some r) : tm_T Γ 5 0 0 39 [some (.ref 20), some (.int x1), some (.int x2), some (.int x3), some (.int x4)] [] (sh0 ++ ex) mI mL rr := by
  have Ro := G.ro
  unfold f_Sh_toldByte_b39 at hf
  refine tm_w C tfo_Sh to_Sh_toldByte 3 rfl rfl rfl ⟨rfl, trivial⟩ ?_
  obtain ⟨v1, hv1, hf⟩ := Option.bind_eq_some_iff.mp hf
  refine tm_cV C Ro to_Sh_toldByte tl_Sh_104 rfl (ct_Ro_at isRo_23 hv1) rfl rfl rfl rfl rfl rfl rfl (Nat.le_refl _) (Nat.le_refl _) ?_
  cases hf
  exact tm_ei C G to_Sh_toldByte rfl rfl (Nat.le_refl _) rfl ⟨rfl, rfl⟩
set_option maxRecDepth 100000 in
set_option maxHeartbeats 4000000 in
theorem j_Sh_toldByte_b0 {Γ : tm_G} {ex : List tm_Sh} {av : List Value} {X0 : tm_X} {r : Int32 × tm_I × tm_L} (C : tm_C Γ ty_Sh_toldByte.1.cls ty_Sh_toldByte.2.1 ty_Sh_toldByte.2.2.1) (G : tm_Γ ty_Sh_toldByte 1 23 0 0 av X0 (tm_is (some (.int r.1)) (sh0 ++ ex, r.2.1, r.2.2, rr)) Γ) {x1 : Int32} {x2 : Int32} {mI : tm_I} {mL : tm_L} (hf : f_Sh_toldByte_b0 x1 x2 mI mL = some r) : tm_T Γ 5 0 0 0 [some (.ref 20), some (.int x1), some (.int x2), none, none] [] (sh0 ++ ex) mI mL rr := by
  have Ro := G.ro
  unfold f_Sh_toldByte_b0 at hf
  refine tm_w C tfo_Sh to_Sh_toldByte 2 rfl rfl rfl trivial ?_
  obtain ⟨v2, hv2, hf⟩ := Option.bind_eq_some_iff.mp hf
  refine tm_cV C Ro to_Sh_toldByte tl_Sh_80 rfl (ct_Sh_cell hv2) rfl rfl rfl rfl rfl rfl rfl (Nat.le_refl _) (Nat.le_refl _) ?_
  refine tm_w C tfo_Sh to_Sh_toldByte 3 rfl rfl rfl ⟨rfl, trivial⟩ ?_
  obtain ⟨v3, hv3, hf⟩ := Option.bind_eq_some_iff.mp hf
  refine tm_cV C Ro to_Sh_toldByte tl_Sh_101 rfl (ct_Ro_size isRo_23 hv3) rfl rfl rfl rfl rfl rfl rfl (Nat.le_refl _) (Nat.le_refl _) ?_
  refine tm_w C tfo_Sh to_Sh_toldByte 5 rfl rfl rfl trivial ?_
  refine tm_b C to_Sh_toldByte rfl rfl (fun h => ?_) (fun h => ?_)
  · have hf := (if_pos h).symm.trans hf
    refine tm_wk (lv' := [some (.ref 20), some (.int x1), some (.int x2), some (.int v2.1), some (.int ((v3.1 - (1 : Int32)) - x2))]) ⟨Or.inr rfl, Or.inr rfl, Or.inr rfl, Or.inr rfl, Or.inr rfl, trivial⟩ ?_
    exact j_Sh_toldByte_b39 C G hf
  · have hf := (if_neg h).symm.trans hf
    refine tm_w C tfo_Sh to_Sh_toldByte 3 rfl rfl rfl trivial ?_
    obtain ⟨v4, hv4, hf⟩ := Option.bind_eq_some_iff.mp hf
    refine tm_cV C Ro to_Sh_toldByte tl_Sh_80 rfl (ct_Sh_cell hv4) rfl rfl rfl rfl rfl rfl rfl (Nat.le_refl _) (Nat.le_refl _) ?_
    refine tm_b C to_Sh_toldByte rfl rfl (fun h => ?_) (fun h => ?_)
    · have hf := (if_pos h).symm.trans hf
      refine tm_w C tfo_Sh to_Sh_toldByte 3 rfl rfl rfl trivial ?_
      obtain ⟨v5, hv5, hf⟩ := Option.bind_eq_some_iff.mp hf
      refine tm_cV C Ro to_Sh_toldByte tl_Sh_80 rfl (ct_Sh_cell hv5) rfl rfl rfl rfl rfl rfl rfl (Nat.le_refl _) (Nat.le_refl _) ?_
      refine tm_w C tfo_Sh to_Sh_toldByte 0 rfl rfl rfl trivial ?_
      obtain ⟨v6, hv6, hf⟩ := Option.bind_eq_some_iff.mp hf
      refine tm_cN C Ro to_Sh_toldByte tl_Sh_87 rfl (ct_La_tenTo hv6) rfl rfl rfl rfl rfl (Nat.le_refl _) (Nat.le_refl _) ?_
      obtain ⟨c1, hf⟩ := tm_iteN hf
      refine tm_w C tfo_Sh to_Sh_toldByte 3 rfl rfl rfl ⟨c1, (by decide), trivial⟩ ?_
      cases hf
      exact tm_ei C G to_Sh_toldByte rfl rfl (Nat.le_refl _) rfl ⟨rfl, rfl⟩
    · have hf := (if_neg h).symm.trans hf
      refine tm_wk (lv' := [some (.ref 20), some (.int x1), some (.int x2), some (.int v2.1), some (.int ((v3.1 - (1 : Int32)) - x2))]) ⟨Or.inr rfl, Or.inr rfl, Or.inr rfl, Or.inr rfl, Or.inr rfl, trivial⟩ ?_
      exact j_Sh_toldByte_b39 C G hf
set_option maxRecDepth 100000 in
theorem ct_Sh_toldByte {ex : List tm_Sh} {p0 : Int32} {p1 : Int32} {mI : tm_I} {mL : tm_L} {r : Int32 × tm_I × tm_L} (hf : f_Sh_toldByte p0 p1 mI mL = some r) : tm_M ty_Sh_toldByte 1 23 0 0 [.ref 20, .int p0, .int p1] (sh0 ++ ex, mI, mL, rr) (tm_is (some (.int r.1)) (sh0 ++ ex, r.2.1, r.2.2, rr)) := by
  refine tm_body (by decide) (Nat.le_of_ble_eq_true rfl) fun Γ C G => ?_
  exact j_Sh_toldByte_b0 C G hf
/-! Sh_byteOf -/
def f_Sh_byteOf_b19 (x1 : Int32) (x2 : Int64) (mI : tm_I) (mL : tm_L) : Option (Int32 × tm_I × tm_L) := some ((0 : Int32), mI, mL)
def f_Sh_byteOf_b0 (x1 : Int32) (x2 : Int64) (mI : tm_I) (mL : tm_L) : Option (Int32 × tm_I × tm_L) := if (lg_cmp x2 (0 : Int64)) < 0 then f_Sh_byteOf_b19 x1 x2 mI mL else (f_Sh_cell x1 (8 : Int32) mI mL).bind fun v1 => if (lg_cmp x2 (Int32.toInt64 v1.1)) < 0 then (f_Sh_cell x1 (0 : Int32) v1.2.1 v1.2.2).bind fun v2 => if ¬ v2.1 = (7 : Int32) then (f_Sh_cell x1 (10 : Int32) v2.2.1 v2.2.2).bind fun v3 => (f_Sh_toldByte x1 (v3.1 + (Int64.toInt32 x2)) v3.2.1 v3.2.2).bind fun v4 => some ((v4.1 &&& (255 : Int32)), v4.2.1, v4.2.2) else (f_Sh_toldByte x1 ((2 : Int32) * (Int64.toInt32 x2)) v2.2.1 v2.2.2).bind fun v5 => (f_La_hexValue v5.1 v5.2.1 v5.2.2).bind fun v6 => (f_Sh_toldByte x1 (((2 : Int32) * (Int64.toInt32 x2)) + (1 : Int32)) v6.2.1 v6.2.2).bind fun v7 => (f_La_hexValue v7.1 v7.2.1 v7.2.2).bind fun v8 => some ((((v6.1 * (16 : Int32)) + v8.1) &&& (255 : Int32)), v8.2.1, v8.2.2) else f_Sh_byteOf_b19 x1 x2 v1.2.1 v1.2.2
abbrev f_Sh_byteOf (p0 : Int32) (p1 : Int64) (mI : tm_I) (mL : tm_L) : Option (Int32 × tm_I × tm_L) := f_Sh_byteOf_b0 p0 p1 mI mL
set_option maxRecDepth 100000 in
set_option maxHeartbeats 4000000 in
theorem j_Sh_byteOf_b19 {Γ : tm_G} {ex : List tm_Sh} {av : List Value} {X0 : tm_X} {r : Int32 × tm_I × tm_L} (C : tm_C Γ ty_Sh_byteOf.1.cls ty_Sh_byteOf.2.1 ty_Sh_byteOf.2.2.1) (G : tm_Γ ty_Sh_byteOf 2 47 0 0 av X0 (tm_is (some (.int r.1)) (sh0 ++ ex, r.2.1, r.2.2, rr)) Γ) {x1 : Int32} {x2 : Int64} {mI : tm_I} {mL : tm_L} (hf : f_Sh_byteOf_b19 x1 x2 mI mL = some r) : tm_T Γ 5 0 0 19 [some (.ref 20), some (.int x1), some (.long x2), none, none] [] (sh0 ++ ex) mI mL rr := by
  have Ro := G.ro
  unfold f_Sh_byteOf_b19 at hf
  refine tm_w C tfo_Sh to_Sh_byteOf 0 rfl rfl rfl trivial ?_
  cases hf
  exact tm_ei C G to_Sh_byteOf rfl rfl (Nat.le_refl _) rfl ⟨rfl, rfl⟩
set_option maxRecDepth 100000 in
set_option maxHeartbeats 4000000 in
theorem j_Sh_byteOf_b0 {Γ : tm_G} {ex : List tm_Sh} {av : List Value} {X0 : tm_X} {r : Int32 × tm_I × tm_L} (C : tm_C Γ ty_Sh_byteOf.1.cls ty_Sh_byteOf.2.1 ty_Sh_byteOf.2.2.1) (G : tm_Γ ty_Sh_byteOf 2 47 0 0 av X0 (tm_is (some (.int r.1)) (sh0 ++ ex, r.2.1, r.2.2, rr)) Γ) {x1 : Int32} {x2 : Int64} {mI : tm_I} {mL : tm_L} (hf : f_Sh_byteOf_b0 x1 x2 mI mL = some r) : tm_T Γ 5 0 0 0 [some (.ref 20), some (.int x1), some (.long x2), none, none] [] (sh0 ++ ex) mI mL rr := by
  have Ro := G.ro
  unfold f_Sh_byteOf_b0 at hf
  refine tm_w C tfo_Sh to_Sh_byteOf 2 rfl rfl rfl trivial ?_
  refine tm_b C to_Sh_byteOf rfl rfl (fun h => ?_) (fun h => ?_)
  · have hf := (if_pos h).symm.trans hf
    refine tm_wk (lv' := [some (.ref 20), some (.int x1), some (.long x2), none, none]) ⟨Or.inr rfl, Or.inr rfl, Or.inr rfl, Or.inl rfl, Or.inl rfl, trivial⟩ ?_
    exact j_Sh_byteOf_b19 C G hf
  · have hf := (if_neg h).symm.trans hf
    refine tm_w C tfo_Sh to_Sh_byteOf 3 rfl rfl rfl trivial ?_
    obtain ⟨v1, hv1, hf⟩ := Option.bind_eq_some_iff.mp hf
    refine tm_cV C Ro to_Sh_byteOf tl_Sh_80 rfl (ct_Sh_cell hv1) rfl rfl rfl rfl rfl rfl rfl (Nat.le_refl _) (Nat.le_refl _) ?_
    refine tm_w C tfo_Sh to_Sh_byteOf 1 rfl rfl rfl trivial ?_
    refine tm_b C to_Sh_byteOf rfl rfl (fun h => ?_) (fun h => ?_)
    · have hf := (if_pos h).symm.trans hf
      refine tm_w C tfo_Sh to_Sh_byteOf 5 rfl rfl rfl trivial ?_
      obtain ⟨v2, hv2, hf⟩ := Option.bind_eq_some_iff.mp hf
      refine tm_cV C Ro to_Sh_byteOf tl_Sh_80 rfl (ct_Sh_cell hv2) rfl rfl rfl rfl rfl rfl rfl (Nat.le_refl _) (Nat.le_refl _) ?_
      refine tm_w C tfo_Sh to_Sh_byteOf 0 rfl rfl rfl trivial ?_
      refine tm_b C to_Sh_byteOf rfl rfl (fun h => ?_) (fun h => ?_)
      · have hf := (if_pos h).symm.trans hf
        refine tm_w C tfo_Sh to_Sh_byteOf 4 rfl rfl rfl trivial ?_
        obtain ⟨v3, hv3, hf⟩ := Option.bind_eq_some_iff.mp hf
        refine tm_cV C Ro to_Sh_byteOf tl_Sh_80 rfl (ct_Sh_cell hv3) rfl rfl rfl rfl rfl rfl rfl (Nat.le_refl _) (Nat.le_refl _) ?_
        refine tm_w C tfo_Sh to_Sh_byteOf 1 rfl rfl rfl trivial ?_
        obtain ⟨v4, hv4, hf⟩ := Option.bind_eq_some_iff.mp hf
        refine tm_cV C Ro to_Sh_byteOf tl_Sh_95 rfl (ct_Sh_toldByte hv4) rfl rfl rfl rfl rfl rfl rfl (Nat.le_refl _) (Nat.le_refl _) ?_
        refine tm_w C tfo_Sh to_Sh_byteOf 1 rfl rfl rfl trivial ?_
        cases hf
        exact tm_ei C G to_Sh_byteOf rfl rfl (Nat.le_refl _) rfl ⟨rfl, rfl⟩
      · have hf := (if_neg h).symm.trans hf
        refine tm_w C tfo_Sh to_Sh_byteOf 4 rfl rfl rfl trivial ?_
        obtain ⟨v5, hv5, hf⟩ := Option.bind_eq_some_iff.mp hf
        refine tm_cV C Ro to_Sh_byteOf tl_Sh_95 rfl (ct_Sh_toldByte hv5) rfl rfl rfl rfl rfl rfl rfl (Nat.le_refl _) (Nat.le_refl _) ?_
        obtain ⟨v6, hv6, hf⟩ := Option.bind_eq_some_iff.mp hf
        refine tm_cN C Ro to_Sh_byteOf tl_Sh_98 rfl (ct_La_hexValue hv6) rfl rfl rfl rfl rfl (Nat.le_refl _) (Nat.le_refl _) ?_
        refine tm_w C tfo_Sh to_Sh_byteOf 8 rfl rfl rfl trivial ?_
        obtain ⟨v7, hv7, hf⟩ := Option.bind_eq_some_iff.mp hf
        refine tm_cV C Ro to_Sh_byteOf tl_Sh_95 rfl (ct_Sh_toldByte hv7) rfl rfl rfl rfl rfl rfl rfl (Nat.le_refl _) (Nat.le_refl _) ?_
        obtain ⟨v8, hv8, hf⟩ := Option.bind_eq_some_iff.mp hf
        refine tm_cN C Ro to_Sh_byteOf tl_Sh_98 rfl (ct_La_hexValue hv8) rfl rfl rfl rfl rfl (Nat.le_refl _) (Nat.le_refl _) ?_
        refine tm_w C tfo_Sh to_Sh_byteOf 2 rfl rfl rfl trivial ?_
        cases hf
        exact tm_ei C G to_Sh_byteOf rfl rfl (Nat.le_refl _) rfl ⟨rfl, rfl⟩
    · have hf := (if_neg h).symm.trans hf
      refine tm_wk (lv' := [some (.ref 20), some (.int x1), some (.long x2), none, none]) ⟨Or.inr rfl, Or.inr rfl, Or.inr rfl, Or.inl rfl, Or.inl rfl, trivial⟩ ?_
      exact j_Sh_byteOf_b19 C G hf
set_option maxRecDepth 100000 in
theorem ct_Sh_byteOf {ex : List tm_Sh} {p0 : Int32} {p1 : Int64} {mI : tm_I} {mL : tm_L} {r : Int32 × tm_I × tm_L} (hf : f_Sh_byteOf p0 p1 mI mL = some r) : tm_M ty_Sh_byteOf 2 47 0 0 [.ref 20, .int p0, .long p1] (sh0 ++ ex, mI, mL, rr) (tm_is (some (.int r.1)) (sh0 ++ ex, r.2.1, r.2.2, rr)) := by
  refine tm_body (by decide) (Nat.le_of_ble_eq_true rfl) fun Γ C G => ?_
  exact j_Sh_byteOf_b0 C G hf
