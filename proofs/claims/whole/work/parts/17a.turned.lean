/-! Mo_thrown -/
def f_Mo_thrown_b0  (mI : tm_I) (mL : tm_L) : Option (Int32 × tm_I × tm_L) := some ((mI 39 0), mI, mL)
abbrev f_Mo_thrown  (mI : tm_I) (mL : tm_L) : Option (Int32 × tm_I × tm_L) := f_Mo_thrown_b0  mI mL
set_option maxRecDepth 100000 in
set_option maxHeartbeats 4000000 in
theorem j_Mo_thrown_b0 {Γ : tm_G} {ex : List tm_Sh} {av : List Value} {X0 : tm_X} {r : Int32 × tm_I × tm_L} (C : tm_C Γ ty_Mo_thrown.1.cls ty_Mo_thrown.2.1 ty_Mo_thrown.2.2.1) (G : tm_Γ ty_Mo_thrown 0 0 0 0 av X0 (tm_is (some (.int r.1)) (sh0 ++ ex, r.2.1, r.2.2, rr)) Γ) {mI : tm_I} {mL : tm_L} (hf : f_Mo_thrown_b0  mI mL = some r) : tm_T Γ 1 0 0 0 [some (.ref 39)] [] (sh0 ++ ex) mI mL rr := by
  have Ro := G.ro
  unfold f_Mo_thrown_b0 at hf
  refine tm_w C tfo_Mo to_Mo_thrown 1 rfl rfl rfl ⟨rfl, trivial⟩ ?_
  cases hf
  exact tm_ei C G to_Mo_thrown rfl rfl (Nat.le_refl _) rfl ⟨rfl, rfl⟩
set_option maxRecDepth 100000 in
theorem ct_Mo_thrown {ex : List tm_Sh}  {mI : tm_I} {mL : tm_L} {r : Int32 × tm_I × tm_L} (hf : f_Mo_thrown  mI mL = some r) : tm_M ty_Mo_thrown 0 0 0 0 [.ref 39] (sh0 ++ ex, mI, mL, rr) (tm_is (some (.int r.1)) (sh0 ++ ex, r.2.1, r.2.2, rr)) := by
  refine tm_body (by decide) (Nat.le_of_ble_eq_true rfl) fun Γ C G => ?_
  exact j_Mo_thrown_b0 C G hf
/-! Mo_write -/
def f_Mo_write_l46 : Nat → Int32 → Int64 → Int32 → tm_I → tm_L → Option (Int32 × tm_I × tm_L)
  | 0, _, _, _, _, _ => none
  | n + 1, x1, x2, x4, mI, mL => if x1 ≤ x4 then some ((mI 39 2), mI, mL) else if ¬ ((mI 39 2) < 0 ∨ 4096 ≤ Int32.toNatClampNeg (mI 39 2)) then (f_Mo_write_l46 n) x1 x2 (x4 + (1 : Int32)) (tm_up (tm_up mI 40 (Int32.toNatClampNeg (mI 39 2)) (Int64.toInt32 ((x2 >>> (Int32.toInt64 ((8 : Int32) * x4) &&& 63)) &&& (255 : Int64)))) 39 2 (((tm_up mI 40 (Int32.toNatClampNeg (mI 39 2)) (Int64.toInt32 ((x2 >>> (Int32.toInt64 ((8 : Int32) * x4) &&& 63)) &&& (255 : Int64)))) 39 2) + (1 : Int32))) mL else none
def f_Mo_write_b17 (x1 : Int32) (x2 : Int64) (s1 : Int32) (mI : tm_I) (mL : tm_L) : Option (Int32 × tm_I × tm_L) := if ((tm_up mI 39 0 s1) 39 0) ≤ 0 then if (((tm_up mI 39 0 s1) 39 2) + x1) ≤ (4096 : Int32) then f_Mo_write_l46 tm_F x1 x2 (0 : Int32) (tm_up mI 39 0 s1) mL else some ((-1 : Int32), tm_up mI 39 0 s1, mL) else some ((0 : Int32), tm_up mI 39 0 s1, mL)
def f_Mo_write_b12 (x1 : Int32) (x2 : Int64) (mI : tm_I) (mL : tm_L) : Option (Int32 × tm_I × tm_L) := f_Mo_write_b17 x1 x2 (1 : Int32) mI mL
def f_Mo_write_b0 (x1 : Int32) (x2 : Int64) (mI : tm_I) (mL : tm_L) : Option (Int32 × tm_I × tm_L) := if x1 < (1 : Int32) then f_Mo_write_b12 x1 x2 mI mL else if x1 ≤ (8 : Int32) then f_Mo_write_b17 x1 x2 (0 : Int32) mI mL else f_Mo_write_b12 x1 x2 mI mL
abbrev f_Mo_write (p0 : Int32) (p1 : Int64) (mI : tm_I) (mL : tm_L) : Option (Int32 × tm_I × tm_L) := f_Mo_write_b0 p0 p1 mI mL
set_option maxRecDepth 100000 in
set_option maxHeartbeats 4000000 in
theorem j_Mo_write_l46 {Γ : tm_G} {ex : List tm_Sh} {av : List Value} {X0 : tm_X} {r : Int32 × tm_I × tm_L} (C : tm_C Γ ty_Mo_write.1.cls ty_Mo_write.2.1 ty_Mo_write.2.2.1) (G : tm_Γ ty_Mo_write 0 0 0 0 av X0 (tm_is (some (.int r.1)) (sh0 ++ ex, r.2.1, r.2.2, rr)) Γ) : ∀ (n : Nat) (x1 : Int32) (x2 : Int64) (x4 : Int32) (mI : tm_I) (mL : tm_L), f_Mo_write_l46 n x1 x2 x4 mI mL = some r → tm_T Γ 5 0 0 46 [some (.ref 39), some (.int x1), some (.long x2), none, some (.int x4)] [] (sh0 ++ ex) mI mL rr := by
  have Ro := G.ro
  intro n
  induction n with
  | zero => intro x1 x2 x4 mI mL hf; cases hf
  | succ n ih =>
    intro x1 x2 x4 mI mL hf
    rw [f_Mo_write_l46] at hf
    refine tm_w C tfo_Mo to_Mo_write 1 rfl rfl rfl trivial ?_
    refine tm_b C to_Mo_write rfl rfl (fun h => ?_) (fun h => ?_)
    · have hf := (if_pos h).symm.trans hf
      refine tm_w C tfo_Mo to_Mo_write 1 rfl rfl rfl ⟨rfl, trivial⟩ ?_
      cases hf
      exact tm_ei C G to_Mo_write rfl rfl (Nat.le_refl _) rfl ⟨rfl, rfl⟩
    · have hf := (if_neg h).symm.trans hf
      refine tm_w C tfo_Mo to_Mo_write 8 rfl rfl rfl ⟨rfl, rfl, trivial⟩ ?_
      refine tm_ldc2 (v := (255 : Int64)) C (tm_in 1066 (by decide +kernel) rfl) (tm_get_d to_Mo_write rfl) ?_
      obtain ⟨c1, hf⟩ := tm_iteN hf
      refine tm_w C tfo_Mo to_Mo_write 10 rfl rfl rfl ⟨⟨_, rfl, c1⟩, rfl, rfl, trivial⟩ ?_
      refine tm_wk (lv' := [some (.ref 39), some (.int x1), some (.long x2), none, some (.int (x4 + (1 : Int32)))]) ⟨Or.inr rfl, Or.inr rfl, Or.inr rfl, Or.inl rfl, Or.inr rfl, trivial⟩ ?_
      exact ih _ _ _ _ _ hf
set_option maxRecDepth 100000 in
set_option maxHeartbeats 4000000 in
theorem j_Mo_write_b17 {Γ : tm_G} {ex : List tm_Sh} {av : List Value} {X0 : tm_X} {r : Int32 × tm_I × tm_L} (C : tm_C Γ ty_Mo_write.1.cls ty_Mo_write.2.1 ty_Mo_write.2.2.1) (G : tm_Γ ty_Mo_write 0 0 0 0 av X0 (tm_is (some (.int r.1)) (sh0 ++ ex, r.2.1, r.2.2, rr)) Γ) {x1 : Int32} {x2 : Int64} {s1 : Int32} {mI : tm_I} {mL : tm_L} (hf : f_Mo_write_b17 x1 x2 s1 mI mL = some r) : tm_T Γ 5 0 0 17 [some (.ref 39), some (.int x1), some (.long x2), none, none] [.int s1, .ref 39] (sh0 ++ ex) mI mL rr := by
  have Ro := G.ro
  unfold f_Mo_write_b17 at hf
  refine tm_w C tfo_Mo to_Mo_write 2 rfl rfl rfl ⟨rfl, rfl, trivial⟩ ?_
  refine tm_b C to_Mo_write rfl rfl (fun h => ?_) (fun h => ?_)
  · have hf := (if_pos h).symm.trans hf
    refine tm_w C tfo_Mo to_Mo_write 4 rfl rfl rfl ⟨rfl, trivial⟩ ?_
    refine tm_b C to_Mo_write rfl rfl (fun h => ?_) (fun h => ?_)
    · have hf := (if_pos h).symm.trans hf
      refine tm_w C tfo_Mo to_Mo_write 1 rfl rfl rfl trivial ?_
      refine tm_wk (lv' := [some (.ref 39), some (.int x1), some (.long x2), none, some (.int (0 : Int32))]) ⟨Or.inr rfl, Or.inr rfl, Or.inr rfl, Or.inl rfl, Or.inr rfl, trivial⟩ ?_
      exact j_Mo_write_l46 C G _ _ _ _ _ _ hf
    · have hf := (if_neg h).symm.trans hf
      refine tm_w C tfo_Mo to_Mo_write 0 rfl rfl rfl trivial ?_
      cases hf
      exact tm_ei C G to_Mo_write rfl rfl (Nat.le_refl _) rfl ⟨rfl, rfl⟩
  · have hf := (if_neg h).symm.trans hf
    refine tm_w C tfo_Mo to_Mo_write 0 rfl rfl rfl trivial ?_
    cases hf
    exact tm_ei C G to_Mo_write rfl rfl (Nat.le_refl _) rfl ⟨rfl, rfl⟩
set_option maxRecDepth 100000 in
set_option maxHeartbeats 4000000 in
theorem j_Mo_write_b12 {Γ : tm_G} {ex : List tm_Sh} {av : List Value} {X0 : tm_X} {r : Int32 × tm_I × tm_L} (C : tm_C Γ ty_Mo_write.1.cls ty_Mo_write.2.1 ty_Mo_write.2.2.1) (G : tm_Γ ty_Mo_write 0 0 0 0 av X0 (tm_is (some (.int r.1)) (sh0 ++ ex, r.2.1, r.2.2, rr)) Γ) {x1 : Int32} {x2 : Int64} {mI : tm_I} {mL : tm_L} (hf : f_Mo_write_b12 x1 x2 mI mL = some r) : tm_T Γ 5 0 0 12 [some (.ref 39), some (.int x1), some (.long x2), none, none] [.ref 39] (sh0 ++ ex) mI mL rr := by
  have Ro := G.ro
  unfold f_Mo_write_b12 at hf
  refine tm_w C tfo_Mo to_Mo_write 1 rfl rfl rfl trivial ?_
  refine tm_wk (lv' := [some (.ref 39), some (.int x1), some (.long x2), none, none]) ⟨Or.inr rfl, Or.inr rfl, Or.inr rfl, Or.inl rfl, Or.inl rfl, trivial⟩ ?_
  exact j_Mo_write_b17 C G hf
set_option maxRecDepth 100000 in
set_option maxHeartbeats 4000000 in
theorem j_Mo_write_b0 {Γ : tm_G} {ex : List tm_Sh} {av : List Value} {X0 : tm_X} {r : Int32 × tm_I × tm_L} (C : tm_C Γ ty_Mo_write.1.cls ty_Mo_write.2.1 ty_Mo_write.2.2.1) (G : tm_Γ ty_Mo_write 0 0 0 0 av X0 (tm_is (some (.int r.1)) (sh0 ++ ex, r.2.1, r.2.2, rr)) Γ) {x1 : Int32} {x2 : Int64} {mI : tm_I} {mL : tm_L} (hf : f_Mo_write_b0 x1 x2 mI mL = some r) : tm_T Γ 5 0 0 0 [some (.ref 39), some (.int x1), some (.long x2), none, none] [] (sh0 ++ ex) mI mL rr := by
  have Ro := G.ro
  unfold f_Mo_write_b0 at hf
  refine tm_w C tfo_Mo to_Mo_write 2 rfl rfl rfl trivial ?_
  refine tm_b C to_Mo_write rfl rfl (fun h => ?_) (fun h => ?_)
  · have hf := (if_pos h).symm.trans hf
    refine tm_wk (lv' := [some (.ref 39), some (.int x1), some (.long x2), none, none]) ⟨Or.inr rfl, Or.inr rfl, Or.inr rfl, Or.inl rfl, Or.inl rfl, trivial⟩ ?_
    exact j_Mo_write_b12 C G hf
  · have hf := (if_neg h).symm.trans hf
    refine tm_w C tfo_Mo to_Mo_write 1 rfl rfl rfl trivial ?_
    refine tm_b C to_Mo_write rfl rfl (fun h => ?_) (fun h => ?_)
    · have hf := (if_pos h).symm.trans hf
      refine tm_w C tfo_Mo to_Mo_write 0 rfl rfl rfl trivial ?_
      refine tm_wk (lv' := [some (.ref 39), some (.int x1), some (.long x2), none, none]) ⟨Or.inr rfl, Or.inr rfl, Or.inr rfl, Or.inl rfl, Or.inl rfl, trivial⟩ ?_
      exact j_Mo_write_b17 C G hf
    · have hf := (if_neg h).symm.trans hf
      refine tm_wk (lv' := [some (.ref 39), some (.int x1), some (.long x2), none, none]) ⟨Or.inr rfl, Or.inr rfl, Or.inr rfl, Or.inl rfl, Or.inl rfl, trivial⟩ ?_
      exact j_Mo_write_b12 C G hf
set_option maxRecDepth 100000 in
theorem ct_Mo_write {ex : List tm_Sh} {p0 : Int32} {p1 : Int64} {mI : tm_I} {mL : tm_L} {r : Int32 × tm_I × tm_L} (hf : f_Mo_write p0 p1 mI mL = some r) : tm_M ty_Mo_write 0 0 0 0 [.ref 39, .int p0, .long p1] (sh0 ++ ex, mI, mL, rr) (tm_is (some (.int r.1)) (sh0 ++ ex, r.2.1, r.2.2, rr)) := by
  refine tm_body (by decide) (Nat.le_of_ble_eq_true rfl) fun Γ C G => ?_
  exact j_Mo_write_b0 C G hf
/-! Mo_wipe -/
def f_Mo_wipe_b0  (mI : tm_I) (mL : tm_L) : Option (Int32 × tm_I × tm_L) := some (((tm_up mI 39 0 (0 : Int32)) 39 2), tm_up (tm_up mI 39 0 (0 : Int32)) 39 2 (0 : Int32), mL)
abbrev f_Mo_wipe  (mI : tm_I) (mL : tm_L) : Option (Int32 × tm_I × tm_L) := f_Mo_wipe_b0  mI mL
set_option maxRecDepth 100000 in
set_option maxHeartbeats 4000000 in
theorem j_Mo_wipe_b0 {Γ : tm_G} {ex : List tm_Sh} {av : List Value} {X0 : tm_X} {r : Int32 × tm_I × tm_L} (C : tm_C Γ ty_Mo_wipe.1.cls ty_Mo_wipe.2.1 ty_Mo_wipe.2.2.1) (G : tm_Γ ty_Mo_wipe 0 0 0 0 av X0 (tm_is (some (.int r.1)) (sh0 ++ ex, r.2.1, r.2.2, rr)) Γ) {mI : tm_I} {mL : tm_L} (hf : f_Mo_wipe_b0  mI mL = some r) : tm_T Γ 2 0 0 0 [some (.ref 39), none] [] (sh0 ++ ex) mI mL rr := by
  have Ro := G.ro
  unfold f_Mo_wipe_b0 at hf
  refine tm_w C tfo_Mo to_Mo_wipe 9 rfl rfl rfl ⟨rfl, rfl, rfl, trivial⟩ ?_
  cases hf
  exact tm_ei C G to_Mo_wipe rfl rfl (Nat.le_refl _) rfl ⟨rfl, rfl⟩
set_option maxRecDepth 100000 in
theorem ct_Mo_wipe {ex : List tm_Sh}  {mI : tm_I} {mL : tm_L} {r : Int32 × tm_I × tm_L} (hf : f_Mo_wipe  mI mL = some r) : tm_M ty_Mo_wipe 0 0 0 0 [.ref 39] (sh0 ++ ex, mI, mL, rr) (tm_is (some (.int r.1)) (sh0 ++ ex, r.2.1, r.2.2, rr)) := by
  refine tm_body (by decide) (Nat.le_of_ble_eq_true rfl) fun Γ C G => ?_
  exact j_Mo_wipe_b0 C G hf
/-! Mo_peek -/
def f_Mo_peek_b22 (s0 : Int32) (mI : tm_I) (mL : tm_L) : Option (Int32 × tm_I × tm_L) := some (s0, mI, mL)
def f_Mo_peek_b0  (mI : tm_I) (mL : tm_L) : Option (Int32 × tm_I × tm_L) := if ¬ (mI 39 8) = 0 then if ¬ (((mI 39 8) - (1 : Int32)) < 0 ∨ 5800 ≤ Int32.toNatClampNeg ((mI 39 8) - (1 : Int32))) then f_Mo_peek_b22 (mI 45 (Int32.toNatClampNeg ((mI 39 8) - (1 : Int32)))) mI mL else none else f_Mo_peek_b22 (-1 : Int32) mI mL
abbrev f_Mo_peek  (mI : tm_I) (mL : tm_L) : Option (Int32 × tm_I × tm_L) := f_Mo_peek_b0  mI mL
set_option maxRecDepth 100000 in
set_option maxHeartbeats 4000000 in
theorem j_Mo_peek_b22 {Γ : tm_G} {ex : List tm_Sh} {av : List Value} {X0 : tm_X} {r : Int32 × tm_I × tm_L} (C : tm_C Γ ty_Mo_peek.1.cls ty_Mo_peek.2.1 ty_Mo_peek.2.2.1) (G : tm_Γ ty_Mo_peek 0 0 0 0 av X0 (tm_is (some (.int r.1)) (sh0 ++ ex, r.2.1, r.2.2, rr)) Γ) {s0 : Int32} {mI : tm_I} {mL : tm_L} (hf : f_Mo_peek_b22 s0 mI mL = some r) : tm_T Γ 1 0 0 22 [some (.ref 39)] [.int s0] (sh0 ++ ex) mI mL rr := by
  have Ro := G.ro
  unfold f_Mo_peek_b22 at hf
  cases hf
  exact tm_ei C G to_Mo_peek rfl rfl (Nat.le_refl _) rfl ⟨rfl, rfl⟩
set_option maxRecDepth 100000 in
set_option maxHeartbeats 4000000 in
theorem j_Mo_peek_b0 {Γ : tm_G} {ex : List tm_Sh} {av : List Value} {X0 : tm_X} {r : Int32 × tm_I × tm_L} (C : tm_C Γ ty_Mo_peek.1.cls ty_Mo_peek.2.1 ty_Mo_peek.2.2.1) (G : tm_Γ ty_Mo_peek 0 0 0 0 av X0 (tm_is (some (.int r.1)) (sh0 ++ ex, r.2.1, r.2.2, rr)) Γ) {mI : tm_I} {mL : tm_L} (hf : f_Mo_peek_b0  mI mL = some r) : tm_T Γ 1 0 0 0 [some (.ref 39)] [] (sh0 ++ ex) mI mL rr := by
  have Ro := G.ro
  unfold f_Mo_peek_b0 at hf
  refine tm_w C tfo_Mo to_Mo_peek 1 rfl rfl rfl ⟨rfl, trivial⟩ ?_
  refine tm_b C to_Mo_peek rfl rfl (fun h => ?_) (fun h => ?_)
  · have hf := (if_pos h).symm.trans hf
    obtain ⟨c1, hf⟩ := tm_iteN hf
    refine tm_w C tfo_Mo to_Mo_peek 6 rfl rfl rfl ⟨rfl, rfl, ⟨_, rfl, c1⟩, trivial⟩ ?_
    refine tm_wk (lv' := [some (.ref 39)]) ⟨Or.inr rfl, trivial⟩ ?_
    exact j_Mo_peek_b22 C G hf
  · have hf := (if_neg h).symm.trans hf
    refine tm_w C tfo_Mo to_Mo_peek 1 rfl rfl rfl trivial ?_
    refine tm_wk (lv' := [some (.ref 39)]) ⟨Or.inr rfl, trivial⟩ ?_
    exact j_Mo_peek_b22 C G hf
set_option maxRecDepth 100000 in
theorem ct_Mo_peek {ex : List tm_Sh}  {mI : tm_I} {mL : tm_L} {r : Int32 × tm_I × tm_L} (hf : f_Mo_peek  mI mL = some r) : tm_M ty_Mo_peek 0 0 0 0 [.ref 39] (sh0 ++ ex, mI, mL, rr) (tm_is (some (.int r.1)) (sh0 ++ ex, r.2.1, r.2.2, rr)) := by
  refine tm_body (by decide) (Nat.le_of_ble_eq_true rfl) fun Γ C G => ?_
  exact j_Mo_peek_b0 C G hf
/-! Mo_next -/
def f_Mo_next_b23 (x1 : Int32) (s1 : Int32) (mI : tm_I) (mL : tm_L) : Option (Int32 × tm_I × tm_L) := some (x1, tm_up mI 39 8 s1, mL)
def f_Mo_next_b0  (mI : tm_I) (mL : tm_L) : Option (Int32 × tm_I × tm_L) := (f_Mo_peek mI mL).bind fun v1 => if ¬ (v1.2.1 39 8) = 0 then f_Mo_next_b23 v1.1 ((v1.2.1 39 8) - (1 : Int32)) v1.2.1 v1.2.2 else f_Mo_next_b23 v1.1 (0 : Int32) v1.2.1 v1.2.2
abbrev f_Mo_next  (mI : tm_I) (mL : tm_L) : Option (Int32 × tm_I × tm_L) := f_Mo_next_b0  mI mL
set_option maxRecDepth 100000 in
set_option maxHeartbeats 4000000 in
theorem j_Mo_next_b23 {Γ : tm_G} {ex : List tm_Sh} {av : List Value} {X0 : tm_X} {r : Int32 × tm_I × tm_L} (C : tm_C Γ ty_Mo_next.1.cls ty_Mo_next.2.1 ty_Mo_next.2.2.1) (G : tm_Γ ty_Mo_next 1 20 0 0 av X0 (tm_is (some (.int r.1)) (sh0 ++ ex, r.2.1, r.2.2, rr)) Γ) {x1 : Int32} {s1 : Int32} {mI : tm_I} {mL : tm_L} (hf : f_Mo_next_b23 x1 s1 mI mL = some r) : tm_T Γ 2 0 0 23 [some (.ref 39), some (.int x1)] [.int s1, .ref 39] (sh0 ++ ex) mI mL rr := by
  have Ro := G.ro
  unfold f_Mo_next_b23 at hf
  refine tm_w C tfo_Mo to_Mo_next 1 rfl rfl rfl ⟨rfl, trivial⟩ ?_
  cases hf
  exact tm_ei C G to_Mo_next rfl rfl (Nat.le_refl _) rfl ⟨rfl, rfl⟩
set_option maxRecDepth 100000 in
set_option maxHeartbeats 4000000 in
theorem j_Mo_next_b0 {Γ : tm_G} {ex : List tm_Sh} {av : List Value} {X0 : tm_X} {r : Int32 × tm_I × tm_L} (C : tm_C Γ ty_Mo_next.1.cls ty_Mo_next.2.1 ty_Mo_next.2.2.1) (G : tm_Γ ty_Mo_next 1 20 0 0 av X0 (tm_is (some (.int r.1)) (sh0 ++ ex, r.2.1, r.2.2, rr)) Γ) {mI : tm_I} {mL : tm_L} (hf : f_Mo_next_b0  mI mL = some r) : tm_T Γ 2 0 0 0 [some (.ref 39), none] [] (sh0 ++ ex) mI mL rr := by
  have Ro := G.ro
  unfold f_Mo_next_b0 at hf
  refine tm_w C tfo_Mo to_Mo_next 0 rfl rfl rfl trivial ?_
  obtain ⟨v1, hv1, hf⟩ := Option.bind_eq_some_iff.mp hf
  refine tm_cV C Ro to_Mo_next tl_Mo_76 rfl (ct_Mo_peek hv1) rfl rfl rfl rfl rfl rfl rfl (Nat.le_refl _) (Nat.le_refl _) ?_
  refine tm_w C tfo_Mo to_Mo_next 3 rfl rfl rfl ⟨rfl, trivial⟩ ?_
  refine tm_b C to_Mo_next rfl rfl (fun h => ?_) (fun h => ?_)
  · have hf := (if_pos h).symm.trans hf
    refine tm_w C tfo_Mo to_Mo_next 3 rfl rfl rfl ⟨rfl, trivial⟩ ?_
    refine tm_wk (lv' := [some (.ref 39), some (.int v1.1)]) ⟨Or.inr rfl, Or.inr rfl, trivial⟩ ?_
    exact j_Mo_next_b23 C G hf
  · have hf := (if_neg h).symm.trans hf
    refine tm_w C tfo_Mo to_Mo_next 1 rfl rfl rfl trivial ?_
    refine tm_wk (lv' := [some (.ref 39), some (.int v1.1)]) ⟨Or.inr rfl, Or.inr rfl, trivial⟩ ?_
    exact j_Mo_next_b23 C G hf
set_option maxRecDepth 100000 in
theorem ct_Mo_next {ex : List tm_Sh}  {mI : tm_I} {mL : tm_L} {r : Int32 × tm_I × tm_L} (hf : f_Mo_next  mI mL = some r) : tm_M ty_Mo_next 1 20 0 0 [.ref 39] (sh0 ++ ex, mI, mL, rr) (tm_is (some (.int r.1)) (sh0 ++ ex, r.2.1, r.2.2, rr)) := by
  refine tm_body (by decide) (Nat.le_of_ble_eq_true rfl) fun Γ C G => ?_
  exact j_Mo_next_b0 C G hf
/-! Mo_isDigit -/
def f_Mo_isDigit_b17 (x0 : Int32) (s0 : Int32) (mI : tm_I) (mL : tm_L) : Option (Int32 × tm_I × tm_L) := if s0 = 0 ∨ s0 = 1 then some (s0, mI, mL) else none
def f_Mo_isDigit_b16 (x0 : Int32) (mI : tm_I) (mL : tm_L) : Option (Int32 × tm_I × tm_L) := f_Mo_isDigit_b17 x0 (0 : Int32) mI mL
def f_Mo_isDigit_b0 (x0 : Int32) (mI : tm_I) (mL : tm_L) : Option (Int32 × tm_I × tm_L) := if x0 < (48 : Int32) then f_Mo_isDigit_b16 x0 mI mL else if (57 : Int32) < x0 then f_Mo_isDigit_b16 x0 mI mL else f_Mo_isDigit_b17 x0 (1 : Int32) mI mL
abbrev f_Mo_isDigit (p0 : Int32) (mI : tm_I) (mL : tm_L) : Option (Int32 × tm_I × tm_L) := f_Mo_isDigit_b0 p0 mI mL
set_option maxRecDepth 100000 in
set_option maxHeartbeats 4000000 in
theorem j_Mo_isDigit_b17 {Γ : tm_G} {ex : List tm_Sh} {av : List Value} {X0 : tm_X} {r : Int32 × tm_I × tm_L} (C : tm_C Γ ty_Mo_isDigit.1.cls ty_Mo_isDigit.2.1 ty_Mo_isDigit.2.2.1) (G : tm_Γ ty_Mo_isDigit 0 0 0 0 av X0 (tm_is (some (.int r.1)) (sh0 ++ ex, r.2.1, r.2.2, rr)) Γ) {x0 : Int32} {s0 : Int32} {mI : tm_I} {mL : tm_L} (hf : f_Mo_isDigit_b17 x0 s0 mI mL = some r) : tm_T Γ 1 0 0 17 [some (.int x0)] [.int s0] (sh0 ++ ex) mI mL rr := by
  have Ro := G.ro
  unfold f_Mo_isDigit_b17 at hf
  obtain ⟨c1, hf⟩ := tm_iteN hf
  cases hf
  exact tm_ei C G to_Mo_isDigit rfl rfl (Nat.le_refl _) (tm_nz c1) ⟨rfl, rfl⟩
set_option maxRecDepth 100000 in
set_option maxHeartbeats 4000000 in
theorem j_Mo_isDigit_b16 {Γ : tm_G} {ex : List tm_Sh} {av : List Value} {X0 : tm_X} {r : Int32 × tm_I × tm_L} (C : tm_C Γ ty_Mo_isDigit.1.cls ty_Mo_isDigit.2.1 ty_Mo_isDigit.2.2.1) (G : tm_Γ ty_Mo_isDigit 0 0 0 0 av X0 (tm_is (some (.int r.1)) (sh0 ++ ex, r.2.1, r.2.2, rr)) Γ) {x0 : Int32} {mI : tm_I} {mL : tm_L} (hf : f_Mo_isDigit_b16 x0 mI mL = some r) : tm_T Γ 1 0 0 16 [some (.int x0)] [] (sh0 ++ ex) mI mL rr := by
  have Ro := G.ro
  unfold f_Mo_isDigit_b16 at hf
  refine tm_w C tfo_Mo to_Mo_isDigit 0 rfl rfl rfl trivial ?_
  refine tm_wk (lv' := [some (.int x0)]) ⟨Or.inr rfl, trivial⟩ ?_
  exact j_Mo_isDigit_b17 C G hf
set_option maxRecDepth 100000 in
set_option maxHeartbeats 4000000 in
theorem j_Mo_isDigit_b0 {Γ : tm_G} {ex : List tm_Sh} {av : List Value} {X0 : tm_X} {r : Int32 × tm_I × tm_L} (C : tm_C Γ ty_Mo_isDigit.1.cls ty_Mo_isDigit.2.1 ty_Mo_isDigit.2.2.1) (G : tm_Γ ty_Mo_isDigit 0 0 0 0 av X0 (tm_is (some (.int r.1)) (sh0 ++ ex, r.2.1, r.2.2, rr)) Γ) {x0 : Int32} {mI : tm_I} {mL : tm_L} (hf : f_Mo_isDigit_b0 x0 mI mL = some r) : tm_T Γ 1 0 0 0 [some (.int x0)] [] (sh0 ++ ex) mI mL rr := by
  have Ro := G.ro
  unfold f_Mo_isDigit_b0 at hf
  refine tm_w C tfo_Mo to_Mo_isDigit 1 rfl rfl rfl trivial ?_
  refine tm_b C to_Mo_isDigit rfl rfl (fun h => ?_) (fun h => ?_)
  · have hf := (if_pos h).symm.trans hf
    refine tm_wk (lv' := [some (.int x0)]) ⟨Or.inr rfl, trivial⟩ ?_
    exact j_Mo_isDigit_b16 C G hf
  · have hf := (if_neg h).symm.trans hf
    refine tm_w C tfo_Mo to_Mo_isDigit 1 rfl rfl rfl trivial ?_
    refine tm_b C to_Mo_isDigit rfl rfl (fun h => ?_) (fun h => ?_)
    · have hf := (if_pos h).symm.trans hf
      refine tm_wk (lv' := [some (.int x0)]) ⟨Or.inr rfl, trivial⟩ ?_
      exact j_Mo_isDigit_b16 C G hf
    · have hf := (if_neg h).symm.trans hf
      refine tm_w C tfo_Mo to_Mo_isDigit 1 rfl rfl rfl trivial ?_
      refine tm_wk (lv' := [some (.int x0)]) ⟨Or.inr rfl, trivial⟩ ?_
      exact j_Mo_isDigit_b17 C G hf
set_option maxRecDepth 100000 in
theorem ct_Mo_isDigit {ex : List tm_Sh} {p0 : Int32} {mI : tm_I} {mL : tm_L} {r : Int32 × tm_I × tm_L} (hf : f_Mo_isDigit p0 mI mL = some r) : tm_M ty_Mo_isDigit 0 0 0 0 [.int p0] (sh0 ++ ex, mI, mL, rr) (tm_is (some (.int r.1)) (sh0 ++ ex, r.2.1, r.2.2, rr)) := by
  refine tm_body (by decide) (Nat.le_of_ble_eq_true rfl) fun Γ C G => ?_
  exact j_Mo_isDigit_b0 C G hf
/-! Mo_hex -/
def f_Mo_hex_b53 (x0 : Int32) (s0 : Int32) (mI : tm_I) (mL : tm_L) : Option (Int32 × tm_I × tm_L) := some (s0, mI, mL)
def f_Mo_hex_b52 (x0 : Int32) (mI : tm_I) (mL : tm_L) : Option (Int32 × tm_I × tm_L) := f_Mo_hex_b53 x0 (-1 : Int32) mI mL
def f_Mo_hex_b33 (x0 : Int32) (mI : tm_I) (mL : tm_L) : Option (Int32 × tm_I × tm_L) := if x0 < (97 : Int32) then f_Mo_hex_b52 x0 mI mL else if (102 : Int32) < x0 then f_Mo_hex_b52 x0 mI mL else f_Mo_hex_b53 x0 (x0 - (87 : Int32)) mI mL
def f_Mo_hex_b0 (x0 : Int32) (mI : tm_I) (mL : tm_L) : Option (Int32 × tm_I × tm_L) := (f_Mo_isDigit x0 mI mL).bind fun v1 => if v1.1 = 0 then if x0 < (65 : Int32) then f_Mo_hex_b33 x0 v1.2.1 v1.2.2 else if (70 : Int32) < x0 then f_Mo_hex_b33 x0 v1.2.1 v1.2.2 else f_Mo_hex_b53 x0 (x0 - (55 : Int32)) v1.2.1 v1.2.2 else f_Mo_hex_b53 x0 (x0 - (48 : Int32)) v1.2.1 v1.2.2
abbrev f_Mo_hex (p0 : Int32) (mI : tm_I) (mL : tm_L) : Option (Int32 × tm_I × tm_L) := f_Mo_hex_b0 p0 mI mL
set_option maxRecDepth 100000 in
set_option maxHeartbeats 4000000 in
theorem j_Mo_hex_b53 {Γ : tm_G} {ex : List tm_Sh} {av : List Value} {X0 : tm_X} {r : Int32 × tm_I × tm_L} (C : tm_C Γ ty_Mo_hex.1.cls ty_Mo_hex.2.1 ty_Mo_hex.2.2.1) (G : tm_Γ ty_Mo_hex 1 20 0 0 av X0 (tm_is (some (.int r.1)) (sh0 ++ ex, r.2.1, r.2.2, rr)) Γ) {x0 : Int32} {s0 : Int32} {mI : tm_I} {mL : tm_L} (hf : f_Mo_hex_b53 x0 s0 mI mL = some r) : tm_T Γ 1 0 0 53 [some (.int x0)] [.int s0] (sh0 ++ ex) mI mL rr := by
  have Ro := G.ro
  unfold f_Mo_hex_b53 at hf
  cases hf
  exact tm_ei C G to_Mo_hex rfl rfl (Nat.le_refl _) rfl ⟨rfl, rfl⟩
set_option maxRecDepth 100000 in
set_option maxHeartbeats 4000000 in
theorem j_Mo_hex_b52 {Γ : tm_G} {ex : List tm_Sh} {av : List Value} {X0 : tm_X} {r : Int32 × tm_I × tm_L} (C : tm_C Γ ty_Mo_hex.1.cls ty_Mo_hex.2.1 ty_Mo_hex.2.2.1) (G : tm_Γ ty_Mo_hex 1 20 0 0 av X0 (tm_is (some (.int r.1)) (sh0 ++ ex, r.2.1, r.2.2, rr)) Γ) {x0 : Int32} {mI : tm_I} {mL : tm_L} (hf : f_Mo_hex_b52 x0 mI mL = some r) : tm_T Γ 1 0 0 52 [some (.int x0)] [] (sh0 ++ ex) mI mL rr := by
  have Ro := G.ro
  unfold f_Mo_hex_b52 at hf
  refine tm_w C tfo_Mo to_Mo_hex 0 rfl rfl rfl trivial ?_
  refine tm_wk (lv' := [some (.int x0)]) ⟨Or.inr rfl, trivial⟩ ?_
  exact j_Mo_hex_b53 C G hf
set_option maxRecDepth 100000 in
set_option maxHeartbeats 4000000 in
theorem j_Mo_hex_b33 {Γ : tm_G} {ex : List tm_Sh} {av : List Value} {X0 : tm_X} {r : Int32 × tm_I × tm_L} (C : tm_C Γ ty_Mo_hex.1.cls ty_Mo_hex.2.1 ty_Mo_hex.2.2.1) (G : tm_Γ ty_Mo_hex 1 20 0 0 av X0 (tm_is (some (.int r.1)) (sh0 ++ ex, r.2.1, r.2.2, rr)) Γ) {x0 : Int32} {mI : tm_I} {mL : tm_L} (hf : f_Mo_hex_b33 x0 mI mL = some r) : tm_T Γ 1 0 0 33 [some (.int x0)] [] (sh0 ++ ex) mI mL rr := by
  have Ro := G.ro
  unfold f_Mo_hex_b33 at hf
  refine tm_w C tfo_Mo to_Mo_hex 1 rfl rfl rfl trivial ?_
  refine tm_b C to_Mo_hex rfl rfl (fun h => ?_) (fun h => ?_)
  · have hf := (if_pos h).symm.trans hf
    refine tm_wk (lv' := [some (.int x0)]) ⟨Or.inr rfl, trivial⟩ ?_
    exact j_Mo_hex_b52 C G hf
  · have hf := (if_neg h).symm.trans hf
    refine tm_w C tfo_Mo to_Mo_hex 1 rfl rfl rfl trivial ?_
    refine tm_b C to_Mo_hex rfl rfl (fun h => ?_) (fun h => ?_)
    · have hf := (if_pos h).symm.trans hf
      refine tm_wk (lv' := [some (.int x0)]) ⟨Or.inr rfl, trivial⟩ ?_
      exact j_Mo_hex_b52 C G hf
    · have hf := (if_neg h).symm.trans hf
      refine tm_w C tfo_Mo to_Mo_hex 3 rfl rfl rfl trivial ?_
      refine tm_wk (lv' := [some (.int x0)]) ⟨Or.inr rfl, trivial⟩ ?_
      exact j_Mo_hex_b53 C G hf
set_option maxRecDepth 100000 in
set_option maxHeartbeats 4000000 in
theorem j_Mo_hex_b0 {Γ : tm_G} {ex : List tm_Sh} {av : List Value} {X0 : tm_X} {r : Int32 × tm_I × tm_L} (C : tm_C Γ ty_Mo_hex.1.cls ty_Mo_hex.2.1 ty_Mo_hex.2.2.1) (G : tm_Γ ty_Mo_hex 1 20 0 0 av X0 (tm_is (some (.int r.1)) (sh0 ++ ex, r.2.1, r.2.2, rr)) Γ) {x0 : Int32} {mI : tm_I} {mL : tm_L} (hf : f_Mo_hex_b0 x0 mI mL = some r) : tm_T Γ 1 0 0 0 [some (.int x0)] [] (sh0 ++ ex) mI mL rr := by
  have Ro := G.ro
  unfold f_Mo_hex_b0 at hf
  refine tm_w C tfo_Mo to_Mo_hex 0 rfl rfl rfl trivial ?_
  obtain ⟨v1, hv1, hf⟩ := Option.bind_eq_some_iff.mp hf
  refine tm_cS C Ro to_Mo_hex tl_Mo_80 rfl (ct_Mo_isDigit hv1) rfl rfl rfl rfl rfl (Nat.le_refl _) (Nat.le_refl _) ?_
  refine tm_b C to_Mo_hex rfl rfl (fun h => ?_) (fun h => ?_)
  · have hf := (if_pos h).symm.trans hf
    refine tm_w C tfo_Mo to_Mo_hex 1 rfl rfl rfl trivial ?_
    refine tm_b C to_Mo_hex rfl rfl (fun h => ?_) (fun h => ?_)
    · have hf := (if_pos h).symm.trans hf
      refine tm_wk (lv' := [some (.int x0)]) ⟨Or.inr rfl, trivial⟩ ?_
      exact j_Mo_hex_b33 C G hf
    · have hf := (if_neg h).symm.trans hf
      refine tm_w C tfo_Mo to_Mo_hex 1 rfl rfl rfl trivial ?_
      refine tm_b C to_Mo_hex rfl rfl (fun h => ?_) (fun h => ?_)
      · have hf := (if_pos h).symm.trans hf
        refine tm_wk (lv' := [some (.int x0)]) ⟨Or.inr rfl, trivial⟩ ?_
        exact j_Mo_hex_b33 C G hf
      · have hf := (if_neg h).symm.trans hf
        refine tm_w C tfo_Mo to_Mo_hex 3 rfl rfl rfl trivial ?_
        refine tm_wk (lv' := [some (.int x0)]) ⟨Or.inr rfl, trivial⟩ ?_
        exact j_Mo_hex_b53 C G hf
  · have hf := (if_neg h).symm.trans hf
    refine tm_w C tfo_Mo to_Mo_hex 3 rfl rfl rfl trivial ?_
    refine tm_wk (lv' := [some (.int x0)]) ⟨Or.inr rfl, trivial⟩ ?_
    exact j_Mo_hex_b53 C G hf
set_option maxRecDepth 100000 in
theorem ct_Mo_hex {ex : List tm_Sh} {p0 : Int32} {mI : tm_I} {mL : tm_L} {r : Int32 × tm_I × tm_L} (hf : f_Mo_hex p0 mI mL = some r) : tm_M ty_Mo_hex 1 20 0 0 [.int p0] (sh0 ++ ex, mI, mL, rr) (tm_is (some (.int r.1)) (sh0 ++ ex, r.2.1, r.2.2, rr)) := by
  refine tm_body (by decide) (Nat.le_of_ble_eq_true rfl) fun Γ C G => ?_
  exact j_Mo_hex_b0 C G hf
/-! Mo_numbers -/
def f_Mo_numbers_b234 (x0 : Int32) (mI : tm_I) (mL : tm_L) : Option (Int32 × tm_I × tm_L) := some ((1 : Int32), mI, mL)
def f_Mo_numbers_b242 (x0 : Int32) (mI : tm_I) (mL : tm_L) : Option (Int32 × tm_I × tm_L) := some ((-1 : Int32), mI, mL)
def f_Mo_numbers_b232 (x0 : Int32) (mI : tm_I) (mL : tm_L) : Option (Int32 × tm_I × tm_L) := some ((0 : Int32), mI, mL)
def f_Mo_numbers_b240 (x0 : Int32) (mI : tm_I) (mL : tm_L) : Option (Int32 × tm_I × tm_L) := some ((4 : Int32), mI, mL)
def f_Mo_numbers_b238 (x0 : Int32) (mI : tm_I) (mL : tm_L) : Option (Int32 × tm_I × tm_L) := some ((3 : Int32), mI, mL)
def f_Mo_numbers_b236 (x0 : Int32) (mI : tm_I) (mL : tm_L) : Option (Int32 × tm_I × tm_L) := some ((2 : Int32), mI, mL)
def f_Mo_numbers_b0 (x0 : Int32) (mI : tm_I) (mL : tm_L) : Option (Int32 × tm_I × tm_L) := if x0 = (35 : Int32) then f_Mo_numbers_b234 x0 mI mL else if x0 = (59 : Int32) then f_Mo_numbers_b232 x0 mI mL else if x0 = (66 : Int32) then f_Mo_numbers_b240 x0 mI mL else if x0 = (67 : Int32) then f_Mo_numbers_b234 x0 mI mL else if x0 = (68 : Int32) then f_Mo_numbers_b240 x0 mI mL else if x0 = (69 : Int32) then f_Mo_numbers_b232 x0 mI mL else if x0 = (70 : Int32) then f_Mo_numbers_b238 x0 mI mL else if x0 = (71 : Int32) then f_Mo_numbers_b238 x0 mI mL else if x0 = (72 : Int32) then f_Mo_numbers_b236 x0 mI mL else if x0 = (73 : Int32) then f_Mo_numbers_b238 x0 mI mL else if x0 = (75 : Int32) then f_Mo_numbers_b234 x0 mI mL else if x0 = (76 : Int32) then f_Mo_numbers_b236 x0 mI mL else if x0 = (78 : Int32) then f_Mo_numbers_b238 x0 mI mL else if x0 = (79 : Int32) then f_Mo_numbers_b236 x0 mI mL else if x0 = (80 : Int32) then f_Mo_numbers_b234 x0 mI mL else if x0 = (81 : Int32) then f_Mo_numbers_b240 x0 mI mL else if x0 = (82 : Int32) then f_Mo_numbers_b232 x0 mI mL else if x0 = (83 : Int32) then f_Mo_numbers_b234 x0 mI mL else if x0 = (84 : Int32) then f_Mo_numbers_b240 x0 mI mL else if x0 = (85 : Int32) then f_Mo_numbers_b234 x0 mI mL else if x0 = (86 : Int32) then f_Mo_numbers_b234 x0 mI mL else if x0 = (87 : Int32) then f_Mo_numbers_b240 x0 mI mL else if x0 = (88 : Int32) then f_Mo_numbers_b232 x0 mI mL else f_Mo_numbers_b242 x0 mI mL
abbrev f_Mo_numbers (p0 : Int32) (mI : tm_I) (mL : tm_L) : Option (Int32 × tm_I × tm_L) := f_Mo_numbers_b0 p0 mI mL
set_option maxRecDepth 100000 in
set_option maxHeartbeats 4000000 in
theorem j_Mo_numbers_b234 {Γ : tm_G} {ex : List tm_Sh} {av : List Value} {X0 : tm_X} {r : Int32 × tm_I × tm_L} (C : tm_C Γ ty_Mo_numbers.1.cls ty_Mo_numbers.2.1 ty_Mo_numbers.2.2.1) (G : tm_Γ ty_Mo_numbers 0 0 0 0 av X0 (tm_is (some (.int r.1)) (sh0 ++ ex, r.2.1, r.2.2, rr)) Γ) {x0 : Int32} {mI : tm_I} {mL : tm_L} (hf : f_Mo_numbers_b234 x0 mI mL = some r) : tm_T Γ 1 0 0 234 [some (.int x0)] [] (sh0 ++ ex) mI mL rr := by
  have Ro := G.ro
  unfold f_Mo_numbers_b234 at hf
  refine tm_w C tfo_Mo to_Mo_numbers 0 rfl rfl rfl trivial ?_
  cases hf
  exact tm_ei C G to_Mo_numbers rfl rfl (Nat.le_refl _) rfl ⟨rfl, rfl⟩
set_option maxRecDepth 100000 in
set_option maxHeartbeats 4000000 in
theorem j_Mo_numbers_b242 {Γ : tm_G} {ex : List tm_Sh} {av : List Value} {X0 : tm_X} {r : Int32 × tm_I × tm_L} (C : tm_C Γ ty_Mo_numbers.1.cls ty_Mo_numbers.2.1 ty_Mo_numbers.2.2.1) (G : tm_Γ ty_Mo_numbers 0 0 0 0 av X0 (tm_is (some (.int r.1)) (sh0 ++ ex, r.2.1, r.2.2, rr)) Γ) {x0 : Int32} {mI : tm_I} {mL : tm_L} (hf : f_Mo_numbers_b242 x0 mI mL = some r) : tm_T Γ 1 0 0 242 [some (.int x0)] [] (sh0 ++ ex) mI mL rr := by
  have Ro := G.ro
  unfold f_Mo_numbers_b242 at hf
  refine tm_w C tfo_Mo to_Mo_numbers 0 rfl rfl rfl trivial ?_
  cases hf
  exact tm_ei C G to_Mo_numbers rfl rfl (Nat.le_refl _) rfl ⟨rfl, rfl⟩
set_option maxRecDepth 100000 in
set_option maxHeartbeats 4000000 in
theorem j_Mo_numbers_b232 {Γ : tm_G} {ex : List tm_Sh} {av : List Value} {X0 : tm_X} {r : Int32 × tm_I × tm_L} (C : tm_C Γ ty_Mo_numbers.1.cls ty_Mo_numbers.2.1 ty_Mo_numbers.2.2.1) (G : tm_Γ ty_Mo_numbers 0 0 0 0 av X0 (tm_is (some (.int r.1)) (sh0 ++ ex, r.2.1, r.2.2, rr)) Γ) {x0 : Int32} {mI : tm_I} {mL : tm_L} (hf : f_Mo_numbers_b232 x0 mI mL = some r) : tm_T Γ 1 0 0 232 [some (.int x0)] [] (sh0 ++ ex) mI mL rr := by
  have Ro := G.ro
  unfold f_Mo_numbers_b232 at hf
  refine tm_w C tfo_Mo to_Mo_numbers 0 rfl rfl rfl trivial ?_
  cases hf
  exact tm_ei C G to_Mo_numbers rfl rfl (Nat.le_refl _) rfl ⟨rfl, rfl⟩
set_option maxRecDepth 100000 in
set_option maxHeartbeats 4000000 in
theorem j_Mo_numbers_b240 {Γ : tm_G} {ex : List tm_Sh} {av : List Value} {X0 : tm_X} {r : Int32 × tm_I × tm_L} (C : tm_C Γ ty_Mo_numbers.1.cls ty_Mo_numbers.2.1 ty_Mo_numbers.2.2.1) (G : tm_Γ ty_Mo_numbers 0 0 0 0 av X0 (tm_is (some (.int r.1)) (sh0 ++ ex, r.2.1, r.2.2, rr)) Γ) {x0 : Int32} {mI : tm_I} {mL : tm_L} (hf : f_Mo_numbers_b240 x0 mI mL = some r) : tm_T Γ 1 0 0 240 [some (.int x0)] [] (sh0 ++ ex) mI mL rr := by
  have Ro := G.ro
  unfold f_Mo_numbers_b240 at hf
  refine tm_w C tfo_Mo to_Mo_numbers 0 rfl rfl rfl trivial ?_
  cases hf
  exact tm_ei C G to_Mo_numbers rfl rfl (Nat.le_refl _) rfl ⟨rfl, rfl⟩
set_option maxRecDepth 100000 in
set_option maxHeartbeats 4000000 in
theorem j_Mo_numbers_b238 {Γ : tm_G} {ex : List tm_Sh} {av : List Value} {X0 : tm_X} {r : Int32 × tm_I × tm_L} (C : tm_C Γ ty_Mo_numbers.1.cls ty_Mo_numbers.2.1 ty_Mo_numbers.2.2.1) (G : tm_Γ ty_Mo_numbers 0 0 0 0 av X0 (tm_is (some (.int r.1)) (sh0 ++ ex, r.2.1, r.2.2, rr)) Γ) {x0 : Int32} {mI : tm_I} {mL : tm_L} (hf : f_Mo_numbers_b238 x0 mI mL = some r) : tm_T Γ 1 0 0 238 [some (.int x0)] [] (sh0 ++ ex) mI mL rr := by
  have Ro := G.ro
  unfold f_Mo_numbers_b238 at hf
  refine tm_w C tfo_Mo to_Mo_numbers 0 rfl rfl rfl trivial ?_
  cases hf
  exact tm_ei C G to_Mo_numbers rfl rfl (Nat.le_refl _) rfl ⟨rfl, rfl⟩
set_option maxRecDepth 100000 in
set_option maxHeartbeats 4000000 in
theorem j_Mo_numbers_b236 {Γ : tm_G} {ex : List tm_Sh} {av : List Value} {X0 : tm_X} {r : Int32 × tm_I × tm_L} (C : tm_C Γ ty_Mo_numbers.1.cls ty_Mo_numbers.2.1 ty_Mo_numbers.2.2.1) (G : tm_Γ ty_Mo_numbers 0 0 0 0 av X0 (tm_is (some (.int r.1)) (sh0 ++ ex, r.2.1, r.2.2, rr)) Γ) {x0 : Int32} {mI : tm_I} {mL : tm_L} (hf : f_Mo_numbers_b236 x0 mI mL = some r) : tm_T Γ 1 0 0 236 [some (.int x0)] [] (sh0 ++ ex) mI mL rr := by
  have Ro := G.ro
  unfold f_Mo_numbers_b236 at hf
  refine tm_w C tfo_Mo to_Mo_numbers 0 rfl rfl rfl trivial ?_
  cases hf
  exact tm_ei C G to_Mo_numbers rfl rfl (Nat.le_refl _) rfl ⟨rfl, rfl⟩
set_option maxRecDepth 100000 in
set_option maxHeartbeats 4000000 in
theorem j_Mo_numbers_b0 {Γ : tm_G} {ex : List tm_Sh} {av : List Value} {X0 : tm_X} {r : Int32 × tm_I × tm_L} (C : tm_C Γ ty_Mo_numbers.1.cls ty_Mo_numbers.2.1 ty_Mo_numbers.2.2.1) (G : tm_Γ ty_Mo_numbers 0 0 0 0 av X0 (tm_is (some (.int r.1)) (sh0 ++ ex, r.2.1, r.2.2, rr)) Γ) {x0 : Int32} {mI : tm_I} {mL : tm_L} (hf : f_Mo_numbers_b0 x0 mI mL = some r) : tm_T Γ 1 0 0 0 [some (.int x0)] [] (sh0 ++ ex) mI mL rr := by
  have Ro := G.ro
  unfold f_Mo_numbers_b0 at hf
  refine tm_w C tfo_Mo to_Mo_numbers 0 rfl rfl rfl trivial ?_
  by_cases h35 : x0 = (35 : Int32)
  · have hf := (if_pos h35).symm.trans hf
    refine tm_swI (tgt := 234) C (tm_get_d to_Mo_numbers rfl) (35 : Int32) (233) h35 (by decide) (by decide) (by decide) (by decide) ?_
    refine tm_wk (lv' := [some (.int x0)]) ⟨Or.inr rfl, trivial⟩ ?_
    exact j_Mo_numbers_b234 C G hf
  have hf := (if_neg h35).symm.trans hf
  by_cases h59 : x0 = (59 : Int32)
  · have hf := (if_pos h59).symm.trans hf
    refine tm_swI (tgt := 232) C (tm_get_d to_Mo_numbers rfl) (59 : Int32) (231) h59 (by decide) (by decide) (by decide) (by decide) ?_
    refine tm_wk (lv' := [some (.int x0)]) ⟨Or.inr rfl, trivial⟩ ?_
    exact j_Mo_numbers_b232 C G hf
  have hf := (if_neg h59).symm.trans hf
  by_cases h66 : x0 = (66 : Int32)
  · have hf := (if_pos h66).symm.trans hf
    refine tm_swI (tgt := 240) C (tm_get_d to_Mo_numbers rfl) (66 : Int32) (239) h66 (by decide) (by decide) (by decide) (by decide) ?_
    refine tm_wk (lv' := [some (.int x0)]) ⟨Or.inr rfl, trivial⟩ ?_
    exact j_Mo_numbers_b240 C G hf
  have hf := (if_neg h66).symm.trans hf
  by_cases h67 : x0 = (67 : Int32)
  · have hf := (if_pos h67).symm.trans hf
    refine tm_swI (tgt := 234) C (tm_get_d to_Mo_numbers rfl) (67 : Int32) (233) h67 (by decide) (by decide) (by decide) (by decide) ?_
    refine tm_wk (lv' := [some (.int x0)]) ⟨Or.inr rfl, trivial⟩ ?_
    exact j_Mo_numbers_b234 C G hf
  have hf := (if_neg h67).symm.trans hf
  by_cases h68 : x0 = (68 : Int32)
  · have hf := (if_pos h68).symm.trans hf
    refine tm_swI (tgt := 240) C (tm_get_d to_Mo_numbers rfl) (68 : Int32) (239) h68 (by decide) (by decide) (by decide) (by decide) ?_
    refine tm_wk (lv' := [some (.int x0)]) ⟨Or.inr rfl, trivial⟩ ?_
    exact j_Mo_numbers_b240 C G hf
  have hf := (if_neg h68).symm.trans hf
  by_cases h69 : x0 = (69 : Int32)
  · have hf := (if_pos h69).symm.trans hf
    refine tm_swI (tgt := 232) C (tm_get_d to_Mo_numbers rfl) (69 : Int32) (231) h69 (by decide) (by decide) (by decide) (by decide) ?_
    refine tm_wk (lv' := [some (.int x0)]) ⟨Or.inr rfl, trivial⟩ ?_
    exact j_Mo_numbers_b232 C G hf
  have hf := (if_neg h69).symm.trans hf
  by_cases h70 : x0 = (70 : Int32)
  · have hf := (if_pos h70).symm.trans hf
    refine tm_swI (tgt := 238) C (tm_get_d to_Mo_numbers rfl) (70 : Int32) (237) h70 (by decide) (by decide) (by decide) (by decide) ?_
    refine tm_wk (lv' := [some (.int x0)]) ⟨Or.inr rfl, trivial⟩ ?_
    exact j_Mo_numbers_b238 C G hf
  have hf := (if_neg h70).symm.trans hf
  by_cases h71 : x0 = (71 : Int32)
  · have hf := (if_pos h71).symm.trans hf
    refine tm_swI (tgt := 238) C (tm_get_d to_Mo_numbers rfl) (71 : Int32) (237) h71 (by decide) (by decide) (by decide) (by decide) ?_
    refine tm_wk (lv' := [some (.int x0)]) ⟨Or.inr rfl, trivial⟩ ?_
    exact j_Mo_numbers_b238 C G hf
  have hf := (if_neg h71).symm.trans hf
  by_cases h72 : x0 = (72 : Int32)
  · have hf := (if_pos h72).symm.trans hf
    refine tm_swI (tgt := 236) C (tm_get_d to_Mo_numbers rfl) (72 : Int32) (235) h72 (by decide) (by decide) (by decide) (by decide) ?_
    refine tm_wk (lv' := [some (.int x0)]) ⟨Or.inr rfl, trivial⟩ ?_
    exact j_Mo_numbers_b236 C G hf
  have hf := (if_neg h72).symm.trans hf
  by_cases h73 : x0 = (73 : Int32)
  · have hf := (if_pos h73).symm.trans hf
    refine tm_swI (tgt := 238) C (tm_get_d to_Mo_numbers rfl) (73 : Int32) (237) h73 (by decide) (by decide) (by decide) (by decide) ?_
    refine tm_wk (lv' := [some (.int x0)]) ⟨Or.inr rfl, trivial⟩ ?_
    exact j_Mo_numbers_b238 C G hf
  have hf := (if_neg h73).symm.trans hf
  by_cases h75 : x0 = (75 : Int32)
  · have hf := (if_pos h75).symm.trans hf
    refine tm_swI (tgt := 234) C (tm_get_d to_Mo_numbers rfl) (75 : Int32) (233) h75 (by decide) (by decide) (by decide) (by decide) ?_
    refine tm_wk (lv' := [some (.int x0)]) ⟨Or.inr rfl, trivial⟩ ?_
    exact j_Mo_numbers_b234 C G hf
  have hf := (if_neg h75).symm.trans hf
  by_cases h76 : x0 = (76 : Int32)
  · have hf := (if_pos h76).symm.trans hf
    refine tm_swI (tgt := 236) C (tm_get_d to_Mo_numbers rfl) (76 : Int32) (235) h76 (by decide) (by decide) (by decide) (by decide) ?_
    refine tm_wk (lv' := [some (.int x0)]) ⟨Or.inr rfl, trivial⟩ ?_
    exact j_Mo_numbers_b236 C G hf
  have hf := (if_neg h76).symm.trans hf
  by_cases h78 : x0 = (78 : Int32)
  · have hf := (if_pos h78).symm.trans hf
    refine tm_swI (tgt := 238) C (tm_get_d to_Mo_numbers rfl) (78 : Int32) (237) h78 (by decide) (by decide) (by decide) (by decide) ?_
    refine tm_wk (lv' := [some (.int x0)]) ⟨Or.inr rfl, trivial⟩ ?_
    exact j_Mo_numbers_b238 C G hf
  have hf := (if_neg h78).symm.trans hf
  by_cases h79 : x0 = (79 : Int32)
  · have hf := (if_pos h79).symm.trans hf
    refine tm_swI (tgt := 236) C (tm_get_d to_Mo_numbers rfl) (79 : Int32) (235) h79 (by decide) (by decide) (by decide) (by decide) ?_
    refine tm_wk (lv' := [some (.int x0)]) ⟨Or.inr rfl, trivial⟩ ?_
    exact j_Mo_numbers_b236 C G hf
  have hf := (if_neg h79).symm.trans hf
  by_cases h80 : x0 = (80 : Int32)
  · have hf := (if_pos h80).symm.trans hf
    refine tm_swI (tgt := 234) C (tm_get_d to_Mo_numbers rfl) (80 : Int32) (233) h80 (by decide) (by decide) (by decide) (by decide) ?_
    refine tm_wk (lv' := [some (.int x0)]) ⟨Or.inr rfl, trivial⟩ ?_
    exact j_Mo_numbers_b234 C G hf
  have hf := (if_neg h80).symm.trans hf
  by_cases h81 : x0 = (81 : Int32)
  · have hf := (if_pos h81).symm.trans hf
    refine tm_swI (tgt := 240) C (tm_get_d to_Mo_numbers rfl) (81 : Int32) (239) h81 (by decide) (by decide) (by decide) (by decide) ?_
    refine tm_wk (lv' := [some (.int x0)]) ⟨Or.inr rfl, trivial⟩ ?_
    exact j_Mo_numbers_b240 C G hf
  have hf := (if_neg h81).symm.trans hf
  by_cases h82 : x0 = (82 : Int32)
  · have hf := (if_pos h82).symm.trans hf
    refine tm_swI (tgt := 232) C (tm_get_d to_Mo_numbers rfl) (82 : Int32) (231) h82 (by decide) (by decide) (by decide) (by decide) ?_
    refine tm_wk (lv' := [some (.int x0)]) ⟨Or.inr rfl, trivial⟩ ?_
    exact j_Mo_numbers_b232 C G hf
  have hf := (if_neg h82).symm.trans hf
  by_cases h83 : x0 = (83 : Int32)
  · have hf := (if_pos h83).symm.trans hf
    refine tm_swI (tgt := 234) C (tm_get_d to_Mo_numbers rfl) (83 : Int32) (233) h83 (by decide) (by decide) (by decide) (by decide) ?_
    refine tm_wk (lv' := [some (.int x0)]) ⟨Or.inr rfl, trivial⟩ ?_
    exact j_Mo_numbers_b234 C G hf
  have hf := (if_neg h83).symm.trans hf
  by_cases h84 : x0 = (84 : Int32)
  · have hf := (if_pos h84).symm.trans hf
    refine tm_swI (tgt := 240) C (tm_get_d to_Mo_numbers rfl) (84 : Int32) (239) h84 (by decide) (by decide) (by decide) (by decide) ?_
    refine tm_wk (lv' := [some (.int x0)]) ⟨Or.inr rfl, trivial⟩ ?_
    exact j_Mo_numbers_b240 C G hf
  have hf := (if_neg h84).symm.trans hf
  by_cases h85 : x0 = (85 : Int32)
  · have hf := (if_pos h85).symm.trans hf
    refine tm_swI (tgt := 234) C (tm_get_d to_Mo_numbers rfl) (85 : Int32) (233) h85 (by decide) (by decide) (by decide) (by decide) ?_
    refine tm_wk (lv' := [some (.int x0)]) ⟨Or.inr rfl, trivial⟩ ?_
    exact j_Mo_numbers_b234 C G hf
  have hf := (if_neg h85).symm.trans hf
  by_cases h86 : x0 = (86 : Int32)
  · have hf := (if_pos h86).symm.trans hf
    refine tm_swI (tgt := 234) C (tm_get_d to_Mo_numbers rfl) (86 : Int32) (233) h86 (by decide) (by decide) (by decide) (by decide) ?_
    refine tm_wk (lv' := [some (.int x0)]) ⟨Or.inr rfl, trivial⟩ ?_
    exact j_Mo_numbers_b234 C G hf
  have hf := (if_neg h86).symm.trans hf
  by_cases h87 : x0 = (87 : Int32)
  · have hf := (if_pos h87).symm.trans hf
    refine tm_swI (tgt := 240) C (tm_get_d to_Mo_numbers rfl) (87 : Int32) (239) h87 (by decide) (by decide) (by decide) (by decide) ?_
    refine tm_wk (lv' := [some (.int x0)]) ⟨Or.inr rfl, trivial⟩ ?_
    exact j_Mo_numbers_b240 C G hf
  have hf := (if_neg h87).symm.trans hf
  by_cases h88 : x0 = (88 : Int32)
  · have hf := (if_pos h88).symm.trans hf
    refine tm_swI (tgt := 232) C (tm_get_d to_Mo_numbers rfl) (88 : Int32) (231) h88 (by decide) (by decide) (by decide) (by decide) ?_
    refine tm_wk (lv' := [some (.int x0)]) ⟨Or.inr rfl, trivial⟩ ?_
    exact j_Mo_numbers_b232 C G hf
  have hf := (if_neg h88).symm.trans hf
  refine tm_swD (tgt := 242) C (tm_get_d to_Mo_numbers rfl) [(35 : Int32), (59 : Int32), (66 : Int32), (67 : Int32), (68 : Int32), (69 : Int32), (70 : Int32), (71 : Int32), (72 : Int32), (73 : Int32), (75 : Int32), (76 : Int32), (78 : Int32), (79 : Int32), (80 : Int32), (81 : Int32), (82 : Int32), (83 : Int32), (84 : Int32), (85 : Int32), (86 : Int32), (87 : Int32), (88 : Int32)] (by decide) (by decide) (List.forall_mem_cons.mpr ⟨h35, List.forall_mem_cons.mpr ⟨h59, List.forall_mem_cons.mpr ⟨h66, List.forall_mem_cons.mpr ⟨h67, List.forall_mem_cons.mpr ⟨h68, List.forall_mem_cons.mpr ⟨h69, List.forall_mem_cons.mpr ⟨h70, List.forall_mem_cons.mpr ⟨h71, List.forall_mem_cons.mpr ⟨h72, List.forall_mem_cons.mpr ⟨h73, List.forall_mem_cons.mpr ⟨h75, List.forall_mem_cons.mpr ⟨h76, List.forall_mem_cons.mpr ⟨h78, List.forall_mem_cons.mpr ⟨h79, List.forall_mem_cons.mpr ⟨h80, List.forall_mem_cons.mpr ⟨h81, List.forall_mem_cons.mpr ⟨h82, List.forall_mem_cons.mpr ⟨h83, List.forall_mem_cons.mpr ⟨h84, List.forall_mem_cons.mpr ⟨h85, List.forall_mem_cons.mpr ⟨h86, List.forall_mem_cons.mpr ⟨h87, List.forall_mem_cons.mpr ⟨h88, fun _ h => nomatch h⟩⟩⟩⟩⟩⟩⟩⟩⟩⟩⟩⟩⟩⟩⟩⟩⟩⟩⟩⟩⟩⟩⟩) (by decide) ?_
  refine tm_wk (lv' := [some (.int x0)]) ⟨Or.inr rfl, trivial⟩ ?_
  exact j_Mo_numbers_b242 C G hf
set_option maxRecDepth 100000 in
theorem ct_Mo_numbers {ex : List tm_Sh} {p0 : Int32} {mI : tm_I} {mL : tm_L} {r : Int32 × tm_I × tm_L} (hf : f_Mo_numbers p0 mI mL = some r) : tm_M ty_Mo_numbers 0 0 0 0 [.int p0] (sh0 ++ ex, mI, mL, rr) (tm_is (some (.int r.1)) (sh0 ++ ex, r.2.1, r.2.2, rr)) := by
  refine tm_body (by decide) (Nat.le_of_ble_eq_true rfl) fun Γ C G => ?_
  exact j_Mo_numbers_b0 C G hf
