/-! La_write -/
def f_La_write_b11 (x1 : Int32) (x2 : Int64) (mI : tm_I) (mL : tm_L) : Option (Int32 × tm_I × tm_L) := none
def f_La_write_l45 : Nat → Int32 → Int64 → Int32 → tm_I → tm_L → Option (Int32 × tm_I × tm_L)
  | 0, _, _, _, _, _ => none
  | n + 1, x1, x2, x4, mI, mL => if x1 ≤ x4 then (f_Ro_size 2 (0 : Int32) mI mL).bind fun v1 => some (v1.1, v1.2.1, v1.2.2) else (f_Ro_add 2 (0 : Int32) ((Int64.toInt32 ((Int64.toUInt64 x2 >>> ((Int32.toInt64 ((8 : Int32) * x4)).toUInt64 &&& Int64.toUInt64 63)).toInt64)) &&& (255 : Int32)) mI mL).bind fun v2 => (f_La_write_l45 n) x1 x2 (x4 + (1 : Int32)) v2.2.1 v2.2.2
def f_La_write_b0 (x1 : Int32) (x2 : Int64) (mI : tm_I) (mL : tm_L) : Option (Int32 × tm_I × tm_L) := if x1 < (1 : Int32) then f_La_write_b11 x1 x2 mI mL else if x1 ≤ (8 : Int32) then (f_Ro_size 2 (0 : Int32) mI mL).bind fun v3 => if (v3.1 + x1) ≤ (4096 : Int32) then f_La_write_l45 tm_F x1 x2 (0 : Int32) v3.2.1 v3.2.2 else some ((-1 : Int32), v3.2.1, v3.2.2) else f_La_write_b11 x1 x2 mI mL
abbrev f_La_write (p0 : Int32) (p1 : Int64) (mI : tm_I) (mL : tm_L) : Option (Int32 × tm_I × tm_L) := f_La_write_b0 p0 p1 mI mL
set_option maxRecDepth 100000 in
set_option maxHeartbeats 4000000 in
theorem j_La_write_b11 {Γ : tm_G} {ex : List tm_Sh} {av : List Value} {X0 : tm_X} {r : Int32 × tm_I × tm_L} (C : tm_C Γ ty_La_write.1.cls ty_La_write.2.1 ty_La_write.2.2.1) (G : tm_Γ ty_La_write 1 25 0 0 av X0 (tm_is (some (.int r.1)) (sh0 ++ ex, r.2.1, r.2.2, rr)) Γ) {x1 : Int32} {x2 : Int64} {mI : tm_I} {mL : tm_L} (hf : f_La_write_b11 x1 x2 mI mL = some r) : tm_T Γ 5 0 0 11 [some (.ref 0), some (.int x1), some (.long x2), none, none] [] (sh0 ++ ex) mI mL rr := by
  have Ro := G.ro
  unfold f_La_write_b11 at hf
  cases hf
set_option maxRecDepth 100000 in
set_option maxHeartbeats 4000000 in
theorem j_La_write_l45 {Γ : tm_G} {ex : List tm_Sh} {av : List Value} {X0 : tm_X} {r : Int32 × tm_I × tm_L} (C : tm_C Γ ty_La_write.1.cls ty_La_write.2.1 ty_La_write.2.2.1) (G : tm_Γ ty_La_write 1 25 0 0 av X0 (tm_is (some (.int r.1)) (sh0 ++ ex, r.2.1, r.2.2, rr)) Γ) : ∀ (n : Nat) (x1 : Int32) (x2 : Int64) (x4 : Int32) (mI : tm_I) (mL : tm_L), f_La_write_l45 n x1 x2 x4 mI mL = some r → tm_T Γ 5 0 0 45 [some (.ref 0), some (.int x1), some (.long x2), none, some (.int x4)] [] (sh0 ++ ex) mI mL rr := by
  have Ro := G.ro
  intro n
  induction n with
  | zero => intro x1 x2 x4 mI mL hf; cases hf
  | succ n ih =>
    intro x1 x2 x4 mI mL hf
    rw [f_La_write_l45] at hf
    refine tm_w C tfo_La to_La_write 1 rfl rfl rfl trivial ?_
    refine tm_b C to_La_write rfl rfl (fun h => ?_) (fun h => ?_)
    · have hf := (if_pos h).symm.trans hf
      refine tm_w C tfo_La to_La_write 3 rfl rfl rfl ⟨rfl, rfl, trivial⟩ ?_
      obtain ⟨v1, hv1, hf⟩ := Option.bind_eq_some_iff.mp hf
      refine tm_cV C Ro to_La_write tl_La_62 rfl (ct_Ro_size isRo_2 hv1) rfl rfl rfl rfl rfl rfl rfl (Nat.le_refl _) (Nat.le_refl _) ?_
      cases hf
      exact tm_ei C G to_La_write rfl rfl (Nat.le_refl _) rfl ⟨rfl, rfl⟩
    · have hf := (if_neg h).symm.trans hf
      refine tm_w C tfo_La to_La_write 11 rfl rfl rfl ⟨rfl, rfl, trivial⟩ ?_
      obtain ⟨v2, hv2, hf⟩ := Option.bind_eq_some_iff.mp hf
      refine tm_cV C Ro to_La_write tl_La_66 rfl (ct_Ro_add isRo_2 hv2) rfl rfl rfl rfl rfl rfl rfl (Nat.le_refl _) (Nat.le_refl _) ?_
      refine tm_w C tfo_La to_La_write 2 rfl rfl rfl trivial ?_
      refine tm_wk (lv' := [some (.ref 0), some (.int x1), some (.long x2), none, some (.int (x4 + (1 : Int32)))]) ⟨Or.inr rfl, Or.inr rfl, Or.inr rfl, Or.inl rfl, Or.inr rfl, trivial⟩ ?_
      exact ih _ _ _ _ _ hf
set_option maxRecDepth 100000 in
set_option maxHeartbeats 4000000 in
theorem j_La_write_b0 {Γ : tm_G} {ex : List tm_Sh} {av : List Value} {X0 : tm_X} {r : Int32 × tm_I × tm_L} (C : tm_C Γ ty_La_write.1.cls ty_La_write.2.1 ty_La_write.2.2.1) (G : tm_Γ ty_La_write 1 25 0 0 av X0 (tm_is (some (.int r.1)) (sh0 ++ ex, r.2.1, r.2.2, rr)) Γ) {x1 : Int32} {x2 : Int64} {mI : tm_I} {mL : tm_L} (hf : f_La_write_b0 x1 x2 mI mL = some r) : tm_T Γ 5 0 0 0 [some (.ref 0), some (.int x1), some (.long x2), none, none] [] (sh0 ++ ex) mI mL rr := by
  have Ro := G.ro
  unfold f_La_write_b0 at hf
  refine tm_w C tfo_La to_La_write 1 rfl rfl rfl trivial ?_
  refine tm_b C to_La_write rfl rfl (fun h => ?_) (fun h => ?_)
  · have hf := (if_pos h).symm.trans hf
    refine tm_wk (lv' := [some (.ref 0), some (.int x1), some (.long x2), none, none]) ⟨Or.inr rfl, Or.inr rfl, Or.inr rfl, Or.inl rfl, Or.inl rfl, trivial⟩ ?_
    exact j_La_write_b11 C G hf
  · have hf := (if_neg h).symm.trans hf
    refine tm_w C tfo_La to_La_write 1 rfl rfl rfl trivial ?_
    refine tm_b C to_La_write rfl rfl (fun h => ?_) (fun h => ?_)
    · have hf := (if_pos h).symm.trans hf
      refine tm_w C tfo_La to_La_write 3 rfl rfl rfl ⟨rfl, rfl, trivial⟩ ?_
      obtain ⟨v3, hv3, hf⟩ := Option.bind_eq_some_iff.mp hf
      refine tm_cV C Ro to_La_write tl_La_62 rfl (ct_Ro_size isRo_2 hv3) rfl rfl rfl rfl rfl rfl rfl (Nat.le_refl _) (Nat.le_refl _) ?_
      refine tm_w C tfo_La to_La_write 2 rfl rfl rfl trivial ?_
      refine tm_b C to_La_write rfl rfl (fun h => ?_) (fun h => ?_)
      · have hf := (if_pos h).symm.trans hf
        refine tm_w C tfo_La to_La_write 1 rfl rfl rfl trivial ?_
        refine tm_wk (lv' := [some (.ref 0), some (.int x1), some (.long x2), none, some (.int (0 : Int32))]) ⟨Or.inr rfl, Or.inr rfl, Or.inr rfl, Or.inl rfl, Or.inr rfl, trivial⟩ ?_
        exact j_La_write_l45 C G _ _ _ _ _ _ hf
      · have hf := (if_neg h).symm.trans hf
        refine tm_w C tfo_La to_La_write 0 rfl rfl rfl trivial ?_
        cases hf
        exact tm_ei C G to_La_write rfl rfl (Nat.le_refl _) rfl ⟨rfl, rfl⟩
    · have hf := (if_neg h).symm.trans hf
      refine tm_wk (lv' := [some (.ref 0), some (.int x1), some (.long x2), none, none]) ⟨Or.inr rfl, Or.inr rfl, Or.inr rfl, Or.inl rfl, Or.inl rfl, trivial⟩ ?_
      exact j_La_write_b11 C G hf
set_option maxRecDepth 100000 in
theorem ct_La_write {ex : List tm_Sh} {p0 : Int32} {p1 : Int64} {mI : tm_I} {mL : tm_L} {r : Int32 × tm_I × tm_L} (hf : f_La_write p0 p1 mI mL = some r) : tm_M ty_La_write 1 25 0 0 [.ref 0, .int p0, .long p1] (sh0 ++ ex, mI, mL, rr) (tm_is (some (.int r.1)) (sh0 ++ ex, r.2.1, r.2.2, rr)) := by
  refine tm_body (by decide) (Nat.le_of_ble_eq_true rfl) fun Γ C G => ?_
  exact j_La_write_b0 C G hf
/-! La_label -/
def f_La_label_b9 (x1 : Int32) (x2 : Int32) (mI : tm_I) (mL : tm_L) : Option (Int32 × tm_I × tm_L) := none
def f_La_label_b0 (x1 : Int32) (x2 : Int32) (mI : tm_I) (mL : tm_L) : Option (Int32 × tm_I × tm_L) := if x2 < 0 then f_La_label_b9 x1 x2 mI mL else if x2 < (4 : Int32) then (f_Sh_labelCell x1 x2 mI mL).bind fun v1 => some (v1.1, v1.2.1, v1.2.2) else f_La_label_b9 x1 x2 mI mL
abbrev f_La_label (p0 : Int32) (p1 : Int32) (mI : tm_I) (mL : tm_L) : Option (Int32 × tm_I × tm_L) := f_La_label_b0 p0 p1 mI mL
set_option maxRecDepth 100000 in
set_option maxHeartbeats 4000000 in
theorem j_La_label_b9 {Γ : tm_G} {ex : List tm_Sh} {av : List Value} {X0 : tm_X} {r : Int32 × tm_I × tm_L} (C : tm_C Γ ty_La_label.1.cls ty_La_label.2.1 ty_La_label.2.2.1) (G : tm_Γ ty_La_label 1 22 0 0 av X0 (tm_is (some (.int r.1)) (sh0 ++ ex, r.2.1, r.2.2, rr)) Γ) {x1 : Int32} {x2 : Int32} {mI : tm_I} {mL : tm_L} (hf : f_La_label_b9 x1 x2 mI mL = some r) : tm_T Γ 3 0 0 9 [some (.ref 0), some (.int x1), some (.int x2)] [] (sh0 ++ ex) mI mL rr := by
  have Ro := G.ro
  unfold f_La_label_b9 at hf
  cases hf
set_option maxRecDepth 100000 in
set_option maxHeartbeats 4000000 in
theorem j_La_label_b0 {Γ : tm_G} {ex : List tm_Sh} {av : List Value} {X0 : tm_X} {r : Int32 × tm_I × tm_L} (C : tm_C Γ ty_La_label.1.cls ty_La_label.2.1 ty_La_label.2.2.1) (G : tm_Γ ty_La_label 1 22 0 0 av X0 (tm_is (some (.int r.1)) (sh0 ++ ex, r.2.1, r.2.2, rr)) Γ) {x1 : Int32} {x2 : Int32} {mI : tm_I} {mL : tm_L} (hf : f_La_label_b0 x1 x2 mI mL = some r) : tm_T Γ 3 0 0 0 [some (.ref 0), some (.int x1), some (.int x2)] [] (sh0 ++ ex) mI mL rr := by
  have Ro := G.ro
  unfold f_La_label_b0 at hf
  refine tm_w C tfo_La to_La_label 0 rfl rfl rfl trivial ?_
  refine tm_b C to_La_label rfl rfl (fun h => ?_) (fun h => ?_)
  · have hf := (if_pos h).symm.trans hf
    refine tm_wk (lv' := [some (.ref 0), some (.int x1), some (.int x2)]) ⟨Or.inr rfl, Or.inr rfl, Or.inr rfl, trivial⟩ ?_
    exact j_La_label_b9 C G hf
  · have hf := (if_neg h).symm.trans hf
    refine tm_w C tfo_La to_La_label 1 rfl rfl rfl trivial ?_
    refine tm_b C to_La_label rfl rfl (fun h => ?_) (fun h => ?_)
    · have hf := (if_pos h).symm.trans hf
      refine tm_w C tfo_La to_La_label 4 rfl rfl rfl ⟨rfl, rfl, trivial⟩ ?_
      obtain ⟨v1, hv1, hf⟩ := Option.bind_eq_some_iff.mp hf
      refine tm_cV C Ro to_La_label tl_La_114 rfl (ct_Sh_labelCell hv1) rfl rfl rfl rfl rfl rfl rfl (Nat.le_refl _) (Nat.le_refl _) ?_
      cases hf
      exact tm_ei C G to_La_label rfl rfl (Nat.le_refl _) rfl ⟨rfl, rfl⟩
    · have hf := (if_neg h).symm.trans hf
      refine tm_wk (lv' := [some (.ref 0), some (.int x1), some (.int x2)]) ⟨Or.inr rfl, Or.inr rfl, Or.inr rfl, trivial⟩ ?_
      exact j_La_label_b9 C G hf
set_option maxRecDepth 100000 in
theorem ct_La_label {ex : List tm_Sh} {p0 : Int32} {p1 : Int32} {mI : tm_I} {mL : tm_L} {r : Int32 × tm_I × tm_L} (hf : f_La_label p0 p1 mI mL = some r) : tm_M ty_La_label 1 22 0 0 [.ref 0, .int p0, .int p1] (sh0 ++ ex, mI, mL, rr) (tm_is (some (.int r.1)) (sh0 ++ ex, r.2.1, r.2.2, rr)) := by
  refine tm_body (by decide) (Nat.le_of_ble_eq_true rfl) fun Γ C G => ?_
  exact j_La_label_b0 C G hf
/-! La_order -/
def f_La_order_b10 (x1 : Int32) (x2 : Int32) (mI : tm_I) (mL : tm_L) : Option (Int32 × tm_I × tm_L) := none
def f_La_order_b0 (x1 : Int32) (x2 : Int32) (mI : tm_I) (mL : tm_L) : Option (Int32 × tm_I × tm_L) := if x2 < 0 then f_La_order_b10 x1 x2 mI mL else if x2 ≤ (8 : Int32) then (f_Sh_hasOrder x1 mI mL).bind fun v1 => if ¬ v1.1 = 0 then (f_Sh_cell x1 x2 v1.2.1 v1.2.2).bind fun v2 => some (v2.1, v2.2.1, v2.2.2) else none else f_La_order_b10 x1 x2 mI mL
abbrev f_La_order (p0 : Int32) (p1 : Int32) (mI : tm_I) (mL : tm_L) : Option (Int32 × tm_I × tm_L) := f_La_order_b0 p0 p1 mI mL
set_option maxRecDepth 100000 in
set_option maxHeartbeats 4000000 in
theorem j_La_order_b10 {Γ : tm_G} {ex : List tm_Sh} {av : List Value} {X0 : tm_X} {r : Int32 × tm_I × tm_L} (C : tm_C Γ ty_La_order.1.cls ty_La_order.2.1 ty_La_order.2.2.1) (G : tm_Γ ty_La_order 1 23 0 0 av X0 (tm_is (some (.int r.1)) (sh0 ++ ex, r.2.1, r.2.2, rr)) Γ) {x1 : Int32} {x2 : Int32} {mI : tm_I} {mL : tm_L} (hf : f_La_order_b10 x1 x2 mI mL = some r) : tm_T Γ 3 0 0 10 [some (.ref 0), some (.int x1), some (.int x2)] [] (sh0 ++ ex) mI mL rr := by
  have Ro := G.ro
  unfold f_La_order_b10 at hf
  cases hf
set_option maxRecDepth 100000 in
set_option maxHeartbeats 4000000 in
theorem j_La_order_b0 {Γ : tm_G} {ex : List tm_Sh} {av : List Value} {X0 : tm_X} {r : Int32 × tm_I × tm_L} (C : tm_C Γ ty_La_order.1.cls ty_La_order.2.1 ty_La_order.2.2.1) (G : tm_Γ ty_La_order 1 23 0 0 av X0 (tm_is (some (.int r.1)) (sh0 ++ ex, r.2.1, r.2.2, rr)) Γ) {x1 : Int32} {x2 : Int32} {mI : tm_I} {mL : tm_L} (hf : f_La_order_b0 x1 x2 mI mL = some r) : tm_T Γ 3 0 0 0 [some (.ref 0), some (.int x1), some (.int x2)] [] (sh0 ++ ex) mI mL rr := by
  have Ro := G.ro
  unfold f_La_order_b0 at hf
  refine tm_w C tfo_La to_La_order 0 rfl rfl rfl trivial ?_
  refine tm_b C to_La_order rfl rfl (fun h => ?_) (fun h => ?_)
  · have hf := (if_pos h).symm.trans hf
    refine tm_wk (lv' := [some (.ref 0), some (.int x1), some (.int x2)]) ⟨Or.inr rfl, Or.inr rfl, Or.inr rfl, trivial⟩ ?_
    exact j_La_order_b10 C G hf
  · have hf := (if_neg h).symm.trans hf
    refine tm_w C tfo_La to_La_order 1 rfl rfl rfl trivial ?_
    refine tm_b C to_La_order rfl rfl (fun h => ?_) (fun h => ?_)
    · have hf := (if_pos h).symm.trans hf
      refine tm_w C tfo_La to_La_order 3 rfl rfl rfl ⟨rfl, rfl, trivial⟩ ?_
      obtain ⟨v1, hv1, hf⟩ := Option.bind_eq_some_iff.mp hf
      refine tm_cV C Ro to_La_order tl_La_120 rfl (ct_Sh_hasOrder hv1) rfl rfl rfl rfl rfl rfl rfl (Nat.le_refl _) (Nat.le_refl _) ?_
      refine tm_b C to_La_order rfl rfl (fun h => ?_) (fun h => ?_)
      · have hf := (if_pos h).symm.trans hf
        refine tm_w C tfo_La to_La_order 4 rfl rfl rfl ⟨rfl, rfl, trivial⟩ ?_
        obtain ⟨v2, hv2, hf⟩ := Option.bind_eq_some_iff.mp hf
        refine tm_cV C Ro to_La_order tl_La_129 rfl (ct_Sh_cell hv2) rfl rfl rfl rfl rfl rfl rfl (Nat.le_refl _) (Nat.le_refl _) ?_
        cases hf
        exact tm_ei C G to_La_order rfl rfl (Nat.le_refl _) rfl ⟨rfl, rfl⟩
      · have hf := (if_neg h).symm.trans hf
        cases hf
    · have hf := (if_neg h).symm.trans hf
      refine tm_wk (lv' := [some (.ref 0), some (.int x1), some (.int x2)]) ⟨Or.inr rfl, Or.inr rfl, Or.inr rfl, trivial⟩ ?_
      exact j_La_order_b10 C G hf
set_option maxRecDepth 100000 in
theorem ct_La_order {ex : List tm_Sh} {p0 : Int32} {p1 : Int32} {mI : tm_I} {mL : tm_L} {r : Int32 × tm_I × tm_L} (hf : f_La_order p0 p1 mI mL = some r) : tm_M ty_La_order 1 23 0 0 [.ref 0, .int p0, .int p1] (sh0 ++ ex, mI, mL, rr) (tm_is (some (.int r.1)) (sh0 ++ ex, r.2.1, r.2.2, rr)) := by
  refine tm_body (by decide) (Nat.le_of_ble_eq_true rfl) fun Γ C G => ?_
  exact j_La_order_b0 C G hf
/-! La_data -/
def f_La_data_l29 : Nat → Int32 → Int32 → Int64 → Int32 → tm_I → tm_L → Option (Int64 × tm_I × tm_L)
  | 0, _, _, _, _, _, _ => none
  | n + 1, x1, x2, x3, x5, mI, mL => if (8 : Int32) ≤ x5 then some (x3, mI, mL) else (f_Sh_byteOf x1 ((Int32.toInt64 x2) + (Int32.toInt64 x5)) mI mL).bind fun v1 => (f_La_data_l29 n) x1 x2 (x3 ||| ((Int32.toInt64 v1.1) <<< (Int32.toInt64 ((8 : Int32) * x5) &&& 63))) (x5 + (1 : Int32)) v1.2.1 v1.2.2
def f_La_data_b0 (x1 : Int32) (x2 : Int32) (mI : tm_I) (mL : tm_L) : Option (Int64 × tm_I × tm_L) := (f_Sh_hasOrder x1 mI mL).bind fun v2 => if ¬ v2.1 = 0 then f_La_data_l29 tm_F x1 x2 (0 : Int64) (0 : Int32) v2.2.1 v2.2.2 else none
abbrev f_La_data (p0 : Int32) (p1 : Int32) (mI : tm_I) (mL : tm_L) : Option (Int64 × tm_I × tm_L) := f_La_data_b0 p0 p1 mI mL
set_option maxRecDepth 100000 in
set_option maxHeartbeats 4000000 in
theorem j_La_data_l29 {Γ : tm_G} {ex : List tm_Sh} {av : List Value} {X0 : tm_X} {r : Int64 × tm_I × tm_L} (C : tm_C Γ ty_La_data.1.cls ty_La_data.2.1 ty_La_data.2.2.1) (G : tm_Γ ty_La_data 3 71 0 0 av X0 (tm_is (some (.long r.1)) (sh0 ++ ex, r.2.1, r.2.2, rr)) Γ) : ∀ (n : Nat) (x1 : Int32) (x2 : Int32) (x3 : Int64) (x5 : Int32) (mI : tm_I) (mL : tm_L), f_La_data_l29 n x1 x2 x3 x5 mI mL = some r → tm_T Γ 6 0 0 29 [some (.ref 0), some (.int x1), some (.int x2), some (.long x3), none, some (.int x5)] [] (sh0 ++ ex) mI mL rr := by
  have Ro := G.ro
  intro n
  induction n with
  | zero => intro x1 x2 x3 x5 mI mL hf; cases hf
  | succ n ih =>
    intro x1 x2 x3 x5 mI mL hf
    rw [f_La_data_l29] at hf
    refine tm_w C tfo_La to_La_data 1 rfl rfl rfl trivial ?_
    refine tm_b C to_La_data rfl rfl (fun h => ?_) (fun h => ?_)
    · have hf := (if_pos h).symm.trans hf
      refine tm_w C tfo_La to_La_data 0 rfl rfl rfl trivial ?_
      cases hf
      exact tm_el C G to_La_data rfl rfl (Nat.le_refl _) ⟨rfl, rfl⟩
    · have hf := (if_neg h).symm.trans hf
      refine tm_w C tfo_La to_La_data 9 rfl rfl rfl ⟨rfl, rfl, trivial⟩ ?_
      obtain ⟨v1, hv1, hf⟩ := Option.bind_eq_some_iff.mp hf
      refine tm_cV C Ro to_La_data tl_La_132 rfl (ct_Sh_byteOf hv1) rfl rfl rfl rfl rfl rfl rfl (Nat.le_refl _) (Nat.le_refl _) ?_
      refine tm_w C tfo_La to_La_data 8 rfl rfl rfl trivial ?_
      refine tm_wk (lv' := [some (.ref 0), some (.int x1), some (.int x2), some (.long (x3 ||| ((Int32.toInt64 v1.1) <<< (Int32.toInt64 ((8 : Int32) * x5) &&& 63)))), none, some (.int (x5 + (1 : Int32)))]) ⟨Or.inr rfl, Or.inr rfl, Or.inr rfl, Or.inr rfl, Or.inl rfl, Or.inr rfl, trivial⟩ ?_
      exact ih _ _ _ _ _ _ hf
set_option maxRecDepth 100000 in
set_option maxHeartbeats 4000000 in
theorem j_La_data_b0 {Γ : tm_G} {ex : List tm_Sh} {av : List Value} {X0 : tm_X} {r : Int64 × tm_I × tm_L} (C : tm_C Γ ty_La_data.1.cls ty_La_data.2.1 ty_La_data.2.2.1) (G : tm_Γ ty_La_data 3 71 0 0 av X0 (tm_is (some (.long r.1)) (sh0 ++ ex, r.2.1, r.2.2, rr)) Γ) {x1 : Int32} {x2 : Int32} {mI : tm_I} {mL : tm_L} (hf : f_La_data_b0 x1 x2 mI mL = some r) : tm_T Γ 6 0 0 0 [some (.ref 0), some (.int x1), some (.int x2), none, none, none] [] (sh0 ++ ex) mI mL rr := by
  have Ro := G.ro
  unfold f_La_data_b0 at hf
  refine tm_w C tfo_La to_La_data 3 rfl rfl rfl ⟨rfl, rfl, trivial⟩ ?_
  obtain ⟨v2, hv2, hf⟩ := Option.bind_eq_some_iff.mp hf
  refine tm_cV C Ro to_La_data tl_La_120 rfl (ct_Sh_hasOrder hv2) rfl rfl rfl rfl rfl rfl rfl (Nat.le_refl _) (Nat.le_refl _) ?_
  refine tm_b C to_La_data rfl rfl (fun h => ?_) (fun h => ?_)
  · have hf := (if_pos h).symm.trans hf
    refine tm_w C tfo_La to_La_data 3 rfl rfl rfl trivial ?_
    refine tm_wk (lv' := [some (.ref 0), some (.int x1), some (.int x2), some (.long (0 : Int64)), none, some (.int (0 : Int32))]) ⟨Or.inr rfl, Or.inr rfl, Or.inr rfl, Or.inr rfl, Or.inl rfl, Or.inr rfl, trivial⟩ ?_
    exact j_La_data_l29 C G _ _ _ _ _ _ _ hf
  · have hf := (if_neg h).symm.trans hf
    cases hf
set_option maxRecDepth 100000 in
theorem ct_La_data {ex : List tm_Sh} {p0 : Int32} {p1 : Int32} {mI : tm_I} {mL : tm_L} {r : Int64 × tm_I × tm_L} (hf : f_La_data p0 p1 mI mL = some r) : tm_M ty_La_data 3 71 0 0 [.ref 0, .int p0, .int p1] (sh0 ++ ex, mI, mL, rr) (tm_is (some (.long r.1)) (sh0 ++ ex, r.2.1, r.2.2, rr)) := by
  refine tm_body (by decide) (Nat.le_of_ble_eq_true rfl) fun Γ C G => ?_
  exact j_La_data_b0 C G hf
