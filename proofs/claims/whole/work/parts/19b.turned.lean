/-! S1_canEncode -/
def f_S1_canEncode_b16 (x0 : Int32) (s0 : Int32) (mI : tm_I) (mL : tm_L) : Option (Int32 × tm_I × tm_L) := if s0 = 0 ∨ s0 = 1 then some (s0, mI, mL) else none
def f_S1_canEncode_b15 (x0 : Int32) (mI : tm_I) (mL : tm_L) : Option (Int32 × tm_I × tm_L) := f_S1_canEncode_b16 x0 (0 : Int32) mI mL
def f_S1_canEncode_b0 (x0 : Int32) (mI : tm_I) (mL : tm_L) : Option (Int32 × tm_I × tm_L) := if x0 < 0 then f_S1_canEncode_b15 x0 mI mL else if (255 : Int32) < x0 then f_S1_canEncode_b15 x0 mI mL else f_S1_canEncode_b16 x0 (1 : Int32) mI mL
abbrev f_S1_canEncode (p0 : Int32) (mI : tm_I) (mL : tm_L) : Option (Int32 × tm_I × tm_L) := f_S1_canEncode_b0 p0 mI mL
set_option maxRecDepth 100000 in
set_option maxHeartbeats 4000000 in
theorem j_S1_canEncode_b16 {Γ : tm_G} {ex : List tm_Sh} {av : List Value} {X0 : tm_X} {r : Int32 × tm_I × tm_L} (C : tm_C Γ ty_S1_canEncode.1.cls ty_S1_canEncode.2.1 ty_S1_canEncode.2.2.1) (G : tm_Γ ty_S1_canEncode 0 0 0 0 av X0 (tm_is (some (.int r.1)) (sh0 ++ ex, r.2.1, r.2.2, rr)) Γ) {x0 : Int32} {s0 : Int32} {mI : tm_I} {mL : tm_L} (hf : f_S1_canEncode_b16 x0 s0 mI mL = some r) : tm_T Γ 1 0 0 16 [some (.int x0)] [.int s0] (sh0 ++ ex) mI mL rr := by
  have Ro := G.ro
  unfold f_S1_canEncode_b16 at hf
  obtain ⟨c1, hf⟩ := tm_iteN hf
  cases hf
  exact tm_ei C G to_S1_canEncode rfl rfl (Nat.le_refl _) (tm_nz c1) ⟨rfl, rfl⟩
set_option maxRecDepth 100000 in
set_option maxHeartbeats 4000000 in
theorem j_S1_canEncode_b15 {Γ : tm_G} {ex : List tm_Sh} {av : List Value} {X0 : tm_X} {r : Int32 × tm_I × tm_L} (C : tm_C Γ ty_S1_canEncode.1.cls ty_S1_canEncode.2.1 ty_S1_canEncode.2.2.1) (G : tm_Γ ty_S1_canEncode 0 0 0 0 av X0 (tm_is (some (.int r.1)) (sh0 ++ ex, r.2.1, r.2.2, rr)) Γ) {x0 : Int32} {mI : tm_I} {mL : tm_L} (hf : f_S1_canEncode_b15 x0 mI mL = some r) : tm_T Γ 1 0 0 15 [some (.int x0)] [] (sh0 ++ ex) mI mL rr := by
  have Ro := G.ro
  unfold f_S1_canEncode_b15 at hf
  refine tm_w C tfo_none to_S1_canEncode 0 rfl rfl rfl trivial ?_
  refine tm_wk (lv' := [some (.int x0)]) ⟨Or.inr rfl, trivial⟩ ?_
  exact j_S1_canEncode_b16 C G hf
set_option maxRecDepth 100000 in
set_option maxHeartbeats 4000000 in
theorem j_S1_canEncode_b0 {Γ : tm_G} {ex : List tm_Sh} {av : List Value} {X0 : tm_X} {r : Int32 × tm_I × tm_L} (C : tm_C Γ ty_S1_canEncode.1.cls ty_S1_canEncode.2.1 ty_S1_canEncode.2.2.1) (G : tm_Γ ty_S1_canEncode 0 0 0 0 av X0 (tm_is (some (.int r.1)) (sh0 ++ ex, r.2.1, r.2.2, rr)) Γ) {x0 : Int32} {mI : tm_I} {mL : tm_L} (hf : f_S1_canEncode_b0 x0 mI mL = some r) : tm_T Γ 1 0 0 0 [some (.int x0)] [] (sh0 ++ ex) mI mL rr := by
  have Ro := G.ro
  unfold f_S1_canEncode_b0 at hf
  refine tm_w C tfo_none to_S1_canEncode 0 rfl rfl rfl trivial ?_
  refine tm_b C to_S1_canEncode rfl rfl (fun h => ?_) (fun h => ?_)
  · have hf := (if_pos h).symm.trans hf
    refine tm_wk (lv' := [some (.int x0)]) ⟨Or.inr rfl, trivial⟩ ?_
    exact j_S1_canEncode_b15 C G hf
  · have hf := (if_neg h).symm.trans hf
    refine tm_w C tfo_none to_S1_canEncode 1 rfl rfl rfl trivial ?_
    refine tm_b C to_S1_canEncode rfl rfl (fun h => ?_) (fun h => ?_)
    · have hf := (if_pos h).symm.trans hf
      refine tm_wk (lv' := [some (.int x0)]) ⟨Or.inr rfl, trivial⟩ ?_
      exact j_S1_canEncode_b15 C G hf
    · have hf := (if_neg h).symm.trans hf
      refine tm_w C tfo_none to_S1_canEncode 1 rfl rfl rfl trivial ?_
      refine tm_wk (lv' := [some (.int x0)]) ⟨Or.inr rfl, trivial⟩ ?_
      exact j_S1_canEncode_b16 C G hf
set_option maxRecDepth 100000 in
theorem ct_S1_canEncode {ex : List tm_Sh} {p0 : Int32} {mI : tm_I} {mL : tm_L} {r : Int32 × tm_I × tm_L} (hf : f_S1_canEncode p0 mI mL = some r) : tm_M ty_S1_canEncode 0 0 0 0 [.int p0] (sh0 ++ ex, mI, mL, rr) (tm_is (some (.int r.1)) (sh0 ++ ex, r.2.1, r.2.2, rr)) := by
  refine tm_bodyF (by decide +kernel) (Nat.le_of_ble_eq_true rfl) fun Γ C G => ?_
  exact j_S1_canEncode_b0 C G hf
/-! S1_indexOfChar -/
def f_S1_indexOfChar_l7 : Nat → Nat → Int32 → Int32 → Int32 → Int32 → Int32 → tm_I → tm_L → Option (Int32 × tm_I × tm_L)
  | 0, _, _, _, _, _, _, _, _ => none
  | n + 1, x0, x1, x2, x3, x4, x5, mI, mL => if x3 ≤ x5 then some ((-1 : Int32), mI, mL) else if x0 < 7 then if ¬ (x5 < 0 ∨ tm_tl x0 ≤ Int32.toNatClampNeg x5) then if ¬ ((tm_tx x0).getD (Int32.toNatClampNeg x5) 0) = x4 then (f_S1_indexOfChar_l7 n) x0 x1 x2 x3 x4 (x5 + (1 : Int32)) mI mL else some (x5, mI, mL) else none else none
def f_S1_indexOfChar_b0 (x0 : Nat) (x1 : Int32) (x2 : Int32) (x3 : Int32) (mI : tm_I) (mL : tm_L) : Option (Int32 × tm_I × tm_L) := f_S1_indexOfChar_l7 tm_F x0 x1 x2 x3 ((Int32.toInt8 x1).toInt32) x2 mI mL
abbrev f_S1_indexOfChar (p0 : Nat) (p1 : Int32) (p2 : Int32) (p3 : Int32) (mI : tm_I) (mL : tm_L) : Option (Int32 × tm_I × tm_L) := f_S1_indexOfChar_b0 p0 p1 p2 p3 mI mL
set_option maxRecDepth 100000 in
set_option maxHeartbeats 4000000 in
theorem j_S1_indexOfChar_l7 {Γ : tm_G} {ex : List tm_Sh} {av : List Value} {X0 : tm_X} {r : Int32 × tm_I × tm_L} (C : tm_C Γ ty_S1_indexOfChar.1.cls ty_S1_indexOfChar.2.1 ty_S1_indexOfChar.2.2.1) (G : tm_Γ ty_S1_indexOfChar 0 0 0 0 av X0 (tm_is (some (.int r.1)) (sh0 ++ ex, r.2.1, r.2.2, rr)) Γ) : ∀ (n : Nat) (x0 : Nat) (x1 : Int32) (x2 : Int32) (x3 : Int32) (x4 : Int32) (x5 : Int32) (mI : tm_I) (mL : tm_L), f_S1_indexOfChar_l7 n x0 x1 x2 x3 x4 x5 mI mL = some r → tm_T Γ 6 0 0 7 [some (.ref (1000201 + x0)), some (.int x1), some (.int x2), some (.int x3), some (.int x4), some (.int x5)] [] (sh0 ++ ex) mI mL rr := by
  have Ro := G.ro
  intro n
  induction n with
  | zero => intro x0 x1 x2 x3 x4 x5 mI mL hf; cases hf
  | succ n ih =>
    intro x0 x1 x2 x3 x4 x5 mI mL hf
    rw [f_S1_indexOfChar_l7] at hf
    refine tm_w C tfo_none to_S1_indexOfChar 1 rfl rfl rfl trivial ?_
    refine tm_b C to_S1_indexOfChar rfl rfl (fun h => ?_) (fun h => ?_)
    · have hf := (if_pos h).symm.trans hf
      refine tm_w C tfo_none to_S1_indexOfChar 0 rfl rfl rfl trivial ?_
      cases hf
      exact tm_ei C G to_S1_indexOfChar rfl rfl (Nat.le_refl _) rfl ⟨rfl, rfl⟩
    · have hf := (if_neg h).symm.trans hf
      obtain ⟨c1, hf⟩ := tm_iteN hf
      obtain ⟨c2, hf⟩ := tm_iteN hf
      refine tm_w C tfo_none to_S1_indexOfChar 1 rfl rfl rfl trivial ?_
      refine tm_txB C to_S1_indexOfChar rfl c1 c2 ?_
      refine tm_w C tfo_none to_S1_indexOfChar 0 rfl rfl rfl trivial ?_
      refine tm_b C to_S1_indexOfChar rfl rfl (fun h => ?_) (fun h => ?_)
      · have hf := (if_pos h).symm.trans hf
        refine tm_w C tfo_none to_S1_indexOfChar 1 rfl rfl rfl trivial ?_
        refine tm_wk (lv' := [some (.ref (1000201 + x0)), some (.int x1), some (.int x2), some (.int x3), some (.int x4), some (.int (x5 + (1 : Int32)))]) ⟨Or.inr rfl, Or.inr rfl, Or.inr rfl, Or.inr rfl, Or.inr rfl, Or.inr rfl, trivial⟩ ?_
        exact ih _ _ _ _ _ _ _ _ hf
      · have hf := (if_neg h).symm.trans hf
        refine tm_w C tfo_none to_S1_indexOfChar 0 rfl rfl rfl trivial ?_
        cases hf
        exact tm_ei C G to_S1_indexOfChar rfl rfl (Nat.le_refl _) rfl ⟨rfl, rfl⟩
set_option maxRecDepth 100000 in
set_option maxHeartbeats 4000000 in
theorem j_S1_indexOfChar_b0 {Γ : tm_G} {ex : List tm_Sh} {av : List Value} {X0 : tm_X} {r : Int32 × tm_I × tm_L} (C : tm_C Γ ty_S1_indexOfChar.1.cls ty_S1_indexOfChar.2.1 ty_S1_indexOfChar.2.2.1) (G : tm_Γ ty_S1_indexOfChar 0 0 0 0 av X0 (tm_is (some (.int r.1)) (sh0 ++ ex, r.2.1, r.2.2, rr)) Γ) {x0 : Nat} {x1 : Int32} {x2 : Int32} {x3 : Int32} {mI : tm_I} {mL : tm_L} (hf : f_S1_indexOfChar_b0 x0 x1 x2 x3 mI mL = some r) : tm_T Γ 6 0 0 0 [some (.ref (1000201 + x0)), some (.int x1), some (.int x2), some (.int x3), none, none] [] (sh0 ++ ex) mI mL rr := by
  have Ro := G.ro
  unfold f_S1_indexOfChar_b0 at hf
  refine tm_w C tfo_none to_S1_indexOfChar 4 rfl rfl rfl trivial ?_
  refine tm_wk (lv' := [some (.ref (1000201 + x0)), some (.int x1), some (.int x2), some (.int x3), some (.int ((Int32.toInt8 x1).toInt32)), some (.int x2)]) ⟨Or.inr rfl, Or.inr rfl, Or.inr rfl, Or.inr rfl, Or.inr rfl, Or.inr rfl, trivial⟩ ?_
  exact j_S1_indexOfChar_l7 C G _ _ _ _ _ _ _ _ _ hf
set_option maxRecDepth 100000 in
theorem ct_S1_indexOfChar {ex : List tm_Sh} {p0 : Nat} {p1 : Int32} {p2 : Int32} {p3 : Int32} {mI : tm_I} {mL : tm_L} {r : Int32 × tm_I × tm_L} (hf : f_S1_indexOfChar p0 p1 p2 p3 mI mL = some r) : tm_M ty_S1_indexOfChar 0 0 0 0 [.ref (1000201 + p0), .int p1, .int p2, .int p3] (sh0 ++ ex, mI, mL, rr) (tm_is (some (.int r.1)) (sh0 ++ ex, r.2.1, r.2.2, rr)) := by
  refine tm_bodyF (by decide +kernel) (Nat.le_of_ble_eq_true rfl) fun Γ C G => ?_
  exact j_S1_indexOfChar_b0 C G hf
/-! S1_indexOf -/
def f_S1_indexOf_b0 (x0 : Nat) (x1 : Int32) (x2 : Int32) (x3 : Int32) (mI : tm_I) (mL : tm_L) : Option (Int32 × tm_I × tm_L) := (f_S1_canEncode x1 mI mL).bind fun v1 => if ¬ v1.1 = 0 then (f_Ma_max x2 (0 : Int32) v1.2.1 v1.2.2).bind fun v2 => if x0 < 7 then (f_Ma_min x3 (Int32.ofNat (tm_tl x0)) v2.2.1 v2.2.2).bind fun v3 => if v2.1 < v3.1 then (f_S1_indexOfChar x0 x1 v2.1 v3.1 v3.2.1 v3.2.2).bind fun v4 => some (v4.1, v4.2.1, v4.2.2) else some ((-1 : Int32), v3.2.1, v3.2.2) else none else some ((-1 : Int32), v1.2.1, v1.2.2)
abbrev f_S1_indexOf (p0 : Nat) (p1 : Int32) (p2 : Int32) (p3 : Int32) (mI : tm_I) (mL : tm_L) : Option (Int32 × tm_I × tm_L) := f_S1_indexOf_b0 p0 p1 p2 p3 mI mL
set_option maxRecDepth 100000 in
set_option maxHeartbeats 4000000 in
theorem j_S1_indexOf_b0 {Γ : tm_G} {ex : List tm_Sh} {av : List Value} {X0 : tm_X} {r : Int32 × tm_I × tm_L} (C : tm_C Γ ty_S1_indexOf.1.cls ty_S1_indexOf.2.1 ty_S1_indexOf.2.2.1) (G : tm_Γ ty_S1_indexOf 1 25 0 0 av X0 (tm_is (some (.int r.1)) (sh0 ++ ex, r.2.1, r.2.2, rr)) Γ) {x0 : Nat} {x1 : Int32} {x2 : Int32} {x3 : Int32} {mI : tm_I} {mL : tm_L} (hf : f_S1_indexOf_b0 x0 x1 x2 x3 mI mL = some r) : tm_T Γ 4 0 0 0 [some (.ref (1000201 + x0)), some (.int x1), some (.int x2), some (.int x3)] [] (sh0 ++ ex) mI mL rr := by
  have Ro := G.ro
  unfold f_S1_indexOf_b0 at hf
  refine tm_w C tfo_none to_S1_indexOf 0 rfl rfl rfl trivial ?_
  obtain ⟨v1, hv1, hf⟩ := Option.bind_eq_some_iff.mp hf
  refine tm_cS C Ro to_S1_indexOf tl_S1_88 rfl (ct_S1_canEncode hv1) rfl rfl rfl rfl rfl (Nat.le_refl _) (Nat.le_refl _) ?_
  refine tm_b C to_S1_indexOf rfl rfl (fun h => ?_) (fun h => ?_)
  · have hf := (if_pos h).symm.trans hf
    refine tm_w C tfo_none to_S1_indexOf 1 rfl rfl rfl trivial ?_
    obtain ⟨v2, hv2, hf⟩ := Option.bind_eq_some_iff.mp hf
    refine tm_cS C Ro to_S1_indexOf tl_S1_92 rfl (ct_Ma_max hv2) rfl rfl rfl rfl rfl (Nat.le_refl _) (Nat.le_refl _) ?_
    obtain ⟨c1, hf⟩ := tm_iteN hf
    refine tm_w C tfo_none to_S1_indexOf 2 rfl rfl rfl trivial ?_
    refine tm_txL C to_S1_indexOf rfl c1 ?_
    obtain ⟨v3, hv3, hf⟩ := Option.bind_eq_some_iff.mp hf
    refine tm_cS C Ro to_S1_indexOf tl_S1_38 rfl (ct_Ma_min hv3) rfl rfl rfl rfl rfl (Nat.le_refl _) (Nat.le_refl _) ?_
    refine tm_w C tfo_none to_S1_indexOf 2 rfl rfl rfl trivial ?_
    refine tm_b C to_S1_indexOf rfl rfl (fun h => ?_) (fun h => ?_)
    · have hf := (if_pos h).symm.trans hf
      refine tm_w C tfo_none to_S1_indexOf 3 rfl rfl rfl trivial ?_
      obtain ⟨v4, hv4, hf⟩ := Option.bind_eq_some_iff.mp hf
      refine tm_cS C Ro to_S1_indexOf tl_S1_95 rfl (ct_S1_indexOfChar hv4) rfl rfl rfl rfl rfl (Nat.le_refl _) (Nat.le_refl _) ?_
      cases hf
      exact tm_ei C G to_S1_indexOf rfl rfl (Nat.le_refl _) rfl ⟨rfl, rfl⟩
    · have hf := (if_neg h).symm.trans hf
      refine tm_w C tfo_none to_S1_indexOf 0 rfl rfl rfl trivial ?_
      cases hf
      exact tm_ei C G to_S1_indexOf rfl rfl (Nat.le_refl _) rfl ⟨rfl, rfl⟩
  · have hf := (if_neg h).symm.trans hf
    refine tm_w C tfo_none to_S1_indexOf 0 rfl rfl rfl trivial ?_
    cases hf
    exact tm_ei C G to_S1_indexOf rfl rfl (Nat.le_refl _) rfl ⟨rfl, rfl⟩
set_option maxRecDepth 100000 in
theorem ct_S1_indexOf {ex : List tm_Sh} {p0 : Nat} {p1 : Int32} {p2 : Int32} {p3 : Int32} {mI : tm_I} {mL : tm_L} {r : Int32 × tm_I × tm_L} (hf : f_S1_indexOf p0 p1 p2 p3 mI mL = some r) : tm_M ty_S1_indexOf 1 25 0 0 [.ref (1000201 + p0), .int p1, .int p2, .int p3] (sh0 ++ ex, mI, mL, rr) (tm_is (some (.int r.1)) (sh0 ++ ex, r.2.1, r.2.2, rr)) := by
  refine tm_bodyF (by decide +kernel) (Nat.le_of_ble_eq_true rfl) fun Γ C G => ?_
  exact j_S1_indexOf_b0 C G hf
/-! St_coder -/
def f_St_coder_b14 (x0 : Nat) (s0 : Int32) (mI : tm_I) (mL : tm_L) : Option (Int32 × tm_I × tm_L) := if s0 = 0 ∨ s0 = 1 then some (s0, mI, mL) else none
def f_St_coder_b0 (x0 : Nat) (mI : tm_I) (mL : tm_L) : Option (Int32 × tm_I × tm_L) := if (1 : Int32) = 0 then f_St_coder_b14 x0 (1 : Int32) mI mL else if x0 < 7 then f_St_coder_b14 x0 (0 : Int32) mI mL else none
abbrev f_St_coder (g : Nat) (mI : tm_I) (mL : tm_L) : Option (Int32 × tm_I × tm_L) := f_St_coder_b0 g mI mL
set_option maxRecDepth 100000 in
set_option maxHeartbeats 4000000 in
theorem j_St_coder_b14 {Γ : tm_G} {ex : List tm_Sh} {av : List Value} {X0 : tm_X} {r : Int32 × tm_I × tm_L} (C : tm_C Γ ty_St_coder.1.cls ty_St_coder.2.1 ty_St_coder.2.2.1) (G : tm_Γ ty_St_coder 0 0 0 0 av X0 (tm_is (some (.int r.1)) (sh0 ++ ex, r.2.1, r.2.2, rr)) Γ) {x0 : Nat} {s0 : Int32} {mI : tm_I} {mL : tm_L} (hf : f_St_coder_b14 x0 s0 mI mL = some r) : tm_T Γ 1 0 0 14 [some (.ref (1000101 + x0))] [.int s0] (sh0 ++ ex) mI mL rr := by
  have Ro := G.ro
  unfold f_St_coder_b14 at hf
  obtain ⟨c1, hf⟩ := tm_iteN hf
  cases hf
  exact tm_ei C G to_St_coder rfl rfl (Nat.le_refl _) (tm_nb c1) ⟨rfl, rfl⟩
set_option maxRecDepth 100000 in
set_option maxHeartbeats 4000000 in
theorem j_St_coder_b0 {Γ : tm_G} {ex : List tm_Sh} {av : List Value} {X0 : tm_X} {r : Int32 × tm_I × tm_L} (C : tm_C Γ ty_St_coder.1.cls ty_St_coder.2.1 ty_St_coder.2.2.1) (G : tm_Γ ty_St_coder 0 0 0 0 av X0 (tm_is (some (.int r.1)) (sh0 ++ ex, r.2.1, r.2.2, rr)) Γ) {x0 : Nat} {mI : tm_I} {mL : tm_L} (hf : f_St_coder_b0 x0 mI mL = some r) : tm_T Γ 1 0 0 0 [some (.ref (1000101 + x0))] [] (sh0 ++ ex) mI mL rr := by
  have Ro := G.ro
  unfold f_St_coder_b0 at hf
  refine tm_cmp C to_St_coder rfl (tm_in 410 (by decide +kernel) rfl) ?_
  refine tm_b C to_St_coder rfl rfl (fun h => ?_) (fun h => ?_)
  · have hf := (if_pos h).symm.trans hf
    refine tm_w C tfo_none to_St_coder 0 rfl rfl rfl trivial ?_
    refine tm_wk (lv' := [some (.ref (1000101 + x0))]) ⟨Or.inr rfl, trivial⟩ ?_
    exact j_St_coder_b14 C G hf
  · have hf := (if_neg h).symm.trans hf
    obtain ⟨c2, hf⟩ := tm_iteN hf
    refine tm_w C tfo_none to_St_coder 0 rfl rfl rfl trivial ?_
    refine tm_txC C to_St_coder rfl c2 (tm_in 1241 (by decide +kernel) rfl) ?_
    refine tm_w C tfo_none to_St_coder 0 rfl rfl rfl trivial ?_
    refine tm_wk (lv' := [some (.ref (1000101 + x0))]) ⟨Or.inr rfl, trivial⟩ ?_
    exact j_St_coder_b14 C G hf
set_option maxRecDepth 100000 in
theorem ct_St_coder {ex : List tm_Sh} {g : Nat} {mI : tm_I} {mL : tm_L} {r : Int32 × tm_I × tm_L} (hf : f_St_coder g mI mL = some r) : tm_M ty_St_coder 0 0 0 0 [.ref (1000101 + g)] (sh0 ++ ex, mI, mL, rr) (tm_is (some (.int r.1)) (sh0 ++ ex, r.2.1, r.2.2, rr)) := by
  refine tm_bodyF (by decide +kernel) (Nat.le_of_ble_eq_true rfl) fun Γ C G => ?_
  exact j_St_coder_b0 C G hf
/-! St_length -/
def f_St_length_b0 (x0 : Nat) (mI : tm_I) (mL : tm_L) : Option (Int32 × tm_I × tm_L) := if x0 < 7 then if x0 < 7 then if x0 < 7 then (f_St_coder x0 mI mL).bind fun v1 => some (((Int32.ofNat (tm_tl x0)) >>> (v1.1 &&& 31)), v1.2.1, v1.2.2) else none else none else none
abbrev f_St_length (g : Nat) (mI : tm_I) (mL : tm_L) : Option (Int32 × tm_I × tm_L) := f_St_length_b0 g mI mL
set_option maxRecDepth 100000 in
set_option maxHeartbeats 4000000 in
theorem j_St_length_b0 {Γ : tm_G} {ex : List tm_Sh} {av : List Value} {X0 : tm_X} {r : Int32 × tm_I × tm_L} (C : tm_C Γ ty_St_length.1.cls ty_St_length.2.1 ty_St_length.2.2.1) (G : tm_Γ ty_St_length 1 20 0 0 av X0 (tm_is (some (.int r.1)) (sh0 ++ ex, r.2.1, r.2.2, rr)) Γ) {x0 : Nat} {mI : tm_I} {mL : tm_L} (hf : f_St_length_b0 x0 mI mL = some r) : tm_T Γ 1 0 0 0 [some (.ref (1000101 + x0))] [] (sh0 ++ ex) mI mL rr := by
  have Ro := G.ro
  unfold f_St_length_b0 at hf
  obtain ⟨c1, hf⟩ := tm_iteN hf
  refine tm_w C tfo_none to_St_length 0 rfl rfl rfl trivial ?_
  refine tm_txV C to_St_length rfl c1 (tm_in 1242 (by decide +kernel) rfl) ?_
  obtain ⟨c2, hf⟩ := tm_iteN hf
  refine tm_txL C to_St_length rfl c2 ?_
  refine tm_w C tfo_none to_St_length 0 rfl rfl rfl trivial ?_
  obtain ⟨c3, hf⟩ := tm_iteN hf
  obtain ⟨v1, hv1, hf⟩ := Option.bind_eq_some_iff.mp hf
  refine tm_cT C Ro to_St_length tl_St_335 rfl c3 (ct_St_coder hv1) rfl rfl rfl rfl rfl rfl (Nat.le_refl _) (Nat.le_refl _) ?_
  refine tm_w C tfo_none to_St_length 0 rfl rfl rfl trivial ?_
  cases hf
  exact tm_ei C G to_St_length rfl rfl (Nat.le_refl _) rfl ⟨rfl, rfl⟩
set_option maxRecDepth 100000 in
theorem ct_St_length {ex : List tm_Sh} {g : Nat} {mI : tm_I} {mL : tm_L} {r : Int32 × tm_I × tm_L} (hf : f_St_length g mI mL = some r) : tm_M ty_St_length 1 20 0 0 [.ref (1000101 + g)] (sh0 ++ ex, mI, mL, rr) (tm_is (some (.int r.1)) (sh0 ++ ex, r.2.1, r.2.2, rr)) := by
  refine tm_bodyF (by decide +kernel) (Nat.le_of_ble_eq_true rfl) fun Γ C G => ?_
  exact j_St_length_b0 C G hf
/-! St_isLatin1 -/
def f_St_isLatin1_b18 (x0 : Nat) (s0 : Int32) (mI : tm_I) (mL : tm_L) : Option (Int32 × tm_I × tm_L) := if s0 = 0 ∨ s0 = 1 then some (s0, mI, mL) else none
def f_St_isLatin1_b17 (x0 : Nat) (mI : tm_I) (mL : tm_L) : Option (Int32 × tm_I × tm_L) := f_St_isLatin1_b18 x0 (0 : Int32) mI mL
def f_St_isLatin1_b0 (x0 : Nat) (mI : tm_I) (mL : tm_L) : Option (Int32 × tm_I × tm_L) := if (1 : Int32) = 0 then f_St_isLatin1_b17 x0 mI mL else if x0 < 7 then if ¬ (0 : Int32) = 0 then f_St_isLatin1_b17 x0 mI mL else f_St_isLatin1_b18 x0 (1 : Int32) mI mL else none
abbrev f_St_isLatin1 (g : Nat) (mI : tm_I) (mL : tm_L) : Option (Int32 × tm_I × tm_L) := f_St_isLatin1_b0 g mI mL
set_option maxRecDepth 100000 in
set_option maxHeartbeats 4000000 in
theorem j_St_isLatin1_b18 {Γ : tm_G} {ex : List tm_Sh} {av : List Value} {X0 : tm_X} {r : Int32 × tm_I × tm_L} (C : tm_C Γ ty_St_isLatin1.1.cls ty_St_isLatin1.2.1 ty_St_isLatin1.2.2.1) (G : tm_Γ ty_St_isLatin1 0 0 0 0 av X0 (tm_is (some (.int r.1)) (sh0 ++ ex, r.2.1, r.2.2, rr)) Γ) {x0 : Nat} {s0 : Int32} {mI : tm_I} {mL : tm_L} (hf : f_St_isLatin1_b18 x0 s0 mI mL = some r) : tm_T Γ 1 0 0 18 [some (.ref (1000101 + x0))] [.int s0] (sh0 ++ ex) mI mL rr := by
  have Ro := G.ro
  unfold f_St_isLatin1_b18 at hf
  obtain ⟨c1, hf⟩ := tm_iteN hf
  cases hf
  exact tm_ei C G to_St_isLatin1 rfl rfl (Nat.le_refl _) (tm_nz c1) ⟨rfl, rfl⟩
set_option maxRecDepth 100000 in
set_option maxHeartbeats 4000000 in
theorem j_St_isLatin1_b17 {Γ : tm_G} {ex : List tm_Sh} {av : List Value} {X0 : tm_X} {r : Int32 × tm_I × tm_L} (C : tm_C Γ ty_St_isLatin1.1.cls ty_St_isLatin1.2.1 ty_St_isLatin1.2.2.1) (G : tm_Γ ty_St_isLatin1 0 0 0 0 av X0 (tm_is (some (.int r.1)) (sh0 ++ ex, r.2.1, r.2.2, rr)) Γ) {x0 : Nat} {mI : tm_I} {mL : tm_L} (hf : f_St_isLatin1_b17 x0 mI mL = some r) : tm_T Γ 1 0 0 17 [some (.ref (1000101 + x0))] [] (sh0 ++ ex) mI mL rr := by
  have Ro := G.ro
  unfold f_St_isLatin1_b17 at hf
  refine tm_w C tfo_none to_St_isLatin1 0 rfl rfl rfl trivial ?_
  refine tm_wk (lv' := [some (.ref (1000101 + x0))]) ⟨Or.inr rfl, trivial⟩ ?_
  exact j_St_isLatin1_b18 C G hf
set_option maxRecDepth 100000 in
set_option maxHeartbeats 4000000 in
theorem j_St_isLatin1_b0 {Γ : tm_G} {ex : List tm_Sh} {av : List Value} {X0 : tm_X} {r : Int32 × tm_I × tm_L} (C : tm_C Γ ty_St_isLatin1.1.cls ty_St_isLatin1.2.1 ty_St_isLatin1.2.2.1) (G : tm_Γ ty_St_isLatin1 0 0 0 0 av X0 (tm_is (some (.int r.1)) (sh0 ++ ex, r.2.1, r.2.2, rr)) Γ) {x0 : Nat} {mI : tm_I} {mL : tm_L} (hf : f_St_isLatin1_b0 x0 mI mL = some r) : tm_T Γ 1 0 0 0 [some (.ref (1000101 + x0))] [] (sh0 ++ ex) mI mL rr := by
  have Ro := G.ro
  unfold f_St_isLatin1_b0 at hf
  refine tm_cmp C to_St_isLatin1 rfl (tm_in 410 (by decide +kernel) rfl) ?_
  refine tm_b C to_St_isLatin1 rfl rfl (fun h => ?_) (fun h => ?_)
  · have hf := (if_pos h).symm.trans hf
    refine tm_wk (lv' := [some (.ref (1000101 + x0))]) ⟨Or.inr rfl, trivial⟩ ?_
    exact j_St_isLatin1_b17 C G hf
  · have hf := (if_neg h).symm.trans hf
    obtain ⟨c2, hf⟩ := tm_iteN hf
    refine tm_w C tfo_none to_St_isLatin1 0 rfl rfl rfl trivial ?_
    refine tm_txC C to_St_isLatin1 rfl c2 (tm_in 1241 (by decide +kernel) rfl) ?_
    refine tm_b C to_St_isLatin1 rfl rfl (fun h => ?_) (fun h => ?_)
    · have hf := (if_pos h).symm.trans hf
      refine tm_wk (lv' := [some (.ref (1000101 + x0))]) ⟨Or.inr rfl, trivial⟩ ?_
      exact j_St_isLatin1_b17 C G hf
    · have hf := (if_neg h).symm.trans hf
      refine tm_w C tfo_none to_St_isLatin1 1 rfl rfl rfl trivial ?_
      refine tm_wk (lv' := [some (.ref (1000101 + x0))]) ⟨Or.inr rfl, trivial⟩ ?_
      exact j_St_isLatin1_b18 C G hf
set_option maxRecDepth 100000 in
theorem ct_St_isLatin1 {ex : List tm_Sh} {g : Nat} {mI : tm_I} {mL : tm_L} {r : Int32 × tm_I × tm_L} (hf : f_St_isLatin1 g mI mL = some r) : tm_M ty_St_isLatin1 0 0 0 0 [.ref (1000101 + g)] (sh0 ++ ex, mI, mL, rr) (tm_is (some (.int r.1)) (sh0 ++ ex, r.2.1, r.2.2, rr)) := by
  refine tm_bodyF (by decide +kernel) (Nat.le_of_ble_eq_true rfl) fun Γ C G => ?_
  exact j_St_isLatin1_b0 C G hf
/-! St_indexOf2 -/
def f_St_indexOf2_b36 (x0 : Nat) (x1 : Int32) (x2 : Int32) (s0 : Int32) (mI : tm_I) (mL : tm_L) : Option (Int32 × tm_I × tm_L) := some (s0, mI, mL)
def f_St_indexOf2_b0 (x0 : Nat) (x1 : Int32) (x2 : Int32) (mI : tm_I) (mL : tm_L) : Option (Int32 × tm_I × tm_L) := if x0 < 7 then (f_St_isLatin1 x0 mI mL).bind fun v1 => if v1.1 = 0 then if x0 < 7 then if x0 < 7 then (f_St_length x0 v1.2.1 v1.2.2).bind fun v2 => none else none else none else if x0 < 7 then if x0 < 7 then (f_St_length x0 v1.2.1 v1.2.2).bind fun v3 => (f_S1_indexOf x0 x1 x2 v3.1 v3.2.1 v3.2.2).bind fun v4 => f_St_indexOf2_b36 x0 x1 x2 v4.1 v4.2.1 v4.2.2 else none else none else none
abbrev f_St_indexOf2 (g : Nat) (p0 : Int32) (p1 : Int32) (mI : tm_I) (mL : tm_L) : Option (Int32 × tm_I × tm_L) := f_St_indexOf2_b0 g p0 p1 mI mL
set_option maxRecDepth 100000 in
set_option maxHeartbeats 4000000 in
theorem j_St_indexOf2_b36 {Γ : tm_G} {ex : List tm_Sh} {av : List Value} {X0 : tm_X} {r : Int32 × tm_I × tm_L} (C : tm_C Γ ty_St_indexOf2.1.cls ty_St_indexOf2.2.1 ty_St_indexOf2.2.2.1) (G : tm_Γ ty_St_indexOf2 2 48 0 0 av X0 (tm_is (some (.int r.1)) (sh0 ++ ex, r.2.1, r.2.2, rr)) Γ) {x0 : Nat} {x1 : Int32} {x2 : Int32} {s0 : Int32} {mI : tm_I} {mL : tm_L} (hf : f_St_indexOf2_b36 x0 x1 x2 s0 mI mL = some r) : tm_T Γ 3 0 0 36 [some (.ref (1000101 + x0)), some (.int x1), some (.int x2)] [.int s0] (sh0 ++ ex) mI mL rr := by
  have Ro := G.ro
  unfold f_St_indexOf2_b36 at hf
  cases hf
  exact tm_ei C G to_St_indexOf2 rfl rfl (Nat.le_refl _) rfl ⟨rfl, rfl⟩
set_option maxRecDepth 100000 in
set_option maxHeartbeats 4000000 in
theorem j_St_indexOf2_b0 {Γ : tm_G} {ex : List tm_Sh} {av : List Value} {X0 : tm_X} {r : Int32 × tm_I × tm_L} (C : tm_C Γ ty_St_indexOf2.1.cls ty_St_indexOf2.2.1 ty_St_indexOf2.2.2.1) (G : tm_Γ ty_St_indexOf2 2 48 0 0 av X0 (tm_is (some (.int r.1)) (sh0 ++ ex, r.2.1, r.2.2, rr)) Γ) {x0 : Nat} {x1 : Int32} {x2 : Int32} {mI : tm_I} {mL : tm_L} (hf : f_St_indexOf2_b0 x0 x1 x2 mI mL = some r) : tm_T Γ 3 0 0 0 [some (.ref (1000101 + x0)), some (.int x1), some (.int x2)] [] (sh0 ++ ex) mI mL rr := by
  have Ro := G.ro
  unfold f_St_indexOf2_b0 at hf
  refine tm_w C tfo_none to_St_indexOf2 0 rfl rfl rfl trivial ?_
  obtain ⟨c1, hf⟩ := tm_iteN hf
  obtain ⟨v1, hv1, hf⟩ := Option.bind_eq_some_iff.mp hf
  refine tm_cT C Ro to_St_indexOf2 tl_St_492 rfl c1 (ct_St_isLatin1 hv1) rfl rfl rfl rfl rfl rfl (Nat.le_refl _) (Nat.le_refl _) ?_
  refine tm_b C to_St_indexOf2 rfl rfl (fun h => ?_) (fun h => ?_)
  · have hf := (if_pos h).symm.trans hf
    obtain ⟨c2, hf⟩ := tm_iteN hf
    refine tm_w C tfo_none to_St_indexOf2 0 rfl rfl rfl trivial ?_
    refine tm_txV C to_St_indexOf2 rfl c2 (tm_in 1242 (by decide +kernel) rfl) ?_
    refine tm_w C tfo_none to_St_indexOf2 2 rfl rfl rfl trivial ?_
    obtain ⟨c3, hf⟩ := tm_iteN hf
    obtain ⟨v2, hv2, hf⟩ := Option.bind_eq_some_iff.mp hf
    refine tm_cT C Ro to_St_indexOf2 tl_St_505 rfl c3 (ct_St_length hv2) rfl rfl rfl rfl rfl rfl (Nat.le_refl _) (Nat.le_refl _) ?_
    cases hf
  · have hf := (if_neg h).symm.trans hf
    obtain ⟨c4, hf⟩ := tm_iteN hf
    refine tm_w C tfo_none to_St_indexOf2 0 rfl rfl rfl trivial ?_
    refine tm_txV C to_St_indexOf2 rfl c4 (tm_in 1242 (by decide +kernel) rfl) ?_
    refine tm_w C tfo_none to_St_indexOf2 2 rfl rfl rfl trivial ?_
    obtain ⟨c5, hf⟩ := tm_iteN hf
    obtain ⟨v3, hv3, hf⟩ := Option.bind_eq_some_iff.mp hf
    refine tm_cT C Ro to_St_indexOf2 tl_St_505 rfl c5 (ct_St_length hv3) rfl rfl rfl rfl rfl rfl (Nat.le_refl _) (Nat.le_refl _) ?_
    obtain ⟨v4, hv4, hf⟩ := Option.bind_eq_some_iff.mp hf
    refine tm_cS C Ro to_St_indexOf2 tl_St_637 rfl (ct_S1_indexOf hv4) rfl rfl rfl rfl rfl (Nat.le_refl _) (Nat.le_refl _) ?_
    refine tm_w C tfo_none to_St_indexOf2 0 rfl rfl rfl trivial ?_
    refine tm_wk (lv' := [some (.ref (1000101 + x0)), some (.int x1), some (.int x2)]) ⟨Or.inr rfl, Or.inr rfl, Or.inr rfl, trivial⟩ ?_
    exact j_St_indexOf2_b36 C G hf
set_option maxRecDepth 100000 in
theorem ct_St_indexOf2 {ex : List tm_Sh} {g : Nat} {p0 : Int32} {p1 : Int32} {mI : tm_I} {mL : tm_L} {r : Int32 × tm_I × tm_L} (hf : f_St_indexOf2 g p0 p1 mI mL = some r) : tm_M ty_St_indexOf2 2 48 0 0 [.ref (1000101 + g), .int p0, .int p1] (sh0 ++ ex, mI, mL, rr) (tm_is (some (.int r.1)) (sh0 ++ ex, r.2.1, r.2.2, rr)) := by
  refine tm_bodyF (by decide +kernel) (Nat.le_of_ble_eq_true rfl) fun Γ C G => ?_
  exact j_St_indexOf2_b0 C G hf
/-! St_indexOf -/
def f_St_indexOf_b0 (x0 : Nat) (x1 : Int32) (mI : tm_I) (mL : tm_L) : Option (Int32 × tm_I × tm_L) := if x0 < 7 then (f_St_indexOf2 x0 x1 (0 : Int32) mI mL).bind fun v1 => some (v1.1, v1.2.1, v1.2.2) else none
abbrev f_St_indexOf (g : Nat) (p0 : Int32) (mI : tm_I) (mL : tm_L) : Option (Int32 × tm_I × tm_L) := f_St_indexOf_b0 g p0 mI mL
set_option maxRecDepth 100000 in
set_option maxHeartbeats 4000000 in
theorem j_St_indexOf_b0 {Γ : tm_G} {ex : List tm_Sh} {av : List Value} {X0 : tm_X} {r : Int32 × tm_I × tm_L} (C : tm_C Γ ty_St_indexOf.1.cls ty_St_indexOf.2.1 ty_St_indexOf.2.2.1) (G : tm_Γ ty_St_indexOf 3 70 0 0 av X0 (tm_is (some (.int r.1)) (sh0 ++ ex, r.2.1, r.2.2, rr)) Γ) {x0 : Nat} {x1 : Int32} {mI : tm_I} {mL : tm_L} (hf : f_St_indexOf_b0 x0 x1 mI mL = some r) : tm_T Γ 2 0 0 0 [some (.ref (1000101 + x0)), some (.int x1)] [] (sh0 ++ ex) mI mL rr := by
  have Ro := G.ro
  unfold f_St_indexOf_b0 at hf
  refine tm_w C tfo_none to_St_indexOf 2 rfl rfl rfl trivial ?_
  obtain ⟨c1, hf⟩ := tm_iteN hf
  obtain ⟨v1, hv1, hf⟩ := Option.bind_eq_some_iff.mp hf
  refine tm_cT C Ro to_St_indexOf tl_St_633 rfl c1 (ct_St_indexOf2 hv1) rfl rfl rfl rfl rfl rfl (Nat.le_refl _) (Nat.le_refl _) ?_
  cases hf
  exact tm_ei C G to_St_indexOf rfl rfl (Nat.le_refl _) rfl ⟨rfl, rfl⟩
set_option maxRecDepth 100000 in
theorem ct_St_indexOf {ex : List tm_Sh} {g : Nat} {p0 : Int32} {mI : tm_I} {mL : tm_L} {r : Int32 × tm_I × tm_L} (hf : f_St_indexOf g p0 mI mL = some r) : tm_M ty_St_indexOf 3 70 0 0 [.ref (1000101 + g), .int p0] (sh0 ++ ex, mI, mL, rr) (tm_is (some (.int r.1)) (sh0 ++ ex, r.2.1, r.2.2, rr)) := by
  refine tm_bodyF (by decide +kernel) (Nat.le_of_ble_eq_true rfl) fun Γ C G => ?_
  exact j_St_indexOf_b0 C G hf
