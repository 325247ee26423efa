/-! Fi_begin -/
def f_Fi_begin_b0  (mI : tm_I) (mL : tm_L) : Option (Int32 × tm_I × tm_L) := (f_Ro_clear 27 (0 : Int32) mI mL).bind fun v1 => some (0, tm_up (tm_up (tm_up (tm_up (tm_up (tm_up v1.2.1 26 2 (-1 : Int32)) 26 3 (0 : Int32)) 26 4 (0 : Int32)) 26 5 (0 : Int32)) 26 6 (0 : Int32)) 26 7 (0 : Int32), v1.2.2)
abbrev f_Fi_begin  (mI : tm_I) (mL : tm_L) : Option (Int32 × tm_I × tm_L) := f_Fi_begin_b0  mI mL
set_option maxRecDepth 100000 in
set_option maxHeartbeats 4000000 in
theorem j_Fi_begin_b0 {Γ : tm_G} {ex : List tm_Sh} {av : List Value} {X0 : tm_X} {r : Int32 × tm_I × tm_L} (C : tm_C Γ ty_Fi_begin.1.cls ty_Fi_begin.2.1 ty_Fi_begin.2.2.1) (G : tm_Γ ty_Fi_begin 1 21 0 0 av X0 (tm_is none (sh0 ++ ex, r.2.1, r.2.2, rr)) Γ) {mI : tm_I} {mL : tm_L} (hf : f_Fi_begin_b0  mI mL = some r) : tm_T Γ 1 0 0 0 [some (.ref 26)] [] (sh0 ++ ex) mI mL rr := by
  have Ro := G.ro
  unfold f_Fi_begin_b0 at hf
  refine tm_w C tfo_Fi to_Fi_begin 2 rfl rfl rfl ⟨rfl, trivial⟩ ?_
  obtain ⟨v1, hv1, hf⟩ := Option.bind_eq_some_iff.mp hf
  refine tm_cV C Ro to_Fi_begin tl_Fi_31 rfl (ct_Ro_clear isRo_27 hv1) rfl rfl rfl rfl rfl rfl rfl (Nat.le_refl _) (Nat.le_refl _) ?_
  refine tm_w C tfo_Fi to_Fi_begin 17 rfl rfl rfl ⟨rfl, rfl, rfl, rfl, rfl, rfl, rfl, rfl, rfl, rfl, trivial⟩ ?_
  cases hf
  exact tm_ev C G to_Fi_begin rfl rfl (Nat.le_refl _) ⟨rfl, rfl⟩
set_option maxRecDepth 100000 in
theorem ct_Fi_begin {ex : List tm_Sh}  {mI : tm_I} {mL : tm_L} {r : Int32 × tm_I × tm_L} (hf : f_Fi_begin  mI mL = some r) : tm_M ty_Fi_begin 1 21 0 0 [.ref 26] (sh0 ++ ex, mI, mL, rr) (tm_is none (sh0 ++ ex, r.2.1, r.2.2, rr)) := by
  refine tm_body (by decide) (Nat.le_of_ble_eq_true rfl) fun Γ C G => ?_
  exact j_Fi_begin_b0 C G hf
/-! Fi_hasKind -/
def f_Fi_hasKind_b13 (s0 : Int32) (mI : tm_I) (mL : tm_L) : Option (Int32 × tm_I × tm_L) := if s0 = 0 ∨ s0 = 1 then some (s0, mI, mL) else none
def f_Fi_hasKind_b0  (mI : tm_I) (mL : tm_L) : Option (Int32 × tm_I × tm_L) := if (mI 26 2) = (-1 : Int32) then f_Fi_hasKind_b13 (0 : Int32) mI mL else f_Fi_hasKind_b13 (1 : Int32) mI mL
abbrev f_Fi_hasKind  (mI : tm_I) (mL : tm_L) : Option (Int32 × tm_I × tm_L) := f_Fi_hasKind_b0  mI mL
set_option maxRecDepth 100000 in
set_option maxHeartbeats 4000000 in
theorem j_Fi_hasKind_b13 {Γ : tm_G} {ex : List tm_Sh} {av : List Value} {X0 : tm_X} {r : Int32 × tm_I × tm_L} (C : tm_C Γ ty_Fi_hasKind.1.cls ty_Fi_hasKind.2.1 ty_Fi_hasKind.2.2.1) (G : tm_Γ ty_Fi_hasKind 0 0 0 0 av X0 (tm_is (some (.int r.1)) (sh0 ++ ex, r.2.1, r.2.2, rr)) Γ) {s0 : Int32} {mI : tm_I} {mL : tm_L} (hf : f_Fi_hasKind_b13 s0 mI mL = some r) : tm_T Γ 1 0 0 13 [some (.ref 26)] [.int s0] (sh0 ++ ex) mI mL rr := by
  have Ro := G.ro
  unfold f_Fi_hasKind_b13 at hf
  obtain ⟨c1, hf⟩ := tm_iteN hf
  cases hf
  exact tm_ei C G to_Fi_hasKind rfl rfl (Nat.le_refl _) (tm_nz c1) ⟨rfl, rfl⟩
set_option maxRecDepth 100000 in
set_option maxHeartbeats 4000000 in
theorem j_Fi_hasKind_b0 {Γ : tm_G} {ex : List tm_Sh} {av : List Value} {X0 : tm_X} {r : Int32 × tm_I × tm_L} (C : tm_C Γ ty_Fi_hasKind.1.cls ty_Fi_hasKind.2.1 ty_Fi_hasKind.2.2.1) (G : tm_Γ ty_Fi_hasKind 0 0 0 0 av X0 (tm_is (some (.int r.1)) (sh0 ++ ex, r.2.1, r.2.2, rr)) Γ) {mI : tm_I} {mL : tm_L} (hf : f_Fi_hasKind_b0  mI mL = some r) : tm_T Γ 1 0 0 0 [some (.ref 26)] [] (sh0 ++ ex) mI mL rr := by
  have Ro := G.ro
  unfold f_Fi_hasKind_b0 at hf
  refine tm_w C tfo_Fi to_Fi_hasKind 2 rfl rfl rfl ⟨rfl, trivial⟩ ?_
  refine tm_b C to_Fi_hasKind rfl rfl (fun h => ?_) (fun h => ?_)
  · have hf := (if_pos h).symm.trans hf
    refine tm_w C tfo_Fi to_Fi_hasKind 0 rfl rfl rfl trivial ?_
    refine tm_wk (lv' := [some (.ref 26)]) ⟨Or.inr rfl, trivial⟩ ?_
    exact j_Fi_hasKind_b13 C G hf
  · have hf := (if_neg h).symm.trans hf
    refine tm_w C tfo_Fi to_Fi_hasKind 1 rfl rfl rfl trivial ?_
    refine tm_wk (lv' := [some (.ref 26)]) ⟨Or.inr rfl, trivial⟩ ?_
    exact j_Fi_hasKind_b13 C G hf
set_option maxRecDepth 100000 in
theorem ct_Fi_hasKind {ex : List tm_Sh}  {mI : tm_I} {mL : tm_L} {r : Int32 × tm_I × tm_L} (hf : f_Fi_hasKind  mI mL = some r) : tm_M ty_Fi_hasKind 0 0 0 0 [.ref 26] (sh0 ++ ex, mI, mL, rr) (tm_is (some (.int r.1)) (sh0 ++ ex, r.2.1, r.2.2, rr)) := by
  refine tm_body (by decide) (Nat.le_of_ble_eq_true rfl) fun Γ C G => ?_
  exact j_Fi_hasKind_b0 C G hf
/-! Fi_digitsAtEnd -/
def f_Fi_digitsAtEnd_b41 (x1 : Int32) (x2 : Int32) (x3 : Int32) (mI : tm_I) (mL : tm_L) : Option (Int32 × tm_I × tm_L) := some (x3, mI, mL)
def f_Fi_digitsAtEnd_l13 : Nat → Int32 → Int32 → Int32 → tm_I → tm_L → Option (Int32 × tm_I × tm_L)
  | 0, _, _, _, _, _ => none
  | n + 1, x1, x2, x3, mI, mL => if x1 ≤ x3 then f_Fi_digitsAtEnd_b41 x1 x2 x3 mI mL else (f_Ro_at 27 (0 : Int32) (x2 - x3) mI mL).bind fun v1 => (f_La_isDigit v1.1 v1.2.1 v1.2.2).bind fun v2 => if v2.1 = 0 then f_Fi_digitsAtEnd_b41 x1 x2 x3 v2.2.1 v2.2.2 else (f_Fi_digitsAtEnd_l13 n) x1 x2 (x3 + (1 : Int32)) v2.2.1 v2.2.2
def f_Fi_digitsAtEnd_b0 (x1 : Int32) (mI : tm_I) (mL : tm_L) : Option (Int32 × tm_I × tm_L) := (f_Ro_size 27 (0 : Int32) mI mL).bind fun v3 => f_Fi_digitsAtEnd_l13 tm_F x1 (v3.1 - (1 : Int32)) (0 : Int32) v3.2.1 v3.2.2
abbrev f_Fi_digitsAtEnd (p0 : Int32) (mI : tm_I) (mL : tm_L) : Option (Int32 × tm_I × tm_L) := f_Fi_digitsAtEnd_b0 p0 mI mL
set_option maxRecDepth 100000 in
set_option maxHeartbeats 4000000 in
theorem j_Fi_digitsAtEnd_b41 {Γ : tm_G} {ex : List tm_Sh} {av : List Value} {X0 : tm_X} {r : Int32 × tm_I × tm_L} (C : tm_C Γ ty_Fi_digitsAtEnd.1.cls ty_Fi_digitsAtEnd.2.1 ty_Fi_digitsAtEnd.2.2.1) (G : tm_Γ ty_Fi_digitsAtEnd 1 22 0 0 av X0 (tm_is (some (.int r.1)) (sh0 ++ ex, r.2.1, r.2.2, rr)) Γ) {x1 : Int32} {x2 : Int32} {x3 : Int32} {mI : tm_I} {mL : tm_L} (hf : f_Fi_digitsAtEnd_b41 x1 x2 x3 mI mL = some r) : tm_T Γ 4 0 0 41 [some (.ref 26), some (.int x1), some (.int x2), some (.int x3)] [] (sh0 ++ ex) mI mL rr := by
  have Ro := G.ro
  unfold f_Fi_digitsAtEnd_b41 at hf
  refine tm_w C tfo_Fi to_Fi_digitsAtEnd 0 rfl rfl rfl trivial ?_
  cases hf
  exact tm_ei C G to_Fi_digitsAtEnd rfl rfl (Nat.le_refl _) rfl ⟨rfl, rfl⟩
set_option maxRecDepth 100000 in
set_option maxHeartbeats 4000000 in
theorem j_Fi_digitsAtEnd_l13 {Γ : tm_G} {ex : List tm_Sh} {av : List Value} {X0 : tm_X} {r : Int32 × tm_I × tm_L} (C : tm_C Γ ty_Fi_digitsAtEnd.1.cls ty_Fi_digitsAtEnd.2.1 ty_Fi_digitsAtEnd.2.2.1) (G : tm_Γ ty_Fi_digitsAtEnd 1 22 0 0 av X0 (tm_is (some (.int r.1)) (sh0 ++ ex, r.2.1, r.2.2, rr)) Γ) : ∀ (n : Nat) (x1 : Int32) (x2 : Int32) (x3 : Int32) (mI : tm_I) (mL : tm_L), f_Fi_digitsAtEnd_l13 n x1 x2 x3 mI mL = some r → tm_T Γ 4 0 0 13 [some (.ref 26), some (.int x1), some (.int x2), some (.int x3)] [] (sh0 ++ ex) mI mL rr := by
  have Ro := G.ro
  intro n
  induction n with
  | zero => intro x1 x2 x3 mI mL hf; cases hf
  | succ n ih =>
    intro x1 x2 x3 mI mL hf
    rw [f_Fi_digitsAtEnd_l13] at hf
    refine tm_w C tfo_Fi to_Fi_digitsAtEnd 1 rfl rfl rfl trivial ?_
    refine tm_b C to_Fi_digitsAtEnd rfl rfl (fun h => ?_) (fun h => ?_)
    · have hf := (if_pos h).symm.trans hf
      refine tm_wk (lv' := [some (.ref 26), some (.int x1), some (.int x2), some (.int x3)]) ⟨Or.inr rfl, Or.inr rfl, Or.inr rfl, Or.inr rfl, trivial⟩ ?_
      exact j_Fi_digitsAtEnd_b41 C G hf
    · have hf := (if_neg h).symm.trans hf
      refine tm_w C tfo_Fi to_Fi_digitsAtEnd 5 rfl rfl rfl ⟨rfl, trivial⟩ ?_
      obtain ⟨v1, hv1, hf⟩ := Option.bind_eq_some_iff.mp hf
      refine tm_cV C Ro to_Fi_digitsAtEnd tl_Fi_55 rfl (ct_Ro_at isRo_27 hv1) rfl rfl rfl rfl rfl rfl rfl (Nat.le_refl _) (Nat.le_refl _) ?_
      obtain ⟨v2, hv2, hf⟩ := Option.bind_eq_some_iff.mp hf
      refine tm_cN C Ro to_Fi_digitsAtEnd tl_Fi_59 rfl (ct_La_isDigit hv2) rfl rfl rfl rfl rfl (Nat.le_refl _) (Nat.le_refl _) ?_
      refine tm_b C to_Fi_digitsAtEnd rfl rfl (fun h => ?_) (fun h => ?_)
      · have hf := (if_pos h).symm.trans hf
        refine tm_wk (lv' := [some (.ref 26), some (.int x1), some (.int x2), some (.int x3)]) ⟨Or.inr rfl, Or.inr rfl, Or.inr rfl, Or.inr rfl, trivial⟩ ?_
        exact j_Fi_digitsAtEnd_b41 C G hf
      · have hf := (if_neg h).symm.trans hf
        refine tm_w C tfo_Fi to_Fi_digitsAtEnd 1 rfl rfl rfl trivial ?_
        refine tm_wk (lv' := [some (.ref 26), some (.int x1), some (.int x2), some (.int (x3 + (1 : Int32)))]) ⟨Or.inr rfl, Or.inr rfl, Or.inr rfl, Or.inr rfl, trivial⟩ ?_
        exact ih _ _ _ _ _ hf
set_option maxRecDepth 100000 in
set_option maxHeartbeats 4000000 in
theorem j_Fi_digitsAtEnd_b0 {Γ : tm_G} {ex : List tm_Sh} {av : List Value} {X0 : tm_X} {r : Int32 × tm_I × tm_L} (C : tm_C Γ ty_Fi_digitsAtEnd.1.cls ty_Fi_digitsAtEnd.2.1 ty_Fi_digitsAtEnd.2.2.1) (G : tm_Γ ty_Fi_digitsAtEnd 1 22 0 0 av X0 (tm_is (some (.int r.1)) (sh0 ++ ex, r.2.1, r.2.2, rr)) Γ) {x1 : Int32} {mI : tm_I} {mL : tm_L} (hf : f_Fi_digitsAtEnd_b0 x1 mI mL = some r) : tm_T Γ 4 0 0 0 [some (.ref 26), some (.int x1), none, none] [] (sh0 ++ ex) mI mL rr := by
  have Ro := G.ro
  unfold f_Fi_digitsAtEnd_b0 at hf
  refine tm_w C tfo_Fi to_Fi_digitsAtEnd 2 rfl rfl rfl ⟨rfl, trivial⟩ ?_
  obtain ⟨v3, hv3, hf⟩ := Option.bind_eq_some_iff.mp hf
  refine tm_cV C Ro to_Fi_digitsAtEnd tl_Fi_51 rfl (ct_Ro_size isRo_27 hv3) rfl rfl rfl rfl rfl rfl rfl (Nat.le_refl _) (Nat.le_refl _) ?_
  refine tm_w C tfo_Fi to_Fi_digitsAtEnd 4 rfl rfl rfl trivial ?_
  refine tm_wk (lv' := [some (.ref 26), some (.int x1), some (.int (v3.1 - (1 : Int32))), some (.int (0 : Int32))]) ⟨Or.inr rfl, Or.inr rfl, Or.inr rfl, Or.inr rfl, trivial⟩ ?_
  exact j_Fi_digitsAtEnd_l13 C G _ _ _ _ _ _ hf
set_option maxRecDepth 100000 in
theorem ct_Fi_digitsAtEnd {ex : List tm_Sh} {p0 : Int32} {mI : tm_I} {mL : tm_L} {r : Int32 × tm_I × tm_L} (hf : f_Fi_digitsAtEnd p0 mI mL = some r) : tm_M ty_Fi_digitsAtEnd 1 22 0 0 [.ref 26, .int p0] (sh0 ++ ex, mI, mL, rr) (tm_is (some (.int r.1)) (sh0 ++ ex, r.2.1, r.2.2, rr)) := by
  refine tm_body (by decide) (Nat.le_of_ble_eq_true rfl) fun Γ C G => ?_
  exact j_Fi_digitsAtEnd_b0 C G hf
/-! Fi_isPicture -/
def f_Fi_isPicture_b72 (x1 : Int32) (x2 : Int32) (s0 : Int32) (mI : tm_I) (mL : tm_L) : Option (Int32 × tm_I × tm_L) := if s0 = 0 ∨ s0 = 1 then some (s0, mI, mL) else none
def f_Fi_isPicture_l11 : Nat → Int32 → Int32 → tm_I → tm_L → Option (Int32 × tm_I × tm_L)
  | 0, _, _, _, _ => none
  | n + 1, x1, x2, mI, mL => if x1 ≤ x2 then (f_Fo_get 30 (0 : Int32) mI mL).bind fun v1 => (f_Ma_max (1 : Int32) ((v1.1 + (7 : Int32)) / (8 : Int32)) v1.2.1 v1.2.2).bind fun v2 => if ¬ (v2.1 * (2 : Int32)) = 0 then if ¬ (x1 - x1 / (v2.1 * (2 : Int32)) * (v2.1 * (2 : Int32))) = 0 then f_Fi_isPicture_b72 x1 (v2.1 * (2 : Int32)) (0 : Int32) v2.2.1 v2.2.2 else f_Fi_isPicture_b72 x1 (v2.1 * (2 : Int32)) (1 : Int32) v2.2.1 v2.2.2 else none else (f_Ro_at 27 (0 : Int32) x2 mI mL).bind fun v3 => (f_La_hexValue v3.1 v3.2.1 v3.2.2).bind fun v4 => if ¬ v4.1 = (-1 : Int32) then (f_Fi_isPicture_l11 n) x1 (x2 + (1 : Int32)) v4.2.1 v4.2.2 else some ((0 : Int32), v4.2.1, v4.2.2)
def f_Fi_isPicture_b0  (mI : tm_I) (mL : tm_L) : Option (Int32 × tm_I × tm_L) := (f_Ro_size 27 (0 : Int32) mI mL).bind fun v5 => f_Fi_isPicture_l11 tm_F v5.1 (0 : Int32) v5.2.1 v5.2.2
abbrev f_Fi_isPicture  (mI : tm_I) (mL : tm_L) : Option (Int32 × tm_I × tm_L) := f_Fi_isPicture_b0  mI mL
set_option maxRecDepth 100000 in
set_option maxHeartbeats 4000000 in
theorem j_Fi_isPicture_b72 {Γ : tm_G} {ex : List tm_Sh} {av : List Value} {X0 : tm_X} {r : Int32 × tm_I × tm_L} (C : tm_C Γ ty_Fi_isPicture.1.cls ty_Fi_isPicture.2.1 ty_Fi_isPicture.2.2.1) (G : tm_Γ ty_Fi_isPicture 2 40 0 0 av X0 (tm_is (some (.int r.1)) (sh0 ++ ex, r.2.1, r.2.2, rr)) Γ) {x1 : Int32} {x2 : Int32} {s0 : Int32} {mI : tm_I} {mL : tm_L} (hf : f_Fi_isPicture_b72 x1 x2 s0 mI mL = some r) : tm_T Γ 3 0 0 72 [some (.ref 26), some (.int x1), some (.int x2)] [.int s0] (sh0 ++ ex) mI mL rr := by
  have Ro := G.ro
  unfold f_Fi_isPicture_b72 at hf
  obtain ⟨c1, hf⟩ := tm_iteN hf
  cases hf
  exact tm_ei C G to_Fi_isPicture rfl rfl (Nat.le_refl _) (tm_nz c1) ⟨rfl, rfl⟩
set_option maxRecDepth 100000 in
set_option maxHeartbeats 4000000 in
theorem j_Fi_isPicture_l11 {Γ : tm_G} {ex : List tm_Sh} {av : List Value} {X0 : tm_X} {r : Int32 × tm_I × tm_L} (C : tm_C Γ ty_Fi_isPicture.1.cls ty_Fi_isPicture.2.1 ty_Fi_isPicture.2.2.1) (G : tm_Γ ty_Fi_isPicture 2 40 0 0 av X0 (tm_is (some (.int r.1)) (sh0 ++ ex, r.2.1, r.2.2, rr)) Γ) : ∀ (n : Nat) (x1 : Int32) (x2 : Int32) (mI : tm_I) (mL : tm_L), f_Fi_isPicture_l11 n x1 x2 mI mL = some r → tm_T Γ 3 0 0 11 [some (.ref 26), some (.int x1), some (.int x2)] [] (sh0 ++ ex) mI mL rr := by
  have Ro := G.ro
  intro n
  induction n with
  | zero => intro x1 x2 mI mL hf; cases hf
  | succ n ih =>
    intro x1 x2 mI mL hf
    rw [f_Fi_isPicture_l11] at hf
    refine tm_w C tfo_Fi to_Fi_isPicture 1 rfl rfl rfl trivial ?_
    refine tm_b C to_Fi_isPicture rfl rfl (fun h => ?_) (fun h => ?_)
    · have hf := (if_pos h).symm.trans hf
      refine tm_w C tfo_Fi to_Fi_isPicture 3 rfl rfl rfl ⟨rfl, trivial⟩ ?_
      obtain ⟨v1, hv1, hf⟩ := Option.bind_eq_some_iff.mp hf
      refine tm_cV C Ro to_Fi_isPicture tl_Fi_79 rfl (ct_Fo_get isFo_30 hv1) rfl rfl rfl rfl rfl rfl rfl (Nat.le_refl _) (Nat.le_refl _) ?_
      refine tm_w C tfo_Fi to_Fi_isPicture 3 rfl rfl rfl ⟨(by decide), trivial⟩ ?_
      obtain ⟨v2, hv2, hf⟩ := Option.bind_eq_some_iff.mp hf
      refine tm_cS C Ro to_Fi_isPicture tl_Fi_82 rfl (ct_Ma_max hv2) rfl rfl rfl rfl rfl (Nat.le_refl _) (Nat.le_refl _) ?_
      obtain ⟨c2, hf⟩ := tm_iteN hf
      refine tm_w C tfo_Fi to_Fi_isPicture 5 rfl rfl rfl ⟨c2, trivial⟩ ?_
      refine tm_b C to_Fi_isPicture rfl rfl (fun h => ?_) (fun h => ?_)
      · have hf := (if_pos h).symm.trans hf
        refine tm_w C tfo_Fi to_Fi_isPicture 0 rfl rfl rfl trivial ?_
        refine tm_wk (lv' := [some (.ref 26), some (.int x1), some (.int (v2.1 * (2 : Int32)))]) ⟨Or.inr rfl, Or.inr rfl, Or.inr rfl, trivial⟩ ?_
        exact j_Fi_isPicture_b72 C G hf
      · have hf := (if_neg h).symm.trans hf
        refine tm_w C tfo_Fi to_Fi_isPicture 1 rfl rfl rfl trivial ?_
        refine tm_wk (lv' := [some (.ref 26), some (.int x1), some (.int (v2.1 * (2 : Int32)))]) ⟨Or.inr rfl, Or.inr rfl, Or.inr rfl, trivial⟩ ?_
        exact j_Fi_isPicture_b72 C G hf
    · have hf := (if_neg h).symm.trans hf
      refine tm_w C tfo_Fi to_Fi_isPicture 3 rfl rfl rfl ⟨rfl, trivial⟩ ?_
      obtain ⟨v3, hv3, hf⟩ := Option.bind_eq_some_iff.mp hf
      refine tm_cV C Ro to_Fi_isPicture tl_Fi_55 rfl (ct_Ro_at isRo_27 hv3) rfl rfl rfl rfl rfl rfl rfl (Nat.le_refl _) (Nat.le_refl _) ?_
      obtain ⟨v4, hv4, hf⟩ := Option.bind_eq_some_iff.mp hf
      refine tm_cN C Ro to_Fi_isPicture tl_Fi_76 rfl (ct_La_hexValue hv4) rfl rfl rfl rfl rfl (Nat.le_refl _) (Nat.le_refl _) ?_
      refine tm_w C tfo_Fi to_Fi_isPicture 0 rfl rfl rfl trivial ?_
      refine tm_b C to_Fi_isPicture rfl rfl (fun h => ?_) (fun h => ?_)
      · have hf := (if_pos h).symm.trans hf
        refine tm_w C tfo_Fi to_Fi_isPicture 1 rfl rfl rfl trivial ?_
        refine tm_wk (lv' := [some (.ref 26), some (.int x1), some (.int (x2 + (1 : Int32)))]) ⟨Or.inr rfl, Or.inr rfl, Or.inr rfl, trivial⟩ ?_
        exact ih _ _ _ _ hf
      · have hf := (if_neg h).symm.trans hf
        refine tm_w C tfo_Fi to_Fi_isPicture 0 rfl rfl rfl trivial ?_
        cases hf
        exact tm_ei C G to_Fi_isPicture rfl rfl (Nat.le_refl _) rfl ⟨rfl, rfl⟩
set_option maxRecDepth 100000 in
set_option maxHeartbeats 4000000 in
theorem j_Fi_isPicture_b0 {Γ : tm_G} {ex : List tm_Sh} {av : List Value} {X0 : tm_X} {r : Int32 × tm_I × tm_L} (C : tm_C Γ ty_Fi_isPicture.1.cls ty_Fi_isPicture.2.1 ty_Fi_isPicture.2.2.1) (G : tm_Γ ty_Fi_isPicture 2 40 0 0 av X0 (tm_is (some (.int r.1)) (sh0 ++ ex, r.2.1, r.2.2, rr)) Γ) {mI : tm_I} {mL : tm_L} (hf : f_Fi_isPicture_b0  mI mL = some r) : tm_T Γ 3 0 0 0 [some (.ref 26), none, none] [] (sh0 ++ ex) mI mL rr := by
  have Ro := G.ro
  unfold f_Fi_isPicture_b0 at hf
  refine tm_w C tfo_Fi to_Fi_isPicture 2 rfl rfl rfl ⟨rfl, trivial⟩ ?_
  obtain ⟨v5, hv5, hf⟩ := Option.bind_eq_some_iff.mp hf
  refine tm_cV C Ro to_Fi_isPicture tl_Fi_51 rfl (ct_Ro_size isRo_27 hv5) rfl rfl rfl rfl rfl rfl rfl (Nat.le_refl _) (Nat.le_refl _) ?_
  refine tm_w C tfo_Fi to_Fi_isPicture 2 rfl rfl rfl trivial ?_
  refine tm_wk (lv' := [some (.ref 26), some (.int v5.1), some (.int (0 : Int32))]) ⟨Or.inr rfl, Or.inr rfl, Or.inr rfl, trivial⟩ ?_
  exact j_Fi_isPicture_l11 C G _ _ _ _ _ hf
set_option maxRecDepth 100000 in
theorem ct_Fi_isPicture {ex : List tm_Sh}  {mI : tm_I} {mL : tm_L} {r : Int32 × tm_I × tm_L} (hf : f_Fi_isPicture  mI mL = some r) : tm_M ty_Fi_isPicture 2 40 0 0 [.ref 26] (sh0 ++ ex, mI, mL, rr) (tm_is (some (.int r.1)) (sh0 ++ ex, r.2.1, r.2.2, rr)) := by
  refine tm_body (by decide) (Nat.le_of_ble_eq_true rfl) fun Γ C G => ?_
  exact j_Fi_isPicture_b0 C G hf
/-! Fi_tail -/
def f_Fi_tail_b17 (s0 : Int32) (mI : tm_I) (mL : tm_L) : Option (Int32 × tm_I × tm_L) := some (s0, mI, mL)
def f_Fi_tail_b0  (mI : tm_I) (mL : tm_L) : Option (Int32 × tm_I × tm_L) := if (mI 26 6) = 0 then f_Fi_tail_b17 (0 : Int32) mI mL else (f_Fi_digitsAtEnd (9 : Int32) mI mL).bind fun v1 => f_Fi_tail_b17 v1.1 v1.2.1 v1.2.2
abbrev f_Fi_tail  (mI : tm_I) (mL : tm_L) : Option (Int32 × tm_I × tm_L) := f_Fi_tail_b0  mI mL
set_option maxRecDepth 100000 in
set_option maxHeartbeats 4000000 in
theorem j_Fi_tail_b17 {Γ : tm_G} {ex : List tm_Sh} {av : List Value} {X0 : tm_X} {r : Int32 × tm_I × tm_L} (C : tm_C Γ ty_Fi_tail.1.cls ty_Fi_tail.2.1 ty_Fi_tail.2.2.1) (G : tm_Γ ty_Fi_tail 2 45 0 0 av X0 (tm_is (some (.int r.1)) (sh0 ++ ex, r.2.1, r.2.2, rr)) Γ) {s0 : Int32} {mI : tm_I} {mL : tm_L} (hf : f_Fi_tail_b17 s0 mI mL = some r) : tm_T Γ 1 0 0 17 [some (.ref 26)] [.int s0] (sh0 ++ ex) mI mL rr := by
  have Ro := G.ro
  unfold f_Fi_tail_b17 at hf
  cases hf
  exact tm_ei C G to_Fi_tail rfl rfl (Nat.le_refl _) rfl ⟨rfl, rfl⟩
set_option maxRecDepth 100000 in
set_option maxHeartbeats 4000000 in
theorem j_Fi_tail_b0 {Γ : tm_G} {ex : List tm_Sh} {av : List Value} {X0 : tm_X} {r : Int32 × tm_I × tm_L} (C : tm_C Γ ty_Fi_tail.1.cls ty_Fi_tail.2.1 ty_Fi_tail.2.2.1) (G : tm_Γ ty_Fi_tail 2 45 0 0 av X0 (tm_is (some (.int r.1)) (sh0 ++ ex, r.2.1, r.2.2, rr)) Γ) {mI : tm_I} {mL : tm_L} (hf : f_Fi_tail_b0  mI mL = some r) : tm_T Γ 1 0 0 0 [some (.ref 26)] [] (sh0 ++ ex) mI mL rr := by
  have Ro := G.ro
  unfold f_Fi_tail_b0 at hf
  refine tm_w C tfo_Fi to_Fi_tail 1 rfl rfl rfl ⟨rfl, trivial⟩ ?_
  refine tm_b C to_Fi_tail rfl rfl (fun h => ?_) (fun h => ?_)
  · have hf := (if_pos h).symm.trans hf
    refine tm_w C tfo_Fi to_Fi_tail 0 rfl rfl rfl trivial ?_
    refine tm_wk (lv' := [some (.ref 26)]) ⟨Or.inr rfl, trivial⟩ ?_
    exact j_Fi_tail_b17 C G hf
  · have hf := (if_neg h).symm.trans hf
    refine tm_w C tfo_Fi to_Fi_tail 1 rfl rfl rfl trivial ?_
    obtain ⟨v1, hv1, hf⟩ := Option.bind_eq_some_iff.mp hf
    refine tm_cV C Ro to_Fi_tail tl_Fi_69 rfl (ct_Fi_digitsAtEnd hv1) rfl rfl rfl rfl rfl rfl rfl (Nat.le_refl _) (Nat.le_refl _) ?_
    refine tm_w C tfo_Fi to_Fi_tail 0 rfl rfl rfl trivial ?_
    refine tm_wk (lv' := [some (.ref 26)]) ⟨Or.inr rfl, trivial⟩ ?_
    exact j_Fi_tail_b17 C G hf
set_option maxRecDepth 100000 in
theorem ct_Fi_tail {ex : List tm_Sh}  {mI : tm_I} {mL : tm_L} {r : Int32 × tm_I × tm_L} (hf : f_Fi_tail  mI mL = some r) : tm_M ty_Fi_tail 2 45 0 0 [.ref 26] (sh0 ++ ex, mI, mL, rr) (tm_is (some (.int r.1)) (sh0 ++ ex, r.2.1, r.2.2, rr)) := by
  refine tm_body (by decide) (Nat.le_of_ble_eq_true rfl) fun Γ C G => ?_
  exact j_Fi_tail_b0 C G hf
/-! Fi_tailNumber -/
def f_Fi_tailNumber_l18 : Nat → Int32 → Int32 → Int32 → Int32 → tm_I → tm_L → Option (Int32 × tm_I × tm_L)
  | 0, _, _, _, _, _, _ => none
  | n + 1, x1, x2, x3, x4, mI, mL => if x4 < 0 then some (x3, mI, mL) else (f_Ro_at 27 (0 : Int32) (x2 - x4) mI mL).bind fun v1 => (f_Fi_tailNumber_l18 n) x1 x2 (((x3 * (10 : Int32)) + v1.1) - (48 : Int32)) (x4 + (-1 : Int32)) v1.2.1 v1.2.2
def f_Fi_tailNumber_b0 (x1 : Int32) (mI : tm_I) (mL : tm_L) : Option (Int32 × tm_I × tm_L) := (f_Ro_size 27 (0 : Int32) mI mL).bind fun v2 => f_Fi_tailNumber_l18 tm_F x1 (v2.1 - (1 : Int32)) (0 : Int32) (x1 - (1 : Int32)) v2.2.1 v2.2.2
abbrev f_Fi_tailNumber (p0 : Int32) (mI : tm_I) (mL : tm_L) : Option (Int32 × tm_I × tm_L) := f_Fi_tailNumber_b0 p0 mI mL
set_option maxRecDepth 100000 in
set_option maxHeartbeats 4000000 in
theorem j_Fi_tailNumber_l18 {Γ : tm_G} {ex : List tm_Sh} {av : List Value} {X0 : tm_X} {r : Int32 × tm_I × tm_L} (C : tm_C Γ ty_Fi_tailNumber.1.cls ty_Fi_tailNumber.2.1 ty_Fi_tailNumber.2.2.1) (G : tm_Γ ty_Fi_tailNumber 1 22 0 0 av X0 (tm_is (some (.int r.1)) (sh0 ++ ex, r.2.1, r.2.2, rr)) Γ) : ∀ (n : Nat) (x1 : Int32) (x2 : Int32) (x3 : Int32) (x4 : Int32) (mI : tm_I) (mL : tm_L), f_Fi_tailNumber_l18 n x1 x2 x3 x4 mI mL = some r → tm_T Γ 5 0 0 18 [some (.ref 26), some (.int x1), some (.int x2), some (.int x3), some (.int x4)] [] (sh0 ++ ex) mI mL rr := by
  have Ro := G.ro
  intro n
  induction n with
  | zero => intro x1 x2 x3 x4 mI mL hf; cases hf
  | succ n ih =>
    intro x1 x2 x3 x4 mI mL hf
    rw [f_Fi_tailNumber_l18] at hf
    refine tm_w C tfo_Fi to_Fi_tailNumber 0 rfl rfl rfl trivial ?_
    refine tm_b C to_Fi_tailNumber rfl rfl (fun h => ?_) (fun h => ?_)
    · have hf := (if_pos h).symm.trans hf
      refine tm_w C tfo_Fi to_Fi_tailNumber 0 rfl rfl rfl trivial ?_
      cases hf
      exact tm_ei C G to_Fi_tailNumber rfl rfl (Nat.le_refl _) rfl ⟨rfl, rfl⟩
    · have hf := (if_neg h).symm.trans hf
      refine tm_w C tfo_Fi to_Fi_tailNumber 8 rfl rfl rfl ⟨rfl, trivial⟩ ?_
      obtain ⟨v1, hv1, hf⟩ := Option.bind_eq_some_iff.mp hf
      refine tm_cV C Ro to_Fi_tailNumber tl_Fi_55 rfl (ct_Ro_at isRo_27 hv1) rfl rfl rfl rfl rfl rfl rfl (Nat.le_refl _) (Nat.le_refl _) ?_
      refine tm_w C tfo_Fi to_Fi_tailNumber 5 rfl rfl rfl trivial ?_
      refine tm_wk (lv' := [some (.ref 26), some (.int x1), some (.int x2), some (.int (((x3 * (10 : Int32)) + v1.1) - (48 : Int32))), some (.int (x4 + (-1 : Int32)))]) ⟨Or.inr rfl, Or.inr rfl, Or.inr rfl, Or.inr rfl, Or.inr rfl, trivial⟩ ?_
      exact ih _ _ _ _ _ _ hf
set_option maxRecDepth 100000 in
set_option maxHeartbeats 4000000 in
theorem j_Fi_tailNumber_b0 {Γ : tm_G} {ex : List tm_Sh} {av : List Value} {X0 : tm_X} {r : Int32 × tm_I × tm_L} (C : tm_C Γ ty_Fi_tailNumber.1.cls ty_Fi_tailNumber.2.1 ty_Fi_tailNumber.2.2.1) (G : tm_Γ ty_Fi_tailNumber 1 22 0 0 av X0 (tm_is (some (.int r.1)) (sh0 ++ ex, r.2.1, r.2.2, rr)) Γ) {x1 : Int32} {mI : tm_I} {mL : tm_L} (hf : f_Fi_tailNumber_b0 x1 mI mL = some r) : tm_T Γ 5 0 0 0 [some (.ref 26), some (.int x1), none, none, none] [] (sh0 ++ ex) mI mL rr := by
  have Ro := G.ro
  unfold f_Fi_tailNumber_b0 at hf
  refine tm_w C tfo_Fi to_Fi_tailNumber 2 rfl rfl rfl ⟨rfl, trivial⟩ ?_
  obtain ⟨v2, hv2, hf⟩ := Option.bind_eq_some_iff.mp hf
  refine tm_cV C Ro to_Fi_tailNumber tl_Fi_51 rfl (ct_Ro_size isRo_27 hv2) rfl rfl rfl rfl rfl rfl rfl (Nat.le_refl _) (Nat.le_refl _) ?_
  refine tm_w C tfo_Fi to_Fi_tailNumber 8 rfl rfl rfl trivial ?_
  refine tm_wk (lv' := [some (.ref 26), some (.int x1), some (.int (v2.1 - (1 : Int32))), some (.int (0 : Int32)), some (.int (x1 - (1 : Int32)))]) ⟨Or.inr rfl, Or.inr rfl, Or.inr rfl, Or.inr rfl, Or.inr rfl, trivial⟩ ?_
  exact j_Fi_tailNumber_l18 C G _ _ _ _ _ _ _ hf
set_option maxRecDepth 100000 in
theorem ct_Fi_tailNumber {ex : List tm_Sh} {p0 : Int32} {mI : tm_I} {mL : tm_L} {r : Int32 × tm_I × tm_L} (hf : f_Fi_tailNumber p0 mI mL = some r) : tm_M ty_Fi_tailNumber 1 22 0 0 [.ref 26, .int p0] (sh0 ++ ex, mI, mL, rr) (tm_is (some (.int r.1)) (sh0 ++ ex, r.2.1, r.2.2, rr)) := by
  refine tm_body (by decide) (Nat.le_of_ble_eq_true rfl) fun Γ C G => ?_
  exact j_Fi_tailNumber_b0 C G hf
/-! Li_start -/
def f_Li_start_b23 (x1 : Int32) (s0 : Int32) (mI : tm_I) (mL : tm_L) : Option (Int32 × tm_I × tm_L) := some (s0, mI, mL)
def f_Li_start_b22 (x1 : Int32) (mI : tm_I) (mL : tm_L) : Option (Int32 × tm_I × tm_L) := f_Li_start_b23 x1 (0 : Int32) mI mL
def f_Li_start_b0 (x1 : Int32) (mI : tm_I) (mL : tm_L) : Option (Int32 × tm_I × tm_L) := if x1 < 0 then f_Li_start_b22 x1 mI mL else if (Int32.ofNat 20) ≤ x1 then f_Li_start_b22 x1 mI mL else if ¬ (x1 < 0 ∨ 20 ≤ Int32.toNatClampNeg x1) then f_Li_start_b23 x1 (mI 37 (Int32.toNatClampNeg x1)) mI mL else none
abbrev f_Li_start (p0 : Int32) (mI : tm_I) (mL : tm_L) : Option (Int32 × tm_I × tm_L) := f_Li_start_b0 p0 mI mL
set_option maxRecDepth 100000 in
set_option maxHeartbeats 4000000 in
theorem j_Li_start_b23 {Γ : tm_G} {ex : List tm_Sh} {av : List Value} {X0 : tm_X} {r : Int32 × tm_I × tm_L} (C : tm_C Γ ty_Li_start.1.cls ty_Li_start.2.1 ty_Li_start.2.2.1) (G : tm_Γ ty_Li_start 0 0 0 0 av X0 (tm_is (some (.int r.1)) (sh0 ++ ex, r.2.1, r.2.2, rr)) Γ) {x1 : Int32} {s0 : Int32} {mI : tm_I} {mL : tm_L} (hf : f_Li_start_b23 x1 s0 mI mL = some r) : tm_T Γ 2 0 0 23 [some (.ref 36), some (.int x1)] [.int s0] (sh0 ++ ex) mI mL rr := by
  have Ro := G.ro
  unfold f_Li_start_b23 at hf
  cases hf
  exact tm_ei C G to_Li_start rfl rfl (Nat.le_refl _) rfl ⟨rfl, rfl⟩
set_option maxRecDepth 100000 in
set_option maxHeartbeats 4000000 in
theorem j_Li_start_b22 {Γ : tm_G} {ex : List tm_Sh} {av : List Value} {X0 : tm_X} {r : Int32 × tm_I × tm_L} (C : tm_C Γ ty_Li_start.1.cls ty_Li_start.2.1 ty_Li_start.2.2.1) (G : tm_Γ ty_Li_start 0 0 0 0 av X0 (tm_is (some (.int r.1)) (sh0 ++ ex, r.2.1, r.2.2, rr)) Γ) {x1 : Int32} {mI : tm_I} {mL : tm_L} (hf : f_Li_start_b22 x1 mI mL = some r) : tm_T Γ 2 0 0 22 [some (.ref 36), some (.int x1)] [] (sh0 ++ ex) mI mL rr := by
  have Ro := G.ro
  unfold f_Li_start_b22 at hf
  refine tm_w C tfo_Li to_Li_start 0 rfl rfl rfl trivial ?_
  refine tm_wk (lv' := [some (.ref 36), some (.int x1)]) ⟨Or.inr rfl, Or.inr rfl, trivial⟩ ?_
  exact j_Li_start_b23 C G hf
set_option maxRecDepth 100000 in
set_option maxHeartbeats 4000000 in
theorem j_Li_start_b0 {Γ : tm_G} {ex : List tm_Sh} {av : List Value} {X0 : tm_X} {r : Int32 × tm_I × tm_L} (C : tm_C Γ ty_Li_start.1.cls ty_Li_start.2.1 ty_Li_start.2.2.1) (G : tm_Γ ty_Li_start 0 0 0 0 av X0 (tm_is (some (.int r.1)) (sh0 ++ ex, r.2.1, r.2.2, rr)) Γ) {x1 : Int32} {mI : tm_I} {mL : tm_L} (hf : f_Li_start_b0 x1 mI mL = some r) : tm_T Γ 2 0 0 0 [some (.ref 36), some (.int x1)] [] (sh0 ++ ex) mI mL rr := by
  have Ro := G.ro
  unfold f_Li_start_b0 at hf
  refine tm_w C tfo_Li to_Li_start 0 rfl rfl rfl trivial ?_
  refine tm_b C to_Li_start rfl rfl (fun h => ?_) (fun h => ?_)
  · have hf := (if_pos h).symm.trans hf
    refine tm_wk (lv' := [some (.ref 36), some (.int x1)]) ⟨Or.inr rfl, Or.inr rfl, trivial⟩ ?_
    exact j_Li_start_b22 C G hf
  · have hf := (if_neg h).symm.trans hf
    refine tm_w C tfo_Li to_Li_start 3 rfl rfl rfl ⟨rfl, trivial⟩ ?_
    refine tm_b C to_Li_start rfl rfl (fun h => ?_) (fun h => ?_)
    · have hf := (if_pos h).symm.trans hf
      refine tm_wk (lv' := [some (.ref 36), some (.int x1)]) ⟨Or.inr rfl, Or.inr rfl, trivial⟩ ?_
      exact j_Li_start_b22 C G hf
    · have hf := (if_neg h).symm.trans hf
      obtain ⟨c1, hf⟩ := tm_iteN hf
      refine tm_w C tfo_Li to_Li_start 4 rfl rfl rfl ⟨rfl, ⟨_, rfl, c1⟩, trivial⟩ ?_
      refine tm_wk (lv' := [some (.ref 36), some (.int x1)]) ⟨Or.inr rfl, Or.inr rfl, trivial⟩ ?_
      exact j_Li_start_b23 C G hf
set_option maxRecDepth 100000 in
theorem ct_Li_start {ex : List tm_Sh} {p0 : Int32} {mI : tm_I} {mL : tm_L} {r : Int32 × tm_I × tm_L} (hf : f_Li_start p0 mI mL = some r) : tm_M ty_Li_start 0 0 0 0 [.ref 36, .int p0] (sh0 ++ ex, mI, mL, rr) (tm_is (some (.int r.1)) (sh0 ++ ex, r.2.1, r.2.2, rr)) := by
  refine tm_body (by decide) (Nat.le_of_ble_eq_true rfl) fun Γ C G => ?_
  exact j_Li_start_b0 C G hf
/-! Li_size -/
def f_Li_size_b23 (x1 : Int32) (s0 : Int32) (mI : tm_I) (mL : tm_L) : Option (Int32 × tm_I × tm_L) := some (s0, mI, mL)
def f_Li_size_b22 (x1 : Int32) (mI : tm_I) (mL : tm_L) : Option (Int32 × tm_I × tm_L) := f_Li_size_b23 x1 (0 : Int32) mI mL
def f_Li_size_b0 (x1 : Int32) (mI : tm_I) (mL : tm_L) : Option (Int32 × tm_I × tm_L) := if x1 < 0 then f_Li_size_b22 x1 mI mL else if (Int32.ofNat 20) ≤ x1 then f_Li_size_b22 x1 mI mL else if ¬ (x1 < 0 ∨ 20 ≤ Int32.toNatClampNeg x1) then f_Li_size_b23 x1 (mI 38 (Int32.toNatClampNeg x1)) mI mL else none
abbrev f_Li_size (p0 : Int32) (mI : tm_I) (mL : tm_L) : Option (Int32 × tm_I × tm_L) := f_Li_size_b0 p0 mI mL
set_option maxRecDepth 100000 in
set_option maxHeartbeats 4000000 in
theorem j_Li_size_b23 {Γ : tm_G} {ex : List tm_Sh} {av : List Value} {X0 : tm_X} {r : Int32 × tm_I × tm_L} (C : tm_C Γ ty_Li_size.1.cls ty_Li_size.2.1 ty_Li_size.2.2.1) (G : tm_Γ ty_Li_size 0 0 0 0 av X0 (tm_is (some (.int r.1)) (sh0 ++ ex, r.2.1, r.2.2, rr)) Γ) {x1 : Int32} {s0 : Int32} {mI : tm_I} {mL : tm_L} (hf : f_Li_size_b23 x1 s0 mI mL = some r) : tm_T Γ 2 0 0 23 [some (.ref 36), some (.int x1)] [.int s0] (sh0 ++ ex) mI mL rr := by
  have Ro := G.ro
  unfold f_Li_size_b23 at hf
  cases hf
  exact tm_ei C G to_Li_size rfl rfl (Nat.le_refl _) rfl ⟨rfl, rfl⟩
set_option maxRecDepth 100000 in
set_option maxHeartbeats 4000000 in
theorem j_Li_size_b22 {Γ : tm_G} {ex : List tm_Sh} {av : List Value} {X0 : tm_X} {r : Int32 × tm_I × tm_L} (C : tm_C Γ ty_Li_size.1.cls ty_Li_size.2.1 ty_Li_size.2.2.1) (G : tm_Γ ty_Li_size 0 0 0 0 av X0 (tm_is (some (.int r.1)) (sh0 ++ ex, r.2.1, r.2.2, rr)) Γ) {x1 : Int32} {mI : tm_I} {mL : tm_L} (hf : f_Li_size_b22 x1 mI mL = some r) : tm_T Γ 2 0 0 22 [some (.ref 36), some (.int x1)] [] (sh0 ++ ex) mI mL rr := by
  have Ro := G.ro
  unfold f_Li_size_b22 at hf
  refine tm_w C tfo_Li to_Li_size 0 rfl rfl rfl trivial ?_
  refine tm_wk (lv' := [some (.ref 36), some (.int x1)]) ⟨Or.inr rfl, Or.inr rfl, trivial⟩ ?_
  exact j_Li_size_b23 C G hf
set_option maxRecDepth 100000 in
set_option maxHeartbeats 4000000 in
theorem j_Li_size_b0 {Γ : tm_G} {ex : List tm_Sh} {av : List Value} {X0 : tm_X} {r : Int32 × tm_I × tm_L} (C : tm_C Γ ty_Li_size.1.cls ty_Li_size.2.1 ty_Li_size.2.2.1) (G : tm_Γ ty_Li_size 0 0 0 0 av X0 (tm_is (some (.int r.1)) (sh0 ++ ex, r.2.1, r.2.2, rr)) Γ) {x1 : Int32} {mI : tm_I} {mL : tm_L} (hf : f_Li_size_b0 x1 mI mL = some r) : tm_T Γ 2 0 0 0 [some (.ref 36), some (.int x1)] [] (sh0 ++ ex) mI mL rr := by
  have Ro := G.ro
  unfold f_Li_size_b0 at hf
  refine tm_w C tfo_Li to_Li_size 0 rfl rfl rfl trivial ?_
  refine tm_b C to_Li_size rfl rfl (fun h => ?_) (fun h => ?_)
  · have hf := (if_pos h).symm.trans hf
    refine tm_wk (lv' := [some (.ref 36), some (.int x1)]) ⟨Or.inr rfl, Or.inr rfl, trivial⟩ ?_
    exact j_Li_size_b22 C G hf
  · have hf := (if_neg h).symm.trans hf
    refine tm_w C tfo_Li to_Li_size 3 rfl rfl rfl ⟨rfl, trivial⟩ ?_
    refine tm_b C to_Li_size rfl rfl (fun h => ?_) (fun h => ?_)
    · have hf := (if_pos h).symm.trans hf
      refine tm_wk (lv' := [some (.ref 36), some (.int x1)]) ⟨Or.inr rfl, Or.inr rfl, trivial⟩ ?_
      exact j_Li_size_b22 C G hf
    · have hf := (if_neg h).symm.trans hf
      obtain ⟨c1, hf⟩ := tm_iteN hf
      refine tm_w C tfo_Li to_Li_size 4 rfl rfl rfl ⟨rfl, ⟨_, rfl, c1⟩, trivial⟩ ?_
      refine tm_wk (lv' := [some (.ref 36), some (.int x1)]) ⟨Or.inr rfl, Or.inr rfl, trivial⟩ ?_
      exact j_Li_size_b23 C G hf
set_option maxRecDepth 100000 in
theorem ct_Li_size {ex : List tm_Sh} {p0 : Int32} {mI : tm_I} {mL : tm_L} {r : Int32 × tm_I × tm_L} (hf : f_Li_size p0 mI mL = some r) : tm_M ty_Li_size 0 0 0 0 [.ref 36, .int p0] (sh0 ++ ex, mI, mL, rr) (tm_is (some (.int r.1)) (sh0 ++ ex, r.2.1, r.2.2, rr)) := by
  refine tm_body (by decide) (Nat.le_of_ble_eq_true rfl) fun Γ C G => ?_
  exact j_Li_size_b0 C G hf
/-! Li_keep -/
def f_Li_keep_b38 (x1 : Int32) (x2 : Int32) (x3 : Int32) (mI : tm_I) (mL : tm_L) : Option (Int32 × tm_I × tm_L) := some (0, mI, mL)
def f_Li_keep_b0 (x1 : Int32) (x2 : Int32) (x3 : Int32) (mI : tm_I) (mL : tm_L) : Option (Int32 × tm_I × tm_L) := if x1 < 0 then f_Li_keep_b38 x1 x2 x3 mI mL else if (Int32.ofNat 20) ≤ x1 then f_Li_keep_b38 x1 x2 x3 mI mL else if (Int32.ofNat 20) ≤ x1 then f_Li_keep_b38 x1 x2 x3 mI mL else if ¬ (x1 < 0 ∨ 20 ≤ Int32.toNatClampNeg x1) then if ¬ (x1 < 0 ∨ 20 ≤ Int32.toNatClampNeg x1) then f_Li_keep_b38 x1 x2 x3 (tm_up (tm_up mI 37 (Int32.toNatClampNeg x1) x2) 38 (Int32.toNatClampNeg x1) (x3 - x2)) mL else none else none
abbrev f_Li_keep (p0 : Int32) (p1 : Int32) (p2 : Int32) (mI : tm_I) (mL : tm_L) : Option (Int32 × tm_I × tm_L) := f_Li_keep_b0 p0 p1 p2 mI mL
set_option maxRecDepth 100000 in
set_option maxHeartbeats 4000000 in
theorem j_Li_keep_b38 {Γ : tm_G} {ex : List tm_Sh} {av : List Value} {X0 : tm_X} {r : Int32 × tm_I × tm_L} (C : tm_C Γ ty_Li_keep.1.cls ty_Li_keep.2.1 ty_Li_keep.2.2.1) (G : tm_Γ ty_Li_keep 0 0 0 0 av X0 (tm_is none (sh0 ++ ex, r.2.1, r.2.2, rr)) Γ) {x1 : Int32} {x2 : Int32} {x3 : Int32} {mI : tm_I} {mL : tm_L} (hf : f_Li_keep_b38 x1 x2 x3 mI mL = some r) : tm_T Γ 4 0 0 38 [some (.ref 36), some (.int x1), some (.int x2), some (.int x3)] [] (sh0 ++ ex) mI mL rr := by
  have Ro := G.ro
  unfold f_Li_keep_b38 at hf
  cases hf
  exact tm_ev C G to_Li_keep rfl rfl (Nat.le_refl _) ⟨rfl, rfl⟩
set_option maxRecDepth 100000 in
set_option maxHeartbeats 4000000 in
theorem j_Li_keep_b0 {Γ : tm_G} {ex : List tm_Sh} {av : List Value} {X0 : tm_X} {r : Int32 × tm_I × tm_L} (C : tm_C Γ ty_Li_keep.1.cls ty_Li_keep.2.1 ty_Li_keep.2.2.1) (G : tm_Γ ty_Li_keep 0 0 0 0 av X0 (tm_is none (sh0 ++ ex, r.2.1, r.2.2, rr)) Γ) {x1 : Int32} {x2 : Int32} {x3 : Int32} {mI : tm_I} {mL : tm_L} (hf : f_Li_keep_b0 x1 x2 x3 mI mL = some r) : tm_T Γ 4 0 0 0 [some (.ref 36), some (.int x1), some (.int x2), some (.int x3)] [] (sh0 ++ ex) mI mL rr := by
  have Ro := G.ro
  unfold f_Li_keep_b0 at hf
  refine tm_w C tfo_Li to_Li_keep 0 rfl rfl rfl trivial ?_
  refine tm_b C to_Li_keep rfl rfl (fun h => ?_) (fun h => ?_)
  · have hf := (if_pos h).symm.trans hf
    refine tm_wk (lv' := [some (.ref 36), some (.int x1), some (.int x2), some (.int x3)]) ⟨Or.inr rfl, Or.inr rfl, Or.inr rfl, Or.inr rfl, trivial⟩ ?_
    exact j_Li_keep_b38 C G hf
  · have hf := (if_neg h).symm.trans hf
    refine tm_w C tfo_Li to_Li_keep 3 rfl rfl rfl ⟨rfl, trivial⟩ ?_
    refine tm_b C to_Li_keep rfl rfl (fun h => ?_) (fun h => ?_)
    · have hf := (if_pos h).symm.trans hf
      refine tm_wk (lv' := [some (.ref 36), some (.int x1), some (.int x2), some (.int x3)]) ⟨Or.inr rfl, Or.inr rfl, Or.inr rfl, Or.inr rfl, trivial⟩ ?_
      exact j_Li_keep_b38 C G hf
    · have hf := (if_neg h).symm.trans hf
      refine tm_w C tfo_Li to_Li_keep 3 rfl rfl rfl ⟨rfl, trivial⟩ ?_
      refine tm_b C to_Li_keep rfl rfl (fun h => ?_) (fun h => ?_)
      · have hf := (if_pos h).symm.trans hf
        refine tm_wk (lv' := [some (.ref 36), some (.int x1), some (.int x2), some (.int x3)]) ⟨Or.inr rfl, Or.inr rfl, Or.inr rfl, Or.inr rfl, trivial⟩ ?_
        exact j_Li_keep_b38 C G hf
      · have hf := (if_neg h).symm.trans hf
        obtain ⟨c1, hf⟩ := tm_iteN hf
        obtain ⟨c2, hf⟩ := tm_iteN hf
        refine tm_w C tfo_Li to_Li_keep 11 rfl rfl rfl ⟨rfl, ⟨_, rfl, c1⟩, rfl, ⟨_, rfl, c2⟩, trivial⟩ ?_
        refine tm_wk (lv' := [some (.ref 36), some (.int x1), some (.int x2), some (.int x3)]) ⟨Or.inr rfl, Or.inr rfl, Or.inr rfl, Or.inr rfl, trivial⟩ ?_
        exact j_Li_keep_b38 C G hf
set_option maxRecDepth 100000 in
theorem ct_Li_keep {ex : List tm_Sh} {p0 : Int32} {p1 : Int32} {p2 : Int32} {mI : tm_I} {mL : tm_L} {r : Int32 × tm_I × tm_L} (hf : f_Li_keep p0 p1 p2 mI mL = some r) : tm_M ty_Li_keep 0 0 0 0 [.ref 36, .int p0, .int p1, .int p2] (sh0 ++ ex, mI, mL, rr) (tm_is none (sh0 ++ ex, r.2.1, r.2.2, rr)) := by
  refine tm_body (by decide) (Nat.le_of_ble_eq_true rfl) fun Γ C G => ?_
  exact j_Li_keep_b0 C G hf
/-! Li_pieceEnd -/
def f_Li_pieceEnd_b28 (x1 : Int32) (x2 : Int32) (mI : tm_I) (mL : tm_L) : Option (Int32 × tm_I × tm_L) := some (x2, mI, mL)
def f_Li_pieceEnd_l2 : Nat → Int32 → Int32 → tm_I → tm_L → Option (Int32 × tm_I × tm_L)
  | 0, _, _, _, _ => none
  | n + 1, x1, x2, mI, mL => (f_Ro_size 27 (0 : Int32) mI mL).bind fun v1 => if v1.1 ≤ x2 then f_Li_pieceEnd_b28 x1 x2 v1.2.1 v1.2.2 else (f_Ro_at 27 (0 : Int32) x2 v1.2.1 v1.2.2).bind fun v2 => if v2.1 = (10 : Int32) then f_Li_pieceEnd_b28 x1 x2 v2.2.1 v2.2.2 else (f_Li_pieceEnd_l2 n) x1 (x2 + (1 : Int32)) v2.2.1 v2.2.2
def f_Li_pieceEnd_b0 (x1 : Int32) (mI : tm_I) (mL : tm_L) : Option (Int32 × tm_I × tm_L) := f_Li_pieceEnd_l2 tm_F x1 x1 mI mL
abbrev f_Li_pieceEnd (p1 : Int32) (mI : tm_I) (mL : tm_L) : Option (Int32 × tm_I × tm_L) := f_Li_pieceEnd_b0 p1 mI mL
set_option maxRecDepth 100000 in
set_option maxHeartbeats 4000000 in
theorem j_Li_pieceEnd_b28 {Γ : tm_G} {ex : List tm_Sh} {av : List Value} {X0 : tm_X} {r : Int32 × tm_I × tm_L} (C : tm_C Γ ty_Li_pieceEnd.1.cls ty_Li_pieceEnd.2.1 ty_Li_pieceEnd.2.2.1) (G : tm_Γ ty_Li_pieceEnd 1 22 0 0 av X0 (tm_is (some (.int r.1)) (sh0 ++ ex, r.2.1, r.2.2, rr)) Γ) {x1 : Int32} {x2 : Int32} {mI : tm_I} {mL : tm_L} (hf : f_Li_pieceEnd_b28 x1 x2 mI mL = some r) : tm_T Γ 3 0 0 28 [some (.ref 27), some (.int x1), some (.int x2)] [] (sh0 ++ ex) mI mL rr := by
  have Ro := G.ro
  unfold f_Li_pieceEnd_b28 at hf
  refine tm_w C tfo_Li to_Li_pieceEnd 0 rfl rfl rfl trivial ?_
  cases hf
  exact tm_ei C G to_Li_pieceEnd rfl rfl (Nat.le_refl _) rfl ⟨rfl, rfl⟩
set_option maxRecDepth 100000 in
set_option maxHeartbeats 4000000 in
theorem j_Li_pieceEnd_l2 {Γ : tm_G} {ex : List tm_Sh} {av : List Value} {X0 : tm_X} {r : Int32 × tm_I × tm_L} (C : tm_C Γ ty_Li_pieceEnd.1.cls ty_Li_pieceEnd.2.1 ty_Li_pieceEnd.2.2.1) (G : tm_Γ ty_Li_pieceEnd 1 22 0 0 av X0 (tm_is (some (.int r.1)) (sh0 ++ ex, r.2.1, r.2.2, rr)) Γ) : ∀ (n : Nat) (x1 : Int32) (x2 : Int32) (mI : tm_I) (mL : tm_L), f_Li_pieceEnd_l2 n x1 x2 mI mL = some r → tm_T Γ 3 0 0 2 [some (.ref 27), some (.int x1), some (.int x2)] [] (sh0 ++ ex) mI mL rr := by
  have Ro := G.ro
  intro n
  induction n with
  | zero => intro x1 x2 mI mL hf; cases hf
  | succ n ih =>
    intro x1 x2 mI mL hf
    rw [f_Li_pieceEnd_l2] at hf
    refine tm_w C tfo_Li to_Li_pieceEnd 2 rfl rfl rfl trivial ?_
    obtain ⟨v1, hv1, hf⟩ := Option.bind_eq_some_iff.mp hf
    refine tm_cV C Ro to_Li_pieceEnd tl_Li_26 rfl (ct_Ro_size isRo_27 hv1) rfl rfl rfl rfl rfl rfl rfl (Nat.le_refl _) (Nat.le_refl _) ?_
    refine tm_b C to_Li_pieceEnd rfl rfl (fun h => ?_) (fun h => ?_)
    · have hf := (if_pos h).symm.trans hf
      refine tm_wk (lv' := [some (.ref 27), some (.int x1), some (.int x2)]) ⟨Or.inr rfl, Or.inr rfl, Or.inr rfl, trivial⟩ ?_
      exact j_Li_pieceEnd_b28 C G hf
    · have hf := (if_neg h).symm.trans hf
      refine tm_w C tfo_Li to_Li_pieceEnd 2 rfl rfl rfl trivial ?_
      obtain ⟨v2, hv2, hf⟩ := Option.bind_eq_some_iff.mp hf
      refine tm_cV C Ro to_Li_pieceEnd tl_Li_36 rfl (ct_Ro_at isRo_27 hv2) rfl rfl rfl rfl rfl rfl rfl (Nat.le_refl _) (Nat.le_refl _) ?_
      refine tm_w C tfo_Li to_Li_pieceEnd 0 rfl rfl rfl trivial ?_
      refine tm_b C to_Li_pieceEnd rfl rfl (fun h => ?_) (fun h => ?_)
      · have hf := (if_pos h).symm.trans hf
        refine tm_wk (lv' := [some (.ref 27), some (.int x1), some (.int x2)]) ⟨Or.inr rfl, Or.inr rfl, Or.inr rfl, trivial⟩ ?_
        exact j_Li_pieceEnd_b28 C G hf
      · have hf := (if_neg h).symm.trans hf
        refine tm_w C tfo_Li to_Li_pieceEnd 1 rfl rfl rfl trivial ?_
        refine tm_wk (lv' := [some (.ref 27), some (.int x1), some (.int (x2 + (1 : Int32)))]) ⟨Or.inr rfl, Or.inr rfl, Or.inr rfl, trivial⟩ ?_
        exact ih _ _ _ _ hf
set_option maxRecDepth 100000 in
set_option maxHeartbeats 4000000 in
theorem j_Li_pieceEnd_b0 {Γ : tm_G} {ex : List tm_Sh} {av : List Value} {X0 : tm_X} {r : Int32 × tm_I × tm_L} (C : tm_C Γ ty_Li_pieceEnd.1.cls ty_Li_pieceEnd.2.1 ty_Li_pieceEnd.2.2.1) (G : tm_Γ ty_Li_pieceEnd 1 22 0 0 av X0 (tm_is (some (.int r.1)) (sh0 ++ ex, r.2.1, r.2.2, rr)) Γ) {x1 : Int32} {mI : tm_I} {mL : tm_L} (hf : f_Li_pieceEnd_b0 x1 mI mL = some r) : tm_T Γ 3 0 0 0 [some (.ref 27), some (.int x1), none] [] (sh0 ++ ex) mI mL rr := by
  have Ro := G.ro
  unfold f_Li_pieceEnd_b0 at hf
  refine tm_w C tfo_Li to_Li_pieceEnd 1 rfl rfl rfl trivial ?_
  refine tm_wk (lv' := [some (.ref 27), some (.int x1), some (.int x1)]) ⟨Or.inr rfl, Or.inr rfl, Or.inr rfl, trivial⟩ ?_
  exact j_Li_pieceEnd_l2 C G _ _ _ _ _ hf
set_option maxRecDepth 100000 in
theorem ct_Li_pieceEnd {ex : List tm_Sh} {p1 : Int32} {mI : tm_I} {mL : tm_L} {r : Int32 × tm_I × tm_L} (hf : f_Li_pieceEnd p1 mI mL = some r) : tm_M ty_Li_pieceEnd 1 22 0 0 [.ref 27, .int p1] (sh0 ++ ex, mI, mL, rr) (tm_is (some (.int r.1)) (sh0 ++ ex, r.2.1, r.2.2, rr)) := by
  refine tm_body (by decide) (Nat.le_of_ble_eq_true rfl) fun Γ C G => ?_
  exact j_Li_pieceEnd_b0 C G hf
/-! Li_lastBlank -/
def f_Li_lastBlank_l2 : Nat → Int32 → Int32 → Int32 → tm_I → tm_L → Option (Int32 × tm_I × tm_L)
  | 0, _, _, _, _, _ => none
  | n + 1, x1, x2, x3, mI, mL => if x3 < x1 then some ((-1 : Int32), mI, mL) else (f_Ro_at 27 (0 : Int32) x3 mI mL).bind fun v1 => if ¬ v1.1 = (32 : Int32) then (f_Li_lastBlank_l2 n) x1 x2 (x3 + (-1 : Int32)) v1.2.1 v1.2.2 else some (x3, v1.2.1, v1.2.2)
def f_Li_lastBlank_b0 (x1 : Int32) (x2 : Int32) (mI : tm_I) (mL : tm_L) : Option (Int32 × tm_I × tm_L) := f_Li_lastBlank_l2 tm_F x1 x2 x2 mI mL
abbrev f_Li_lastBlank (p1 : Int32) (p2 : Int32) (mI : tm_I) (mL : tm_L) : Option (Int32 × tm_I × tm_L) := f_Li_lastBlank_b0 p1 p2 mI mL
set_option maxRecDepth 100000 in
set_option maxHeartbeats 4000000 in
theorem j_Li_lastBlank_l2 {Γ : tm_G} {ex : List tm_Sh} {av : List Value} {X0 : tm_X} {r : Int32 × tm_I × tm_L} (C : tm_C Γ ty_Li_lastBlank.1.cls ty_Li_lastBlank.2.1 ty_Li_lastBlank.2.2.1) (G : tm_Γ ty_Li_lastBlank 1 22 0 0 av X0 (tm_is (some (.int r.1)) (sh0 ++ ex, r.2.1, r.2.2, rr)) Γ) : ∀ (n : Nat) (x1 : Int32) (x2 : Int32) (x3 : Int32) (mI : tm_I) (mL : tm_L), f_Li_lastBlank_l2 n x1 x2 x3 mI mL = some r → tm_T Γ 4 0 0 2 [some (.ref 27), some (.int x1), some (.int x2), some (.int x3)] [] (sh0 ++ ex) mI mL rr := by
  have Ro := G.ro
  intro n
  induction n with
  | zero => intro x1 x2 x3 mI mL hf; cases hf
  | succ n ih =>
    intro x1 x2 x3 mI mL hf
    rw [f_Li_lastBlank_l2] at hf
    refine tm_w C tfo_Li to_Li_lastBlank 1 rfl rfl rfl trivial ?_
    refine tm_b C to_Li_lastBlank rfl rfl (fun h => ?_) (fun h => ?_)
    · have hf := (if_pos h).symm.trans hf
      refine tm_w C tfo_Li to_Li_lastBlank 0 rfl rfl rfl trivial ?_
      cases hf
      exact tm_ei C G to_Li_lastBlank rfl rfl (Nat.le_refl _) rfl ⟨rfl, rfl⟩
    · have hf := (if_neg h).symm.trans hf
      refine tm_w C tfo_Li to_Li_lastBlank 2 rfl rfl rfl trivial ?_
      obtain ⟨v1, hv1, hf⟩ := Option.bind_eq_some_iff.mp hf
      refine tm_cV C Ro to_Li_lastBlank tl_Li_36 rfl (ct_Ro_at isRo_27 hv1) rfl rfl rfl rfl rfl rfl rfl (Nat.le_refl _) (Nat.le_refl _) ?_
      refine tm_w C tfo_Li to_Li_lastBlank 0 rfl rfl rfl trivial ?_
      refine tm_b C to_Li_lastBlank rfl rfl (fun h => ?_) (fun h => ?_)
      · have hf := (if_pos h).symm.trans hf
        refine tm_w C tfo_Li to_Li_lastBlank 1 rfl rfl rfl trivial ?_
        refine tm_wk (lv' := [some (.ref 27), some (.int x1), some (.int x2), some (.int (x3 + (-1 : Int32)))]) ⟨Or.inr rfl, Or.inr rfl, Or.inr rfl, Or.inr rfl, trivial⟩ ?_
        exact ih _ _ _ _ _ hf
      · have hf := (if_neg h).symm.trans hf
        refine tm_w C tfo_Li to_Li_lastBlank 0 rfl rfl rfl trivial ?_
        cases hf
        exact tm_ei C G to_Li_lastBlank rfl rfl (Nat.le_refl _) rfl ⟨rfl, rfl⟩
set_option maxRecDepth 100000 in
set_option maxHeartbeats 4000000 in
theorem j_Li_lastBlank_b0 {Γ : tm_G} {ex : List tm_Sh} {av : List Value} {X0 : tm_X} {r : Int32 × tm_I × tm_L} (C : tm_C Γ ty_Li_lastBlank.1.cls ty_Li_lastBlank.2.1 ty_Li_lastBlank.2.2.1) (G : tm_Γ ty_Li_lastBlank 1 22 0 0 av X0 (tm_is (some (.int r.1)) (sh0 ++ ex, r.2.1, r.2.2, rr)) Γ) {x1 : Int32} {x2 : Int32} {mI : tm_I} {mL : tm_L} (hf : f_Li_lastBlank_b0 x1 x2 mI mL = some r) : tm_T Γ 4 0 0 0 [some (.ref 27), some (.int x1), some (.int x2), none] [] (sh0 ++ ex) mI mL rr := by
  have Ro := G.ro
  unfold f_Li_lastBlank_b0 at hf
  refine tm_w C tfo_Li to_Li_lastBlank 1 rfl rfl rfl trivial ?_
  refine tm_wk (lv' := [some (.ref 27), some (.int x1), some (.int x2), some (.int x2)]) ⟨Or.inr rfl, Or.inr rfl, Or.inr rfl, Or.inr rfl, trivial⟩ ?_
  exact j_Li_lastBlank_l2 C G _ _ _ _ _ _ hf
set_option maxRecDepth 100000 in
theorem ct_Li_lastBlank {ex : List tm_Sh} {p1 : Int32} {p2 : Int32} {mI : tm_I} {mL : tm_L} {r : Int32 × tm_I × tm_L} (hf : f_Li_lastBlank p1 p2 mI mL = some r) : tm_M ty_Li_lastBlank 1 22 0 0 [.ref 27, .int p1, .int p2] (sh0 ++ ex, mI, mL, rr) (tm_is (some (.int r.1)) (sh0 ++ ex, r.2.1, r.2.2, rr)) := by
  refine tm_body (by decide) (Nat.le_of_ble_eq_true rfl) fun Γ C G => ?_
  exact j_Li_lastBlank_b0 C G hf
/-! Li_cut -/
def f_Li_cut_b107 (r5 : Int32 → Int32 → Int32 → tm_I → tm_L → Option (Int32 × tm_I × tm_L)) (x2 : Int32) (x3 : Int32) (x4 : Int32) (x5 : Int32) (mI : tm_I) (mL : tm_L) : Option (Int32 × tm_I × tm_L) := r5 x2 x3 (x4 + (1 : Int32)) mI mL
def f_Li_cut_b106 (r5 : Int32 → Int32 → Int32 → tm_I → tm_L → Option (Int32 × tm_I × tm_L)) (x2 : Int32) (x3 : Int32) (x4 : Int32) (x5 : Int32) (x6 : Int32) (s0 : Int32) (mI : tm_I) (mL : tm_L) : Option (Int32 × tm_I × tm_L) := f_Li_cut_b107 r5 x2 s0 x4 x5 mI mL
def f_Li_cut_b87 (r5 : Int32 → Int32 → Int32 → tm_I → tm_L → Option (Int32 × tm_I × tm_L)) (x2 : Int32) (x3 : Int32) (x4 : Int32) (x5 : Int32) (x6 : Int32) (s1 : Int32) (s2 : Int32) (s3 : Int32) (mI : tm_I) (mL : tm_L) : Option (Int32 × tm_I × tm_L) := (f_Li_keep s1 s2 s3 mI mL).bind fun v1 => if ¬ x6 = (-1 : Int32) then f_Li_cut_b106 r5 x2 x3 x4 x5 x6 (x6 + (1 : Int32)) v1.2.1 v1.2.2 else f_Li_cut_b106 r5 x2 x3 x4 x5 x6 (x3 + x2) v1.2.1 v1.2.2
def f_Li_cut_l5 : Nat → Int32 → Int32 → Int32 → tm_I → tm_L → Option (Int32 × tm_I × tm_L)
  | 0, _, _, _, _, _ => none
  | n + 1, x2, x3, x4, mI, mL => if (20 : Int32) ≤ x4 then some ((-1 : Int32), mI, mL) else (f_Li_pieceEnd x3 mI mL).bind fun v2 => if x2 < (v2.1 - x3) then (f_Li_lastBlank x3 (x3 + x2) v2.2.1 v2.2.2).bind fun v3 => if ¬ v3.1 = (-1 : Int32) then f_Li_cut_b87 (f_Li_cut_l5 n) x2 x3 x4 v2.1 v3.1 x4 x3 v3.1 v3.2.1 v3.2.2 else f_Li_cut_b87 (f_Li_cut_l5 n) x2 x3 x4 v2.1 v3.1 x4 x3 (x3 + x2) v3.2.1 v3.2.2 else (f_Li_keep x4 x3 v2.1 v2.2.1 v2.2.2).bind fun v4 => (f_Ro_size 27 (0 : Int32) v4.2.1 v4.2.2).bind fun v5 => if v2.1 < v5.1 then f_Li_cut_b107 (f_Li_cut_l5 n) x2 (v2.1 + (1 : Int32)) x4 v2.1 v5.2.1 v5.2.2 else some ((x4 + (1 : Int32)), v5.2.1, v5.2.2)
def f_Li_cut_b0 (x2 : Int32) (mI : tm_I) (mL : tm_L) : Option (Int32 × tm_I × tm_L) := f_Li_cut_l5 tm_F x2 (0 : Int32) (0 : Int32) mI mL
abbrev f_Li_cut (p1 : Int32) (mI : tm_I) (mL : tm_L) : Option (Int32 × tm_I × tm_L) := f_Li_cut_b0 p1 mI mL
set_option maxRecDepth 100000 in
set_option maxHeartbeats 4000000 in
theorem j_Li_cut_b107 {Γ : tm_G} {ex : List tm_Sh} {av : List Value} {X0 : tm_X} {r5 : Int32 → Int32 → Int32 → tm_I → tm_L → Option (Int32 × tm_I × tm_L)} {r : Int32 × tm_I × tm_L} (C : tm_C Γ ty_Li_cut.1.cls ty_Li_cut.2.1 ty_Li_cut.2.2.1) (G : tm_Γ ty_Li_cut 2 45 0 0 av X0 (tm_is (some (.int r.1)) (sh0 ++ ex, r.2.1, r.2.2, rr)) Γ) (H5 : ∀ (x2 : Int32) (x3 : Int32) (x4 : Int32) (mI : tm_I) (mL : tm_L), r5 x2 x3 x4 mI mL = some r → tm_T Γ 7 0 0 5 [some (.ref 36), some (.ref 27), some (.int x2), some (.int x3), some (.int x4), none, none] [] (sh0 ++ ex) mI mL rr) {x2 : Int32} {x3 : Int32} {x4 : Int32} {x5 : Int32} {mI : tm_I} {mL : tm_L} (hf : f_Li_cut_b107 r5 x2 x3 x4 x5 mI mL = some r) : tm_T Γ 7 0 0 107 [some (.ref 36), some (.ref 27), some (.int x2), some (.int x3), some (.int x4), some (.int x5), none] [] (sh0 ++ ex) mI mL rr := by
  have Ro := G.ro
  unfold f_Li_cut_b107 at hf
  refine tm_w C tfo_Li to_Li_cut 1 rfl rfl rfl trivial ?_
  refine tm_wk (lv' := [some (.ref 36), some (.ref 27), some (.int x2), some (.int x3), some (.int (x4 + (1 : Int32))), none, none]) ⟨Or.inr rfl, Or.inr rfl, Or.inr rfl, Or.inr rfl, Or.inr rfl, Or.inl rfl, Or.inl rfl, trivial⟩ ?_
  exact H5 _ _ _ _ _ hf
set_option maxRecDepth 100000 in
set_option maxHeartbeats 4000000 in
theorem j_Li_cut_b106 {Γ : tm_G} {ex : List tm_Sh} {av : List Value} {X0 : tm_X} {r5 : Int32 → Int32 → Int32 → tm_I → tm_L → Option (Int32 × tm_I × tm_L)} {r : Int32 × tm_I × tm_L} (C : tm_C Γ ty_Li_cut.1.cls ty_Li_cut.2.1 ty_Li_cut.2.2.1) (G : tm_Γ ty_Li_cut 2 45 0 0 av X0 (tm_is (some (.int r.1)) (sh0 ++ ex, r.2.1, r.2.2, rr)) Γ) (H5 : ∀ (x2 : Int32) (x3 : Int32) (x4 : Int32) (mI : tm_I) (mL : tm_L), r5 x2 x3 x4 mI mL = some r → tm_T Γ 7 0 0 5 [some (.ref 36), some (.ref 27), some (.int x2), some (.int x3), some (.int x4), none, none] [] (sh0 ++ ex) mI mL rr) {x2 : Int32} {x3 : Int32} {x4 : Int32} {x5 : Int32} {x6 : Int32} {s0 : Int32} {mI : tm_I} {mL : tm_L} (hf : f_Li_cut_b106 r5 x2 x3 x4 x5 x6 s0 mI mL = some r) : tm_T Γ 7 0 0 106 [some (.ref 36), some (.ref 27), some (.int x2), some (.int x3), some (.int x4), some (.int x5), some (.int x6)] [.int s0] (sh0 ++ ex) mI mL rr := by
  have Ro := G.ro
  unfold f_Li_cut_b106 at hf
  refine tm_w C tfo_Li to_Li_cut 0 rfl rfl rfl trivial ?_
  refine tm_wk (lv' := [some (.ref 36), some (.ref 27), some (.int x2), some (.int s0), some (.int x4), some (.int x5), none]) ⟨Or.inr rfl, Or.inr rfl, Or.inr rfl, Or.inr rfl, Or.inr rfl, Or.inr rfl, Or.inl rfl, trivial⟩ ?_
  exact j_Li_cut_b107 C G (H5) hf
set_option maxRecDepth 100000 in
set_option maxHeartbeats 4000000 in
theorem j_Li_cut_b87 {Γ : tm_G} {ex : List tm_Sh} {av : List Value} {X0 : tm_X} {r5 : Int32 → Int32 → Int32 → tm_I → tm_L → Option (Int32 × tm_I × tm_L)} {r : Int32 × tm_I × tm_L} (C : tm_C Γ ty_Li_cut.1.cls ty_Li_cut.2.1 ty_Li_cut.2.2.1) (G : tm_Γ ty_Li_cut 2 45 0 0 av X0 (tm_is (some (.int r.1)) (sh0 ++ ex, r.2.1, r.2.2, rr)) Γ) (H5 : ∀ (x2 : Int32) (x3 : Int32) (x4 : Int32) (mI : tm_I) (mL : tm_L), r5 x2 x3 x4 mI mL = some r → tm_T Γ 7 0 0 5 [some (.ref 36), some (.ref 27), some (.int x2), some (.int x3), some (.int x4), none, none] [] (sh0 ++ ex) mI mL rr) {x2 : Int32} {x3 : Int32} {x4 : Int32} {x5 : Int32} {x6 : Int32} {s1 : Int32} {s2 : Int32} {s3 : Int32} {mI : tm_I} {mL : tm_L} (hf : f_Li_cut_b87 r5 x2 x3 x4 x5 x6 s1 s2 s3 mI mL = some r) : tm_T Γ 7 0 0 87 [some (.ref 36), some (.ref 27), some (.int x2), some (.int x3), some (.int x4), some (.int x5), some (.int x6)] [.int s3, .int s2, .int s1, .ref 36] (sh0 ++ ex) mI mL rr := by
  have Ro := G.ro
  unfold f_Li_cut_b87 at hf
  obtain ⟨v1, hv1, hf⟩ := Option.bind_eq_some_iff.mp hf
  refine tm_cV C Ro to_Li_cut tl_Li_22 rfl (ct_Li_keep hv1) rfl rfl rfl rfl rfl rfl rfl (Nat.le_refl _) (Nat.le_refl _) ?_
  refine tm_w C tfo_Li to_Li_cut 1 rfl rfl rfl trivial ?_
  refine tm_b C to_Li_cut rfl rfl (fun h => ?_) (fun h => ?_)
  · have hf := (if_pos h).symm.trans hf
    refine tm_w C tfo_Li to_Li_cut 2 rfl rfl rfl trivial ?_
    refine tm_wk (lv' := [some (.ref 36), some (.ref 27), some (.int x2), some (.int x3), some (.int x4), some (.int x5), some (.int x6)]) ⟨Or.inr rfl, Or.inr rfl, Or.inr rfl, Or.inr rfl, Or.inr rfl, Or.inr rfl, Or.inr rfl, trivial⟩ ?_
    exact j_Li_cut_b106 C G (H5) hf
  · have hf := (if_neg h).symm.trans hf
    refine tm_w C tfo_Li to_Li_cut 3 rfl rfl rfl trivial ?_
    refine tm_wk (lv' := [some (.ref 36), some (.ref 27), some (.int x2), some (.int x3), some (.int x4), some (.int x5), some (.int x6)]) ⟨Or.inr rfl, Or.inr rfl, Or.inr rfl, Or.inr rfl, Or.inr rfl, Or.inr rfl, Or.inr rfl, trivial⟩ ?_
    exact j_Li_cut_b106 C G (H5) hf
set_option maxRecDepth 100000 in
set_option maxHeartbeats 4000000 in
theorem j_Li_cut_l5 {Γ : tm_G} {ex : List tm_Sh} {av : List Value} {X0 : tm_X} {r : Int32 × tm_I × tm_L} (C : tm_C Γ ty_Li_cut.1.cls ty_Li_cut.2.1 ty_Li_cut.2.2.1) (G : tm_Γ ty_Li_cut 2 45 0 0 av X0 (tm_is (some (.int r.1)) (sh0 ++ ex, r.2.1, r.2.2, rr)) Γ) : ∀ (n : Nat) (x2 : Int32) (x3 : Int32) (x4 : Int32) (mI : tm_I) (mL : tm_L), f_Li_cut_l5 n x2 x3 x4 mI mL = some r → tm_T Γ 7 0 0 5 [some (.ref 36), some (.ref 27), some (.int x2), some (.int x3), some (.int x4), none, none] [] (sh0 ++ ex) mI mL rr := by
  have Ro := G.ro
  intro n
  induction n with
  | zero => intro x2 x3 x4 mI mL hf; cases hf
  | succ n ih =>
    intro x2 x3 x4 mI mL hf
    rw [f_Li_cut_l5] at hf
    refine tm_w C tfo_Li to_Li_cut 1 rfl rfl rfl trivial ?_
    refine tm_b C to_Li_cut rfl rfl (fun h => ?_) (fun h => ?_)
    · have hf := (if_pos h).symm.trans hf
      refine tm_w C tfo_Li to_Li_cut 0 rfl rfl rfl trivial ?_
      cases hf
      exact tm_ei C G to_Li_cut rfl rfl (Nat.le_refl _) rfl ⟨rfl, rfl⟩
    · have hf := (if_neg h).symm.trans hf
      refine tm_w C tfo_Li to_Li_cut 1 rfl rfl rfl trivial ?_
      obtain ⟨v2, hv2, hf⟩ := Option.bind_eq_some_iff.mp hf
      refine tm_cS C Ro to_Li_cut tl_Li_18 rfl (ct_Li_pieceEnd hv2) rfl rfl rfl rfl rfl (Nat.le_refl _) (Nat.le_refl _) ?_
      refine tm_w C tfo_Li to_Li_cut 4 rfl rfl rfl trivial ?_
      refine tm_b C to_Li_cut rfl rfl (fun h => ?_) (fun h => ?_)
      · have hf := (if_pos h).symm.trans hf
        refine tm_w C tfo_Li to_Li_cut 4 rfl rfl rfl trivial ?_
        obtain ⟨v3, hv3, hf⟩ := Option.bind_eq_some_iff.mp hf
        refine tm_cS C Ro to_Li_cut tl_Li_32 rfl (ct_Li_lastBlank hv3) rfl rfl rfl rfl rfl (Nat.le_refl _) (Nat.le_refl _) ?_
        refine tm_w C tfo_Li to_Li_cut 5 rfl rfl rfl trivial ?_
        refine tm_b C to_Li_cut rfl rfl (fun h => ?_) (fun h => ?_)
        · have hf := (if_pos h).symm.trans hf
          refine tm_w C tfo_Li to_Li_cut 0 rfl rfl rfl trivial ?_
          refine tm_wk (lv' := [some (.ref 36), some (.ref 27), some (.int x2), some (.int x3), some (.int x4), some (.int v2.1), some (.int v3.1)]) ⟨Or.inr rfl, Or.inr rfl, Or.inr rfl, Or.inr rfl, Or.inr rfl, Or.inr rfl, Or.inr rfl, trivial⟩ ?_
          exact j_Li_cut_b87 C G (ih) hf
        · have hf := (if_neg h).symm.trans hf
          refine tm_w C tfo_Li to_Li_cut 3 rfl rfl rfl trivial ?_
          refine tm_wk (lv' := [some (.ref 36), some (.ref 27), some (.int x2), some (.int x3), some (.int x4), some (.int v2.1), some (.int v3.1)]) ⟨Or.inr rfl, Or.inr rfl, Or.inr rfl, Or.inr rfl, Or.inr rfl, Or.inr rfl, Or.inr rfl, trivial⟩ ?_
          exact j_Li_cut_b87 C G (ih) hf
      · have hf := (if_neg h).symm.trans hf
        refine tm_w C tfo_Li to_Li_cut 3 rfl rfl rfl trivial ?_
        obtain ⟨v4, hv4, hf⟩ := Option.bind_eq_some_iff.mp hf
        refine tm_cV C Ro to_Li_cut tl_Li_22 rfl (ct_Li_keep hv4) rfl rfl rfl rfl rfl rfl rfl (Nat.le_refl _) (Nat.le_refl _) ?_
        refine tm_w C tfo_Li to_Li_cut 2 rfl rfl rfl trivial ?_
        obtain ⟨v5, hv5, hf⟩ := Option.bind_eq_some_iff.mp hf
        refine tm_cV C Ro to_Li_cut tl_Li_26 rfl (ct_Ro_size isRo_27 hv5) rfl rfl rfl rfl rfl rfl rfl (Nat.le_refl _) (Nat.le_refl _) ?_
        refine tm_b C to_Li_cut rfl rfl (fun h => ?_) (fun h => ?_)
        · have hf := (if_pos h).symm.trans hf
          refine tm_w C tfo_Li to_Li_cut 4 rfl rfl rfl trivial ?_
          refine tm_wk (lv' := [some (.ref 36), some (.ref 27), some (.int x2), some (.int (v2.1 + (1 : Int32))), some (.int x4), some (.int v2.1), none]) ⟨Or.inr rfl, Or.inr rfl, Or.inr rfl, Or.inr rfl, Or.inr rfl, Or.inr rfl, Or.inl rfl, trivial⟩ ?_
          exact j_Li_cut_b107 C G (ih) hf
        · have hf := (if_neg h).symm.trans hf
          refine tm_w C tfo_Li to_Li_cut 2 rfl rfl rfl trivial ?_
          cases hf
          exact tm_ei C G to_Li_cut rfl rfl (Nat.le_refl _) rfl ⟨rfl, rfl⟩
set_option maxRecDepth 100000 in
set_option maxHeartbeats 4000000 in
theorem j_Li_cut_b0 {Γ : tm_G} {ex : List tm_Sh} {av : List Value} {X0 : tm_X} {r : Int32 × tm_I × tm_L} (C : tm_C Γ ty_Li_cut.1.cls ty_Li_cut.2.1 ty_Li_cut.2.2.1) (G : tm_Γ ty_Li_cut 2 45 0 0 av X0 (tm_is (some (.int r.1)) (sh0 ++ ex, r.2.1, r.2.2, rr)) Γ) {x2 : Int32} {mI : tm_I} {mL : tm_L} (hf : f_Li_cut_b0 x2 mI mL = some r) : tm_T Γ 7 0 0 0 [some (.ref 36), some (.ref 27), some (.int x2), none, none, none, none] [] (sh0 ++ ex) mI mL rr := by
  have Ro := G.ro
  unfold f_Li_cut_b0 at hf
  refine tm_w C tfo_Li to_Li_cut 3 rfl rfl rfl trivial ?_
  refine tm_wk (lv' := [some (.ref 36), some (.ref 27), some (.int x2), some (.int (0 : Int32)), some (.int (0 : Int32)), none, none]) ⟨Or.inr rfl, Or.inr rfl, Or.inr rfl, Or.inr rfl, Or.inr rfl, Or.inl rfl, Or.inl rfl, trivial⟩ ?_
  exact j_Li_cut_l5 C G _ _ _ _ _ _ hf
set_option maxRecDepth 100000 in
theorem ct_Li_cut {ex : List tm_Sh} {p1 : Int32} {mI : tm_I} {mL : tm_L} {r : Int32 × tm_I × tm_L} (hf : f_Li_cut p1 mI mL = some r) : tm_M ty_Li_cut 2 45 0 0 [.ref 36, .ref 27, .int p1] (sh0 ++ ex, mI, mL, rr) (tm_is (some (.int r.1)) (sh0 ++ ex, r.2.1, r.2.2, rr)) := by
  refine tm_body (by decide) (Nat.le_of_ble_eq_true rfl) fun Γ C G => ?_
  exact j_Li_cut_b0 C G hf
