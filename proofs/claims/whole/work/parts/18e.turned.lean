/-! Pr_begin -/
def f_Pr_begin_b0  (mI : tm_I) (mL : tm_L) : Option (Int32 × tm_I × tm_L) := (f_Sh_clear mI mL).bind fun v1 => some (0, tm_up v1.2.1 19 5 (0 : Int32), v1.2.2)
abbrev f_Pr_begin  (mI : tm_I) (mL : tm_L) : Option (Int32 × tm_I × tm_L) := f_Pr_begin_b0  mI mL
set_option maxRecDepth 100000 in
set_option maxHeartbeats 4000000 in
theorem j_Pr_begin_b0 {Γ : tm_G} {ex : List tm_Sh} {av : List Value} {X0 : tm_X} {r : Int32 × tm_I × tm_L} (C : tm_C Γ ty_Pr_begin.1.cls ty_Pr_begin.2.1 ty_Pr_begin.2.2.1) (G : tm_Γ ty_Pr_begin 1 20 0 0 av X0 (tm_is none (sh0 ++ ex, r.2.1, r.2.2, rr)) Γ) {mI : tm_I} {mL : tm_L} (hf : f_Pr_begin_b0  mI mL = some r) : tm_T Γ 1 0 0 0 [some (.ref 19)] [] (sh0 ++ ex) mI mL rr := by
  have Ro := G.ro
  unfold f_Pr_begin_b0 at hf
  refine tm_w C tfo_Pr to_Pr_begin 1 rfl rfl rfl ⟨rfl, trivial⟩ ?_
  obtain ⟨v1, hv1, hf⟩ := Option.bind_eq_some_iff.mp hf
  refine tm_cV C Ro to_Pr_begin tl_Pr_42 rfl (ct_Sh_clear hv1) rfl rfl rfl rfl rfl rfl rfl (Nat.le_refl _) (Nat.le_refl _) ?_
  refine tm_w C tfo_Pr to_Pr_begin 2 rfl rfl rfl ⟨rfl, rfl, rfl, trivial⟩ ?_
  cases hf
  exact tm_ev C G to_Pr_begin rfl rfl (Nat.le_refl _) ⟨rfl, rfl⟩
set_option maxRecDepth 100000 in
theorem ct_Pr_begin {ex : List tm_Sh}  {mI : tm_I} {mL : tm_L} {r : Int32 × tm_I × tm_L} (hf : f_Pr_begin  mI mL = some r) : tm_M ty_Pr_begin 1 20 0 0 [.ref 19] (sh0 ++ ex, mI, mL, rr) (tm_is none (sh0 ++ ex, r.2.1, r.2.2, rr)) := by
  refine tm_body (by decide) (Nat.le_of_ble_eq_true rfl) fun Γ C G => ?_
  exact j_Pr_begin_b0 C G hf
/-! Pr_openLabel -/
def f_Pr_openLabel_b0  (mI : tm_I) (mL : tm_L) : Option (Int32 × tm_I × tm_L) := (f_Fo_get 17 (0 : Int32) (tm_up mI 19 5 (1 : Int32)) mL).bind fun v1 => (f_Fo_get 17 (1 : Int32) (tm_up v1.2.1 19 6 v1.1) v1.2.2).bind fun v2 => (f_Fo_setAll 32 (0 : Int32) (1 : Int32) (1 : Int32) (0 : Int32) (tm_up (tm_up (tm_up (tm_up v2.2.1 19 7 v2.1) 19 8 (0 : Int32)) 19 9 (0 : Int32)) 19 10 (1 : Int32)) v2.2.2).bind fun v3 => (f_Fi_begin v3.2.1 v3.2.2).bind fun v4 => some (0, v4.2.1, v4.2.2)
abbrev f_Pr_openLabel  (mI : tm_I) (mL : tm_L) : Option (Int32 × tm_I × tm_L) := f_Pr_openLabel_b0  mI mL
set_option maxRecDepth 100000 in
set_option maxHeartbeats 4000000 in
theorem j_Pr_openLabel_b0 {Γ : tm_G} {ex : List tm_Sh} {av : List Value} {X0 : tm_X} {r : Int32 × tm_I × tm_L} (C : tm_C Γ ty_Pr_openLabel.1.cls ty_Pr_openLabel.2.1 ty_Pr_openLabel.2.2.1) (G : tm_Γ ty_Pr_openLabel 2 46 0 0 av X0 (tm_is none (sh0 ++ ex, r.2.1, r.2.2, rr)) Γ) {mI : tm_I} {mL : tm_L} (hf : f_Pr_openLabel_b0  mI mL = some r) : tm_T Γ 2 0 0 0 [some (.ref 19), some (.ref 17)] [] (sh0 ++ ex) mI mL rr := by
  have Ro := G.ro
  unfold f_Pr_openLabel_b0 at hf
  refine tm_w C tfo_Pr to_Pr_openLabel 5 rfl rfl rfl ⟨rfl, rfl, rfl, trivial⟩ ?_
  obtain ⟨v1, hv1, hf⟩ := Option.bind_eq_some_iff.mp hf
  refine tm_cV C Ro to_Pr_openLabel tl_Pr_49 rfl (ct_Fo_get isFo_17 hv1) rfl rfl rfl rfl rfl rfl rfl (Nat.le_refl _) (Nat.le_refl _) ?_
  refine tm_w C tfo_Pr to_Pr_openLabel 3 rfl rfl rfl ⟨rfl, trivial⟩ ?_
  obtain ⟨v2, hv2, hf⟩ := Option.bind_eq_some_iff.mp hf
  refine tm_cV C Ro to_Pr_openLabel tl_Pr_49 rfl (ct_Fo_get isFo_17 hv2) rfl rfl rfl rfl rfl rfl rfl (Nat.le_refl _) (Nat.le_refl _) ?_
  refine tm_w C tfo_Pr to_Pr_openLabel 15 rfl rfl rfl ⟨rfl, rfl, rfl, rfl, rfl, trivial⟩ ?_
  obtain ⟨v3, hv3, hf⟩ := Option.bind_eq_some_iff.mp hf
  refine tm_cV C Ro to_Pr_openLabel tl_Pr_69 rfl (ct_Fo_setAll isFo_32 hv3) rfl rfl rfl rfl rfl rfl rfl (Nat.le_refl _) (Nat.le_refl _) ?_
  refine tm_w C tfo_Pr to_Pr_openLabel 1 rfl rfl rfl ⟨rfl, trivial⟩ ?_
  obtain ⟨v4, hv4, hf⟩ := Option.bind_eq_some_iff.mp hf
  refine tm_cV C Ro to_Pr_openLabel tl_Pr_73 rfl (ct_Fi_begin hv4) rfl rfl rfl rfl rfl rfl rfl (Nat.le_refl _) (Nat.le_refl _) ?_
  cases hf
  exact tm_ev C G to_Pr_openLabel rfl rfl (Nat.le_refl _) ⟨rfl, rfl⟩
set_option maxRecDepth 100000 in
theorem ct_Pr_openLabel {ex : List tm_Sh}  {mI : tm_I} {mL : tm_L} {r : Int32 × tm_I × tm_L} (hf : f_Pr_openLabel  mI mL = some r) : tm_M ty_Pr_openLabel 2 46 0 0 [.ref 19, .ref 17] (sh0 ++ ex, mI, mL, rr) (tm_is none (sh0 ++ ex, r.2.1, r.2.2, rr)) := by
  refine tm_body (by decide) (Nat.le_of_ble_eq_true rfl) fun Γ C G => ?_
  exact j_Pr_openLabel_b0 C G hf
/-! Pr_closeLabel -/
def f_Pr_closeLabel_b33 (s0 : Int32) (mI : tm_I) (mL : tm_L) : Option (Int32 × tm_I × tm_L) := some (s0, mI, mL)
def f_Pr_closeLabel_b0  (mI : tm_I) (mL : tm_L) : Option (Int32 × tm_I × tm_L) := (f_Sh_endLabel ((tm_up mI 19 5 (0 : Int32)) 19 6) ((tm_up mI 19 5 (0 : Int32)) 19 7) ((tm_up mI 19 5 (0 : Int32)) 19 10) (tm_up mI 19 5 (0 : Int32)) mL).bind fun v1 => if v1.1 = 0 then f_Pr_closeLabel_b33 (10 : Int32) v1.2.1 v1.2.2 else f_Pr_closeLabel_b33 (0 : Int32) v1.2.1 v1.2.2
abbrev f_Pr_closeLabel  (mI : tm_I) (mL : tm_L) : Option (Int32 × tm_I × tm_L) := f_Pr_closeLabel_b0  mI mL
set_option maxRecDepth 100000 in
set_option maxHeartbeats 4000000 in
theorem j_Pr_closeLabel_b33 {Γ : tm_G} {ex : List tm_Sh} {av : List Value} {X0 : tm_X} {r : Int32 × tm_I × tm_L} (C : tm_C Γ ty_Pr_closeLabel.1.cls ty_Pr_closeLabel.2.1 ty_Pr_closeLabel.2.2.1) (G : tm_Γ ty_Pr_closeLabel 3 73 0 0 av X0 (tm_is (some (.int r.1)) (sh0 ++ ex, r.2.1, r.2.2, rr)) Γ) {s0 : Int32} {mI : tm_I} {mL : tm_L} (hf : f_Pr_closeLabel_b33 s0 mI mL = some r) : tm_T Γ 1 0 0 33 [some (.ref 19)] [.int s0] (sh0 ++ ex) mI mL rr := by
  have Ro := G.ro
  unfold f_Pr_closeLabel_b33 at hf
  cases hf
  exact tm_ei C G to_Pr_closeLabel rfl rfl (Nat.le_refl _) rfl ⟨rfl, rfl⟩
set_option maxRecDepth 100000 in
set_option maxHeartbeats 4000000 in
theorem j_Pr_closeLabel_b0 {Γ : tm_G} {ex : List tm_Sh} {av : List Value} {X0 : tm_X} {r : Int32 × tm_I × tm_L} (C : tm_C Γ ty_Pr_closeLabel.1.cls ty_Pr_closeLabel.2.1 ty_Pr_closeLabel.2.2.1) (G : tm_Γ ty_Pr_closeLabel 3 73 0 0 av X0 (tm_is (some (.int r.1)) (sh0 ++ ex, r.2.1, r.2.2, rr)) Γ) {mI : tm_I} {mL : tm_L} (hf : f_Pr_closeLabel_b0  mI mL = some r) : tm_T Γ 1 0 0 0 [some (.ref 19)] [] (sh0 ++ ex) mI mL rr := by
  have Ro := G.ro
  unfold f_Pr_closeLabel_b0 at hf
  refine tm_w C tfo_Pr to_Pr_closeLabel 10 rfl rfl rfl ⟨rfl, rfl, rfl, rfl, rfl, rfl, rfl, trivial⟩ ?_
  obtain ⟨v1, hv1, hf⟩ := Option.bind_eq_some_iff.mp hf
  refine tm_cV C Ro to_Pr_closeLabel tl_Pr_76 rfl (ct_Sh_endLabel hv1) rfl rfl rfl rfl rfl rfl rfl (Nat.le_refl _) (Nat.le_refl _) ?_
  refine tm_b C to_Pr_closeLabel rfl rfl (fun h => ?_) (fun h => ?_)
  · have hf := (if_pos h).symm.trans hf
    refine tm_w C tfo_Pr to_Pr_closeLabel 0 rfl rfl rfl trivial ?_
    refine tm_wk (lv' := [some (.ref 19)]) ⟨Or.inr rfl, trivial⟩ ?_
    exact j_Pr_closeLabel_b33 C G hf
  · have hf := (if_neg h).symm.trans hf
    refine tm_w C tfo_Pr to_Pr_closeLabel 1 rfl rfl rfl trivial ?_
    refine tm_wk (lv' := [some (.ref 19)]) ⟨Or.inr rfl, trivial⟩ ?_
    exact j_Pr_closeLabel_b33 C G hf
set_option maxRecDepth 100000 in
theorem ct_Pr_closeLabel {ex : List tm_Sh}  {mI : tm_I} {mL : tm_L} {r : Int32 × tm_I × tm_L} (hf : f_Pr_closeLabel  mI mL = some r) : tm_M ty_Pr_closeLabel 3 73 0 0 [.ref 19] (sh0 ++ ex, mI, mL, rr) (tm_is (some (.int r.1)) (sh0 ++ ex, r.2.1, r.2.2, rr)) := by
  refine tm_body (by decide) (Nat.le_of_ble_eq_true rfl) fun Γ C G => ?_
  exact j_Pr_closeLabel_b0 C G hf
/-! Pr_settle -/
def f_Pr_settle_b0 (x1 : Int32) (mI : tm_I) (mL : tm_L) : Option (Int32 × tm_I × tm_L) := if x1 = (35 : Int32) then (f_Fo_get 17 (0 : Int32) (tm_up mI 26 6 (1 : Int32)) mL).bind fun v1 => some (0, tm_up v1.2.1 26 7 v1.1, v1.2.2) else if x1 = (67 : Int32) then (f_Fo_get 17 (0 : Int32) mI mL).bind fun v2 => some (0, tm_up v2.2.1 19 10 v2.1, v2.2.2) else if x1 = (68 : Int32) then (f_Fo_copy_32_17 mI mL).bind fun v3 => some (0, v3.2.1, v3.2.2) else if x1 = (72 : Int32) then (f_Fo_get 17 (0 : Int32) mI mL).bind fun v4 => (f_Fo_get 17 (1 : Int32) (tm_up v4.2.1 19 8 v4.1) v4.2.2).bind fun v5 => some (0, tm_up v5.2.1 19 9 v5.1, v5.2.2) else if x1 = (79 : Int32) then (f_Fo_get 17 (0 : Int32) mI mL).bind fun v6 => (f_Fo_get 17 (1 : Int32) (tm_up v6.2.1 26 3 v6.1) v6.2.2).bind fun v7 => some (0, tm_up v7.2.1 26 4 v7.1, v7.2.2) else if x1 = (82 : Int32) then some (0, tm_up mI 26 5 (1 : Int32), mL) else (f_Fo_copy_30_17 (tm_up mI 26 2 x1) mL).bind fun v8 => some (0, v8.2.1, v8.2.2)
abbrev f_Pr_settle (p0 : Int32) (mI : tm_I) (mL : tm_L) : Option (Int32 × tm_I × tm_L) := f_Pr_settle_b0 p0 mI mL
set_option maxRecDepth 100000 in
set_option maxHeartbeats 4000000 in
theorem j_Pr_settle_b0 {Γ : tm_G} {ex : List tm_Sh} {av : List Value} {X0 : tm_X} {r : Int32 × tm_I × tm_L} (C : tm_C Γ ty_Pr_settle.1.cls ty_Pr_settle.2.1 ty_Pr_settle.2.2.1) (G : tm_Γ ty_Pr_settle 3 67 0 0 av X0 (tm_is none (sh0 ++ ex, r.2.1, r.2.2, rr)) Γ) {x1 : Int32} {mI : tm_I} {mL : tm_L} (hf : f_Pr_settle_b0 x1 mI mL = some r) : tm_T Γ 3 0 0 0 [some (.ref 19), some (.int x1), some (.ref 17)] [] (sh0 ++ ex) mI mL rr := by
  have Ro := G.ro
  unfold f_Pr_settle_b0 at hf
  refine tm_w C tfo_Pr to_Pr_settle 0 rfl rfl rfl trivial ?_
  by_cases h35 : x1 = (35 : Int32)
  · have hf := (if_pos h35).symm.trans hf
    refine tm_lkI (tgt := 132) C (tm_get_d to_Pr_settle rfl) (35 : Int32) (131) h35 (by decide) (by decide) (by decide) ?_
    refine tm_w C tfo_Pr to_Pr_settle 7 rfl rfl rfl ⟨rfl, rfl, rfl, rfl, rfl, trivial⟩ ?_
    obtain ⟨v1, hv1, hf⟩ := Option.bind_eq_some_iff.mp hf
    refine tm_cV C Ro to_Pr_settle tl_Pr_49 rfl (ct_Fo_get isFo_17 hv1) rfl rfl rfl rfl rfl rfl rfl (Nat.le_refl _) (Nat.le_refl _) ?_
    refine tm_w C tfo_Pr to_Pr_settle 0 rfl rfl rfl ⟨rfl, trivial⟩ ?_
    cases hf
    exact tm_ev C G to_Pr_settle rfl rfl (Nat.le_refl _) ⟨rfl, rfl⟩
  have hf := (if_neg h35).symm.trans hf
  by_cases h67 : x1 = (67 : Int32)
  · have hf := (if_pos h67).symm.trans hf
    refine tm_lkI (tgt := 79) C (tm_get_d to_Pr_settle rfl) (67 : Int32) (78) h67 (by decide) (by decide) (by decide) ?_
    refine tm_w C tfo_Pr to_Pr_settle 2 rfl rfl rfl trivial ?_
    obtain ⟨v2, hv2, hf⟩ := Option.bind_eq_some_iff.mp hf
    refine tm_cV C Ro to_Pr_settle tl_Pr_49 rfl (ct_Fo_get isFo_17 hv2) rfl rfl rfl rfl rfl rfl rfl (Nat.le_refl _) (Nat.le_refl _) ?_
    refine tm_w C tfo_Pr to_Pr_settle 0 rfl rfl rfl ⟨rfl, trivial⟩ ?_
    cases hf
    exact tm_ev C G to_Pr_settle rfl rfl (Nat.le_refl _) ⟨rfl, rfl⟩
  have hf := (if_neg h67).symm.trans hf
  by_cases h68 : x1 = (68 : Int32)
  · have hf := (if_pos h68).symm.trans hf
    refine tm_lkI (tgt := 89) C (tm_get_d to_Pr_settle rfl) (68 : Int32) (88) h68 (by decide) (by decide) (by decide) ?_
    refine tm_w C tfo_Pr to_Pr_settle 2 rfl rfl rfl ⟨rfl, trivial⟩ ?_
    obtain ⟨v3, hv3, hf⟩ := Option.bind_eq_some_iff.mp hf
    refine tm_cV C Ro to_Pr_settle tl_Pr_80 rfl (ct_Fo_copy_32_17 hv3) rfl rfl rfl rfl rfl rfl rfl (Nat.le_refl _) (Nat.le_refl _) ?_
    cases hf
    exact tm_ev C G to_Pr_settle rfl rfl (Nat.le_refl _) ⟨rfl, rfl⟩
  have hf := (if_neg h68).symm.trans hf
  by_cases h72 : x1 = (72 : Int32)
  · have hf := (if_pos h72).symm.trans hf
    refine tm_lkI (tgt := 60) C (tm_get_d to_Pr_settle rfl) (72 : Int32) (59) h72 (by decide) (by decide) (by decide) ?_
    refine tm_w C tfo_Pr to_Pr_settle 2 rfl rfl rfl trivial ?_
    obtain ⟨v4, hv4, hf⟩ := Option.bind_eq_some_iff.mp hf
    refine tm_cV C Ro to_Pr_settle tl_Pr_49 rfl (ct_Fo_get isFo_17 hv4) rfl rfl rfl rfl rfl rfl rfl (Nat.le_refl _) (Nat.le_refl _) ?_
    refine tm_w C tfo_Pr to_Pr_settle 3 rfl rfl rfl ⟨rfl, trivial⟩ ?_
    obtain ⟨v5, hv5, hf⟩ := Option.bind_eq_some_iff.mp hf
    refine tm_cV C Ro to_Pr_settle tl_Pr_49 rfl (ct_Fo_get isFo_17 hv5) rfl rfl rfl rfl rfl rfl rfl (Nat.le_refl _) (Nat.le_refl _) ?_
    refine tm_w C tfo_Pr to_Pr_settle 0 rfl rfl rfl ⟨rfl, trivial⟩ ?_
    cases hf
    exact tm_ev C G to_Pr_settle rfl rfl (Nat.le_refl _) ⟨rfl, rfl⟩
  have hf := (if_neg h72).symm.trans hf
  by_cases h79 : x1 = (79 : Int32)
  · have hf := (if_pos h79).symm.trans hf
    refine tm_lkI (tgt := 98) C (tm_get_d to_Pr_settle rfl) (79 : Int32) (97) h79 (by decide) (by decide) (by decide) ?_
    refine tm_w C tfo_Pr to_Pr_settle 3 rfl rfl rfl ⟨rfl, trivial⟩ ?_
    obtain ⟨v6, hv6, hf⟩ := Option.bind_eq_some_iff.mp hf
    refine tm_cV C Ro to_Pr_settle tl_Pr_49 rfl (ct_Fo_get isFo_17 hv6) rfl rfl rfl rfl rfl rfl rfl (Nat.le_refl _) (Nat.le_refl _) ?_
    refine tm_w C tfo_Pr to_Pr_settle 4 rfl rfl rfl ⟨rfl, rfl, trivial⟩ ?_
    obtain ⟨v7, hv7, hf⟩ := Option.bind_eq_some_iff.mp hf
    refine tm_cV C Ro to_Pr_settle tl_Pr_49 rfl (ct_Fo_get isFo_17 hv7) rfl rfl rfl rfl rfl rfl rfl (Nat.le_refl _) (Nat.le_refl _) ?_
    refine tm_w C tfo_Pr to_Pr_settle 0 rfl rfl rfl ⟨rfl, trivial⟩ ?_
    cases hf
    exact tm_ev C G to_Pr_settle rfl rfl (Nat.le_refl _) ⟨rfl, rfl⟩
  have hf := (if_neg h79).symm.trans hf
  by_cases h82 : x1 = (82 : Int32)
  · have hf := (if_pos h82).symm.trans hf
    refine tm_lkI (tgt := 123) C (tm_get_d to_Pr_settle rfl) (82 : Int32) (122) h82 (by decide) (by decide) (by decide) ?_
    refine tm_w C tfo_Pr to_Pr_settle 3 rfl rfl rfl ⟨rfl, rfl, rfl, rfl, trivial⟩ ?_
    cases hf
    exact tm_ev C G to_Pr_settle rfl rfl (Nat.le_refl _) ⟨rfl, rfl⟩
  have hf := (if_neg h82).symm.trans hf
  refine tm_lkD (tgt := 153) C (tm_get_d to_Pr_settle rfl) [(35 : Int32), (67 : Int32), (68 : Int32), (72 : Int32), (79 : Int32), (82 : Int32)] (by decide) (by decide) (List.forall_mem_cons.mpr ⟨h35, List.forall_mem_cons.mpr ⟨h67, List.forall_mem_cons.mpr ⟨h68, List.forall_mem_cons.mpr ⟨h72, List.forall_mem_cons.mpr ⟨h79, List.forall_mem_cons.mpr ⟨h82, fun _ h => nomatch h⟩⟩⟩⟩⟩⟩) (by decide) ?_
  refine tm_w C tfo_Pr to_Pr_settle 7 rfl rfl rfl ⟨rfl, rfl, rfl, rfl, trivial⟩ ?_
  obtain ⟨v8, hv8, hf⟩ := Option.bind_eq_some_iff.mp hf
  refine tm_cV C Ro to_Pr_settle tl_Pr_80 rfl (ct_Fo_copy_30_17 hv8) rfl rfl rfl rfl rfl rfl rfl (Nat.le_refl _) (Nat.le_refl _) ?_
  cases hf
  exact tm_ev C G to_Pr_settle rfl rfl (Nat.le_refl _) ⟨rfl, rfl⟩
set_option maxRecDepth 100000 in
theorem ct_Pr_settle {ex : List tm_Sh} {p0 : Int32} {mI : tm_I} {mL : tm_L} {r : Int32 × tm_I × tm_L} (hf : f_Pr_settle p0 mI mL = some r) : tm_M ty_Pr_settle 3 67 0 0 [.ref 19, .int p0, .ref 17] (sh0 ++ ex, mI, mL, rr) (tm_is none (sh0 ++ ex, r.2.1, r.2.2, rr)) := by
  refine tm_body (by decide) (Nat.le_of_ble_eq_true rfl) fun Γ C G => ?_
  exact j_Pr_settle_b0 C G hf
/-! Pr_stepsX -/
def f_Pr_stepsX_b0 (x0 : Int32) (x1 : Int32) (x2 : Int32) (mI : tm_I) (mL : tm_L) : Option (Int32 × tm_I × tm_L) := if x0 = (0 : Int32) then some (x1, mI, mL) else if x0 = (1 : Int32) then some ((-x2), mI, mL) else if x0 = (2 : Int32) then some ((-x1), mI, mL) else some (x2, mI, mL)
abbrev f_Pr_stepsX (p0 : Int32) (p1 : Int32) (p2 : Int32) (mI : tm_I) (mL : tm_L) : Option (Int32 × tm_I × tm_L) := f_Pr_stepsX_b0 p0 p1 p2 mI mL
set_option maxRecDepth 100000 in
set_option maxHeartbeats 4000000 in
theorem j_Pr_stepsX_b0 {Γ : tm_G} {ex : List tm_Sh} {av : List Value} {X0 : tm_X} {r : Int32 × tm_I × tm_L} (C : tm_C Γ ty_Pr_stepsX.1.cls ty_Pr_stepsX.2.1 ty_Pr_stepsX.2.2.1) (G : tm_Γ ty_Pr_stepsX 0 0 0 0 av X0 (tm_is (some (.int r.1)) (sh0 ++ ex, r.2.1, r.2.2, rr)) Γ) {x0 : Int32} {x1 : Int32} {x2 : Int32} {mI : tm_I} {mL : tm_L} (hf : f_Pr_stepsX_b0 x0 x1 x2 mI mL = some r) : tm_T Γ 3 0 0 0 [some (.int x0), some (.int x1), some (.int x2)] [] (sh0 ++ ex) mI mL rr := by
  have Ro := G.ro
  unfold f_Pr_stepsX_b0 at hf
  refine tm_w C tfo_Pr to_Pr_stepsX 0 rfl rfl rfl trivial ?_
  by_cases h0 : x0 = (0 : Int32)
  · have hf := (if_pos h0).symm.trans hf
    refine tm_swI (tgt := 28) C (tm_get_d to_Pr_stepsX rfl) (0 : Int32) (27) h0 (by decide) (by decide) (by decide) (by decide) ?_
    refine tm_w C tfo_Pr to_Pr_stepsX 0 rfl rfl rfl trivial ?_
    cases hf
    exact tm_ei C G to_Pr_stepsX rfl rfl (Nat.le_refl _) rfl ⟨rfl, rfl⟩
  have hf := (if_neg h0).symm.trans hf
  by_cases h1 : x0 = (1 : Int32)
  · have hf := (if_pos h1).symm.trans hf
    refine tm_swI (tgt := 30) C (tm_get_d to_Pr_stepsX rfl) (1 : Int32) (29) h1 (by decide) (by decide) (by decide) (by decide) ?_
    refine tm_w C tfo_Pr to_Pr_stepsX 1 rfl rfl rfl trivial ?_
    cases hf
    exact tm_ei C G to_Pr_stepsX rfl rfl (Nat.le_refl _) rfl ⟨rfl, rfl⟩
  have hf := (if_neg h1).symm.trans hf
  by_cases h2 : x0 = (2 : Int32)
  · have hf := (if_pos h2).symm.trans hf
    refine tm_swI (tgt := 33) C (tm_get_d to_Pr_stepsX rfl) (2 : Int32) (32) h2 (by decide) (by decide) (by decide) (by decide) ?_
    refine tm_w C tfo_Pr to_Pr_stepsX 1 rfl rfl rfl trivial ?_
    cases hf
    exact tm_ei C G to_Pr_stepsX rfl rfl (Nat.le_refl _) rfl ⟨rfl, rfl⟩
  have hf := (if_neg h2).symm.trans hf
  refine tm_swD (tgt := 36) C (tm_get_d to_Pr_stepsX rfl) [(0 : Int32), (1 : Int32), (2 : Int32)] (by decide) (by decide) (List.forall_mem_cons.mpr ⟨h0, List.forall_mem_cons.mpr ⟨h1, List.forall_mem_cons.mpr ⟨h2, fun _ h => nomatch h⟩⟩⟩) (by decide) ?_
  refine tm_w C tfo_Pr to_Pr_stepsX 0 rfl rfl rfl trivial ?_
  cases hf
  exact tm_ei C G to_Pr_stepsX rfl rfl (Nat.le_refl _) rfl ⟨rfl, rfl⟩
set_option maxRecDepth 100000 in
theorem ct_Pr_stepsX {ex : List tm_Sh} {p0 : Int32} {p1 : Int32} {p2 : Int32} {mI : tm_I} {mL : tm_L} {r : Int32 × tm_I × tm_L} (hf : f_Pr_stepsX p0 p1 p2 mI mL = some r) : tm_M ty_Pr_stepsX 0 0 0 0 [.int p0, .int p1, .int p2] (sh0 ++ ex, mI, mL, rr) (tm_is (some (.int r.1)) (sh0 ++ ex, r.2.1, r.2.2, rr)) := by
  refine tm_body (by decide) (Nat.le_of_ble_eq_true rfl) fun Γ C G => ?_
  exact j_Pr_stepsX_b0 C G hf
/-! Pr_stepsY -/
def f_Pr_stepsY_b0 (x0 : Int32) (x1 : Int32) (x2 : Int32) (mI : tm_I) (mL : tm_L) : Option (Int32 × tm_I × tm_L) := if x0 = (0 : Int32) then some (x2, mI, mL) else if x0 = (1 : Int32) then some (x1, mI, mL) else if x0 = (2 : Int32) then some ((-x2), mI, mL) else some ((-x1), mI, mL)
abbrev f_Pr_stepsY (p0 : Int32) (p1 : Int32) (p2 : Int32) (mI : tm_I) (mL : tm_L) : Option (Int32 × tm_I × tm_L) := f_Pr_stepsY_b0 p0 p1 p2 mI mL
set_option maxRecDepth 100000 in
set_option maxHeartbeats 4000000 in
theorem j_Pr_stepsY_b0 {Γ : tm_G} {ex : List tm_Sh} {av : List Value} {X0 : tm_X} {r : Int32 × tm_I × tm_L} (C : tm_C Γ ty_Pr_stepsY.1.cls ty_Pr_stepsY.2.1 ty_Pr_stepsY.2.2.1) (G : tm_Γ ty_Pr_stepsY 0 0 0 0 av X0 (tm_is (some (.int r.1)) (sh0 ++ ex, r.2.1, r.2.2, rr)) Γ) {x0 : Int32} {x1 : Int32} {x2 : Int32} {mI : tm_I} {mL : tm_L} (hf : f_Pr_stepsY_b0 x0 x1 x2 mI mL = some r) : tm_T Γ 3 0 0 0 [some (.int x0), some (.int x1), some (.int x2)] [] (sh0 ++ ex) mI mL rr := by
  have Ro := G.ro
  unfold f_Pr_stepsY_b0 at hf
  refine tm_w C tfo_Pr to_Pr_stepsY 0 rfl rfl rfl trivial ?_
  by_cases h0 : x0 = (0 : Int32)
  · have hf := (if_pos h0).symm.trans hf
    refine tm_swI (tgt := 28) C (tm_get_d to_Pr_stepsY rfl) (0 : Int32) (27) h0 (by decide) (by decide) (by decide) (by decide) ?_
    refine tm_w C tfo_Pr to_Pr_stepsY 0 rfl rfl rfl trivial ?_
    cases hf
    exact tm_ei C G to_Pr_stepsY rfl rfl (Nat.le_refl _) rfl ⟨rfl, rfl⟩
  have hf := (if_neg h0).symm.trans hf
  by_cases h1 : x0 = (1 : Int32)
  · have hf := (if_pos h1).symm.trans hf
    refine tm_swI (tgt := 30) C (tm_get_d to_Pr_stepsY rfl) (1 : Int32) (29) h1 (by decide) (by decide) (by decide) (by decide) ?_
    refine tm_w C tfo_Pr to_Pr_stepsY 0 rfl rfl rfl trivial ?_
    cases hf
    exact tm_ei C G to_Pr_stepsY rfl rfl (Nat.le_refl _) rfl ⟨rfl, rfl⟩
  have hf := (if_neg h1).symm.trans hf
  by_cases h2 : x0 = (2 : Int32)
  · have hf := (if_pos h2).symm.trans hf
    refine tm_swI (tgt := 32) C (tm_get_d to_Pr_stepsY rfl) (2 : Int32) (31) h2 (by decide) (by decide) (by decide) (by decide) ?_
    refine tm_w C tfo_Pr to_Pr_stepsY 1 rfl rfl rfl trivial ?_
    cases hf
    exact tm_ei C G to_Pr_stepsY rfl rfl (Nat.le_refl _) rfl ⟨rfl, rfl⟩
  have hf := (if_neg h2).symm.trans hf
  refine tm_swD (tgt := 35) C (tm_get_d to_Pr_stepsY rfl) [(0 : Int32), (1 : Int32), (2 : Int32)] (by decide) (by decide) (List.forall_mem_cons.mpr ⟨h0, List.forall_mem_cons.mpr ⟨h1, List.forall_mem_cons.mpr ⟨h2, fun _ h => nomatch h⟩⟩⟩) (by decide) ?_
  refine tm_w C tfo_Pr to_Pr_stepsY 1 rfl rfl rfl trivial ?_
  cases hf
  exact tm_ei C G to_Pr_stepsY rfl rfl (Nat.le_refl _) rfl ⟨rfl, rfl⟩
set_option maxRecDepth 100000 in
theorem ct_Pr_stepsY {ex : List tm_Sh} {p0 : Int32} {p1 : Int32} {p2 : Int32} {mI : tm_I} {mL : tm_L} {r : Int32 × tm_I × tm_L} (hf : f_Pr_stepsY p0 p1 p2 mI mL = some r) : tm_M ty_Pr_stepsY 0 0 0 0 [.int p0, .int p1, .int p2] (sh0 ++ ex, mI, mL, rr) (tm_is (some (.int r.1)) (sh0 ++ ex, r.2.1, r.2.2, rr)) := by
  refine tm_body (by decide) (Nat.le_of_ble_eq_true rfl) fun Γ C G => ?_
  exact j_Pr_stepsY_b0 C G hf
/-! Pr_cellsBefore -/
def f_Pr_cellsBefore_b18 (x0 : Int32) (x1 : Int32) (s0 : Int32) (mI : tm_I) (mL : tm_L) : Option (Int32 × tm_I × tm_L) := some (s0, mI, mL)
def f_Pr_cellsBefore_b0 (x0 : Int32) (x1 : Int32) (mI : tm_I) (mL : tm_L) : Option (Int32 × tm_I × tm_L) := if ¬ x0 = 0 then if ¬ x0 = (1 : Int32) then f_Pr_cellsBefore_b18 x0 x1 (x1 / (2 : Int32)) mI mL else f_Pr_cellsBefore_b18 x0 x1 x1 mI mL else some ((0 : Int32), mI, mL)
abbrev f_Pr_cellsBefore (p0 : Int32) (p1 : Int32) (mI : tm_I) (mL : tm_L) : Option (Int32 × tm_I × tm_L) := f_Pr_cellsBefore_b0 p0 p1 mI mL
set_option maxRecDepth 100000 in
set_option maxHeartbeats 4000000 in
theorem j_Pr_cellsBefore_b18 {Γ : tm_G} {ex : List tm_Sh} {av : List Value} {X0 : tm_X} {r : Int32 × tm_I × tm_L} (C : tm_C Γ ty_Pr_cellsBefore.1.cls ty_Pr_cellsBefore.2.1 ty_Pr_cellsBefore.2.2.1) (G : tm_Γ ty_Pr_cellsBefore 0 0 0 0 av X0 (tm_is (some (.int r.1)) (sh0 ++ ex, r.2.1, r.2.2, rr)) Γ) {x0 : Int32} {x1 : Int32} {s0 : Int32} {mI : tm_I} {mL : tm_L} (hf : f_Pr_cellsBefore_b18 x0 x1 s0 mI mL = some r) : tm_T Γ 2 0 0 18 [some (.int x0), some (.int x1)] [.int s0] (sh0 ++ ex) mI mL rr := by
  have Ro := G.ro
  unfold f_Pr_cellsBefore_b18 at hf
  cases hf
  exact tm_ei C G to_Pr_cellsBefore rfl rfl (Nat.le_refl _) rfl ⟨rfl, rfl⟩
set_option maxRecDepth 100000 in
set_option maxHeartbeats 4000000 in
theorem j_Pr_cellsBefore_b0 {Γ : tm_G} {ex : List tm_Sh} {av : List Value} {X0 : tm_X} {r : Int32 × tm_I × tm_L} (C : tm_C Γ ty_Pr_cellsBefore.1.cls ty_Pr_cellsBefore.2.1 ty_Pr_cellsBefore.2.2.1) (G : tm_Γ ty_Pr_cellsBefore 0 0 0 0 av X0 (tm_is (some (.int r.1)) (sh0 ++ ex, r.2.1, r.2.2, rr)) Γ) {x0 : Int32} {x1 : Int32} {mI : tm_I} {mL : tm_L} (hf : f_Pr_cellsBefore_b0 x0 x1 mI mL = some r) : tm_T Γ 2 0 0 0 [some (.int x0), some (.int x1)] [] (sh0 ++ ex) mI mL rr := by
  have Ro := G.ro
  unfold f_Pr_cellsBefore_b0 at hf
  refine tm_w C tfo_Pr to_Pr_cellsBefore 0 rfl rfl rfl trivial ?_
  refine tm_b C to_Pr_cellsBefore rfl rfl (fun h => ?_) (fun h => ?_)
  · have hf := (if_pos h).symm.trans hf
    refine tm_w C tfo_Pr to_Pr_cellsBefore 1 rfl rfl rfl trivial ?_
    refine tm_b C to_Pr_cellsBefore rfl rfl (fun h => ?_) (fun h => ?_)
    · have hf := (if_pos h).symm.trans hf
      refine tm_w C tfo_Pr to_Pr_cellsBefore 2 rfl rfl rfl ⟨(by decide), trivial⟩ ?_
      refine tm_wk (lv' := [some (.int x0), some (.int x1)]) ⟨Or.inr rfl, Or.inr rfl, trivial⟩ ?_
      exact j_Pr_cellsBefore_b18 C G hf
    · have hf := (if_neg h).symm.trans hf
      refine tm_w C tfo_Pr to_Pr_cellsBefore 1 rfl rfl rfl trivial ?_
      refine tm_wk (lv' := [some (.int x0), some (.int x1)]) ⟨Or.inr rfl, Or.inr rfl, trivial⟩ ?_
      exact j_Pr_cellsBefore_b18 C G hf
  · have hf := (if_neg h).symm.trans hf
    refine tm_w C tfo_Pr to_Pr_cellsBefore 0 rfl rfl rfl trivial ?_
    cases hf
    exact tm_ei C G to_Pr_cellsBefore rfl rfl (Nat.le_refl _) rfl ⟨rfl, rfl⟩
set_option maxRecDepth 100000 in
theorem ct_Pr_cellsBefore {ex : List tm_Sh} {p0 : Int32} {p1 : Int32} {mI : tm_I} {mL : tm_L} {r : Int32 × tm_I × tm_L} (hf : f_Pr_cellsBefore p0 p1 mI mL = some r) : tm_M ty_Pr_cellsBefore 0 0 0 0 [.int p0, .int p1] (sh0 ++ ex, mI, mL, rr) (tm_is (some (.int r.1)) (sh0 ++ ex, r.2.1, r.2.2, rr)) := by
  refine tm_body (by decide) (Nat.le_of_ble_eq_true rfl) fun Γ C G => ?_
  exact j_Pr_cellsBefore_b0 C G hf
/-! Pr_endsNear -/
def f_Pr_endsNear_b61 (s0 : Int32) (mI : tm_I) (mL : tm_L) : Option (Int32 × tm_I × tm_L) := if s0 = 0 ∨ s0 = 1 then some (s0, mI, mL) else none
def f_Pr_endsNear_b60  (mI : tm_I) (mL : tm_L) : Option (Int32 × tm_I × tm_L) := f_Pr_endsNear_b61 (0 : Int32) mI mL
def f_Pr_endsNear_b0  (mI : tm_I) (mL : tm_L) : Option (Int32 × tm_I × tm_L) := (f_Fo_get 30 (0 : Int32) mI mL).bind fun v1 => (f_La_isNear (((mI 19 8) + (mI 26 3)) + v1.1) v1.2.1 v1.2.2).bind fun v2 => if v2.1 = 0 then f_Pr_endsNear_b60 v2.2.1 v2.2.2 else (f_Fo_get 30 (1 : Int32) v2.2.1 v2.2.2).bind fun v3 => (f_La_isNear (((v2.2.1 19 9) + (v2.2.1 26 4)) + v3.1) v3.2.1 v3.2.2).bind fun v4 => if v4.1 = 0 then f_Pr_endsNear_b60 v4.2.1 v4.2.2 else f_Pr_endsNear_b61 (1 : Int32) v4.2.1 v4.2.2
abbrev f_Pr_endsNear  (mI : tm_I) (mL : tm_L) : Option (Int32 × tm_I × tm_L) := f_Pr_endsNear_b0  mI mL
set_option maxRecDepth 100000 in
set_option maxHeartbeats 4000000 in
theorem j_Pr_endsNear_b61 {Γ : tm_G} {ex : List tm_Sh} {av : List Value} {X0 : tm_X} {r : Int32 × tm_I × tm_L} (C : tm_C Γ ty_Pr_endsNear.1.cls ty_Pr_endsNear.2.1 ty_Pr_endsNear.2.2.1) (G : tm_Γ ty_Pr_endsNear 1 21 0 0 av X0 (tm_is (some (.int r.1)) (sh0 ++ ex, r.2.1, r.2.2, rr)) Γ) {s0 : Int32} {mI : tm_I} {mL : tm_L} (hf : f_Pr_endsNear_b61 s0 mI mL = some r) : tm_T Γ 2 0 0 61 [some (.ref 19), some (.ref 30)] [.int s0] (sh0 ++ ex) mI mL rr := by
  have Ro := G.ro
  unfold f_Pr_endsNear_b61 at hf
  obtain ⟨c1, hf⟩ := tm_iteN hf
  cases hf
  exact tm_ei C G to_Pr_endsNear rfl rfl (Nat.le_refl _) (tm_nz c1) ⟨rfl, rfl⟩
set_option maxRecDepth 100000 in
set_option maxHeartbeats 4000000 in
theorem j_Pr_endsNear_b60 {Γ : tm_G} {ex : List tm_Sh} {av : List Value} {X0 : tm_X} {r : Int32 × tm_I × tm_L} (C : tm_C Γ ty_Pr_endsNear.1.cls ty_Pr_endsNear.2.1 ty_Pr_endsNear.2.2.1) (G : tm_Γ ty_Pr_endsNear 1 21 0 0 av X0 (tm_is (some (.int r.1)) (sh0 ++ ex, r.2.1, r.2.2, rr)) Γ) {mI : tm_I} {mL : tm_L} (hf : f_Pr_endsNear_b60  mI mL = some r) : tm_T Γ 2 0 0 60 [some (.ref 19), some (.ref 30)] [] (sh0 ++ ex) mI mL rr := by
  have Ro := G.ro
  unfold f_Pr_endsNear_b60 at hf
  refine tm_w C tfo_Pr to_Pr_endsNear 0 rfl rfl rfl trivial ?_
  refine tm_wk (lv' := [some (.ref 19), some (.ref 30)]) ⟨Or.inr rfl, Or.inr rfl, trivial⟩ ?_
  exact j_Pr_endsNear_b61 C G hf
set_option maxRecDepth 100000 in
set_option maxHeartbeats 4000000 in
theorem j_Pr_endsNear_b0 {Γ : tm_G} {ex : List tm_Sh} {av : List Value} {X0 : tm_X} {r : Int32 × tm_I × tm_L} (C : tm_C Γ ty_Pr_endsNear.1.cls ty_Pr_endsNear.2.1 ty_Pr_endsNear.2.2.1) (G : tm_Γ ty_Pr_endsNear 1 21 0 0 av X0 (tm_is (some (.int r.1)) (sh0 ++ ex, r.2.1, r.2.2, rr)) Γ) {mI : tm_I} {mL : tm_L} (hf : f_Pr_endsNear_b0  mI mL = some r) : tm_T Γ 2 0 0 0 [some (.ref 19), none] [] (sh0 ++ ex) mI mL rr := by
  have Ro := G.ro
  unfold f_Pr_endsNear_b0 at hf
  refine tm_w C tfo_Pr to_Pr_endsNear 11 rfl rfl rfl ⟨rfl, rfl, rfl, rfl, rfl, trivial⟩ ?_
  obtain ⟨v1, hv1, hf⟩ := Option.bind_eq_some_iff.mp hf
  refine tm_cV C Ro to_Pr_endsNear tl_Pr_49 rfl (ct_Fo_get isFo_30 hv1) rfl rfl rfl rfl rfl rfl rfl (Nat.le_refl _) (Nat.le_refl _) ?_
  refine tm_w C tfo_Pr to_Pr_endsNear 0 rfl rfl rfl trivial ?_
  obtain ⟨v2, hv2, hf⟩ := Option.bind_eq_some_iff.mp hf
  refine tm_cN C Ro to_Pr_endsNear tl_Pr_148 rfl (ct_La_isNear hv2) rfl rfl rfl rfl rfl (Nat.le_refl _) (Nat.le_refl _) ?_
  refine tm_b C to_Pr_endsNear rfl rfl (fun h => ?_) (fun h => ?_)
  · have hf := (if_pos h).symm.trans hf
    refine tm_wk (lv' := [some (.ref 19), some (.ref 30)]) ⟨Or.inr rfl, Or.inr rfl, trivial⟩ ?_
    exact j_Pr_endsNear_b60 C G hf
  · have hf := (if_neg h).symm.trans hf
    refine tm_w C tfo_Pr to_Pr_endsNear 7 rfl rfl rfl ⟨rfl, rfl, rfl, trivial⟩ ?_
    obtain ⟨v3, hv3, hf⟩ := Option.bind_eq_some_iff.mp hf
    refine tm_cV C Ro to_Pr_endsNear tl_Pr_49 rfl (ct_Fo_get isFo_30 hv3) rfl rfl rfl rfl rfl rfl rfl (Nat.le_refl _) (Nat.le_refl _) ?_
    refine tm_w C tfo_Pr to_Pr_endsNear 0 rfl rfl rfl trivial ?_
    obtain ⟨v4, hv4, hf⟩ := Option.bind_eq_some_iff.mp hf
    refine tm_cN C Ro to_Pr_endsNear tl_Pr_148 rfl (ct_La_isNear hv4) rfl rfl rfl rfl rfl (Nat.le_refl _) (Nat.le_refl _) ?_
    refine tm_b C to_Pr_endsNear rfl rfl (fun h => ?_) (fun h => ?_)
    · have hf := (if_pos h).symm.trans hf
      refine tm_wk (lv' := [some (.ref 19), some (.ref 30)]) ⟨Or.inr rfl, Or.inr rfl, trivial⟩ ?_
      exact j_Pr_endsNear_b60 C G hf
    · have hf := (if_neg h).symm.trans hf
      refine tm_w C tfo_Pr to_Pr_endsNear 1 rfl rfl rfl trivial ?_
      refine tm_wk (lv' := [some (.ref 19), some (.ref 30)]) ⟨Or.inr rfl, Or.inr rfl, trivial⟩ ?_
      exact j_Pr_endsNear_b61 C G hf
set_option maxRecDepth 100000 in
theorem ct_Pr_endsNear {ex : List tm_Sh}  {mI : tm_I} {mL : tm_L} {r : Int32 × tm_I × tm_L} (hf : f_Pr_endsNear  mI mL = some r) : tm_M ty_Pr_endsNear 1 21 0 0 [.ref 19] (sh0 ++ ex, mI, mL, rr) (tm_is (some (.int r.1)) (sh0 ++ ex, r.2.1, r.2.2, rr)) := by
  refine tm_body (by decide) (Nat.le_of_ble_eq_true rfl) fun Γ C G => ?_
  exact j_Pr_endsNear_b0 C G hf
/-! Pr_add -/
def f_Pr_add_30_b95 (x1 : Int32) (x3 : Int32) (x4 : Int32) (x5 : Int32) (x6 : Int32) (x7 : Int32) (x8 : Int32) (x9 : Int32) (s0 : Int32) (mI : tm_I) (mL : tm_L) : Option (Int32 × tm_I × tm_L) := if s0 = 0 ∨ s0 = 1 then some (s0, mI, mL) else none
def f_Pr_add_30_b94 (x1 : Int32) (x3 : Int32) (x4 : Int32) (x5 : Int32) (x6 : Int32) (x7 : Int32) (x8 : Int32) (x9 : Int32) (mI : tm_I) (mL : tm_L) : Option (Int32 × tm_I × tm_L) := f_Pr_add_30_b95 x1 x3 x4 x5 x6 x7 x8 x9 (0 : Int32) mI mL
def f_Pr_add_30_b0 (x1 : Int32) (x3 : Int32) (x4 : Int32) (x5 : Int32) (x6 : Int32) (mI : tm_I) (mL : tm_L) : Option (Int32 × tm_I × tm_L) := (f_Fo_get 30 (3 : Int32) mI mL).bind fun v1 => (f_Pr_stepsX v1.1 x3 x4 v1.2.1 v1.2.2).bind fun v2 => (f_Pr_stepsY v1.1 x3 x4 v2.2.1 v2.2.2).bind fun v3 => (f_Sh_addOrder_30 x1 (((v1.2.1 19 8) + (v1.2.1 26 3)) + v2.1) (((v2.2.1 19 9) + (v2.2.1 26 4)) + v3.1) x5 x6 v3.2.1 v3.2.2).bind fun v4 => (f_La_isNear (((v1.2.1 19 8) + (v1.2.1 26 3)) + v2.1) v4.2.1 v4.2.2).bind fun v5 => if v5.1 = 0 then f_Pr_add_30_b94 x1 x3 x4 x5 x6 v1.1 (((v1.2.1 19 8) + (v1.2.1 26 3)) + v2.1) (((v2.2.1 19 9) + (v2.2.1 26 4)) + v3.1) v5.2.1 v5.2.2 else (f_La_isNear (((v2.2.1 19 9) + (v2.2.1 26 4)) + v3.1) v5.2.1 v5.2.2).bind fun v6 => if v6.1 = 0 then f_Pr_add_30_b94 x1 x3 x4 x5 x6 v1.1 (((v1.2.1 19 8) + (v1.2.1 26 3)) + v2.1) (((v2.2.1 19 9) + (v2.2.1 26 4)) + v3.1) v6.2.1 v6.2.2 else f_Pr_add_30_b95 x1 x3 x4 x5 x6 v1.1 (((v1.2.1 19 8) + (v1.2.1 26 3)) + v2.1) (((v2.2.1 19 9) + (v2.2.1 26 4)) + v3.1) (1 : Int32) v6.2.1 v6.2.2
abbrev f_Pr_add_30 (p0 : Int32) (p2 : Int32) (p3 : Int32) (p4 : Int32) (p5 : Int32) (mI : tm_I) (mL : tm_L) : Option (Int32 × tm_I × tm_L) := f_Pr_add_30_b0 p0 p2 p3 p4 p5 mI mL
set_option maxRecDepth 100000 in
set_option maxHeartbeats 4000000 in
theorem j_Pr_add_30_b95 {Γ : tm_G} {ex : List tm_Sh} {av : List Value} {X0 : tm_X} {r : Int32 × tm_I × tm_L} (C : tm_C Γ ty_Pr_add.1.cls ty_Pr_add.2.1 ty_Pr_add.2.2.1) (G : tm_Γ ty_Pr_add 2 49 0 0 av X0 (tm_is (some (.int r.1)) (sh0 ++ ex, r.2.1, r.2.2, rr)) Γ) {x1 : Int32} {x3 : Int32} {x4 : Int32} {x5 : Int32} {x6 : Int32} {x7 : Int32} {x8 : Int32} {x9 : Int32} {s0 : Int32} {mI : tm_I} {mL : tm_L} (hf : f_Pr_add_30_b95 x1 x3 x4 x5 x6 x7 x8 x9 s0 mI mL = some r) : tm_T Γ 10 0 0 95 [some (.ref 19), some (.int x1), some (.ref 30), some (.int x3), some (.int x4), some (.int x5), some (.int x6), some (.int x7), some (.int x8), some (.int x9)] [.int s0] (sh0 ++ ex) mI mL rr := by
  have Ro := G.ro
  unfold f_Pr_add_30_b95 at hf
  obtain ⟨c1, hf⟩ := tm_iteN hf
  cases hf
  exact tm_ei C G to_Pr_add rfl rfl (Nat.le_refl _) (tm_nz c1) ⟨rfl, rfl⟩
set_option maxRecDepth 100000 in
set_option maxHeartbeats 4000000 in
theorem j_Pr_add_30_b94 {Γ : tm_G} {ex : List tm_Sh} {av : List Value} {X0 : tm_X} {r : Int32 × tm_I × tm_L} (C : tm_C Γ ty_Pr_add.1.cls ty_Pr_add.2.1 ty_Pr_add.2.2.1) (G : tm_Γ ty_Pr_add 2 49 0 0 av X0 (tm_is (some (.int r.1)) (sh0 ++ ex, r.2.1, r.2.2, rr)) Γ) {x1 : Int32} {x3 : Int32} {x4 : Int32} {x5 : Int32} {x6 : Int32} {x7 : Int32} {x8 : Int32} {x9 : Int32} {mI : tm_I} {mL : tm_L} (hf : f_Pr_add_30_b94 x1 x3 x4 x5 x6 x7 x8 x9 mI mL = some r) : tm_T Γ 10 0 0 94 [some (.ref 19), some (.int x1), some (.ref 30), some (.int x3), some (.int x4), some (.int x5), some (.int x6), some (.int x7), some (.int x8), some (.int x9)] [] (sh0 ++ ex) mI mL rr := by
  have Ro := G.ro
  unfold f_Pr_add_30_b94 at hf
  refine tm_w C tfo_Pr to_Pr_add 0 rfl rfl rfl trivial ?_
  refine tm_wk (lv' := [some (.ref 19), some (.int x1), some (.ref 30), some (.int x3), some (.int x4), some (.int x5), some (.int x6), some (.int x7), some (.int x8), some (.int x9)]) ⟨Or.inr rfl, Or.inr rfl, Or.inr rfl, Or.inr rfl, Or.inr rfl, Or.inr rfl, Or.inr rfl, Or.inr rfl, Or.inr rfl, Or.inr rfl, trivial⟩ ?_
  exact j_Pr_add_30_b95 C G hf
set_option maxRecDepth 100000 in
set_option maxHeartbeats 4000000 in
theorem j_Pr_add_30_b0 {Γ : tm_G} {ex : List tm_Sh} {av : List Value} {X0 : tm_X} {r : Int32 × tm_I × tm_L} (C : tm_C Γ ty_Pr_add.1.cls ty_Pr_add.2.1 ty_Pr_add.2.2.1) (G : tm_Γ ty_Pr_add 2 49 0 0 av X0 (tm_is (some (.int r.1)) (sh0 ++ ex, r.2.1, r.2.2, rr)) Γ) {x1 : Int32} {x3 : Int32} {x4 : Int32} {x5 : Int32} {x6 : Int32} {mI : tm_I} {mL : tm_L} (hf : f_Pr_add_30_b0 x1 x3 x4 x5 x6 mI mL = some r) : tm_T Γ 10 0 0 0 [some (.ref 19), some (.int x1), some (.ref 30), some (.int x3), some (.int x4), some (.int x5), some (.int x6), none, none, none] [] (sh0 ++ ex) mI mL rr := by
  have Ro := G.ro
  unfold f_Pr_add_30_b0 at hf
  refine tm_w C tfo_Pr to_Pr_add 1 rfl rfl rfl trivial ?_
  obtain ⟨v1, hv1, hf⟩ := Option.bind_eq_some_iff.mp hf
  refine tm_cV C Ro to_Pr_add tl_Pr_49 rfl (ct_Fo_get isFo_30 hv1) rfl rfl rfl rfl rfl rfl rfl (Nat.le_refl _) (Nat.le_refl _) ?_
  refine tm_w C tfo_Pr to_Pr_add 9 rfl rfl rfl ⟨rfl, rfl, rfl, trivial⟩ ?_
  obtain ⟨v2, hv2, hf⟩ := Option.bind_eq_some_iff.mp hf
  refine tm_cS C Ro to_Pr_add tl_Pr_152 rfl (ct_Pr_stepsX hv2) rfl rfl rfl rfl rfl (Nat.le_refl _) (Nat.le_refl _) ?_
  refine tm_w C tfo_Pr to_Pr_add 10 rfl rfl rfl ⟨rfl, rfl, rfl, trivial⟩ ?_
  obtain ⟨v3, hv3, hf⟩ := Option.bind_eq_some_iff.mp hf
  refine tm_cS C Ro to_Pr_add tl_Pr_156 rfl (ct_Pr_stepsY hv3) rfl rfl rfl rfl rfl (Nat.le_refl _) (Nat.le_refl _) ?_
  refine tm_w C tfo_Pr to_Pr_add 11 rfl rfl rfl ⟨rfl, rfl, trivial⟩ ?_
  obtain ⟨v4, hv4, hf⟩ := Option.bind_eq_some_iff.mp hf
  refine tm_cV C Ro to_Pr_add tl_Pr_159 rfl (ct_Sh_addOrder_30 hv4) rfl rfl rfl rfl rfl rfl rfl (Nat.le_refl _) (Nat.le_refl _) ?_
  refine tm_w C tfo_Pr to_Pr_add 0 rfl rfl rfl trivial ?_
  obtain ⟨v5, hv5, hf⟩ := Option.bind_eq_some_iff.mp hf
  refine tm_cN C Ro to_Pr_add tl_Pr_148 rfl (ct_La_isNear hv5) rfl rfl rfl rfl rfl (Nat.le_refl _) (Nat.le_refl _) ?_
  refine tm_b C to_Pr_add rfl rfl (fun h => ?_) (fun h => ?_)
  · have hf := (if_pos h).symm.trans hf
    refine tm_wk (lv' := [some (.ref 19), some (.int x1), some (.ref 30), some (.int x3), some (.int x4), some (.int x5), some (.int x6), some (.int v1.1), some (.int (((v1.2.1 19 8) + (v1.2.1 26 3)) + v2.1)), some (.int (((v2.2.1 19 9) + (v2.2.1 26 4)) + v3.1))]) ⟨Or.inr rfl, Or.inr rfl, Or.inr rfl, Or.inr rfl, Or.inr rfl, Or.inr rfl, Or.inr rfl, Or.inr rfl, Or.inr rfl, Or.inr rfl, trivial⟩ ?_
    exact j_Pr_add_30_b94 C G hf
  · have hf := (if_neg h).symm.trans hf
    refine tm_w C tfo_Pr to_Pr_add 0 rfl rfl rfl trivial ?_
    obtain ⟨v6, hv6, hf⟩ := Option.bind_eq_some_iff.mp hf
    refine tm_cN C Ro to_Pr_add tl_Pr_148 rfl (ct_La_isNear hv6) rfl rfl rfl rfl rfl (Nat.le_refl _) (Nat.le_refl _) ?_
    refine tm_b C to_Pr_add rfl rfl (fun h => ?_) (fun h => ?_)
    · have hf := (if_pos h).symm.trans hf
      refine tm_wk (lv' := [some (.ref 19), some (.int x1), some (.ref 30), some (.int x3), some (.int x4), some (.int x5), some (.int x6), some (.int v1.1), some (.int (((v1.2.1 19 8) + (v1.2.1 26 3)) + v2.1)), some (.int (((v2.2.1 19 9) + (v2.2.1 26 4)) + v3.1))]) ⟨Or.inr rfl, Or.inr rfl, Or.inr rfl, Or.inr rfl, Or.inr rfl, Or.inr rfl, Or.inr rfl, Or.inr rfl, Or.inr rfl, Or.inr rfl, trivial⟩ ?_
      exact j_Pr_add_30_b94 C G hf
    · have hf := (if_neg h).symm.trans hf
      refine tm_w C tfo_Pr to_Pr_add 1 rfl rfl rfl trivial ?_
      refine tm_wk (lv' := [some (.ref 19), some (.int x1), some (.ref 30), some (.int x3), some (.int x4), some (.int x5), some (.int x6), some (.int v1.1), some (.int (((v1.2.1 19 8) + (v1.2.1 26 3)) + v2.1)), some (.int (((v2.2.1 19 9) + (v2.2.1 26 4)) + v3.1))]) ⟨Or.inr rfl, Or.inr rfl, Or.inr rfl, Or.inr rfl, Or.inr rfl, Or.inr rfl, Or.inr rfl, Or.inr rfl, Or.inr rfl, Or.inr rfl, trivial⟩ ?_
      exact j_Pr_add_30_b95 C G hf
set_option maxRecDepth 100000 in
theorem ct_Pr_add_30 {ex : List tm_Sh} {p0 : Int32} {p2 : Int32} {p3 : Int32} {p4 : Int32} {p5 : Int32} {mI : tm_I} {mL : tm_L} {r : Int32 × tm_I × tm_L} (hf : f_Pr_add_30 p0 p2 p3 p4 p5 mI mL = some r) : tm_M ty_Pr_add 2 49 0 0 [.ref 19, .int p0, .ref 30, .int p2, .int p3, .int p4, .int p5] (sh0 ++ ex, mI, mL, rr) (tm_is (some (.int r.1)) (sh0 ++ ex, r.2.1, r.2.2, rr)) := by
  refine tm_body (by decide) (Nat.le_of_ble_eq_true rfl) fun Γ C G => ?_
  exact j_Pr_add_30_b0 C G hf
/-! Pr_add -/
def f_Pr_add_32_b95 (x1 : Int32) (x3 : Int32) (x4 : Int32) (x5 : Int32) (x6 : Int32) (x7 : Int32) (x8 : Int32) (x9 : Int32) (s0 : Int32) (mI : tm_I) (mL : tm_L) : Option (Int32 × tm_I × tm_L) := if s0 = 0 ∨ s0 = 1 then some (s0, mI, mL) else none
def f_Pr_add_32_b94 (x1 : Int32) (x3 : Int32) (x4 : Int32) (x5 : Int32) (x6 : Int32) (x7 : Int32) (x8 : Int32) (x9 : Int32) (mI : tm_I) (mL : tm_L) : Option (Int32 × tm_I × tm_L) := f_Pr_add_32_b95 x1 x3 x4 x5 x6 x7 x8 x9 (0 : Int32) mI mL
def f_Pr_add_32_b0 (x1 : Int32) (x3 : Int32) (x4 : Int32) (x5 : Int32) (x6 : Int32) (mI : tm_I) (mL : tm_L) : Option (Int32 × tm_I × tm_L) := (f_Fo_get 32 (3 : Int32) mI mL).bind fun v1 => (f_Pr_stepsX v1.1 x3 x4 v1.2.1 v1.2.2).bind fun v2 => (f_Pr_stepsY v1.1 x3 x4 v2.2.1 v2.2.2).bind fun v3 => (f_Sh_addOrder_32 x1 (((v1.2.1 19 8) + (v1.2.1 26 3)) + v2.1) (((v2.2.1 19 9) + (v2.2.1 26 4)) + v3.1) x5 x6 v3.2.1 v3.2.2).bind fun v4 => (f_La_isNear (((v1.2.1 19 8) + (v1.2.1 26 3)) + v2.1) v4.2.1 v4.2.2).bind fun v5 => if v5.1 = 0 then f_Pr_add_32_b94 x1 x3 x4 x5 x6 v1.1 (((v1.2.1 19 8) + (v1.2.1 26 3)) + v2.1) (((v2.2.1 19 9) + (v2.2.1 26 4)) + v3.1) v5.2.1 v5.2.2 else (f_La_isNear (((v2.2.1 19 9) + (v2.2.1 26 4)) + v3.1) v5.2.1 v5.2.2).bind fun v6 => if v6.1 = 0 then f_Pr_add_32_b94 x1 x3 x4 x5 x6 v1.1 (((v1.2.1 19 8) + (v1.2.1 26 3)) + v2.1) (((v2.2.1 19 9) + (v2.2.1 26 4)) + v3.1) v6.2.1 v6.2.2 else f_Pr_add_32_b95 x1 x3 x4 x5 x6 v1.1 (((v1.2.1 19 8) + (v1.2.1 26 3)) + v2.1) (((v2.2.1 19 9) + (v2.2.1 26 4)) + v3.1) (1 : Int32) v6.2.1 v6.2.2
abbrev f_Pr_add_32 (p0 : Int32) (p2 : Int32) (p3 : Int32) (p4 : Int32) (p5 : Int32) (mI : tm_I) (mL : tm_L) : Option (Int32 × tm_I × tm_L) := f_Pr_add_32_b0 p0 p2 p3 p4 p5 mI mL
set_option maxRecDepth 100000 in
set_option maxHeartbeats 4000000 in
theorem j_Pr_add_32_b95 {Γ : tm_G} {ex : List tm_Sh} {av : List Value} {X0 : tm_X} {r : Int32 × tm_I × tm_L} (C : tm_C Γ ty_Pr_add.1.cls ty_Pr_add.2.1 ty_Pr_add.2.2.1) (G : tm_Γ ty_Pr_add 2 49 0 0 av X0 (tm_is (some (.int r.1)) (sh0 ++ ex, r.2.1, r.2.2, rr)) Γ) {x1 : Int32} {x3 : Int32} {x4 : Int32} {x5 : Int32} {x6 : Int32} {x7 : Int32} {x8 : Int32} {x9 : Int32} {s0 : Int32} {mI : tm_I} {mL : tm_L} (hf : f_Pr_add_32_b95 x1 x3 x4 x5 x6 x7 x8 x9 s0 mI mL = some r) : tm_T Γ 10 0 0 95 [some (.ref 19), some (.int x1), some (.ref 32), some (.int x3), some (.int x4), some (.int x5), some (.int x6), some (.int x7), some (.int x8), some (.int x9)] [.int s0] (sh0 ++ ex) mI mL rr := by
  have Ro := G.ro
  unfold f_Pr_add_32_b95 at hf
  obtain ⟨c1, hf⟩ := tm_iteN hf
  cases hf
  exact tm_ei C G to_Pr_add rfl rfl (Nat.le_refl _) (tm_nz c1) ⟨rfl, rfl⟩
set_option maxRecDepth 100000 in
set_option maxHeartbeats 4000000 in
theorem j_Pr_add_32_b94 {Γ : tm_G} {ex : List tm_Sh} {av : List Value} {X0 : tm_X} {r : Int32 × tm_I × tm_L} (C : tm_C Γ ty_Pr_add.1.cls ty_Pr_add.2.1 ty_Pr_add.2.2.1) (G : tm_Γ ty_Pr_add 2 49 0 0 av X0 (tm_is (some (.int r.1)) (sh0 ++ ex, r.2.1, r.2.2, rr)) Γ) {x1 : Int32} {x3 : Int32} {x4 : Int32} {x5 : Int32} {x6 : Int32} {x7 : Int32} {x8 : Int32} {x9 : Int32} {mI : tm_I} {mL : tm_L} (hf : f_Pr_add_32_b94 x1 x3 x4 x5 x6 x7 x8 x9 mI mL = some r) : tm_T Γ 10 0 0 94 [some (.ref 19), some (.int x1), some (.ref 32), some (.int x3), some (.int x4), some (.int x5), some (.int x6), some (.int x7), some (.int x8), some (.int x9)] [] (sh0 ++ ex) mI mL rr := by
  have Ro := G.ro
  unfold f_Pr_add_32_b94 at hf
  refine tm_w C tfo_Pr to_Pr_add 0 rfl rfl rfl trivial ?_
  refine tm_wk (lv' := [some (.ref 19), some (.int x1), some (.ref 32), some (.int x3), some (.int x4), some (.int x5), some (.int x6), some (.int x7), some (.int x8), some (.int x9)]) ⟨Or.inr rfl, Or.inr rfl, Or.inr rfl, Or.inr rfl, Or.inr rfl, Or.inr rfl, Or.inr rfl, Or.inr rfl, Or.inr rfl, Or.inr rfl, trivial⟩ ?_
  exact j_Pr_add_32_b95 C G hf
set_option maxRecDepth 100000 in
set_option maxHeartbeats 4000000 in
theorem j_Pr_add_32_b0 {Γ : tm_G} {ex : List tm_Sh} {av : List Value} {X0 : tm_X} {r : Int32 × tm_I × tm_L} (C : tm_C Γ ty_Pr_add.1.cls ty_Pr_add.2.1 ty_Pr_add.2.2.1) (G : tm_Γ ty_Pr_add 2 49 0 0 av X0 (tm_is (some (.int r.1)) (sh0 ++ ex, r.2.1, r.2.2, rr)) Γ) {x1 : Int32} {x3 : Int32} {x4 : Int32} {x5 : Int32} {x6 : Int32} {mI : tm_I} {mL : tm_L} (hf : f_Pr_add_32_b0 x1 x3 x4 x5 x6 mI mL = some r) : tm_T Γ 10 0 0 0 [some (.ref 19), some (.int x1), some (.ref 32), some (.int x3), some (.int x4), some (.int x5), some (.int x6), none, none, none] [] (sh0 ++ ex) mI mL rr := by
  have Ro := G.ro
  unfold f_Pr_add_32_b0 at hf
  refine tm_w C tfo_Pr to_Pr_add 1 rfl rfl rfl trivial ?_
  obtain ⟨v1, hv1, hf⟩ := Option.bind_eq_some_iff.mp hf
  refine tm_cV C Ro to_Pr_add tl_Pr_49 rfl (ct_Fo_get isFo_32 hv1) rfl rfl rfl rfl rfl rfl rfl (Nat.le_refl _) (Nat.le_refl _) ?_
  refine tm_w C tfo_Pr to_Pr_add 9 rfl rfl rfl ⟨rfl, rfl, rfl, trivial⟩ ?_
  obtain ⟨v2, hv2, hf⟩ := Option.bind_eq_some_iff.mp hf
  refine tm_cS C Ro to_Pr_add tl_Pr_152 rfl (ct_Pr_stepsX hv2) rfl rfl rfl rfl rfl (Nat.le_refl _) (Nat.le_refl _) ?_
  refine tm_w C tfo_Pr to_Pr_add 10 rfl rfl rfl ⟨rfl, rfl, rfl, trivial⟩ ?_
  obtain ⟨v3, hv3, hf⟩ := Option.bind_eq_some_iff.mp hf
  refine tm_cS C Ro to_Pr_add tl_Pr_156 rfl (ct_Pr_stepsY hv3) rfl rfl rfl rfl rfl (Nat.le_refl _) (Nat.le_refl _) ?_
  refine tm_w C tfo_Pr to_Pr_add 11 rfl rfl rfl ⟨rfl, rfl, trivial⟩ ?_
  obtain ⟨v4, hv4, hf⟩ := Option.bind_eq_some_iff.mp hf
  refine tm_cV C Ro to_Pr_add tl_Pr_159 rfl (ct_Sh_addOrder_32 hv4) rfl rfl rfl rfl rfl rfl rfl (Nat.le_refl _) (Nat.le_refl _) ?_
  refine tm_w C tfo_Pr to_Pr_add 0 rfl rfl rfl trivial ?_
  obtain ⟨v5, hv5, hf⟩ := Option.bind_eq_some_iff.mp hf
  refine tm_cN C Ro to_Pr_add tl_Pr_148 rfl (ct_La_isNear hv5) rfl rfl rfl rfl rfl (Nat.le_refl _) (Nat.le_refl _) ?_
  refine tm_b C to_Pr_add rfl rfl (fun h => ?_) (fun h => ?_)
  · have hf := (if_pos h).symm.trans hf
    refine tm_wk (lv' := [some (.ref 19), some (.int x1), some (.ref 32), some (.int x3), some (.int x4), some (.int x5), some (.int x6), some (.int v1.1), some (.int (((v1.2.1 19 8) + (v1.2.1 26 3)) + v2.1)), some (.int (((v2.2.1 19 9) + (v2.2.1 26 4)) + v3.1))]) ⟨Or.inr rfl, Or.inr rfl, Or.inr rfl, Or.inr rfl, Or.inr rfl, Or.inr rfl, Or.inr rfl, Or.inr rfl, Or.inr rfl, Or.inr rfl, trivial⟩ ?_
    exact j_Pr_add_32_b94 C G hf
  · have hf := (if_neg h).symm.trans hf
    refine tm_w C tfo_Pr to_Pr_add 0 rfl rfl rfl trivial ?_
    obtain ⟨v6, hv6, hf⟩ := Option.bind_eq_some_iff.mp hf
    refine tm_cN C Ro to_Pr_add tl_Pr_148 rfl (ct_La_isNear hv6) rfl rfl rfl rfl rfl (Nat.le_refl _) (Nat.le_refl _) ?_
    refine tm_b C to_Pr_add rfl rfl (fun h => ?_) (fun h => ?_)
    · have hf := (if_pos h).symm.trans hf
      refine tm_wk (lv' := [some (.ref 19), some (.int x1), some (.ref 32), some (.int x3), some (.int x4), some (.int x5), some (.int x6), some (.int v1.1), some (.int (((v1.2.1 19 8) + (v1.2.1 26 3)) + v2.1)), some (.int (((v2.2.1 19 9) + (v2.2.1 26 4)) + v3.1))]) ⟨Or.inr rfl, Or.inr rfl, Or.inr rfl, Or.inr rfl, Or.inr rfl, Or.inr rfl, Or.inr rfl, Or.inr rfl, Or.inr rfl, Or.inr rfl, trivial⟩ ?_
      exact j_Pr_add_32_b94 C G hf
    · have hf := (if_neg h).symm.trans hf
      refine tm_w C tfo_Pr to_Pr_add 1 rfl rfl rfl trivial ?_
      refine tm_wk (lv' := [some (.ref 19), some (.int x1), some (.ref 32), some (.int x3), some (.int x4), some (.int x5), some (.int x6), some (.int v1.1), some (.int (((v1.2.1 19 8) + (v1.2.1 26 3)) + v2.1)), some (.int (((v2.2.1 19 9) + (v2.2.1 26 4)) + v3.1))]) ⟨Or.inr rfl, Or.inr rfl, Or.inr rfl, Or.inr rfl, Or.inr rfl, Or.inr rfl, Or.inr rfl, Or.inr rfl, Or.inr rfl, Or.inr rfl, trivial⟩ ?_
      exact j_Pr_add_32_b95 C G hf
set_option maxRecDepth 100000 in
theorem ct_Pr_add_32 {ex : List tm_Sh} {p0 : Int32} {p2 : Int32} {p3 : Int32} {p4 : Int32} {p5 : Int32} {mI : tm_I} {mL : tm_L} {r : Int32 × tm_I × tm_L} (hf : f_Pr_add_32 p0 p2 p3 p4 p5 mI mL = some r) : tm_M ty_Pr_add 2 49 0 0 [.ref 19, .int p0, .ref 32, .int p2, .int p3, .int p4, .int p5] (sh0 ++ ex, mI, mL, rr) (tm_is (some (.int r.1)) (sh0 ++ ex, r.2.1, r.2.2, rr)) := by
  refine tm_body (by decide) (Nat.le_of_ble_eq_true rfl) fun Γ C G => ?_
  exact j_Pr_add_32_b0 C G hf
/-! Pr_add -/
def f_Pr_add_34_b95 (x1 : Int32) (x3 : Int32) (x4 : Int32) (x5 : Int32) (x6 : Int32) (x7 : Int32) (x8 : Int32) (x9 : Int32) (s0 : Int32) (mI : tm_I) (mL : tm_L) : Option (Int32 × tm_I × tm_L) := if s0 = 0 ∨ s0 = 1 then some (s0, mI, mL) else none
def f_Pr_add_34_b94 (x1 : Int32) (x3 : Int32) (x4 : Int32) (x5 : Int32) (x6 : Int32) (x7 : Int32) (x8 : Int32) (x9 : Int32) (mI : tm_I) (mL : tm_L) : Option (Int32 × tm_I × tm_L) := f_Pr_add_34_b95 x1 x3 x4 x5 x6 x7 x8 x9 (0 : Int32) mI mL
def f_Pr_add_34_b0 (x1 : Int32) (x3 : Int32) (x4 : Int32) (x5 : Int32) (x6 : Int32) (mI : tm_I) (mL : tm_L) : Option (Int32 × tm_I × tm_L) := (f_Fo_get 34 (3 : Int32) mI mL).bind fun v1 => (f_Pr_stepsX v1.1 x3 x4 v1.2.1 v1.2.2).bind fun v2 => (f_Pr_stepsY v1.1 x3 x4 v2.2.1 v2.2.2).bind fun v3 => (f_Sh_addOrder_34 x1 (((v1.2.1 19 8) + (v1.2.1 26 3)) + v2.1) (((v2.2.1 19 9) + (v2.2.1 26 4)) + v3.1) x5 x6 v3.2.1 v3.2.2).bind fun v4 => (f_La_isNear (((v1.2.1 19 8) + (v1.2.1 26 3)) + v2.1) v4.2.1 v4.2.2).bind fun v5 => if v5.1 = 0 then f_Pr_add_34_b94 x1 x3 x4 x5 x6 v1.1 (((v1.2.1 19 8) + (v1.2.1 26 3)) + v2.1) (((v2.2.1 19 9) + (v2.2.1 26 4)) + v3.1) v5.2.1 v5.2.2 else (f_La_isNear (((v2.2.1 19 9) + (v2.2.1 26 4)) + v3.1) v5.2.1 v5.2.2).bind fun v6 => if v6.1 = 0 then f_Pr_add_34_b94 x1 x3 x4 x5 x6 v1.1 (((v1.2.1 19 8) + (v1.2.1 26 3)) + v2.1) (((v2.2.1 19 9) + (v2.2.1 26 4)) + v3.1) v6.2.1 v6.2.2 else f_Pr_add_34_b95 x1 x3 x4 x5 x6 v1.1 (((v1.2.1 19 8) + (v1.2.1 26 3)) + v2.1) (((v2.2.1 19 9) + (v2.2.1 26 4)) + v3.1) (1 : Int32) v6.2.1 v6.2.2
abbrev f_Pr_add_34 (p0 : Int32) (p2 : Int32) (p3 : Int32) (p4 : Int32) (p5 : Int32) (mI : tm_I) (mL : tm_L) : Option (Int32 × tm_I × tm_L) := f_Pr_add_34_b0 p0 p2 p3 p4 p5 mI mL
set_option maxRecDepth 100000 in
set_option maxHeartbeats 4000000 in
theorem j_Pr_add_34_b95 {Γ : tm_G} {ex : List tm_Sh} {av : List Value} {X0 : tm_X} {r : Int32 × tm_I × tm_L} (C : tm_C Γ ty_Pr_add.1.cls ty_Pr_add.2.1 ty_Pr_add.2.2.1) (G : tm_Γ ty_Pr_add 2 49 0 0 av X0 (tm_is (some (.int r.1)) (sh0 ++ ex, r.2.1, r.2.2, rr)) Γ) {x1 : Int32} {x3 : Int32} {x4 : Int32} {x5 : Int32} {x6 : Int32} {x7 : Int32} {x8 : Int32} {x9 : Int32} {s0 : Int32} {mI : tm_I} {mL : tm_L} (hf : f_Pr_add_34_b95 x1 x3 x4 x5 x6 x7 x8 x9 s0 mI mL = some r) : tm_T Γ 10 0 0 95 [some (.ref 19), some (.int x1), some (.ref 34), some (.int x3), some (.int x4), some (.int x5), some (.int x6), some (.int x7), some (.int x8), some (.int x9)] [.int s0] (sh0 ++ ex) mI mL rr := by
  have Ro := G.ro
  unfold f_Pr_add_34_b95 at hf
  obtain ⟨c1, hf⟩ := tm_iteN hf
  cases hf
  exact tm_ei C G to_Pr_add rfl rfl (Nat.le_refl _) (tm_nz c1) ⟨rfl, rfl⟩
set_option maxRecDepth 100000 in
set_option maxHeartbeats 4000000 in
theorem j_Pr_add_34_b94 {Γ : tm_G} {ex : List tm_Sh} {av : List Value} {X0 : tm_X} {r : Int32 × tm_I × tm_L} (C : tm_C Γ ty_Pr_add.1.cls ty_Pr_add.2.1 ty_Pr_add.2.2.1) (G : tm_Γ ty_Pr_add 2 49 0 0 av X0 (tm_is (some (.int r.1)) (sh0 ++ ex, r.2.1, r.2.2, rr)) Γ) {x1 : Int32} {x3 : Int32} {x4 : Int32} {x5 : Int32} {x6 : Int32} {x7 : Int32} {x8 : Int32} {x9 : Int32} {mI : tm_I} {mL : tm_L} (hf : f_Pr_add_34_b94 x1 x3 x4 x5 x6 x7 x8 x9 mI mL = some r) : tm_T Γ 10 0 0 94 [some (.ref 19), some (.int x1), some (.ref 34), some (.int x3), some (.int x4), some (.int x5), some (.int x6), some (.int x7), some (.int x8), some (.int x9)] [] (sh0 ++ ex) mI mL rr := by
  have Ro := G.ro
  unfold f_Pr_add_34_b94 at hf
  refine tm_w C tfo_Pr to_Pr_add 0 rfl rfl rfl trivial ?_
  refine tm_wk (lv' := [some (.ref 19), some (.int x1), some (.ref 34), some (.int x3), some (.int x4), some (.int x5), some (.int x6), some (.int x7), some (.int x8), some (.int x9)]) ⟨Or.inr rfl, Or.inr rfl, Or.inr rfl, Or.inr rfl, Or.inr rfl, Or.inr rfl, Or.inr rfl, Or.inr rfl, Or.inr rfl, Or.inr rfl, trivial⟩ ?_
  exact j_Pr_add_34_b95 C G hf
set_option maxRecDepth 100000 in
set_option maxHeartbeats 4000000 in
theorem j_Pr_add_34_b0 {Γ : tm_G} {ex : List tm_Sh} {av : List Value} {X0 : tm_X} {r : Int32 × tm_I × tm_L} (C : tm_C Γ ty_Pr_add.1.cls ty_Pr_add.2.1 ty_Pr_add.2.2.1) (G : tm_Γ ty_Pr_add 2 49 0 0 av X0 (tm_is (some (.int r.1)) (sh0 ++ ex, r.2.1, r.2.2, rr)) Γ) {x1 : Int32} {x3 : Int32} {x4 : Int32} {x5 : Int32} {x6 : Int32} {mI : tm_I} {mL : tm_L} (hf : f_Pr_add_34_b0 x1 x3 x4 x5 x6 mI mL = some r) : tm_T Γ 10 0 0 0 [some (.ref 19), some (.int x1), some (.ref 34), some (.int x3), some (.int x4), some (.int x5), some (.int x6), none, none, none] [] (sh0 ++ ex) mI mL rr := by
  have Ro := G.ro
  unfold f_Pr_add_34_b0 at hf
  refine tm_w C tfo_Pr to_Pr_add 1 rfl rfl rfl trivial ?_
  obtain ⟨v1, hv1, hf⟩ := Option.bind_eq_some_iff.mp hf
  refine tm_cV C Ro to_Pr_add tl_Pr_49 rfl (ct_Fo_get isFo_34 hv1) rfl rfl rfl rfl rfl rfl rfl (Nat.le_refl _) (Nat.le_refl _) ?_
  refine tm_w C tfo_Pr to_Pr_add 9 rfl rfl rfl ⟨rfl, rfl, rfl, trivial⟩ ?_
  obtain ⟨v2, hv2, hf⟩ := Option.bind_eq_some_iff.mp hf
  refine tm_cS C Ro to_Pr_add tl_Pr_152 rfl (ct_Pr_stepsX hv2) rfl rfl rfl rfl rfl (Nat.le_refl _) (Nat.le_refl _) ?_
  refine tm_w C tfo_Pr to_Pr_add 10 rfl rfl rfl ⟨rfl, rfl, rfl, trivial⟩ ?_
  obtain ⟨v3, hv3, hf⟩ := Option.bind_eq_some_iff.mp hf
  refine tm_cS C Ro to_Pr_add tl_Pr_156 rfl (ct_Pr_stepsY hv3) rfl rfl rfl rfl rfl (Nat.le_refl _) (Nat.le_refl _) ?_
  refine tm_w C tfo_Pr to_Pr_add 11 rfl rfl rfl ⟨rfl, rfl, trivial⟩ ?_
  obtain ⟨v4, hv4, hf⟩ := Option.bind_eq_some_iff.mp hf
  refine tm_cV C Ro to_Pr_add tl_Pr_159 rfl (ct_Sh_addOrder_34 hv4) rfl rfl rfl rfl rfl rfl rfl (Nat.le_refl _) (Nat.le_refl _) ?_
  refine tm_w C tfo_Pr to_Pr_add 0 rfl rfl rfl trivial ?_
  obtain ⟨v5, hv5, hf⟩ := Option.bind_eq_some_iff.mp hf
  refine tm_cN C Ro to_Pr_add tl_Pr_148 rfl (ct_La_isNear hv5) rfl rfl rfl rfl rfl (Nat.le_refl _) (Nat.le_refl _) ?_
  refine tm_b C to_Pr_add rfl rfl (fun h => ?_) (fun h => ?_)
  · have hf := (if_pos h).symm.trans hf
    refine tm_wk (lv' := [some (.ref 19), some (.int x1), some (.ref 34), some (.int x3), some (.int x4), some (.int x5), some (.int x6), some (.int v1.1), some (.int (((v1.2.1 19 8) + (v1.2.1 26 3)) + v2.1)), some (.int (((v2.2.1 19 9) + (v2.2.1 26 4)) + v3.1))]) ⟨Or.inr rfl, Or.inr rfl, Or.inr rfl, Or.inr rfl, Or.inr rfl, Or.inr rfl, Or.inr rfl, Or.inr rfl, Or.inr rfl, Or.inr rfl, trivial⟩ ?_
    exact j_Pr_add_34_b94 C G hf
  · have hf := (if_neg h).symm.trans hf
    refine tm_w C tfo_Pr to_Pr_add 0 rfl rfl rfl trivial ?_
    obtain ⟨v6, hv6, hf⟩ := Option.bind_eq_some_iff.mp hf
    refine tm_cN C Ro to_Pr_add tl_Pr_148 rfl (ct_La_isNear hv6) rfl rfl rfl rfl rfl (Nat.le_refl _) (Nat.le_refl _) ?_
    refine tm_b C to_Pr_add rfl rfl (fun h => ?_) (fun h => ?_)
    · have hf := (if_pos h).symm.trans hf
      refine tm_wk (lv' := [some (.ref 19), some (.int x1), some (.ref 34), some (.int x3), some (.int x4), some (.int x5), some (.int x6), some (.int v1.1), some (.int (((v1.2.1 19 8) + (v1.2.1 26 3)) + v2.1)), some (.int (((v2.2.1 19 9) + (v2.2.1 26 4)) + v3.1))]) ⟨Or.inr rfl, Or.inr rfl, Or.inr rfl, Or.inr rfl, Or.inr rfl, Or.inr rfl, Or.inr rfl, Or.inr rfl, Or.inr rfl, Or.inr rfl, trivial⟩ ?_
      exact j_Pr_add_34_b94 C G hf
    · have hf := (if_neg h).symm.trans hf
      refine tm_w C tfo_Pr to_Pr_add 1 rfl rfl rfl trivial ?_
      refine tm_wk (lv' := [some (.ref 19), some (.int x1), some (.ref 34), some (.int x3), some (.int x4), some (.int x5), some (.int x6), some (.int v1.1), some (.int (((v1.2.1 19 8) + (v1.2.1 26 3)) + v2.1)), some (.int (((v2.2.1 19 9) + (v2.2.1 26 4)) + v3.1))]) ⟨Or.inr rfl, Or.inr rfl, Or.inr rfl, Or.inr rfl, Or.inr rfl, Or.inr rfl, Or.inr rfl, Or.inr rfl, Or.inr rfl, Or.inr rfl, trivial⟩ ?_
      exact j_Pr_add_34_b95 C G hf
set_option maxRecDepth 100000 in
theorem ct_Pr_add_34 {ex : List tm_Sh} {p0 : Int32} {p2 : Int32} {p3 : Int32} {p4 : Int32} {p5 : Int32} {mI : tm_I} {mL : tm_L} {r : Int32 × tm_I × tm_L} (hf : f_Pr_add_34 p0 p2 p3 p4 p5 mI mL = some r) : tm_M ty_Pr_add 2 49 0 0 [.ref 19, .int p0, .ref 34, .int p2, .int p3, .int p4, .int p5] (sh0 ++ ex, mI, mL, rr) (tm_is (some (.int r.1)) (sh0 ++ ex, r.2.1, r.2.2, rr)) := by
  refine tm_body (by decide) (Nat.le_of_ble_eq_true rfl) fun Γ C G => ?_
  exact j_Pr_add_34_b0 C G hf
/-! Pr_drawTextOfBars -/
def f_Pr_drawTextOfBars_b0  (mI : tm_I) (mL : tm_L) : Option (Int32 × tm_I × tm_L) := (f_Fo_get 32 (0 : Int32) mI mL).bind fun v1 => (f_Fo_get 32 (1 : Int32) v1.2.1 v1.2.2).bind fun v2 => (f_Fo_get 32 (2 : Int32) v2.2.1 v2.2.2).bind fun v3 => (f_Fo_get 30 (2 : Int32) v3.2.1 v3.2.2).bind fun v4 => (f_Fo_setAll 34 v1.1 v2.1 v3.1 v4.1 v4.2.1 v4.2.2).bind fun v5 => (f_Fo_get 30 (1 : Int32) v5.2.1 v5.2.2).bind fun v6 => (f_Ro_size 27 (0 : Int32) v6.2.1 v6.2.2).bind fun v7 => (f_Pr_add_34 (0 : Int32) (0 : Int32) (v6.1 + (3 : Int32)) (0 : Int32) v7.1 v7.2.1 v7.2.2).bind fun v8 => if v8.1 = 0 ∨ v8.1 = 1 then some (v8.1, v8.2.1, v8.2.2) else none
abbrev f_Pr_drawTextOfBars  (mI : tm_I) (mL : tm_L) : Option (Int32 × tm_I × tm_L) := f_Pr_drawTextOfBars_b0  mI mL
set_option maxRecDepth 100000 in
set_option maxHeartbeats 4000000 in
theorem j_Pr_drawTextOfBars_b0 {Γ : tm_G} {ex : List tm_Sh} {av : List Value} {X0 : tm_X} {r : Int32 × tm_I × tm_L} (C : tm_C Γ ty_Pr_drawTextOfBars.1.cls ty_Pr_drawTextOfBars.2.1 ty_Pr_drawTextOfBars.2.2.1) (G : tm_Γ ty_Pr_drawTextOfBars 3 78 0 0 av X0 (tm_is (some (.int r.1)) (sh0 ++ ex, r.2.1, r.2.2, rr)) Γ) {mI : tm_I} {mL : tm_L} (hf : f_Pr_drawTextOfBars_b0  mI mL = some r) : tm_T Γ 2 0 0 0 [some (.ref 19), none] [] (sh0 ++ ex) mI mL rr := by
  have Ro := G.ro
  unfold f_Pr_drawTextOfBars_b0 at hf
  refine tm_w C tfo_Pr to_Pr_drawTextOfBars 8 rfl rfl rfl ⟨rfl, rfl, rfl, rfl, trivial⟩ ?_
  obtain ⟨v1, hv1, hf⟩ := Option.bind_eq_some_iff.mp hf
  refine tm_cV C Ro to_Pr_drawTextOfBars tl_Pr_49 rfl (ct_Fo_get isFo_32 hv1) rfl rfl rfl rfl rfl rfl rfl (Nat.le_refl _) (Nat.le_refl _) ?_
  refine tm_w C tfo_Pr to_Pr_drawTextOfBars 2 rfl rfl rfl ⟨rfl, trivial⟩ ?_
  obtain ⟨v2, hv2, hf⟩ := Option.bind_eq_some_iff.mp hf
  refine tm_cV C Ro to_Pr_drawTextOfBars tl_Pr_49 rfl (ct_Fo_get isFo_32 hv2) rfl rfl rfl rfl rfl rfl rfl (Nat.le_refl _) (Nat.le_refl _) ?_
  refine tm_w C tfo_Pr to_Pr_drawTextOfBars 2 rfl rfl rfl ⟨rfl, trivial⟩ ?_
  obtain ⟨v3, hv3, hf⟩ := Option.bind_eq_some_iff.mp hf
  refine tm_cV C Ro to_Pr_drawTextOfBars tl_Pr_49 rfl (ct_Fo_get isFo_32 hv3) rfl rfl rfl rfl rfl rfl rfl (Nat.le_refl _) (Nat.le_refl _) ?_
  refine tm_w C tfo_Pr to_Pr_drawTextOfBars 1 rfl rfl rfl trivial ?_
  obtain ⟨v4, hv4, hf⟩ := Option.bind_eq_some_iff.mp hf
  refine tm_cV C Ro to_Pr_drawTextOfBars tl_Pr_49 rfl (ct_Fo_get isFo_30 hv4) rfl rfl rfl rfl rfl rfl rfl (Nat.le_refl _) (Nat.le_refl _) ?_
  obtain ⟨v5, hv5, hf⟩ := Option.bind_eq_some_iff.mp hf
  refine tm_cV C Ro to_Pr_drawTextOfBars tl_Pr_69 rfl (ct_Fo_setAll isFo_34 hv5) rfl rfl rfl rfl rfl rfl rfl (Nat.le_refl _) (Nat.le_refl _) ?_
  refine tm_w C tfo_Pr to_Pr_drawTextOfBars 6 rfl rfl rfl ⟨rfl, trivial⟩ ?_
  obtain ⟨v6, hv6, hf⟩ := Option.bind_eq_some_iff.mp hf
  refine tm_cV C Ro to_Pr_drawTextOfBars tl_Pr_49 rfl (ct_Fo_get isFo_30 hv6) rfl rfl rfl rfl rfl rfl rfl (Nat.le_refl _) (Nat.le_refl _) ?_
  refine tm_w C tfo_Pr to_Pr_drawTextOfBars 6 rfl rfl rfl ⟨rfl, rfl, trivial⟩ ?_
  obtain ⟨v7, hv7, hf⟩ := Option.bind_eq_some_iff.mp hf
  refine tm_cV C Ro to_Pr_drawTextOfBars tl_Pr_124 rfl (ct_Ro_size isRo_27 hv7) rfl rfl rfl rfl rfl rfl rfl (Nat.le_refl _) (Nat.le_refl _) ?_
  obtain ⟨v8, hv8, hf⟩ := Option.bind_eq_some_iff.mp hf
  refine tm_cV C Ro to_Pr_drawTextOfBars tl_Pr_129 rfl (ct_Pr_add_34 hv8) rfl rfl rfl rfl rfl rfl rfl (Nat.le_refl _) (Nat.le_refl _) ?_
  obtain ⟨c1, hf⟩ := tm_iteN hf
  cases hf
  exact tm_ei C G to_Pr_drawTextOfBars rfl rfl (Nat.le_refl _) (tm_nz c1) ⟨rfl, rfl⟩
set_option maxRecDepth 100000 in
theorem ct_Pr_drawTextOfBars {ex : List tm_Sh}  {mI : tm_I} {mL : tm_L} {r : Int32 × tm_I × tm_L} (hf : f_Pr_drawTextOfBars  mI mL = some r) : tm_M ty_Pr_drawTextOfBars 3 78 0 0 [.ref 19] (sh0 ++ ex, mI, mL, rr) (tm_is (some (.int r.1)) (sh0 ++ ex, r.2.1, r.2.2, rr)) := by
  refine tm_body (by decide) (Nat.le_of_ble_eq_true rfl) fun Γ C G => ?_
  exact j_Pr_drawTextOfBars_b0 C G hf
/-! Pr_drawBlock -/
def f_Pr_drawBlock_b121 (x2 : Int32) (x3 : Int32) (x4 : Int32) (s0 : Int32) (mI : tm_I) (mL : tm_L) : Option (Int32 × tm_I × tm_L) := if s0 = 0 ∨ s0 = 1 then some (s0, mI, mL) else none
def f_Pr_drawBlock_l33 : Nat → Int32 → Int32 → Int32 → tm_I → tm_L → Option (Int32 × tm_I × tm_L)
  | 0, _, _, _, _, _ => none
  | n + 1, x2, x3, x4, mI, mL => if x3 ≤ x4 then if x3 = (-1 : Int32) then f_Pr_drawBlock_b121 x2 x3 x4 (0 : Int32) mI mL else f_Pr_drawBlock_b121 x2 x3 x4 (1 : Int32) mI mL else (f_Li_size x4 mI mL).bind fun v1 => (f_Fo_get 30 (3 : Int32) v1.2.1 v1.2.2).bind fun v2 => (f_Fo_get 30 (2 : Int32) v2.2.1 v2.2.2).bind fun v3 => (f_Pr_cellsBefore v3.1 (x2 - v1.1) v3.2.1 v3.2.2).bind fun v4 => (f_Fo_get 30 (1 : Int32) v4.2.1 v4.2.2).bind fun v5 => (f_Li_start x4 v5.2.1 v5.2.2).bind fun v6 => (f_Pr_add_32 (0 : Int32) (v2.1 * v4.1) (x4 * v5.1) v6.1 v1.1 v6.2.1 v6.2.2).bind fun v7 => if ¬ v7.1 = 0 then (f_Pr_drawBlock_l33 n) x2 x3 (x4 + (1 : Int32)) v7.2.1 v7.2.2 else some ((0 : Int32), v7.2.1, v7.2.2)
def f_Pr_drawBlock_b0  (mI : tm_I) (mL : tm_L) : Option (Int32 × tm_I × tm_L) := (f_Fo_get 30 (0 : Int32) mI mL).bind fun v8 => (f_Li_cut v8.1 v8.2.1 v8.2.2).bind fun v9 => f_Pr_drawBlock_l33 tm_F v8.1 v9.1 (0 : Int32) v9.2.1 v9.2.2
abbrev f_Pr_drawBlock  (mI : tm_I) (mL : tm_L) : Option (Int32 × tm_I × tm_L) := f_Pr_drawBlock_b0  mI mL
set_option maxRecDepth 100000 in
set_option maxHeartbeats 4000000 in
theorem j_Pr_drawBlock_b121 {Γ : tm_G} {ex : List tm_Sh} {av : List Value} {X0 : tm_X} {r : Int32 × tm_I × tm_L} (C : tm_C Γ ty_Pr_drawBlock.1.cls ty_Pr_drawBlock.2.1 ty_Pr_drawBlock.2.2.1) (G : tm_Γ ty_Pr_drawBlock 3 78 0 0 av X0 (tm_is (some (.int r.1)) (sh0 ++ ex, r.2.1, r.2.2, rr)) Γ) {x2 : Int32} {x3 : Int32} {x4 : Int32} {s0 : Int32} {mI : tm_I} {mL : tm_L} (hf : f_Pr_drawBlock_b121 x2 x3 x4 s0 mI mL = some r) : tm_T Γ 7 0 0 121 [some (.ref 19), some (.ref 30), some (.int x2), some (.int x3), some (.int x4), none, none] [.int s0] (sh0 ++ ex) mI mL rr := by
  have Ro := G.ro
  unfold f_Pr_drawBlock_b121 at hf
  obtain ⟨c1, hf⟩ := tm_iteN hf
  cases hf
  exact tm_ei C G to_Pr_drawBlock rfl rfl (Nat.le_refl _) (tm_nz c1) ⟨rfl, rfl⟩
set_option maxRecDepth 100000 in
set_option maxHeartbeats 4000000 in
theorem j_Pr_drawBlock_l33 {Γ : tm_G} {ex : List tm_Sh} {av : List Value} {X0 : tm_X} {r : Int32 × tm_I × tm_L} (C : tm_C Γ ty_Pr_drawBlock.1.cls ty_Pr_drawBlock.2.1 ty_Pr_drawBlock.2.2.1) (G : tm_Γ ty_Pr_drawBlock 3 78 0 0 av X0 (tm_is (some (.int r.1)) (sh0 ++ ex, r.2.1, r.2.2, rr)) Γ) : ∀ (n : Nat) (x2 : Int32) (x3 : Int32) (x4 : Int32) (mI : tm_I) (mL : tm_L), f_Pr_drawBlock_l33 n x2 x3 x4 mI mL = some r → tm_T Γ 7 0 0 33 [some (.ref 19), some (.ref 30), some (.int x2), some (.int x3), some (.int x4), none, none] [] (sh0 ++ ex) mI mL rr := by
  have Ro := G.ro
  intro n
  induction n with
  | zero => intro x2 x3 x4 mI mL hf; cases hf
  | succ n ih =>
    intro x2 x3 x4 mI mL hf
    rw [f_Pr_drawBlock_l33] at hf
    refine tm_w C tfo_Pr to_Pr_drawBlock 1 rfl rfl rfl trivial ?_
    refine tm_b C to_Pr_drawBlock rfl rfl (fun h => ?_) (fun h => ?_)
    · have hf := (if_pos h).symm.trans hf
      refine tm_w C tfo_Pr to_Pr_drawBlock 1 rfl rfl rfl trivial ?_
      refine tm_b C to_Pr_drawBlock rfl rfl (fun h => ?_) (fun h => ?_)
      · have hf := (if_pos h).symm.trans hf
        refine tm_w C tfo_Pr to_Pr_drawBlock 0 rfl rfl rfl trivial ?_
        refine tm_wk (lv' := [some (.ref 19), some (.ref 30), some (.int x2), some (.int x3), some (.int x4), none, none]) ⟨Or.inr rfl, Or.inr rfl, Or.inr rfl, Or.inr rfl, Or.inr rfl, Or.inl rfl, Or.inl rfl, trivial⟩ ?_
        exact j_Pr_drawBlock_b121 C G hf
      · have hf := (if_neg h).symm.trans hf
        refine tm_w C tfo_Pr to_Pr_drawBlock 1 rfl rfl rfl trivial ?_
        refine tm_wk (lv' := [some (.ref 19), some (.ref 30), some (.int x2), some (.int x3), some (.int x4), none, none]) ⟨Or.inr rfl, Or.inr rfl, Or.inr rfl, Or.inr rfl, Or.inr rfl, Or.inl rfl, Or.inl rfl, trivial⟩ ?_
        exact j_Pr_drawBlock_b121 C G hf
    · have hf := (if_neg h).symm.trans hf
      refine tm_w C tfo_Pr to_Pr_drawBlock 2 rfl rfl rfl ⟨rfl, trivial⟩ ?_
      obtain ⟨v1, hv1, hf⟩ := Option.bind_eq_some_iff.mp hf
      refine tm_cV C Ro to_Pr_drawBlock tl_Pr_140 rfl (ct_Li_size hv1) rfl rfl rfl rfl rfl rfl rfl (Nat.le_refl _) (Nat.le_refl _) ?_
      refine tm_w C tfo_Pr to_Pr_drawBlock 2 rfl rfl rfl trivial ?_
      obtain ⟨v2, hv2, hf⟩ := Option.bind_eq_some_iff.mp hf
      refine tm_cV C Ro to_Pr_drawBlock tl_Pr_49 rfl (ct_Fo_get isFo_30 hv2) rfl rfl rfl rfl rfl rfl rfl (Nat.le_refl _) (Nat.le_refl _) ?_
      refine tm_w C tfo_Pr to_Pr_drawBlock 1 rfl rfl rfl trivial ?_
      obtain ⟨v3, hv3, hf⟩ := Option.bind_eq_some_iff.mp hf
      refine tm_cV C Ro to_Pr_drawBlock tl_Pr_49 rfl (ct_Fo_get isFo_30 hv3) rfl rfl rfl rfl rfl rfl rfl (Nat.le_refl _) (Nat.le_refl _) ?_
      refine tm_w C tfo_Pr to_Pr_drawBlock 2 rfl rfl rfl trivial ?_
      obtain ⟨v4, hv4, hf⟩ := Option.bind_eq_some_iff.mp hf
      refine tm_cS C Ro to_Pr_drawBlock tl_Pr_141 rfl (ct_Pr_cellsBefore hv4) rfl rfl rfl rfl rfl (Nat.le_refl _) (Nat.le_refl _) ?_
      refine tm_w C tfo_Pr to_Pr_drawBlock 9 rfl rfl rfl ⟨rfl, trivial⟩ ?_
      obtain ⟨v5, hv5, hf⟩ := Option.bind_eq_some_iff.mp hf
      refine tm_cV C Ro to_Pr_drawBlock tl_Pr_49 rfl (ct_Fo_get isFo_30 hv5) rfl rfl rfl rfl rfl rfl rfl (Nat.le_refl _) (Nat.le_refl _) ?_
      refine tm_w C tfo_Pr to_Pr_drawBlock 3 rfl rfl rfl ⟨rfl, trivial⟩ ?_
      obtain ⟨v6, hv6, hf⟩ := Option.bind_eq_some_iff.mp hf
      refine tm_cV C Ro to_Pr_drawBlock tl_Pr_145 rfl (ct_Li_start hv6) rfl rfl rfl rfl rfl rfl rfl (Nat.le_refl _) (Nat.le_refl _) ?_
      refine tm_w C tfo_Pr to_Pr_drawBlock 0 rfl rfl rfl trivial ?_
      obtain ⟨v7, hv7, hf⟩ := Option.bind_eq_some_iff.mp hf
      refine tm_cV C Ro to_Pr_drawBlock tl_Pr_129 rfl (ct_Pr_add_32 hv7) rfl rfl rfl rfl rfl rfl rfl (Nat.le_refl _) (Nat.le_refl _) ?_
      refine tm_b C to_Pr_drawBlock rfl rfl (fun h => ?_) (fun h => ?_)
      · have hf := (if_pos h).symm.trans hf
        refine tm_w C tfo_Pr to_Pr_drawBlock 1 rfl rfl rfl trivial ?_
        refine tm_wk (lv' := [some (.ref 19), some (.ref 30), some (.int x2), some (.int x3), some (.int (x4 + (1 : Int32))), none, none]) ⟨Or.inr rfl, Or.inr rfl, Or.inr rfl, Or.inr rfl, Or.inr rfl, Or.inl rfl, Or.inl rfl, trivial⟩ ?_
        exact ih _ _ _ _ _ hf
      · have hf := (if_neg h).symm.trans hf
        refine tm_w C tfo_Pr to_Pr_drawBlock 0 rfl rfl rfl trivial ?_
        cases hf
        exact tm_ei C G to_Pr_drawBlock rfl rfl (Nat.le_refl _) rfl ⟨rfl, rfl⟩
set_option maxRecDepth 100000 in
set_option maxHeartbeats 4000000 in
theorem j_Pr_drawBlock_b0 {Γ : tm_G} {ex : List tm_Sh} {av : List Value} {X0 : tm_X} {r : Int32 × tm_I × tm_L} (C : tm_C Γ ty_Pr_drawBlock.1.cls ty_Pr_drawBlock.2.1 ty_Pr_drawBlock.2.2.1) (G : tm_Γ ty_Pr_drawBlock 3 78 0 0 av X0 (tm_is (some (.int r.1)) (sh0 ++ ex, r.2.1, r.2.2, rr)) Γ) {mI : tm_I} {mL : tm_L} (hf : f_Pr_drawBlock_b0  mI mL = some r) : tm_T Γ 7 0 0 0 [some (.ref 19), none, none, none, none, none, none] [] (sh0 ++ ex) mI mL rr := by
  have Ro := G.ro
  unfold f_Pr_drawBlock_b0 at hf
  refine tm_w C tfo_Pr to_Pr_drawBlock 5 rfl rfl rfl ⟨rfl, rfl, trivial⟩ ?_
  obtain ⟨v8, hv8, hf⟩ := Option.bind_eq_some_iff.mp hf
  refine tm_cV C Ro to_Pr_drawBlock tl_Pr_49 rfl (ct_Fo_get isFo_30 hv8) rfl rfl rfl rfl rfl rfl rfl (Nat.le_refl _) (Nat.le_refl _) ?_
  refine tm_w C tfo_Pr to_Pr_drawBlock 6 rfl rfl rfl ⟨rfl, rfl, rfl, trivial⟩ ?_
  obtain ⟨v9, hv9, hf⟩ := Option.bind_eq_some_iff.mp hf
  refine tm_cV C Ro to_Pr_drawBlock tl_Pr_136 rfl (ct_Li_cut hv9) rfl rfl rfl rfl rfl rfl rfl (Nat.le_refl _) (Nat.le_refl _) ?_
  refine tm_w C tfo_Pr to_Pr_drawBlock 2 rfl rfl rfl trivial ?_
  refine tm_wk (lv' := [some (.ref 19), some (.ref 30), some (.int v8.1), some (.int v9.1), some (.int (0 : Int32)), none, none]) ⟨Or.inr rfl, Or.inr rfl, Or.inr rfl, Or.inr rfl, Or.inr rfl, Or.inl rfl, Or.inl rfl, trivial⟩ ?_
  exact j_Pr_drawBlock_l33 C G _ _ _ _ _ _ hf
set_option maxRecDepth 100000 in
theorem ct_Pr_drawBlock {ex : List tm_Sh}  {mI : tm_I} {mL : tm_L} {r : Int32 × tm_I × tm_L} (hf : f_Pr_drawBlock  mI mL = some r) : tm_M ty_Pr_drawBlock 3 78 0 0 [.ref 19] (sh0 ++ ex, mI, mL, rr) (tm_is (some (.int r.1)) (sh0 ++ ex, r.2.1, r.2.2, rr)) := by
  refine tm_body (by decide) (Nat.le_of_ble_eq_true rfl) fun Γ C G => ?_
  exact j_Pr_drawBlock_b0 C G hf
/-! Pr_drawWhole -/
def f_Pr_drawWhole_b168 (x2 : Int32) (s1 : Int32) (mI : tm_I) (mL : tm_L) : Option (Int32 × tm_I × tm_L) := (f_Pr_add_34 s1 (0 : Int32) (0 : Int32) (0 : Int32) x2 mI mL).bind fun v1 => if v1.1 = 0 ∨ v1.1 = 1 then some (v1.1, v1.2.1, v1.2.2) else none
def f_Pr_drawWhole_b127 (x2 : Int32) (mI : tm_I) (mL : tm_L) : Option (Int32 × tm_I × tm_L) := (f_Fo_get 30 (0 : Int32) mI mL).bind fun v2 => (f_Fo_get 30 (1 : Int32) v2.2.1 v2.2.2).bind fun v3 => (f_Fo_get 30 (2 : Int32) v3.2.1 v3.2.2).bind fun v4 => (f_Fo_setAll 34 v2.1 v3.1 (0 : Int32) v4.1 v4.2.1 v4.2.2).bind fun v5 => if ¬ (v5.2.1 26 2) = (66 : Int32) then f_Pr_drawWhole_b168 x2 (2 : Int32) v5.2.1 v5.2.2 else f_Pr_drawWhole_b168 x2 (1 : Int32) v5.2.1 v5.2.2
def f_Pr_drawWhole_b254 (x2 : Int32) (mI : tm_I) (mL : tm_L) : Option (Int32 × tm_I × tm_L) := some ((0 : Int32), mI, mL)
def f_Pr_drawWhole_b239 (x2 : Int32) (s0 : Int32) (mI : tm_I) (mL : tm_L) : Option (Int32 × tm_I × tm_L) := if s0 = 0 ∨ s0 = 1 then some (s0, mI, mL) else none
def f_Pr_drawWhole_b238 (x2 : Int32) (mI : tm_I) (mL : tm_L) : Option (Int32 × tm_I × tm_L) := f_Pr_drawWhole_b239 x2 (0 : Int32) mI mL
def f_Pr_drawWhole_b0  (mI : tm_I) (mL : tm_L) : Option (Int32 × tm_I × tm_L) := (f_Ro_size 27 (0 : Int32) mI mL).bind fun v6 => if (v6.2.1 26 2) = (66 : Int32) then f_Pr_drawWhole_b127 v6.1 v6.2.1 v6.2.2 else if (v6.2.1 26 2) = (70 : Int32) then (f_Pr_add_30 (4 : Int32) (0 : Int32) (0 : Int32) (0 : Int32) (0 : Int32) v6.2.1 v6.2.2).bind fun v7 => if v7.1 = 0 ∨ v7.1 = 1 then some (v7.1, v7.2.1, v7.2.2) else none else if (v6.2.1 26 2) = (71 : Int32) then (f_Pr_add_30 (6 : Int32) (0 : Int32) (0 : Int32) (0 : Int32) (0 : Int32) v6.2.1 v6.2.2).bind fun v8 => if v8.1 = 0 then f_Pr_drawWhole_b238 v6.1 v8.2.1 v8.2.2 else (f_Pr_endsNear v8.2.1 v8.2.2).bind fun v9 => if v9.1 = 0 then f_Pr_drawWhole_b238 v6.1 v9.2.1 v9.2.2 else f_Pr_drawWhole_b239 v6.1 (1 : Int32) v9.2.1 v9.2.2 else if (v6.2.1 26 2) = (73 : Int32) then (f_Pr_add_30 (5 : Int32) (0 : Int32) (0 : Int32) (0 : Int32) (0 : Int32) v6.2.1 v6.2.2).bind fun v10 => if v10.1 = 0 ∨ v10.1 = 1 then some (v10.1, v10.2.1, v10.2.2) else none else if (v6.2.1 26 2) = (78 : Int32) then f_Pr_drawWhole_b127 v6.1 v6.2.1 v6.2.2 else if (v6.2.1 26 2) = (80 : Int32) then (f_Pr_add_30 (7 : Int32) (0 : Int32) (0 : Int32) (0 : Int32) (v6.1 / (2 : Int32)) v6.2.1 v6.2.2).bind fun v11 => if v11.1 = 0 ∨ v11.1 = 1 then some (v11.1, v11.2.1, v11.2.2) else none else if (v6.2.1 26 2) = (81 : Int32) then (f_Pr_add_30 (3 : Int32) (0 : Int32) (0 : Int32) (0 : Int32) v6.1 v6.2.1 v6.2.2).bind fun v12 => if v12.1 = 0 ∨ v12.1 = 1 then some (v12.1, v12.2.1, v12.2.2) else none else if (v6.2.1 26 2) = (84 : Int32) then (f_Pr_add_30 (0 : Int32) (0 : Int32) (0 : Int32) (0 : Int32) v6.1 v6.2.1 v6.2.2).bind fun v13 => if v13.1 = 0 ∨ v13.1 = 1 then some (v13.1, v13.2.1, v13.2.2) else none else f_Pr_drawWhole_b254 v6.1 v6.2.1 v6.2.2
abbrev f_Pr_drawWhole  (mI : tm_I) (mL : tm_L) : Option (Int32 × tm_I × tm_L) := f_Pr_drawWhole_b0  mI mL
set_option maxRecDepth 100000 in
set_option maxHeartbeats 4000000 in
theorem j_Pr_drawWhole_b168 {Γ : tm_G} {ex : List tm_Sh} {av : List Value} {X0 : tm_X} {r : Int32 × tm_I × tm_L} (C : tm_C Γ ty_Pr_drawWhole.1.cls ty_Pr_drawWhole.2.1 ty_Pr_drawWhole.2.2.1) (G : tm_Γ ty_Pr_drawWhole 3 78 0 0 av X0 (tm_is (some (.int r.1)) (sh0 ++ ex, r.2.1, r.2.2, rr)) Γ) {x2 : Int32} {s1 : Int32} {mI : tm_I} {mL : tm_L} (hf : f_Pr_drawWhole_b168 x2 s1 mI mL = some r) : tm_T Γ 3 0 0 168 [some (.ref 19), some (.ref 30), some (.int x2)] [.int s1, .ref 19] (sh0 ++ ex) mI mL rr := by
  have Ro := G.ro
  unfold f_Pr_drawWhole_b168 at hf
  refine tm_w C tfo_Pr to_Pr_drawWhole 5 rfl rfl rfl ⟨rfl, trivial⟩ ?_
  obtain ⟨v1, hv1, hf⟩ := Option.bind_eq_some_iff.mp hf
  refine tm_cV C Ro to_Pr_drawWhole tl_Pr_129 rfl (ct_Pr_add_34 hv1) rfl rfl rfl rfl rfl rfl rfl (Nat.le_refl _) (Nat.le_refl _) ?_
  obtain ⟨c1, hf⟩ := tm_iteN hf
  cases hf
  exact tm_ei C G to_Pr_drawWhole rfl rfl (Nat.le_refl _) (tm_nz c1) ⟨rfl, rfl⟩
set_option maxRecDepth 100000 in
set_option maxHeartbeats 4000000 in
theorem j_Pr_drawWhole_b127 {Γ : tm_G} {ex : List tm_Sh} {av : List Value} {X0 : tm_X} {r : Int32 × tm_I × tm_L} (C : tm_C Γ ty_Pr_drawWhole.1.cls ty_Pr_drawWhole.2.1 ty_Pr_drawWhole.2.2.1) (G : tm_Γ ty_Pr_drawWhole 3 78 0 0 av X0 (tm_is (some (.int r.1)) (sh0 ++ ex, r.2.1, r.2.2, rr)) Γ) {x2 : Int32} {mI : tm_I} {mL : tm_L} (hf : f_Pr_drawWhole_b127 x2 mI mL = some r) : tm_T Γ 3 0 0 127 [some (.ref 19), some (.ref 30), some (.int x2)] [] (sh0 ++ ex) mI mL rr := by
  have Ro := G.ro
  unfold f_Pr_drawWhole_b127 at hf
  refine tm_w C tfo_Pr to_Pr_drawWhole 3 rfl rfl rfl ⟨rfl, trivial⟩ ?_
  obtain ⟨v2, hv2, hf⟩ := Option.bind_eq_some_iff.mp hf
  refine tm_cV C Ro to_Pr_drawWhole tl_Pr_49 rfl (ct_Fo_get isFo_30 hv2) rfl rfl rfl rfl rfl rfl rfl (Nat.le_refl _) (Nat.le_refl _) ?_
  refine tm_w C tfo_Pr to_Pr_drawWhole 1 rfl rfl rfl trivial ?_
  obtain ⟨v3, hv3, hf⟩ := Option.bind_eq_some_iff.mp hf
  refine tm_cV C Ro to_Pr_drawWhole tl_Pr_49 rfl (ct_Fo_get isFo_30 hv3) rfl rfl rfl rfl rfl rfl rfl (Nat.le_refl _) (Nat.le_refl _) ?_
  refine tm_w C tfo_Pr to_Pr_drawWhole 2 rfl rfl rfl trivial ?_
  obtain ⟨v4, hv4, hf⟩ := Option.bind_eq_some_iff.mp hf
  refine tm_cV C Ro to_Pr_drawWhole tl_Pr_49 rfl (ct_Fo_get isFo_30 hv4) rfl rfl rfl rfl rfl rfl rfl (Nat.le_refl _) (Nat.le_refl _) ?_
  obtain ⟨v5, hv5, hf⟩ := Option.bind_eq_some_iff.mp hf
  refine tm_cV C Ro to_Pr_drawWhole tl_Pr_69 rfl (ct_Fo_setAll isFo_34 hv5) rfl rfl rfl rfl rfl rfl rfl (Nat.le_refl _) (Nat.le_refl _) ?_
  refine tm_w C tfo_Pr to_Pr_drawWhole 4 rfl rfl rfl ⟨rfl, rfl, trivial⟩ ?_
  refine tm_b C to_Pr_drawWhole rfl rfl (fun h => ?_) (fun h => ?_)
  · have hf := (if_pos h).symm.trans hf
    refine tm_w C tfo_Pr to_Pr_drawWhole 0 rfl rfl rfl trivial ?_
    refine tm_wk (lv' := [some (.ref 19), some (.ref 30), some (.int x2)]) ⟨Or.inr rfl, Or.inr rfl, Or.inr rfl, trivial⟩ ?_
    exact j_Pr_drawWhole_b168 C G hf
  · have hf := (if_neg h).symm.trans hf
    refine tm_w C tfo_Pr to_Pr_drawWhole 1 rfl rfl rfl trivial ?_
    refine tm_wk (lv' := [some (.ref 19), some (.ref 30), some (.int x2)]) ⟨Or.inr rfl, Or.inr rfl, Or.inr rfl, trivial⟩ ?_
    exact j_Pr_drawWhole_b168 C G hf
set_option maxRecDepth 100000 in
set_option maxHeartbeats 4000000 in
theorem j_Pr_drawWhole_b254 {Γ : tm_G} {ex : List tm_Sh} {av : List Value} {X0 : tm_X} {r : Int32 × tm_I × tm_L} (C : tm_C Γ ty_Pr_drawWhole.1.cls ty_Pr_drawWhole.2.1 ty_Pr_drawWhole.2.2.1) (G : tm_Γ ty_Pr_drawWhole 3 78 0 0 av X0 (tm_is (some (.int r.1)) (sh0 ++ ex, r.2.1, r.2.2, rr)) Γ) {x2 : Int32} {mI : tm_I} {mL : tm_L} (hf : f_Pr_drawWhole_b254 x2 mI mL = some r) : tm_T Γ 3 0 0 254 [some (.ref 19), some (.ref 30), some (.int x2)] [] (sh0 ++ ex) mI mL rr := by
  have Ro := G.ro
  unfold f_Pr_drawWhole_b254 at hf
  refine tm_w C tfo_Pr to_Pr_drawWhole 0 rfl rfl rfl trivial ?_
  cases hf
  exact tm_ei C G to_Pr_drawWhole rfl rfl (Nat.le_refl _) rfl ⟨rfl, rfl⟩
set_option maxRecDepth 100000 in
set_option maxHeartbeats 4000000 in
theorem j_Pr_drawWhole_b239 {Γ : tm_G} {ex : List tm_Sh} {av : List Value} {X0 : tm_X} {r : Int32 × tm_I × tm_L} (C : tm_C Γ ty_Pr_drawWhole.1.cls ty_Pr_drawWhole.2.1 ty_Pr_drawWhole.2.2.1) (G : tm_Γ ty_Pr_drawWhole 3 78 0 0 av X0 (tm_is (some (.int r.1)) (sh0 ++ ex, r.2.1, r.2.2, rr)) Γ) {x2 : Int32} {s0 : Int32} {mI : tm_I} {mL : tm_L} (hf : f_Pr_drawWhole_b239 x2 s0 mI mL = some r) : tm_T Γ 3 0 0 239 [some (.ref 19), some (.ref 30), some (.int x2)] [.int s0] (sh0 ++ ex) mI mL rr := by
  have Ro := G.ro
  unfold f_Pr_drawWhole_b239 at hf
  obtain ⟨c2, hf⟩ := tm_iteN hf
  cases hf
  exact tm_ei C G to_Pr_drawWhole rfl rfl (Nat.le_refl _) (tm_nz c2) ⟨rfl, rfl⟩
set_option maxRecDepth 100000 in
set_option maxHeartbeats 4000000 in
theorem j_Pr_drawWhole_b238 {Γ : tm_G} {ex : List tm_Sh} {av : List Value} {X0 : tm_X} {r : Int32 × tm_I × tm_L} (C : tm_C Γ ty_Pr_drawWhole.1.cls ty_Pr_drawWhole.2.1 ty_Pr_drawWhole.2.2.1) (G : tm_Γ ty_Pr_drawWhole 3 78 0 0 av X0 (tm_is (some (.int r.1)) (sh0 ++ ex, r.2.1, r.2.2, rr)) Γ) {x2 : Int32} {mI : tm_I} {mL : tm_L} (hf : f_Pr_drawWhole_b238 x2 mI mL = some r) : tm_T Γ 3 0 0 238 [some (.ref 19), some (.ref 30), some (.int x2)] [] (sh0 ++ ex) mI mL rr := by
  have Ro := G.ro
  unfold f_Pr_drawWhole_b238 at hf
  refine tm_w C tfo_Pr to_Pr_drawWhole 0 rfl rfl rfl trivial ?_
  refine tm_wk (lv' := [some (.ref 19), some (.ref 30), some (.int x2)]) ⟨Or.inr rfl, Or.inr rfl, Or.inr rfl, trivial⟩ ?_
  exact j_Pr_drawWhole_b239 C G hf
set_option maxRecDepth 100000 in
set_option maxHeartbeats 4000000 in
theorem j_Pr_drawWhole_b0 {Γ : tm_G} {ex : List tm_Sh} {av : List Value} {X0 : tm_X} {r : Int32 × tm_I × tm_L} (C : tm_C Γ ty_Pr_drawWhole.1.cls ty_Pr_drawWhole.2.1 ty_Pr_drawWhole.2.2.1) (G : tm_Γ ty_Pr_drawWhole 3 78 0 0 av X0 (tm_is (some (.int r.1)) (sh0 ++ ex, r.2.1, r.2.2, rr)) Γ) {mI : tm_I} {mL : tm_L} (hf : f_Pr_drawWhole_b0  mI mL = some r) : tm_T Γ 3 0 0 0 [some (.ref 19), none, none] [] (sh0 ++ ex) mI mL rr := by
  have Ro := G.ro
  unfold f_Pr_drawWhole_b0 at hf
  refine tm_w C tfo_Pr to_Pr_drawWhole 7 rfl rfl rfl ⟨rfl, rfl, rfl, rfl, trivial⟩ ?_
  obtain ⟨v6, hv6, hf⟩ := Option.bind_eq_some_iff.mp hf
  refine tm_cV C Ro to_Pr_drawWhole tl_Pr_124 rfl (ct_Ro_size isRo_27 hv6) rfl rfl rfl rfl rfl rfl rfl (Nat.le_refl _) (Nat.le_refl _) ?_
  refine tm_w C tfo_Pr to_Pr_drawWhole 3 rfl rfl rfl ⟨rfl, rfl, trivial⟩ ?_
  by_cases h66 : (v6.2.1 26 2) = (66 : Int32)
  · have hf := (if_pos h66).symm.trans hf
    refine tm_swI (tgt := 127) C (tm_get_d to_Pr_drawWhole rfl) (66 : Int32) (100) h66 (by decide) (by decide) (by decide) (by decide) ?_
    refine tm_wk (lv' := [some (.ref 19), some (.ref 30), some (.int v6.1)]) ⟨Or.inr rfl, Or.inr rfl, Or.inr rfl, trivial⟩ ?_
    exact j_Pr_drawWhole_b127 C G hf
  have hf := (if_neg h66).symm.trans hf
  by_cases h70 : (v6.2.1 26 2) = (70 : Int32)
  · have hf := (if_pos h70).symm.trans hf
    refine tm_swI (tgt := 191) C (tm_get_d to_Pr_drawWhole rfl) (70 : Int32) (164) h70 (by decide) (by decide) (by decide) (by decide) ?_
    refine tm_w C tfo_Pr to_Pr_drawWhole 6 rfl rfl rfl trivial ?_
    obtain ⟨v7, hv7, hf⟩ := Option.bind_eq_some_iff.mp hf
    refine tm_cV C Ro to_Pr_drawWhole tl_Pr_129 rfl (ct_Pr_add_30 hv7) rfl rfl rfl rfl rfl rfl rfl (Nat.le_refl _) (Nat.le_refl _) ?_
    obtain ⟨c3, hf⟩ := tm_iteN hf
    cases hf
    exact tm_ei C G to_Pr_drawWhole rfl rfl (Nat.le_refl _) (tm_nz c3) ⟨rfl, rfl⟩
  have hf := (if_neg h70).symm.trans hf
  by_cases h71 : (v6.2.1 26 2) = (71 : Int32)
  · have hf := (if_pos h71).symm.trans hf
    refine tm_swI (tgt := 213) C (tm_get_d to_Pr_drawWhole rfl) (71 : Int32) (186) h71 (by decide) (by decide) (by decide) (by decide) ?_
    refine tm_w C tfo_Pr to_Pr_drawWhole 6 rfl rfl rfl trivial ?_
    obtain ⟨v8, hv8, hf⟩ := Option.bind_eq_some_iff.mp hf
    refine tm_cV C Ro to_Pr_drawWhole tl_Pr_129 rfl (ct_Pr_add_30 hv8) rfl rfl rfl rfl rfl rfl rfl (Nat.le_refl _) (Nat.le_refl _) ?_
    refine tm_b C to_Pr_drawWhole rfl rfl (fun h => ?_) (fun h => ?_)
    · have hf := (if_pos h).symm.trans hf
      refine tm_wk (lv' := [some (.ref 19), some (.ref 30), some (.int v6.1)]) ⟨Or.inr rfl, Or.inr rfl, Or.inr rfl, trivial⟩ ?_
      exact j_Pr_drawWhole_b238 C G hf
    · have hf := (if_neg h).symm.trans hf
      refine tm_w C tfo_Pr to_Pr_drawWhole 0 rfl rfl rfl trivial ?_
      obtain ⟨v9, hv9, hf⟩ := Option.bind_eq_some_iff.mp hf
      refine tm_cV C Ro to_Pr_drawWhole tl_Pr_133 rfl (ct_Pr_endsNear hv9) rfl rfl rfl rfl rfl rfl rfl (Nat.le_refl _) (Nat.le_refl _) ?_
      refine tm_b C to_Pr_drawWhole rfl rfl (fun h => ?_) (fun h => ?_)
      · have hf := (if_pos h).symm.trans hf
        refine tm_wk (lv' := [some (.ref 19), some (.ref 30), some (.int v6.1)]) ⟨Or.inr rfl, Or.inr rfl, Or.inr rfl, trivial⟩ ?_
        exact j_Pr_drawWhole_b238 C G hf
      · have hf := (if_neg h).symm.trans hf
        refine tm_w C tfo_Pr to_Pr_drawWhole 1 rfl rfl rfl trivial ?_
        refine tm_wk (lv' := [some (.ref 19), some (.ref 30), some (.int v6.1)]) ⟨Or.inr rfl, Or.inr rfl, Or.inr rfl, trivial⟩ ?_
        exact j_Pr_drawWhole_b239 C G hf
  have hf := (if_neg h71).symm.trans hf
  by_cases h73 : (v6.2.1 26 2) = (73 : Int32)
  · have hf := (if_pos h73).symm.trans hf
    refine tm_swI (tgt := 202) C (tm_get_d to_Pr_drawWhole rfl) (73 : Int32) (175) h73 (by decide) (by decide) (by decide) (by decide) ?_
    refine tm_w C tfo_Pr to_Pr_drawWhole 6 rfl rfl rfl trivial ?_
    obtain ⟨v10, hv10, hf⟩ := Option.bind_eq_some_iff.mp hf
    refine tm_cV C Ro to_Pr_drawWhole tl_Pr_129 rfl (ct_Pr_add_30 hv10) rfl rfl rfl rfl rfl rfl rfl (Nat.le_refl _) (Nat.le_refl _) ?_
    obtain ⟨c4, hf⟩ := tm_iteN hf
    cases hf
    exact tm_ei C G to_Pr_drawWhole rfl rfl (Nat.le_refl _) (tm_nz c4) ⟨rfl, rfl⟩
  have hf := (if_neg h73).symm.trans hf
  by_cases h78 : (v6.2.1 26 2) = (78 : Int32)
  · have hf := (if_pos h78).symm.trans hf
    refine tm_swI (tgt := 127) C (tm_get_d to_Pr_drawWhole rfl) (78 : Int32) (100) h78 (by decide) (by decide) (by decide) (by decide) ?_
    refine tm_wk (lv' := [some (.ref 19), some (.ref 30), some (.int v6.1)]) ⟨Or.inr rfl, Or.inr rfl, Or.inr rfl, trivial⟩ ?_
    exact j_Pr_drawWhole_b127 C G hf
  have hf := (if_neg h78).symm.trans hf
  by_cases h80 : (v6.2.1 26 2) = (80 : Int32)
  · have hf := (if_pos h80).symm.trans hf
    refine tm_swI (tgt := 240) C (tm_get_d to_Pr_drawWhole rfl) (80 : Int32) (213) h80 (by decide) (by decide) (by decide) (by decide) ?_
    refine tm_w C tfo_Pr to_Pr_drawWhole 8 rfl rfl rfl ⟨(by decide), trivial⟩ ?_
    obtain ⟨v11, hv11, hf⟩ := Option.bind_eq_some_iff.mp hf
    refine tm_cV C Ro to_Pr_drawWhole tl_Pr_129 rfl (ct_Pr_add_30 hv11) rfl rfl rfl rfl rfl rfl rfl (Nat.le_refl _) (Nat.le_refl _) ?_
    obtain ⟨c5, hf⟩ := tm_iteN hf
    cases hf
    exact tm_ei C G to_Pr_drawWhole rfl rfl (Nat.le_refl _) (tm_nz c5) ⟨rfl, rfl⟩
  have hf := (if_neg h80).symm.trans hf
  by_cases h81 : (v6.2.1 26 2) = (81 : Int32)
  · have hf := (if_pos h81).symm.trans hf
    refine tm_swI (tgt := 180) C (tm_get_d to_Pr_drawWhole rfl) (81 : Int32) (153) h81 (by decide) (by decide) (by decide) (by decide) ?_
    refine tm_w C tfo_Pr to_Pr_drawWhole 6 rfl rfl rfl trivial ?_
    obtain ⟨v12, hv12, hf⟩ := Option.bind_eq_some_iff.mp hf
    refine tm_cV C Ro to_Pr_drawWhole tl_Pr_129 rfl (ct_Pr_add_30 hv12) rfl rfl rfl rfl rfl rfl rfl (Nat.le_refl _) (Nat.le_refl _) ?_
    obtain ⟨c6, hf⟩ := tm_iteN hf
    cases hf
    exact tm_ei C G to_Pr_drawWhole rfl rfl (Nat.le_refl _) (tm_nz c6) ⟨rfl, rfl⟩
  have hf := (if_neg h81).symm.trans hf
  by_cases h84 : (v6.2.1 26 2) = (84 : Int32)
  · have hf := (if_pos h84).symm.trans hf
    refine tm_swI (tgt := 116) C (tm_get_d to_Pr_drawWhole rfl) (84 : Int32) (89) h84 (by decide) (by decide) (by decide) (by decide) ?_
    refine tm_w C tfo_Pr to_Pr_drawWhole 6 rfl rfl rfl trivial ?_
    obtain ⟨v13, hv13, hf⟩ := Option.bind_eq_some_iff.mp hf
    refine tm_cV C Ro to_Pr_drawWhole tl_Pr_129 rfl (ct_Pr_add_30 hv13) rfl rfl rfl rfl rfl rfl rfl (Nat.le_refl _) (Nat.le_refl _) ?_
    obtain ⟨c7, hf⟩ := tm_iteN hf
    cases hf
    exact tm_ei C G to_Pr_drawWhole rfl rfl (Nat.le_refl _) (tm_nz c7) ⟨rfl, rfl⟩
  have hf := (if_neg h84).symm.trans hf
  refine tm_swD (tgt := 254) C (tm_get_d to_Pr_drawWhole rfl) [(66 : Int32), (70 : Int32), (71 : Int32), (73 : Int32), (78 : Int32), (80 : Int32), (81 : Int32), (84 : Int32)] (by decide) (by decide) (List.forall_mem_cons.mpr ⟨h66, List.forall_mem_cons.mpr ⟨h70, List.forall_mem_cons.mpr ⟨h71, List.forall_mem_cons.mpr ⟨h73, List.forall_mem_cons.mpr ⟨h78, List.forall_mem_cons.mpr ⟨h80, List.forall_mem_cons.mpr ⟨h81, List.forall_mem_cons.mpr ⟨h84, fun _ h => nomatch h⟩⟩⟩⟩⟩⟩⟩⟩) (by decide) ?_
  refine tm_wk (lv' := [some (.ref 19), some (.ref 30), some (.int v6.1)]) ⟨Or.inr rfl, Or.inr rfl, Or.inr rfl, trivial⟩ ?_
  exact j_Pr_drawWhole_b254 C G hf
set_option maxRecDepth 100000 in
theorem ct_Pr_drawWhole {ex : List tm_Sh}  {mI : tm_I} {mL : tm_L} {r : Int32 × tm_I × tm_L} (hf : f_Pr_drawWhole  mI mL = some r) : tm_M ty_Pr_drawWhole 3 78 0 0 [.ref 19] (sh0 ++ ex, mI, mL, rr) (tm_is (some (.int r.1)) (sh0 ++ ex, r.2.1, r.2.2, rr)) := by
  refine tm_body (by decide) (Nat.le_of_ble_eq_true rfl) fun Γ C G => ?_
  exact j_Pr_drawWhole_b0 C G hf
/-! Pr_endField -/
def f_Pr_endField_b101 (x1 : Int32) (s0 : Int32) (mI : tm_I) (mL : tm_L) : Option (Int32 × tm_I × tm_L) := some (s0, mI, mL)
def f_Pr_endField_b71 (x1 : Int32) (mI : tm_I) (mL : tm_L) : Option (Int32 × tm_I × tm_L) := if ¬ x1 = 0 then (f_Fi_begin mI mL).bind fun v1 => (f_Sh_isOverfull v1.2.1 v1.2.2).bind fun v2 => if v2.1 = 0 then f_Pr_endField_b101 x1 (0 : Int32) v2.2.1 v2.2.2 else f_Pr_endField_b101 x1 (10 : Int32) v2.2.1 v2.2.2 else some ((8 : Int32), mI, mL)
def f_Pr_endField_b34 (s0 : Int32) (mI : tm_I) (mL : tm_L) : Option (Int32 × tm_I × tm_L) := if s0 = 0 then f_Pr_endField_b71 s0 mI mL else if ¬ (mI 26 2) = (66 : Int32) then f_Pr_endField_b71 s0 mI mL else (f_Fo_get 30 (3 : Int32) mI mL).bind fun v3 => if ¬ v3.1 = (1 : Int32) then f_Pr_endField_b71 s0 v3.2.1 v3.2.2 else (f_Pr_drawTextOfBars v3.2.1 v3.2.2).bind fun v4 => f_Pr_endField_b71 v4.1 v4.2.1 v4.2.2
def f_Pr_endField_b0  (mI : tm_I) (mL : tm_L) : Option (Int32 × tm_I × tm_L) := (f_Sh_addField mI mL).bind fun v5 => if ¬ (v5.2.1 26 2) = (87 : Int32) then (f_Pr_drawWhole v5.2.1 v5.2.2).bind fun v6 => f_Pr_endField_b34 v6.1 v6.2.1 v6.2.2 else (f_Pr_drawBlock v5.2.1 v5.2.2).bind fun v7 => f_Pr_endField_b34 v7.1 v7.2.1 v7.2.2
abbrev f_Pr_endField  (mI : tm_I) (mL : tm_L) : Option (Int32 × tm_I × tm_L) := f_Pr_endField_b0  mI mL
set_option maxRecDepth 100000 in
set_option maxHeartbeats 4000000 in
theorem j_Pr_endField_b101 {Γ : tm_G} {ex : List tm_Sh} {av : List Value} {X0 : tm_X} {r : Int32 × tm_I × tm_L} (C : tm_C Γ ty_Pr_endField.1.cls ty_Pr_endField.2.1 ty_Pr_endField.2.2.1) (G : tm_Γ ty_Pr_endField 4 104 0 0 av X0 (tm_is (some (.int r.1)) (sh0 ++ ex, r.2.1, r.2.2, rr)) Γ) {x1 : Int32} {s0 : Int32} {mI : tm_I} {mL : tm_L} (hf : f_Pr_endField_b101 x1 s0 mI mL = some r) : tm_T Γ 2 0 0 101 [some (.ref 19), some (.int x1)] [.int s0] (sh0 ++ ex) mI mL rr := by
  have Ro := G.ro
  unfold f_Pr_endField_b101 at hf
  cases hf
  exact tm_ei C G to_Pr_endField rfl rfl (Nat.le_refl _) rfl ⟨rfl, rfl⟩
set_option maxRecDepth 100000 in
set_option maxHeartbeats 4000000 in
theorem j_Pr_endField_b71 {Γ : tm_G} {ex : List tm_Sh} {av : List Value} {X0 : tm_X} {r : Int32 × tm_I × tm_L} (C : tm_C Γ ty_Pr_endField.1.cls ty_Pr_endField.2.1 ty_Pr_endField.2.2.1) (G : tm_Γ ty_Pr_endField 4 104 0 0 av X0 (tm_is (some (.int r.1)) (sh0 ++ ex, r.2.1, r.2.2, rr)) Γ) {x1 : Int32} {mI : tm_I} {mL : tm_L} (hf : f_Pr_endField_b71 x1 mI mL = some r) : tm_T Γ 2 0 0 71 [some (.ref 19), some (.int x1)] [] (sh0 ++ ex) mI mL rr := by
  have Ro := G.ro
  unfold f_Pr_endField_b71 at hf
  refine tm_w C tfo_Pr to_Pr_endField 0 rfl rfl rfl trivial ?_
  refine tm_b C to_Pr_endField rfl rfl (fun h => ?_) (fun h => ?_)
  · have hf := (if_pos h).symm.trans hf
    refine tm_w C tfo_Pr to_Pr_endField 1 rfl rfl rfl ⟨rfl, trivial⟩ ?_
    obtain ⟨v1, hv1, hf⟩ := Option.bind_eq_some_iff.mp hf
    refine tm_cV C Ro to_Pr_endField tl_Pr_73 rfl (ct_Fi_begin hv1) rfl rfl rfl rfl rfl rfl rfl (Nat.le_refl _) (Nat.le_refl _) ?_
    refine tm_w C tfo_Pr to_Pr_endField 1 rfl rfl rfl ⟨rfl, trivial⟩ ?_
    obtain ⟨v2, hv2, hf⟩ := Option.bind_eq_some_iff.mp hf
    refine tm_cV C Ro to_Pr_endField tl_Pr_117 rfl (ct_Sh_isOverfull hv2) rfl rfl rfl rfl rfl rfl rfl (Nat.le_refl _) (Nat.le_refl _) ?_
    refine tm_b C to_Pr_endField rfl rfl (fun h => ?_) (fun h => ?_)
    · have hf := (if_pos h).symm.trans hf
      refine tm_w C tfo_Pr to_Pr_endField 0 rfl rfl rfl trivial ?_
      refine tm_wk (lv' := [some (.ref 19), some (.int x1)]) ⟨Or.inr rfl, Or.inr rfl, trivial⟩ ?_
      exact j_Pr_endField_b101 C G hf
    · have hf := (if_neg h).symm.trans hf
      refine tm_w C tfo_Pr to_Pr_endField 1 rfl rfl rfl trivial ?_
      refine tm_wk (lv' := [some (.ref 19), some (.int x1)]) ⟨Or.inr rfl, Or.inr rfl, trivial⟩ ?_
      exact j_Pr_endField_b101 C G hf
  · have hf := (if_neg h).symm.trans hf
    refine tm_w C tfo_Pr to_Pr_endField 0 rfl rfl rfl trivial ?_
    cases hf
    exact tm_ei C G to_Pr_endField rfl rfl (Nat.le_refl _) rfl ⟨rfl, rfl⟩
set_option maxRecDepth 100000 in
set_option maxHeartbeats 4000000 in
theorem j_Pr_endField_b34 {Γ : tm_G} {ex : List tm_Sh} {av : List Value} {X0 : tm_X} {r : Int32 × tm_I × tm_L} (C : tm_C Γ ty_Pr_endField.1.cls ty_Pr_endField.2.1 ty_Pr_endField.2.2.1) (G : tm_Γ ty_Pr_endField 4 104 0 0 av X0 (tm_is (some (.int r.1)) (sh0 ++ ex, r.2.1, r.2.2, rr)) Γ) {s0 : Int32} {mI : tm_I} {mL : tm_L} (hf : f_Pr_endField_b34 s0 mI mL = some r) : tm_T Γ 2 0 0 34 [some (.ref 19), none] [.int s0] (sh0 ++ ex) mI mL rr := by
  have Ro := G.ro
  unfold f_Pr_endField_b34 at hf
  refine tm_w C tfo_Pr to_Pr_endField 1 rfl rfl rfl trivial ?_
  refine tm_b C to_Pr_endField rfl rfl (fun h => ?_) (fun h => ?_)
  · have hf := (if_pos h).symm.trans hf
    refine tm_wk (lv' := [some (.ref 19), some (.int s0)]) ⟨Or.inr rfl, Or.inr rfl, trivial⟩ ?_
    exact j_Pr_endField_b71 C G hf
  · have hf := (if_neg h).symm.trans hf
    refine tm_w C tfo_Pr to_Pr_endField 3 rfl rfl rfl ⟨rfl, rfl, trivial⟩ ?_
    refine tm_b C to_Pr_endField rfl rfl (fun h => ?_) (fun h => ?_)
    · have hf := (if_pos h).symm.trans hf
      refine tm_wk (lv' := [some (.ref 19), some (.int s0)]) ⟨Or.inr rfl, Or.inr rfl, trivial⟩ ?_
      exact j_Pr_endField_b71 C G hf
    · have hf := (if_neg h).symm.trans hf
      refine tm_w C tfo_Pr to_Pr_endField 3 rfl rfl rfl ⟨rfl, rfl, trivial⟩ ?_
      obtain ⟨v3, hv3, hf⟩ := Option.bind_eq_some_iff.mp hf
      refine tm_cV C Ro to_Pr_endField tl_Pr_49 rfl (ct_Fo_get isFo_30 hv3) rfl rfl rfl rfl rfl rfl rfl (Nat.le_refl _) (Nat.le_refl _) ?_
      refine tm_w C tfo_Pr to_Pr_endField 0 rfl rfl rfl trivial ?_
      refine tm_b C to_Pr_endField rfl rfl (fun h => ?_) (fun h => ?_)
      · have hf := (if_pos h).symm.trans hf
        refine tm_wk (lv' := [some (.ref 19), some (.int s0)]) ⟨Or.inr rfl, Or.inr rfl, trivial⟩ ?_
        exact j_Pr_endField_b71 C G hf
      · have hf := (if_neg h).symm.trans hf
        refine tm_w C tfo_Pr to_Pr_endField 0 rfl rfl rfl trivial ?_
        obtain ⟨v4, hv4, hf⟩ := Option.bind_eq_some_iff.mp hf
        refine tm_cV C Ro to_Pr_endField tl_Pr_114 rfl (ct_Pr_drawTextOfBars hv4) rfl rfl rfl rfl rfl rfl rfl (Nat.le_refl _) (Nat.le_refl _) ?_
        refine tm_w C tfo_Pr to_Pr_endField 0 rfl rfl rfl trivial ?_
        refine tm_wk (lv' := [some (.ref 19), some (.int v4.1)]) ⟨Or.inr rfl, Or.inr rfl, trivial⟩ ?_
        exact j_Pr_endField_b71 C G hf
set_option maxRecDepth 100000 in
set_option maxHeartbeats 4000000 in
theorem j_Pr_endField_b0 {Γ : tm_G} {ex : List tm_Sh} {av : List Value} {X0 : tm_X} {r : Int32 × tm_I × tm_L} (C : tm_C Γ ty_Pr_endField.1.cls ty_Pr_endField.2.1 ty_Pr_endField.2.2.1) (G : tm_Γ ty_Pr_endField 4 104 0 0 av X0 (tm_is (some (.int r.1)) (sh0 ++ ex, r.2.1, r.2.2, rr)) Γ) {mI : tm_I} {mL : tm_L} (hf : f_Pr_endField_b0  mI mL = some r) : tm_T Γ 2 0 0 0 [some (.ref 19), none] [] (sh0 ++ ex) mI mL rr := by
  have Ro := G.ro
  unfold f_Pr_endField_b0 at hf
  refine tm_w C tfo_Pr to_Pr_endField 3 rfl rfl rfl ⟨rfl, rfl, trivial⟩ ?_
  obtain ⟨v5, hv5, hf⟩ := Option.bind_eq_some_iff.mp hf
  refine tm_cV C Ro to_Pr_endField tl_Pr_103 rfl (ct_Sh_addField hv5) rfl rfl rfl rfl rfl rfl rfl (Nat.le_refl _) (Nat.le_refl _) ?_
  refine tm_w C tfo_Pr to_Pr_endField 3 rfl rfl rfl ⟨rfl, rfl, trivial⟩ ?_
  refine tm_b C to_Pr_endField rfl rfl (fun h => ?_) (fun h => ?_)
  · have hf := (if_pos h).symm.trans hf
    refine tm_w C tfo_Pr to_Pr_endField 0 rfl rfl rfl trivial ?_
    obtain ⟨v6, hv6, hf⟩ := Option.bind_eq_some_iff.mp hf
    refine tm_cV C Ro to_Pr_endField tl_Pr_111 rfl (ct_Pr_drawWhole hv6) rfl rfl rfl rfl rfl rfl rfl (Nat.le_refl _) (Nat.le_refl _) ?_
    refine tm_wk (lv' := [some (.ref 19), none]) ⟨Or.inr rfl, Or.inl rfl, trivial⟩ ?_
    exact j_Pr_endField_b34 C G hf
  · have hf := (if_neg h).symm.trans hf
    refine tm_w C tfo_Pr to_Pr_endField 0 rfl rfl rfl trivial ?_
    obtain ⟨v7, hv7, hf⟩ := Option.bind_eq_some_iff.mp hf
    refine tm_cV C Ro to_Pr_endField tl_Pr_107 rfl (ct_Pr_drawBlock hv7) rfl rfl rfl rfl rfl rfl rfl (Nat.le_refl _) (Nat.le_refl _) ?_
    refine tm_w C tfo_Pr to_Pr_endField 0 rfl rfl rfl trivial ?_
    refine tm_wk (lv' := [some (.ref 19), none]) ⟨Or.inr rfl, Or.inl rfl, trivial⟩ ?_
    exact j_Pr_endField_b34 C G hf
set_option maxRecDepth 100000 in
theorem ct_Pr_endField {ex : List tm_Sh}  {mI : tm_I} {mL : tm_L} {r : Int32 × tm_I × tm_L} (hf : f_Pr_endField  mI mL = some r) : tm_M ty_Pr_endField 4 104 0 0 [.ref 19] (sh0 ++ ex, mI, mL, rr) (tm_is (some (.int r.1)) (sh0 ++ ex, r.2.1, r.2.2, rr)) := by
  refine tm_body (by decide) (Nat.le_of_ble_eq_true rfl) fun Γ C G => ?_
  exact j_Pr_endField_b0 C G hf
