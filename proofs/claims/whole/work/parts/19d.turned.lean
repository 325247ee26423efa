/-! La_obey -/
def f_La_obey_b270 (x1 : Int32) (x2 : Int32) (x3 : Int32) (s0 : Int32) (mI : tm_I) (mL : tm_L) : Option (Int32 × tm_I × tm_L) := some (s0, mI, mL)
def f_La_obey_b271 (x1 : Int32) (x2 : Int32) (x3 : Int32) (mI : tm_I) (mL : tm_L) : Option (Int32 × tm_I × tm_L) := (f_Pr_settle x1 mI mL).bind fun v1 => some ((0 : Int32), v1.2.1, v1.2.2)
def f_La_obey_b202 (x1 : Int32) (x2 : Int32) (x3 : Int32) (s0 : Int32) (mI : tm_I) (mL : tm_L) : Option (Int32 × tm_I × tm_L) := some (s0, mI, mL)
def f_La_obey_b0 (x1 : Int32) (x2 : Int32) (mI : tm_I) (mL : tm_L) : Option (Int32 × tm_I × tm_L) := (f_Fo_get 17 (0 : Int32) mI mL).bind fun v2 => if x1 = (59 : Int32) then (f_Fi_hasFitData v2.2.1 v2.2.2).bind fun v3 => if v3.1 = 0 then f_La_obey_b270 x1 x2 v2.1 (8 : Int32) v3.2.1 v3.2.2 else (f_Pr_endField v3.2.1 v3.2.2).bind fun v4 => f_La_obey_b270 x1 x2 v2.1 v4.1 v4.2.1 v4.2.2 else if x1 = (69 : Int32) then (f_Pr_closeLabel v2.2.1 v2.2.2).bind fun v5 => some (v5.1, v5.2.1, v5.2.2) else if x1 = (75 : Int32) then (f_La_storeVariable v2.1 v2.2.1 v2.2.2).bind fun v6 => some (v6.1, v6.2.1, v6.2.2) else if x1 = (76 : Int32) then (f_Pr_openLabel v2.2.1 v2.2.2).bind fun v7 => some ((0 : Int32), v7.2.1, v7.2.2) else if x1 = (83 : Int32) then (f_La_storeForm v2.1 v2.2.1 v2.2.2).bind fun v8 => some (v8.1, v8.2.1, v8.2.2) else if x1 = (85 : Int32) then (f_Sc_enter v2.1 x2 v2.2.1 v2.2.2).bind fun v9 => if v9.1 = 0 then f_La_obey_b202 x1 x2 v2.1 (9 : Int32) v9.2.1 v9.2.2 else f_La_obey_b202 x1 x2 v2.1 (0 : Int32) v9.2.1 v9.2.2 else if x1 = (86 : Int32) then (f_Ro_copy_27_10 (0 : Int32) v2.1 v2.2.1 v2.2.2).bind fun v10 => some ((0 : Int32), v10.2.1, v10.2.2) else if x1 = (88 : Int32) then (f_Ro_copy_27_13 (0 : Int32) (0 : Int32) v2.2.1 v2.2.2).bind fun v11 => some ((0 : Int32), v11.2.1, v11.2.2) else f_La_obey_b271 x1 x2 v2.1 v2.2.1 v2.2.2
abbrev f_La_obey (p0 : Int32) (p1 : Int32) (mI : tm_I) (mL : tm_L) : Option (Int32 × tm_I × tm_L) := f_La_obey_b0 p0 p1 mI mL
set_option maxRecDepth 100000 in
set_option maxHeartbeats 4000000 in
theorem j_La_obey_b270 {Γ : tm_G} {ex : List tm_Sh} {av : List Value} {X0 : tm_X} {r : Int32 × tm_I × tm_L} (C : tm_C Γ ty_La_obey.1.cls ty_La_obey.2.1 ty_La_obey.2.2.1) (G : tm_Γ ty_La_obey 6 133 0 0 av X0 (tm_is (some (.int r.1)) (sh0 ++ ex, r.2.1, r.2.2, rr)) Γ) {x1 : Int32} {x2 : Int32} {x3 : Int32} {s0 : Int32} {mI : tm_I} {mL : tm_L} (hf : f_La_obey_b270 x1 x2 x3 s0 mI mL = some r) : tm_T Γ 4 0 0 270 [some (.ref 0), some (.int x1), some (.int x2), some (.int x3)] [.int s0] (sh0 ++ ex) mI mL rr := by
  have Ro := G.ro
  unfold f_La_obey_b270 at hf
  cases hf
  exact tm_ei C G to_La_obey rfl rfl (Nat.le_refl _) rfl ⟨rfl, rfl⟩
set_option maxRecDepth 100000 in
set_option maxHeartbeats 4000000 in
theorem j_La_obey_b271 {Γ : tm_G} {ex : List tm_Sh} {av : List Value} {X0 : tm_X} {r : Int32 × tm_I × tm_L} (C : tm_C Γ ty_La_obey.1.cls ty_La_obey.2.1 ty_La_obey.2.2.1) (G : tm_Γ ty_La_obey 6 133 0 0 av X0 (tm_is (some (.int r.1)) (sh0 ++ ex, r.2.1, r.2.2, rr)) Γ) {x1 : Int32} {x2 : Int32} {x3 : Int32} {mI : tm_I} {mL : tm_L} (hf : f_La_obey_b271 x1 x2 x3 mI mL = some r) : tm_T Γ 4 0 0 271 [some (.ref 0), some (.int x1), some (.int x2), some (.int x3)] [] (sh0 ++ ex) mI mL rr := by
  have Ro := G.ro
  unfold f_La_obey_b271 at hf
  refine tm_w C tfo_La to_La_obey 5 rfl rfl rfl ⟨rfl, rfl, rfl, trivial⟩ ?_
  obtain ⟨v1, hv1, hf⟩ := Option.bind_eq_some_iff.mp hf
  refine tm_cV C Ro to_La_obey tl_La_209 rfl (ct_Pr_settle hv1) rfl rfl rfl rfl rfl rfl rfl (Nat.le_refl _) (Nat.le_refl _) ?_
  refine tm_w C tfo_La to_La_obey 0 rfl rfl rfl trivial ?_
  cases hf
  exact tm_ei C G to_La_obey rfl rfl (Nat.le_refl _) rfl ⟨rfl, rfl⟩
set_option maxRecDepth 100000 in
set_option maxHeartbeats 4000000 in
theorem j_La_obey_b202 {Γ : tm_G} {ex : List tm_Sh} {av : List Value} {X0 : tm_X} {r : Int32 × tm_I × tm_L} (C : tm_C Γ ty_La_obey.1.cls ty_La_obey.2.1 ty_La_obey.2.2.1) (G : tm_Γ ty_La_obey 6 133 0 0 av X0 (tm_is (some (.int r.1)) (sh0 ++ ex, r.2.1, r.2.2, rr)) Γ) {x1 : Int32} {x2 : Int32} {x3 : Int32} {s0 : Int32} {mI : tm_I} {mL : tm_L} (hf : f_La_obey_b202 x1 x2 x3 s0 mI mL = some r) : tm_T Γ 4 0 0 202 [some (.ref 0), some (.int x1), some (.int x2), some (.int x3)] [.int s0] (sh0 ++ ex) mI mL rr := by
  have Ro := G.ro
  unfold f_La_obey_b202 at hf
  cases hf
  exact tm_ei C G to_La_obey rfl rfl (Nat.le_refl _) rfl ⟨rfl, rfl⟩
set_option maxRecDepth 100000 in
set_option maxHeartbeats 4000000 in
theorem j_La_obey_b0 {Γ : tm_G} {ex : List tm_Sh} {av : List Value} {X0 : tm_X} {r : Int32 × tm_I × tm_L} (C : tm_C Γ ty_La_obey.1.cls ty_La_obey.2.1 ty_La_obey.2.2.1) (G : tm_Γ ty_La_obey 6 133 0 0 av X0 (tm_is (some (.int r.1)) (sh0 ++ ex, r.2.1, r.2.2, rr)) Γ) {x1 : Int32} {x2 : Int32} {mI : tm_I} {mL : tm_L} (hf : f_La_obey_b0 x1 x2 mI mL = some r) : tm_T Γ 4 0 0 0 [some (.ref 0), some (.int x1), some (.int x2), none] [] (sh0 ++ ex) mI mL rr := by
  have Ro := G.ro
  unfold f_La_obey_b0 at hf
  refine tm_w C tfo_La to_La_obey 3 rfl rfl rfl ⟨rfl, rfl, trivial⟩ ?_
  obtain ⟨v2, hv2, hf⟩ := Option.bind_eq_some_iff.mp hf
  refine tm_cV C Ro to_La_obey tl_La_169 rfl (ct_Fo_get isFo_17 hv2) rfl rfl rfl rfl rfl rfl rfl (Nat.le_refl _) (Nat.le_refl _) ?_
  refine tm_w C tfo_La to_La_obey 1 rfl rfl rfl trivial ?_
  by_cases h59 : x1 = (59 : Int32)
  · have hf := (if_pos h59).symm.trans hf
    refine tm_swI (tgt := 245) C (tm_get_d to_La_obey rfl) (59 : Int32) (232) h59 (by decide) (by decide) (by decide) (by decide) ?_
    refine tm_w C tfo_La to_La_obey 2 rfl rfl rfl ⟨rfl, rfl, trivial⟩ ?_
    obtain ⟨v3, hv3, hf⟩ := Option.bind_eq_some_iff.mp hf
    refine tm_cV C Ro to_La_obey tl_La_203 rfl (ct_Fi_hasFitData hv3) rfl rfl rfl rfl rfl rfl rfl (Nat.le_refl _) (Nat.le_refl _) ?_
    refine tm_b C to_La_obey rfl rfl (fun h => ?_) (fun h => ?_)
    · have hf := (if_pos h).symm.trans hf
      refine tm_w C tfo_La to_La_obey 0 rfl rfl rfl trivial ?_
      refine tm_wk (lv' := [some (.ref 0), some (.int x1), some (.int x2), some (.int v2.1)]) ⟨Or.inr rfl, Or.inr rfl, Or.inr rfl, Or.inr rfl, trivial⟩ ?_
      exact j_La_obey_b270 C G hf
    · have hf := (if_neg h).symm.trans hf
      refine tm_w C tfo_La to_La_obey 1 rfl rfl rfl ⟨rfl, trivial⟩ ?_
      obtain ⟨v4, hv4, hf⟩ := Option.bind_eq_some_iff.mp hf
      refine tm_cV C Ro to_La_obey tl_La_206 rfl (ct_Pr_endField hv4) rfl rfl rfl rfl rfl rfl rfl (Nat.le_refl _) (Nat.le_refl _) ?_
      refine tm_w C tfo_La to_La_obey 0 rfl rfl rfl trivial ?_
      refine tm_wk (lv' := [some (.ref 0), some (.int x1), some (.int x2), some (.int v2.1)]) ⟨Or.inr rfl, Or.inr rfl, Or.inr rfl, Or.inr rfl, trivial⟩ ?_
      exact j_La_obey_b270 C G hf
  have hf := (if_neg h59).symm.trans hf
  by_cases h69 : x1 = (69 : Int32)
  · have hf := (if_pos h69).symm.trans hf
    refine tm_swI (tgt := 176) C (tm_get_d to_La_obey rfl) (69 : Int32) (163) h69 (by decide) (by decide) (by decide) (by decide) ?_
    refine tm_w C tfo_La to_La_obey 1 rfl rfl rfl ⟨rfl, trivial⟩ ?_
    obtain ⟨v5, hv5, hf⟩ := Option.bind_eq_some_iff.mp hf
    refine tm_cV C Ro to_La_obey tl_La_184 rfl (ct_Pr_closeLabel hv5) rfl rfl rfl rfl rfl rfl rfl (Nat.le_refl _) (Nat.le_refl _) ?_
    cases hf
    exact tm_ei C G to_La_obey rfl rfl (Nat.le_refl _) rfl ⟨rfl, rfl⟩
  have hf := (if_neg h69).symm.trans hf
  by_cases h75 : x1 = (75 : Int32)
  · have hf := (if_pos h75).symm.trans hf
    refine tm_swI (tgt := 154) C (tm_get_d to_La_obey rfl) (75 : Int32) (141) h75 (by decide) (by decide) (by decide) (by decide) ?_
    refine tm_w C tfo_La to_La_obey 1 rfl rfl rfl trivial ?_
    obtain ⟨v6, hv6, hf⟩ := Option.bind_eq_some_iff.mp hf
    refine tm_cV C Ro to_La_obey tl_La_177 rfl (ct_La_storeVariable hv6) rfl rfl rfl rfl rfl rfl rfl (Nat.le_refl _) (Nat.le_refl _) ?_
    cases hf
    exact tm_ei C G to_La_obey rfl rfl (Nat.le_refl _) rfl ⟨rfl, rfl⟩
  have hf := (if_neg h75).symm.trans hf
  by_cases h76 : x1 = (76 : Int32)
  · have hf := (if_pos h76).symm.trans hf
    refine tm_swI (tgt := 160) C (tm_get_d to_La_obey rfl) (76 : Int32) (147) h76 (by decide) (by decide) (by decide) (by decide) ?_
    refine tm_w C tfo_La to_La_obey 4 rfl rfl rfl ⟨rfl, rfl, rfl, trivial⟩ ?_
    obtain ⟨v7, hv7, hf⟩ := Option.bind_eq_some_iff.mp hf
    refine tm_cV C Ro to_La_obey tl_La_180 rfl (ct_Pr_openLabel hv7) rfl rfl rfl rfl rfl rfl rfl (Nat.le_refl _) (Nat.le_refl _) ?_
    refine tm_w C tfo_La to_La_obey 0 rfl rfl rfl trivial ?_
    cases hf
    exact tm_ei C G to_La_obey rfl rfl (Nat.le_refl _) rfl ⟨rfl, rfl⟩
  have hf := (if_neg h76).symm.trans hf
  by_cases h83 : x1 = (83 : Int32)
  · have hf := (if_pos h83).symm.trans hf
    refine tm_swI (tgt := 148) C (tm_get_d to_La_obey rfl) (83 : Int32) (135) h83 (by decide) (by decide) (by decide) (by decide) ?_
    refine tm_w C tfo_La to_La_obey 1 rfl rfl rfl trivial ?_
    obtain ⟨v8, hv8, hf⟩ := Option.bind_eq_some_iff.mp hf
    refine tm_cV C Ro to_La_obey tl_La_174 rfl (ct_La_storeForm hv8) rfl rfl rfl rfl rfl rfl rfl (Nat.le_refl _) (Nat.le_refl _) ?_
    cases hf
    exact tm_ei C G to_La_obey rfl rfl (Nat.le_refl _) rfl ⟨rfl, rfl⟩
  have hf := (if_neg h83).symm.trans hf
  by_cases h85 : x1 = (85 : Int32)
  · have hf := (if_pos h85).symm.trans hf
    refine tm_swI (tgt := 184) C (tm_get_d to_La_obey rfl) (85 : Int32) (171) h85 (by decide) (by decide) (by decide) (by decide) ?_
    refine tm_w C tfo_La to_La_obey 3 rfl rfl rfl ⟨rfl, trivial⟩ ?_
    obtain ⟨v9, hv9, hf⟩ := Option.bind_eq_some_iff.mp hf
    refine tm_cV C Ro to_La_obey tl_La_187 rfl (ct_Sc_enter hv9) rfl rfl rfl rfl rfl rfl rfl (Nat.le_refl _) (Nat.le_refl _) ?_
    refine tm_b C to_La_obey rfl rfl (fun h => ?_) (fun h => ?_)
    · have hf := (if_pos h).symm.trans hf
      refine tm_w C tfo_La to_La_obey 0 rfl rfl rfl trivial ?_
      refine tm_wk (lv' := [some (.ref 0), some (.int x1), some (.int x2), some (.int v2.1)]) ⟨Or.inr rfl, Or.inr rfl, Or.inr rfl, Or.inr rfl, trivial⟩ ?_
      exact j_La_obey_b202 C G hf
    · have hf := (if_neg h).symm.trans hf
      refine tm_w C tfo_La to_La_obey 1 rfl rfl rfl trivial ?_
      refine tm_wk (lv' := [some (.ref 0), some (.int x1), some (.int x2), some (.int v2.1)]) ⟨Or.inr rfl, Or.inr rfl, Or.inr rfl, Or.inr rfl, trivial⟩ ?_
      exact j_La_obey_b202 C G hf
  have hf := (if_neg h85).symm.trans hf
  by_cases h86 : x1 = (86 : Int32)
  · have hf := (if_pos h86).symm.trans hf
    refine tm_swI (tgt := 224) C (tm_get_d to_La_obey rfl) (86 : Int32) (211) h86 (by decide) (by decide) (by decide) (by decide) ?_
    refine tm_w C tfo_La to_La_obey 7 rfl rfl rfl ⟨rfl, rfl, rfl, rfl, trivial⟩ ?_
    obtain ⟨v10, hv10, hf⟩ := Option.bind_eq_some_iff.mp hf
    refine tm_cV C Ro to_La_obey tl_La_199 rfl (ct_Ro_copy_27_10 hv10) rfl rfl rfl rfl rfl rfl rfl (Nat.le_refl _) (Nat.le_refl _) ?_
    refine tm_w C tfo_La to_La_obey 0 rfl rfl rfl trivial ?_
    cases hf
    exact tm_ei C G to_La_obey rfl rfl (Nat.le_refl _) rfl ⟨rfl, rfl⟩
  have hf := (if_neg h86).symm.trans hf
  by_cases h88 : x1 = (88 : Int32)
  · have hf := (if_pos h88).symm.trans hf
    refine tm_swI (tgt := 203) C (tm_get_d to_La_obey rfl) (88 : Int32) (190) h88 (by decide) (by decide) (by decide) (by decide) ?_
    refine tm_w C tfo_La to_La_obey 7 rfl rfl rfl ⟨rfl, rfl, rfl, rfl, trivial⟩ ?_
    obtain ⟨v11, hv11, hf⟩ := Option.bind_eq_some_iff.mp hf
    refine tm_cV C Ro to_La_obey tl_La_199 rfl (ct_Ro_copy_27_13 hv11) rfl rfl rfl rfl rfl rfl rfl (Nat.le_refl _) (Nat.le_refl _) ?_
    refine tm_w C tfo_La to_La_obey 0 rfl rfl rfl trivial ?_
    cases hf
    exact tm_ei C G to_La_obey rfl rfl (Nat.le_refl _) rfl ⟨rfl, rfl⟩
  have hf := (if_neg h88).symm.trans hf
  refine tm_swD (tgt := 271) C (tm_get_d to_La_obey rfl) [(59 : Int32), (69 : Int32), (75 : Int32), (76 : Int32), (83 : Int32), (85 : Int32), (86 : Int32), (88 : Int32)] (by decide) (by decide) (List.forall_mem_cons.mpr ⟨h59, List.forall_mem_cons.mpr ⟨h69, List.forall_mem_cons.mpr ⟨h75, List.forall_mem_cons.mpr ⟨h76, List.forall_mem_cons.mpr ⟨h83, List.forall_mem_cons.mpr ⟨h85, List.forall_mem_cons.mpr ⟨h86, List.forall_mem_cons.mpr ⟨h88, fun _ h => nomatch h⟩⟩⟩⟩⟩⟩⟩⟩) (by decide) ?_
  refine tm_wk (lv' := [some (.ref 0), some (.int x1), some (.int x2), some (.int v2.1)]) ⟨Or.inr rfl, Or.inr rfl, Or.inr rfl, Or.inr rfl, trivial⟩ ?_
  exact j_La_obey_b271 C G hf
set_option maxRecDepth 100000 in
theorem ct_La_obey {ex : List tm_Sh} {p0 : Int32} {p1 : Int32} {mI : tm_I} {mL : tm_L} {r : Int32 × tm_I × tm_L} (hf : f_La_obey p0 p1 mI mL = some r) : tm_M ty_La_obey 6 133 0 0 [.ref 0, .int p0, .int p1] (sh0 ++ ex, mI, mL, rr) (tm_is (some (.int r.1)) (sh0 ++ ex, r.2.1, r.2.2, rr)) := by
  refine tm_body (by decide) (Nat.le_of_ble_eq_true rfl) fun Γ C G => ?_
  exact j_La_obey_b0 C G hf
/-! La_takeCommand -/
def f_La_takeCommand_b118 (x1 : Int32) (x2 : Int32) (x3 : Int32) (s0 : Int32) (mI : tm_I) (mL : tm_L) : Option (Int32 × tm_I × tm_L) := some (s0, mI, mL)
def f_La_takeCommand_b117 (x1 : Int32) (x2 : Int32) (x3 : Int32) (mI : tm_I) (mL : tm_L) : Option (Int32 × tm_I × tm_L) := f_La_takeCommand_b118 x1 x2 x3 x3 mI mL
def f_La_takeCommand_b94 (x1 : Int32) (x2 : Int32) (x3 : Int32) (mI : tm_I) (mL : tm_L) : Option (Int32 × tm_I × tm_L) := (f_La_obey x2 x1 mI mL).bind fun v1 => if ¬ v1.1 = 0 then f_La_takeCommand_b117 x1 x2 v1.1 v1.2.1 v1.2.2 else (f_La_isLastCommand v1.2.1 v1.2.2).bind fun v2 => if v2.1 = 0 then f_La_takeCommand_b117 x1 x2 v1.1 v2.2.1 v2.2.2 else f_La_takeCommand_b118 x1 x2 v1.1 (10 : Int32) v2.2.1 v2.2.2
def f_La_takeCommand_b84 (x1 : Int32) (x2 : Int32) (x3 : Int32) (mI : tm_I) (mL : tm_L) : Option (Int32 × tm_I × tm_L) := (f_La_decodeData mI mL).bind fun v3 => if ¬ v3.1 = 0 then f_La_takeCommand_b94 x1 x2 x3 v3.2.1 v3.2.2 else some ((6 : Int32), v3.2.1, v3.2.2)
def f_La_takeCommand_b0 (x1 : Int32) (mI : tm_I) (mL : tm_L) : Option (Int32 × tm_I × tm_L) := (f_Sc_ahead (1 : Int32) mI mL).bind fun v4 => (f_Sc_skip (2 : Int32) v4.2.1 v4.2.2).bind fun v5 => (f_La_isLetter v4.1 (tm_up v5.2.1 0 5 ((v5.2.1 0 5) + (1 : Int32))) v5.2.2).bind fun v6 => if ¬ v6.1 = 0 then (f_La_mayStand v4.1 v6.2.1 v6.2.2).bind fun v7 => if ¬ v7.1 = 0 then (f_Nu_take v4.1 v7.2.1 v7.2.2).bind fun v8 => if v8.1 = 0 then if v4.1 = (75 : Int32) then f_La_takeCommand_b84 x1 v4.1 v8.1 v8.2.1 v8.2.2 else if ¬ v4.1 = (88 : Int32) then f_La_takeCommand_b94 x1 v4.1 v8.1 v8.2.1 v8.2.2 else f_La_takeCommand_b84 x1 v4.1 v8.1 v8.2.1 v8.2.2 else some (v8.1, v8.2.1, v8.2.2) else some ((3 : Int32), v7.2.1, v7.2.2) else some ((2 : Int32), v6.2.1, v6.2.2)
abbrev f_La_takeCommand (p0 : Int32) (mI : tm_I) (mL : tm_L) : Option (Int32 × tm_I × tm_L) := f_La_takeCommand_b0 p0 mI mL
set_option maxRecDepth 100000 in
set_option maxHeartbeats 4000000 in
theorem j_La_takeCommand_b118 {Γ : tm_G} {ex : List tm_Sh} {av : List Value} {X0 : tm_X} {r : Int32 × tm_I × tm_L} (C : tm_C Γ ty_La_takeCommand.1.cls ty_La_takeCommand.2.1 ty_La_takeCommand.2.2.1) (G : tm_Γ ty_La_takeCommand 7 156 0 0 av X0 (tm_is (some (.int r.1)) (sh0 ++ ex, r.2.1, r.2.2, rr)) Γ) {x1 : Int32} {x2 : Int32} {x3 : Int32} {s0 : Int32} {mI : tm_I} {mL : tm_L} (hf : f_La_takeCommand_b118 x1 x2 x3 s0 mI mL = some r) : tm_T Γ 4 0 0 118 [some (.ref 0), some (.int x1), some (.int x2), some (.int x3)] [.int s0] (sh0 ++ ex) mI mL rr := by
  have Ro := G.ro
  unfold f_La_takeCommand_b118 at hf
  cases hf
  exact tm_ei C G to_La_takeCommand rfl rfl (Nat.le_refl _) rfl ⟨rfl, rfl⟩
set_option maxRecDepth 100000 in
set_option maxHeartbeats 4000000 in
theorem j_La_takeCommand_b117 {Γ : tm_G} {ex : List tm_Sh} {av : List Value} {X0 : tm_X} {r : Int32 × tm_I × tm_L} (C : tm_C Γ ty_La_takeCommand.1.cls ty_La_takeCommand.2.1 ty_La_takeCommand.2.2.1) (G : tm_Γ ty_La_takeCommand 7 156 0 0 av X0 (tm_is (some (.int r.1)) (sh0 ++ ex, r.2.1, r.2.2, rr)) Γ) {x1 : Int32} {x2 : Int32} {x3 : Int32} {mI : tm_I} {mL : tm_L} (hf : f_La_takeCommand_b117 x1 x2 x3 mI mL = some r) : tm_T Γ 4 0 0 117 [some (.ref 0), some (.int x1), some (.int x2), some (.int x3)] [] (sh0 ++ ex) mI mL rr := by
  have Ro := G.ro
  unfold f_La_takeCommand_b117 at hf
  refine tm_w C tfo_La to_La_takeCommand 0 rfl rfl rfl trivial ?_
  refine tm_wk (lv' := [some (.ref 0), some (.int x1), some (.int x2), some (.int x3)]) ⟨Or.inr rfl, Or.inr rfl, Or.inr rfl, Or.inr rfl, trivial⟩ ?_
  exact j_La_takeCommand_b118 C G hf
set_option maxRecDepth 100000 in
set_option maxHeartbeats 4000000 in
theorem j_La_takeCommand_b94 {Γ : tm_G} {ex : List tm_Sh} {av : List Value} {X0 : tm_X} {r : Int32 × tm_I × tm_L} (C : tm_C Γ ty_La_takeCommand.1.cls ty_La_takeCommand.2.1 ty_La_takeCommand.2.2.1) (G : tm_Γ ty_La_takeCommand 7 156 0 0 av X0 (tm_is (some (.int r.1)) (sh0 ++ ex, r.2.1, r.2.2, rr)) Γ) {x1 : Int32} {x2 : Int32} {x3 : Int32} {mI : tm_I} {mL : tm_L} (hf : f_La_takeCommand_b94 x1 x2 x3 mI mL = some r) : tm_T Γ 4 0 0 94 [some (.ref 0), some (.int x1), some (.int x2), some (.int x3)] [] (sh0 ++ ex) mI mL rr := by
  have Ro := G.ro
  unfold f_La_takeCommand_b94 at hf
  refine tm_w C tfo_La to_La_takeCommand 2 rfl rfl rfl trivial ?_
  obtain ⟨v1, hv1, hf⟩ := Option.bind_eq_some_iff.mp hf
  refine tm_cV C Ro to_La_takeCommand tl_La_160 rfl (ct_La_obey hv1) rfl rfl rfl rfl rfl rfl rfl (Nat.le_refl _) (Nat.le_refl _) ?_
  refine tm_w C tfo_La to_La_takeCommand 1 rfl rfl rfl trivial ?_
  refine tm_b C to_La_takeCommand rfl rfl (fun h => ?_) (fun h => ?_)
  · have hf := (if_pos h).symm.trans hf
    refine tm_wk (lv' := [some (.ref 0), some (.int x1), some (.int x2), some (.int v1.1)]) ⟨Or.inr rfl, Or.inr rfl, Or.inr rfl, Or.inr rfl, trivial⟩ ?_
    exact j_La_takeCommand_b117 C G hf
  · have hf := (if_neg h).symm.trans hf
    refine tm_w C tfo_La to_La_takeCommand 0 rfl rfl rfl trivial ?_
    obtain ⟨v2, hv2, hf⟩ := Option.bind_eq_some_iff.mp hf
    refine tm_cV C Ro to_La_takeCommand tl_La_163 rfl (ct_La_isLastCommand hv2) rfl rfl rfl rfl rfl rfl rfl (Nat.le_refl _) (Nat.le_refl _) ?_
    refine tm_b C to_La_takeCommand rfl rfl (fun h => ?_) (fun h => ?_)
    · have hf := (if_pos h).symm.trans hf
      refine tm_wk (lv' := [some (.ref 0), some (.int x1), some (.int x2), some (.int v1.1)]) ⟨Or.inr rfl, Or.inr rfl, Or.inr rfl, Or.inr rfl, trivial⟩ ?_
      exact j_La_takeCommand_b117 C G hf
    · have hf := (if_neg h).symm.trans hf
      refine tm_w C tfo_La to_La_takeCommand 1 rfl rfl rfl trivial ?_
      refine tm_wk (lv' := [some (.ref 0), some (.int x1), some (.int x2), some (.int v1.1)]) ⟨Or.inr rfl, Or.inr rfl, Or.inr rfl, Or.inr rfl, trivial⟩ ?_
      exact j_La_takeCommand_b118 C G hf
set_option maxRecDepth 100000 in
set_option maxHeartbeats 4000000 in
theorem j_La_takeCommand_b84 {Γ : tm_G} {ex : List tm_Sh} {av : List Value} {X0 : tm_X} {r : Int32 × tm_I × tm_L} (C : tm_C Γ ty_La_takeCommand.1.cls ty_La_takeCommand.2.1 ty_La_takeCommand.2.2.1) (G : tm_Γ ty_La_takeCommand 7 156 0 0 av X0 (tm_is (some (.int r.1)) (sh0 ++ ex, r.2.1, r.2.2, rr)) Γ) {x1 : Int32} {x2 : Int32} {x3 : Int32} {mI : tm_I} {mL : tm_L} (hf : f_La_takeCommand_b84 x1 x2 x3 mI mL = some r) : tm_T Γ 4 0 0 84 [some (.ref 0), some (.int x1), some (.int x2), some (.int x3)] [] (sh0 ++ ex) mI mL rr := by
  have Ro := G.ro
  unfold f_La_takeCommand_b84 at hf
  refine tm_w C tfo_La to_La_takeCommand 0 rfl rfl rfl trivial ?_
  obtain ⟨v3, hv3, hf⟩ := Option.bind_eq_some_iff.mp hf
  refine tm_cV C Ro to_La_takeCommand tl_La_157 rfl (ct_La_decodeData hv3) rfl rfl rfl rfl rfl rfl rfl (Nat.le_refl _) (Nat.le_refl _) ?_
  refine tm_b C to_La_takeCommand rfl rfl (fun h => ?_) (fun h => ?_)
  · have hf := (if_pos h).symm.trans hf
    refine tm_wk (lv' := [some (.ref 0), some (.int x1), some (.int x2), some (.int x3)]) ⟨Or.inr rfl, Or.inr rfl, Or.inr rfl, Or.inr rfl, trivial⟩ ?_
    exact j_La_takeCommand_b94 C G hf
  · have hf := (if_neg h).symm.trans hf
    refine tm_w C tfo_La to_La_takeCommand 0 rfl rfl rfl trivial ?_
    cases hf
    exact tm_ei C G to_La_takeCommand rfl rfl (Nat.le_refl _) rfl ⟨rfl, rfl⟩
set_option maxRecDepth 100000 in
set_option maxHeartbeats 4000000 in
theorem j_La_takeCommand_b0 {Γ : tm_G} {ex : List tm_Sh} {av : List Value} {X0 : tm_X} {r : Int32 × tm_I × tm_L} (C : tm_C Γ ty_La_takeCommand.1.cls ty_La_takeCommand.2.1 ty_La_takeCommand.2.2.1) (G : tm_Γ ty_La_takeCommand 7 156 0 0 av X0 (tm_is (some (.int r.1)) (sh0 ++ ex, r.2.1, r.2.2, rr)) Γ) {x1 : Int32} {mI : tm_I} {mL : tm_L} (hf : f_La_takeCommand_b0 x1 mI mL = some r) : tm_T Γ 4 0 0 0 [some (.ref 0), some (.int x1), none, none] [] (sh0 ++ ex) mI mL rr := by
  have Ro := G.ro
  unfold f_La_takeCommand_b0 at hf
  refine tm_w C tfo_La to_La_takeCommand 2 rfl rfl rfl ⟨rfl, trivial⟩ ?_
  obtain ⟨v4, hv4, hf⟩ := Option.bind_eq_some_iff.mp hf
  refine tm_cV C Ro to_La_takeCommand tl_La_84 rfl (ct_Sc_ahead hv4) rfl rfl rfl rfl rfl rfl rfl (Nat.le_refl _) (Nat.le_refl _) ?_
  refine tm_w C tfo_La to_La_takeCommand 3 rfl rfl rfl ⟨rfl, trivial⟩ ?_
  obtain ⟨v5, hv5, hf⟩ := Option.bind_eq_some_iff.mp hf
  refine tm_cV C Ro to_La_takeCommand tl_La_140 rfl (ct_Sc_skip hv5) rfl rfl rfl rfl rfl rfl rfl (Nat.le_refl _) (Nat.le_refl _) ?_
  refine tm_w C tfo_La to_La_takeCommand 6 rfl rfl rfl ⟨rfl, rfl, trivial⟩ ?_
  obtain ⟨v6, hv6, hf⟩ := Option.bind_eq_some_iff.mp hf
  refine tm_cS C Ro to_La_takeCommand tl_La_143 rfl (ct_La_isLetter hv6) rfl rfl rfl rfl rfl (Nat.le_refl _) (Nat.le_refl _) ?_
  refine tm_b C to_La_takeCommand rfl rfl (fun h => ?_) (fun h => ?_)
  · have hf := (if_pos h).symm.trans hf
    refine tm_w C tfo_La to_La_takeCommand 1 rfl rfl rfl trivial ?_
    obtain ⟨v7, hv7, hf⟩ := Option.bind_eq_some_iff.mp hf
    refine tm_cV C Ro to_La_takeCommand tl_La_146 rfl (ct_La_mayStand hv7) rfl rfl rfl rfl rfl rfl rfl (Nat.le_refl _) (Nat.le_refl _) ?_
    refine tm_b C to_La_takeCommand rfl rfl (fun h => ?_) (fun h => ?_)
    · have hf := (if_pos h).symm.trans hf
      refine tm_w C tfo_La to_La_takeCommand 7 rfl rfl rfl ⟨rfl, rfl, rfl, rfl, trivial⟩ ?_
      obtain ⟨v8, hv8, hf⟩ := Option.bind_eq_some_iff.mp hf
      refine tm_cV C Ro to_La_takeCommand tl_La_153 rfl (ct_Nu_take hv8) rfl rfl rfl rfl rfl rfl rfl (Nat.le_refl _) (Nat.le_refl _) ?_
      refine tm_w C tfo_La to_La_takeCommand 1 rfl rfl rfl trivial ?_
      refine tm_b C to_La_takeCommand rfl rfl (fun h => ?_) (fun h => ?_)
      · have hf := (if_pos h).symm.trans hf
        refine tm_w C tfo_La to_La_takeCommand 1 rfl rfl rfl trivial ?_
        refine tm_b C to_La_takeCommand rfl rfl (fun h => ?_) (fun h => ?_)
        · have hf := (if_pos h).symm.trans hf
          refine tm_wk (lv' := [some (.ref 0), some (.int x1), some (.int v4.1), some (.int v8.1)]) ⟨Or.inr rfl, Or.inr rfl, Or.inr rfl, Or.inr rfl, trivial⟩ ?_
          exact j_La_takeCommand_b84 C G hf
        · have hf := (if_neg h).symm.trans hf
          refine tm_w C tfo_La to_La_takeCommand 1 rfl rfl rfl trivial ?_
          refine tm_b C to_La_takeCommand rfl rfl (fun h => ?_) (fun h => ?_)
          · have hf := (if_pos h).symm.trans hf
            refine tm_wk (lv' := [some (.ref 0), some (.int x1), some (.int v4.1), some (.int v8.1)]) ⟨Or.inr rfl, Or.inr rfl, Or.inr rfl, Or.inr rfl, trivial⟩ ?_
            exact j_La_takeCommand_b94 C G hf
          · have hf := (if_neg h).symm.trans hf
            refine tm_wk (lv' := [some (.ref 0), some (.int x1), some (.int v4.1), some (.int v8.1)]) ⟨Or.inr rfl, Or.inr rfl, Or.inr rfl, Or.inr rfl, trivial⟩ ?_
            exact j_La_takeCommand_b84 C G hf
      · have hf := (if_neg h).symm.trans hf
        refine tm_w C tfo_La to_La_takeCommand 0 rfl rfl rfl trivial ?_
        cases hf
        exact tm_ei C G to_La_takeCommand rfl rfl (Nat.le_refl _) rfl ⟨rfl, rfl⟩
    · have hf := (if_neg h).symm.trans hf
      refine tm_w C tfo_La to_La_takeCommand 0 rfl rfl rfl trivial ?_
      cases hf
      exact tm_ei C G to_La_takeCommand rfl rfl (Nat.le_refl _) rfl ⟨rfl, rfl⟩
  · have hf := (if_neg h).symm.trans hf
    refine tm_w C tfo_La to_La_takeCommand 0 rfl rfl rfl trivial ?_
    cases hf
    exact tm_ei C G to_La_takeCommand rfl rfl (Nat.le_refl _) rfl ⟨rfl, rfl⟩
set_option maxRecDepth 100000 in
theorem ct_La_takeCommand {ex : List tm_Sh} {p0 : Int32} {mI : tm_I} {mL : tm_L} {r : Int32 × tm_I × tm_L} (hf : f_La_takeCommand p0 mI mL = some r) : tm_M ty_La_takeCommand 7 156 0 0 [.ref 0, .int p0] (sh0 ++ ex, mI, mL, rr) (tm_is (some (.int r.1)) (sh0 ++ ex, r.2.1, r.2.2, rr)) := by
  refine tm_body (by decide) (Nat.le_of_ble_eq_true rfl) fun Γ C G => ?_
  exact j_La_takeCommand_b0 C G hf
/-! La_read -/
def f_La_read_b125 (x1 : Int32) (x2 : Int32) (mI : tm_I) (mL : tm_L) : Option (Int32 × tm_I × tm_L) := if (mI 0 6) = 0 then some ((mI 20 3), mI, mL) else (f_Sh_clear mI mL).bind fun v1 => some ((-1 : Int32), v1.2.1, v1.2.2)
def f_La_read_b119 (r8 : Int32 → Int32 → tm_I → tm_L → Option (Int32 × tm_I × tm_L)) (x1 : Int32) (x2 : Int32) (x3 : Int32) (x4 : Int32) (mI : tm_I) (mL : tm_L) : Option (Int32 × tm_I × tm_L) := r8 x1 (x2 + (1 : Int32)) mI mL
def f_La_read_b113 (r8 : Int32 → Int32 → tm_I → tm_L → Option (Int32 × tm_I × tm_L)) (x1 : Int32) (x2 : Int32) (x3 : Int32) (x4 : Int32) (s1 : Int32) (mI : tm_I) (mL : tm_L) : Option (Int32 × tm_I × tm_L) := (f_La_tell s1 x3 mI mL).bind fun v2 => f_La_read_b119 r8 (0 : Int32) x2 x3 x4 v2.2.1 v2.2.2
def f_La_read_l8 : Nat → Int32 → Int32 → tm_I → tm_L → Option (Int32 × tm_I × tm_L)
  | 0, _, _, _, _ => none
  | n + 1, x1, x2, mI, mL => if x1 = 0 then f_La_read_b125 x1 x2 mI mL else if ¬ (mI 0 6) = 0 then f_La_read_b125 x1 x2 mI mL else if (10000 : Int32) ≤ x2 then f_La_read_b125 x1 x2 mI mL else (f_Sc_skipBlanks mI mL).bind fun v3 => (f_Sc_spot v3.2.1 v3.2.2).bind fun v4 => (f_Sc_ahead (0 : Int32) v4.2.1 v4.2.2).bind fun v5 => if ¬ v5.1 = (94 : Int32) then if v5.1 = (-1 : Int32) then (f_Sc_leave v5.2.1 v5.2.2).bind fun v6 => if ¬ v6.1 = 0 then f_La_read_b119 (f_La_read_l8 n) x1 x2 v4.1 v5.1 v6.2.1 v6.2.2 else if (v6.2.1 19 5) = 0 then f_La_read_b113 (f_La_read_l8 n) x1 x2 v4.1 v5.1 (0 : Int32) v6.2.1 v6.2.2 else f_La_read_b113 (f_La_read_l8 n) x1 x2 v4.1 v5.1 (11 : Int32) v6.2.1 v6.2.2 else (f_La_tell (1 : Int32) v4.1 v5.2.1 v5.2.2).bind fun v7 => f_La_read_b119 (f_La_read_l8 n) x1 x2 v4.1 v5.1 v7.2.1 v7.2.2 else (f_La_takeCommand v4.1 v5.2.1 v5.2.2).bind fun v8 => (f_La_tell v8.1 v4.1 v8.2.1 v8.2.2).bind fun v9 => f_La_read_b119 (f_La_read_l8 n) x1 x2 v4.1 v5.1 v9.2.1 v9.2.2
def f_La_read_b0  (mI : tm_I) (mL : tm_L) : Option (Int32 × tm_I × tm_L) := (f_La_begin mI mL).bind fun v10 => f_La_read_l8 tm_F (1 : Int32) (0 : Int32) v10.2.1 v10.2.2
abbrev f_La_read  (mI : tm_I) (mL : tm_L) : Option (Int32 × tm_I × tm_L) := f_La_read_b0  mI mL
set_option maxRecDepth 100000 in
set_option maxHeartbeats 4000000 in
theorem j_La_read_b125 {Γ : tm_G} {ex : List tm_Sh} {av : List Value} {X0 : tm_X} {r : Int32 × tm_I × tm_L} (C : tm_C Γ ty_La_read.1.cls ty_La_read.2.1 ty_La_read.2.2.1) (G : tm_Γ ty_La_read 8 179 0 0 av X0 (tm_is (some (.int r.1)) (sh0 ++ ex, r.2.1, r.2.2, rr)) Γ) {x1 : Int32} {x2 : Int32} {mI : tm_I} {mL : tm_L} (hf : f_La_read_b125 x1 x2 mI mL = some r) : tm_T Γ 5 0 0 125 [some (.ref 0), some (.int x1), some (.int x2), none, none] [] (sh0 ++ ex) mI mL rr := by
  have Ro := G.ro
  unfold f_La_read_b125 at hf
  refine tm_w C tfo_La to_La_read 1 rfl rfl rfl ⟨rfl, trivial⟩ ?_
  refine tm_b C to_La_read rfl rfl (fun h => ?_) (fun h => ?_)
  · have hf := (if_pos h).symm.trans hf
    refine tm_w C tfo_La to_La_read 3 rfl rfl rfl ⟨rfl, rfl, rfl, trivial⟩ ?_
    cases hf
    exact tm_ei C G to_La_read rfl rfl (Nat.le_refl _) rfl ⟨rfl, rfl⟩
  · have hf := (if_neg h).symm.trans hf
    refine tm_w C tfo_La to_La_read 2 rfl rfl rfl ⟨rfl, rfl, trivial⟩ ?_
    obtain ⟨v1, hv1, hf⟩ := Option.bind_eq_some_iff.mp hf
    refine tm_cV C Ro to_La_read tl_La_105 rfl (ct_Sh_clear hv1) rfl rfl rfl rfl rfl rfl rfl (Nat.le_refl _) (Nat.le_refl _) ?_
    refine tm_w C tfo_La to_La_read 0 rfl rfl rfl trivial ?_
    cases hf
    exact tm_ei C G to_La_read rfl rfl (Nat.le_refl _) rfl ⟨rfl, rfl⟩
set_option maxRecDepth 100000 in
set_option maxHeartbeats 4000000 in
theorem j_La_read_b119 {Γ : tm_G} {ex : List tm_Sh} {av : List Value} {X0 : tm_X} {r8 : Int32 → Int32 → tm_I → tm_L → Option (Int32 × tm_I × tm_L)} {r : Int32 × tm_I × tm_L} (C : tm_C Γ ty_La_read.1.cls ty_La_read.2.1 ty_La_read.2.2.1) (G : tm_Γ ty_La_read 8 179 0 0 av X0 (tm_is (some (.int r.1)) (sh0 ++ ex, r.2.1, r.2.2, rr)) Γ) (H8 : ∀ (x1 : Int32) (x2 : Int32) (mI : tm_I) (mL : tm_L), r8 x1 x2 mI mL = some r → tm_T Γ 5 0 0 8 [some (.ref 0), some (.int x1), some (.int x2), none, none] [] (sh0 ++ ex) mI mL rr) {x1 : Int32} {x2 : Int32} {x3 : Int32} {x4 : Int32} {mI : tm_I} {mL : tm_L} (hf : f_La_read_b119 r8 x1 x2 x3 x4 mI mL = some r) : tm_T Γ 5 0 0 119 [some (.ref 0), some (.int x1), some (.int x2), some (.int x3), some (.int x4)] [] (sh0 ++ ex) mI mL rr := by
  have Ro := G.ro
  unfold f_La_read_b119 at hf
  refine tm_w C tfo_La to_La_read 1 rfl rfl rfl trivial ?_
  refine tm_wk (lv' := [some (.ref 0), some (.int x1), some (.int (x2 + (1 : Int32))), none, none]) ⟨Or.inr rfl, Or.inr rfl, Or.inr rfl, Or.inl rfl, Or.inl rfl, trivial⟩ ?_
  exact H8 _ _ _ _ hf
set_option maxRecDepth 100000 in
set_option maxHeartbeats 4000000 in
theorem j_La_read_b113 {Γ : tm_G} {ex : List tm_Sh} {av : List Value} {X0 : tm_X} {r8 : Int32 → Int32 → tm_I → tm_L → Option (Int32 × tm_I × tm_L)} {r : Int32 × tm_I × tm_L} (C : tm_C Γ ty_La_read.1.cls ty_La_read.2.1 ty_La_read.2.2.1) (G : tm_Γ ty_La_read 8 179 0 0 av X0 (tm_is (some (.int r.1)) (sh0 ++ ex, r.2.1, r.2.2, rr)) Γ) (H8 : ∀ (x1 : Int32) (x2 : Int32) (mI : tm_I) (mL : tm_L), r8 x1 x2 mI mL = some r → tm_T Γ 5 0 0 8 [some (.ref 0), some (.int x1), some (.int x2), none, none] [] (sh0 ++ ex) mI mL rr) {x1 : Int32} {x2 : Int32} {x3 : Int32} {x4 : Int32} {s1 : Int32} {mI : tm_I} {mL : tm_L} (hf : f_La_read_b113 r8 x1 x2 x3 x4 s1 mI mL = some r) : tm_T Γ 5 0 0 113 [some (.ref 0), some (.int x1), some (.int x2), some (.int x3), some (.int x4)] [.int s1, .ref 0] (sh0 ++ ex) mI mL rr := by
  have Ro := G.ro
  unfold f_La_read_b113 at hf
  refine tm_w C tfo_La to_La_read 0 rfl rfl rfl trivial ?_
  obtain ⟨v2, hv2, hf⟩ := Option.bind_eq_some_iff.mp hf
  refine tm_cV C Ro to_La_read tl_La_90 rfl (ct_La_tell hv2) rfl rfl rfl rfl rfl rfl rfl (Nat.le_refl _) (Nat.le_refl _) ?_
  refine tm_w C tfo_La to_La_read 1 rfl rfl rfl trivial ?_
  refine tm_wk (lv' := [some (.ref 0), some (.int (0 : Int32)), some (.int x2), some (.int x3), some (.int x4)]) ⟨Or.inr rfl, Or.inr rfl, Or.inr rfl, Or.inr rfl, Or.inr rfl, trivial⟩ ?_
  exact j_La_read_b119 C G (H8) hf
set_option maxRecDepth 100000 in
set_option maxHeartbeats 4000000 in
theorem j_La_read_l8 {Γ : tm_G} {ex : List tm_Sh} {av : List Value} {X0 : tm_X} {r : Int32 × tm_I × tm_L} (C : tm_C Γ ty_La_read.1.cls ty_La_read.2.1 ty_La_read.2.2.1) (G : tm_Γ ty_La_read 8 179 0 0 av X0 (tm_is (some (.int r.1)) (sh0 ++ ex, r.2.1, r.2.2, rr)) Γ) : ∀ (n : Nat) (x1 : Int32) (x2 : Int32) (mI : tm_I) (mL : tm_L), f_La_read_l8 n x1 x2 mI mL = some r → tm_T Γ 5 0 0 8 [some (.ref 0), some (.int x1), some (.int x2), none, none] [] (sh0 ++ ex) mI mL rr := by
  have Ro := G.ro
  intro n
  induction n with
  | zero => intro x1 x2 mI mL hf; cases hf
  | succ n ih =>
    intro x1 x2 mI mL hf
    rw [f_La_read_l8] at hf
    refine tm_w C tfo_La to_La_read 0 rfl rfl rfl trivial ?_
    refine tm_b C to_La_read rfl rfl (fun h => ?_) (fun h => ?_)
    · have hf := (if_pos h).symm.trans hf
      refine tm_wk (lv' := [some (.ref 0), some (.int x1), some (.int x2), none, none]) ⟨Or.inr rfl, Or.inr rfl, Or.inr rfl, Or.inl rfl, Or.inl rfl, trivial⟩ ?_
      exact j_La_read_b125 C G hf
    · have hf := (if_neg h).symm.trans hf
      refine tm_w C tfo_La to_La_read 1 rfl rfl rfl ⟨rfl, trivial⟩ ?_
      refine tm_b C to_La_read rfl rfl (fun h => ?_) (fun h => ?_)
      · have hf := (if_pos h).symm.trans hf
        refine tm_wk (lv' := [some (.ref 0), some (.int x1), some (.int x2), none, none]) ⟨Or.inr rfl, Or.inr rfl, Or.inr rfl, Or.inl rfl, Or.inl rfl, trivial⟩ ?_
        exact j_La_read_b125 C G hf
      · have hf := (if_neg h).symm.trans hf
        refine tm_w C tfo_La to_La_read 1 rfl rfl rfl trivial ?_
        refine tm_b C to_La_read rfl rfl (fun h => ?_) (fun h => ?_)
        · have hf := (if_pos h).symm.trans hf
          refine tm_wk (lv' := [some (.ref 0), some (.int x1), some (.int x2), none, none]) ⟨Or.inr rfl, Or.inr rfl, Or.inr rfl, Or.inl rfl, Or.inl rfl, trivial⟩ ?_
          exact j_La_read_b125 C G hf
        · have hf := (if_neg h).symm.trans hf
          refine tm_w C tfo_La to_La_read 1 rfl rfl rfl ⟨rfl, trivial⟩ ?_
          obtain ⟨v3, hv3, hf⟩ := Option.bind_eq_some_iff.mp hf
          refine tm_cV C Ro to_La_read tl_La_77 rfl (ct_Sc_skipBlanks hv3) rfl rfl rfl rfl rfl rfl rfl (Nat.le_refl _) (Nat.le_refl _) ?_
          refine tm_w C tfo_La to_La_read 1 rfl rfl rfl ⟨rfl, trivial⟩ ?_
          obtain ⟨v4, hv4, hf⟩ := Option.bind_eq_some_iff.mp hf
          refine tm_cV C Ro to_La_read tl_La_80 rfl (ct_Sc_spot hv4) rfl rfl rfl rfl rfl rfl rfl (Nat.le_refl _) (Nat.le_refl _) ?_
          refine tm_w C tfo_La to_La_read 3 rfl rfl rfl ⟨rfl, trivial⟩ ?_
          obtain ⟨v5, hv5, hf⟩ := Option.bind_eq_some_iff.mp hf
          refine tm_cV C Ro to_La_read tl_La_84 rfl (ct_Sc_ahead hv5) rfl rfl rfl rfl rfl rfl rfl (Nat.le_refl _) (Nat.le_refl _) ?_
          refine tm_w C tfo_La to_La_read 2 rfl rfl rfl trivial ?_
          refine tm_b C to_La_read rfl rfl (fun h => ?_) (fun h => ?_)
          · have hf := (if_pos h).symm.trans hf
            refine tm_w C tfo_La to_La_read 1 rfl rfl rfl trivial ?_
            refine tm_b C to_La_read rfl rfl (fun h => ?_) (fun h => ?_)
            · have hf := (if_pos h).symm.trans hf
              refine tm_w C tfo_La to_La_read 1 rfl rfl rfl ⟨rfl, trivial⟩ ?_
              obtain ⟨v6, hv6, hf⟩ := Option.bind_eq_some_iff.mp hf
              refine tm_cV C Ro to_La_read tl_La_93 rfl (ct_Sc_leave hv6) rfl rfl rfl rfl rfl rfl rfl (Nat.le_refl _) (Nat.le_refl _) ?_
              refine tm_b C to_La_read rfl rfl (fun h => ?_) (fun h => ?_)
              · have hf := (if_pos h).symm.trans hf
                refine tm_wk (lv' := [some (.ref 0), some (.int x1), some (.int x2), some (.int v4.1), some (.int v5.1)]) ⟨Or.inr rfl, Or.inr rfl, Or.inr rfl, Or.inr rfl, Or.inr rfl, trivial⟩ ?_
                exact j_La_read_b119 C G (ih) hf
              · have hf := (if_neg h).symm.trans hf
                refine tm_w C tfo_La to_La_read 3 rfl rfl rfl ⟨rfl, rfl, trivial⟩ ?_
                refine tm_b C to_La_read rfl rfl (fun h => ?_) (fun h => ?_)
                · have hf := (if_pos h).symm.trans hf
                  refine tm_w C tfo_La to_La_read 0 rfl rfl rfl trivial ?_
                  refine tm_wk (lv' := [some (.ref 0), some (.int x1), some (.int x2), some (.int v4.1), some (.int v5.1)]) ⟨Or.inr rfl, Or.inr rfl, Or.inr rfl, Or.inr rfl, Or.inr rfl, trivial⟩ ?_
                  exact j_La_read_b113 C G (ih) hf
                · have hf := (if_neg h).symm.trans hf
                  refine tm_w C tfo_La to_La_read 1 rfl rfl rfl trivial ?_
                  refine tm_wk (lv' := [some (.ref 0), some (.int x1), some (.int x2), some (.int v4.1), some (.int v5.1)]) ⟨Or.inr rfl, Or.inr rfl, Or.inr rfl, Or.inr rfl, Or.inr rfl, trivial⟩ ?_
                  exact j_La_read_b113 C G (ih) hf
            · have hf := (if_neg h).symm.trans hf
              refine tm_w C tfo_La to_La_read 2 rfl rfl rfl trivial ?_
              obtain ⟨v7, hv7, hf⟩ := Option.bind_eq_some_iff.mp hf
              refine tm_cV C Ro to_La_read tl_La_90 rfl (ct_La_tell hv7) rfl rfl rfl rfl rfl rfl rfl (Nat.le_refl _) (Nat.le_refl _) ?_
              refine tm_w C tfo_La to_La_read 0 rfl rfl rfl trivial ?_
              refine tm_wk (lv' := [some (.ref 0), some (.int x1), some (.int x2), some (.int v4.1), some (.int v5.1)]) ⟨Or.inr rfl, Or.inr rfl, Or.inr rfl, Or.inr rfl, Or.inr rfl, trivial⟩ ?_
              exact j_La_read_b119 C G (ih) hf
          · have hf := (if_neg h).symm.trans hf
            refine tm_w C tfo_La to_La_read 2 rfl rfl rfl trivial ?_
            obtain ⟨v8, hv8, hf⟩ := Option.bind_eq_some_iff.mp hf
            refine tm_cV C Ro to_La_read tl_La_87 rfl (ct_La_takeCommand hv8) rfl rfl rfl rfl rfl rfl rfl (Nat.le_refl _) (Nat.le_refl _) ?_
            refine tm_w C tfo_La to_La_read 0 rfl rfl rfl trivial ?_
            obtain ⟨v9, hv9, hf⟩ := Option.bind_eq_some_iff.mp hf
            refine tm_cV C Ro to_La_read tl_La_90 rfl (ct_La_tell hv9) rfl rfl rfl rfl rfl rfl rfl (Nat.le_refl _) (Nat.le_refl _) ?_
            refine tm_w C tfo_La to_La_read 0 rfl rfl rfl trivial ?_
            refine tm_wk (lv' := [some (.ref 0), some (.int x1), some (.int x2), some (.int v4.1), some (.int v5.1)]) ⟨Or.inr rfl, Or.inr rfl, Or.inr rfl, Or.inr rfl, Or.inr rfl, trivial⟩ ?_
            exact j_La_read_b119 C G (ih) hf
set_option maxRecDepth 100000 in
set_option maxHeartbeats 4000000 in
theorem j_La_read_b0 {Γ : tm_G} {ex : List tm_Sh} {av : List Value} {X0 : tm_X} {r : Int32 × tm_I × tm_L} (C : tm_C Γ ty_La_read.1.cls ty_La_read.2.1 ty_La_read.2.2.1) (G : tm_Γ ty_La_read 8 179 0 0 av X0 (tm_is (some (.int r.1)) (sh0 ++ ex, r.2.1, r.2.2, rr)) Γ) {mI : tm_I} {mL : tm_L} (hf : f_La_read_b0  mI mL = some r) : tm_T Γ 5 0 0 0 [some (.ref 0), none, none, none, none] [] (sh0 ++ ex) mI mL rr := by
  have Ro := G.ro
  unfold f_La_read_b0 at hf
  refine tm_w C tfo_La to_La_read 0 rfl rfl rfl trivial ?_
  obtain ⟨v10, hv10, hf⟩ := Option.bind_eq_some_iff.mp hf
  refine tm_cV C Ro to_La_read tl_La_74 rfl (ct_La_begin hv10) rfl rfl rfl rfl rfl rfl rfl (Nat.le_refl _) (Nat.le_refl _) ?_
  refine tm_w C tfo_La to_La_read 3 rfl rfl rfl trivial ?_
  refine tm_wk (lv' := [some (.ref 0), some (.int (1 : Int32)), some (.int (0 : Int32)), none, none]) ⟨Or.inr rfl, Or.inr rfl, Or.inr rfl, Or.inl rfl, Or.inl rfl, trivial⟩ ?_
  exact j_La_read_l8 C G _ _ _ _ _ hf
set_option maxRecDepth 100000 in
theorem ct_La_read {ex : List tm_Sh}  {mI : tm_I} {mL : tm_L} {r : Int32 × tm_I × tm_L} (hf : f_La_read  mI mL = some r) : tm_M ty_La_read 8 179 0 0 [.ref 0] (sh0 ++ ex, mI, mL, rr) (tm_is (some (.int r.1)) (sh0 ++ ex, r.2.1, r.2.2, rr)) := by
  refine tm_body (by decide) (Nat.le_of_ble_eq_true rfl) fun Γ C G => ?_
  exact j_La_read_b0 C G hf
