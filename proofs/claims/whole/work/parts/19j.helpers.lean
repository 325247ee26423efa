/-! the law's four helpers: the road that answers, and the road that is thrown on and caught -/
def hh_write : List (Nat × Nat × Nat × Nat) := [(0, 11, 14, 13)]
def hh_label : List (Nat × Nat × Nat × Nat) := [(0, 10, 13, 13)]
def hh_order : List (Nat × Nat × Nat × Nat) := [(0, 10, 13, 13), (0, 10, 17, 22)]
def hh_data : List (Nat × Nat × Nat × Nat) := [(0, 9, 12, 22)]
def fr0 : tm_Fr := fun _ => none
theorem fr0_ok {own : String} : ∀ k q, fr0 k = some q → tm_FOK own k q := fun _ _ h => by cases h
theorem th_A : Cond.castable "java/lang/IllegalArgumentException" "java/lang/IllegalArgumentException" ∈ th_face := List.mem_of_getElem? (i := 3) rfl
theorem th_I : Cond.castable "java/lang/IndexOutOfBoundsException" "java/lang/IndexOutOfBoundsException" ∈ th_face := List.mem_of_getElem? (i := 4) rfl
theorem tl_cA : Cond.classLink "LabelScriptLaw" 13 "java/lang/IllegalArgumentException" ∈ tm_tb := tm_in 800 (by decide +kernel) rfl
theorem tl_cI : Cond.classLink "LabelScriptLaw" 22 "java/lang/IndexOutOfBoundsException" ∈ tm_tb := tm_in 886 (by decide +kernel) rfl
set_option maxRecDepth 100000 in
set_option maxHeartbeats 4000000 in
theorem ch_write {ex : List tm_Sh} {n : Int32} {x : Int64} {mI : tm_I} {mL : tm_L} {r : Int32 × tm_I × tm_L} (hf : f_La_write n x mI mL = some r) : tm_Mh ty_Lw_write hh_write 7 120 0 0 [.ref 0, .int n, .long x, .ref 57] (sh0 ++ ex, mI, mL, rr) (tm_is (some (.int 0)) (sh0 ++ ex, r.2.1, tm_up r.2.2 57 0 r.1.toInt64, rr)) := by
  refine tm_bodyH (by decide) (Nat.le_of_ble_eq_true rfl) fun Γ C G Hh hlen => ?_
  have Ro := G.ro
  refine tm_w C fr0_ok to_Lw_write 4 rfl rfl rfl trivial ?_
  refine tm_cV C Ro to_Lw_write tl_Lw_7 rfl (ct_La_write hf) rfl rfl rfl rfl rfl rfl rfl (Nat.le_refl _) (Nat.le_refl _) ?_
  refine tm_w C fr0_ok to_Lw_write 3 rfl rfl rfl ⟨⟨1, rfl, by unfold vp_in; decide⟩, trivial⟩ ?_
  exact tm_ei C G to_Lw_write rfl rfl (Nat.le_refl _) rfl ⟨rfl, rfl⟩
set_option maxRecDepth 100000 in
set_option maxHeartbeats 4000000 in
theorem ch_label {ex : List tm_Sh} {k w : Int32} {mI : tm_I} {mL : tm_L} {r : Int32 × tm_I × tm_L} (hf : f_La_label k w mI mL = some r) : tm_Mh ty_Lw_label hh_label 7 120 0 0 [.ref 0, .int k, .int w, .ref 57] (sh0 ++ ex, mI, mL, rr) (tm_is (some (.int 0)) (sh0 ++ ex, r.2.1, tm_up r.2.2 57 0 r.1.toInt64, rr)) := by
  refine tm_bodyH (by decide) (Nat.le_of_ble_eq_true rfl) fun Γ C G Hh hlen => ?_
  have Ro := G.ro
  refine tm_w C fr0_ok to_Lw_label 4 rfl rfl rfl trivial ?_
  refine tm_cV C Ro to_Lw_label tl_Lw_15 rfl (ct_La_label hf) rfl rfl rfl rfl rfl rfl rfl (Nat.le_refl _) (Nat.le_refl _) ?_
  refine tm_w C fr0_ok to_Lw_label 3 rfl rfl rfl ⟨⟨1, rfl, by unfold vp_in; decide⟩, trivial⟩ ?_
  exact tm_ei C G to_Lw_label rfl rfl (Nat.le_refl _) rfl ⟨rfl, rfl⟩
set_option maxRecDepth 100000 in
set_option maxHeartbeats 4000000 in
theorem ch_order {ex : List tm_Sh} {k w : Int32} {mI : tm_I} {mL : tm_L} {r : Int32 × tm_I × tm_L} (hf : f_La_order k w mI mL = some r) : tm_Mh ty_Lw_order hh_order 7 120 0 0 [.ref 0, .int k, .int w, .ref 57] (sh0 ++ ex, mI, mL, rr) (tm_is (some (.int 0)) (sh0 ++ ex, r.2.1, tm_up r.2.2 57 0 r.1.toInt64, rr)) := by
  refine tm_bodyH (by decide) (Nat.le_of_ble_eq_true rfl) fun Γ C G Hh hlen => ?_
  have Ro := G.ro
  refine tm_w C fr0_ok to_Lw_order 4 rfl rfl rfl trivial ?_
  refine tm_cV C Ro to_Lw_order tl_Lw_19 rfl (ct_La_order hf) rfl rfl rfl rfl rfl rfl rfl (Nat.le_refl _) (Nat.le_refl _) ?_
  refine tm_w C fr0_ok to_Lw_order 3 rfl rfl rfl ⟨⟨1, rfl, by unfold vp_in; decide⟩, trivial⟩ ?_
  exact tm_ei C G to_Lw_order rfl rfl (Nat.le_refl _) rfl ⟨rfl, rfl⟩
set_option maxRecDepth 100000 in
set_option maxHeartbeats 4000000 in
theorem ch_data {ex : List tm_Sh} {k w : Int32} {mI : tm_I} {mL : tm_L} {r : Int64 × tm_I × tm_L} (hf : f_La_data k w mI mL = some r) : tm_Mh ty_Lw_data hh_data 7 120 0 0 [.ref 0, .int k, .int w, .ref 57] (sh0 ++ ex, mI, mL, rr) (tm_is (some (.int 0)) (sh0 ++ ex, r.2.1, tm_up r.2.2 57 0 r.1, rr)) := by
  refine tm_bodyH (by decide) (Nat.le_of_ble_eq_true rfl) fun Γ C G Hh hlen => ?_
  have Ro := G.ro
  refine tm_w C fr0_ok to_Lw_data 4 rfl rfl rfl trivial ?_
  refine tm_cV C Ro to_Lw_data tl_Lw_24 rfl (ct_La_data hf) rfl rfl rfl rfl rfl rfl rfl (Nat.le_refl _) (Nat.le_refl _) ?_
  refine tm_w C fr0_ok to_Lw_data 2 rfl rfl rfl ⟨⟨1, rfl, by unfold vp_in; decide⟩, trivial⟩ ?_
  exact tm_ei C G to_Lw_data rfl rfl (Nat.le_refl _) rfl ⟨rfl, rfl⟩
set_option maxRecDepth 100000 in
set_option maxHeartbeats 4000000 in
theorem cz_write {ex : List tm_Sh} {n : Int32} {x : Int64} {mI : tm_I} {mL : tm_L} (hn : n < 1 ∨ 8 < n) : tm_Mh ty_Lw_write hh_write 7 120 1 6 [.ref 0, .int n, .long x, .ref 57] (sh0 ++ ex, mI, mL, rr) (tm_is (some (.int 1)) (sh0 ++ ex ++ [.inl 10], mI, mL, rr)) := by
  refine tm_bodyH (by decide) (Nat.le_of_ble_eq_true rfl) fun Γ C G Hh hlen => ?_
  have Ro := G.ro
  refine tm_w C fr0_ok to_Lw_write 4 rfl rfl rfl trivial ?_
  refine tm_catch (hp := []) (hx0 := (0, 11, 14, 13)) (hr0 := []) (ci := 10) C Ro Hh tl_Lw_7 (tm_get_d to_Lw_write rfl) (cx_write hn) (ck := 0) rfl rfl rfl rfl (Nat.le_of_ble_eq_true rfl) ⟨by decide, by decide, by decide, by decide, hlen⟩ rfl (by decide) (by decide) tl_cA th_A (fun r h => by cases h) ?_
  refine tm_w C fr0_ok to_Lw_write 1 rfl rfl rfl trivial ?_
  exact tm_ei C G to_Lw_write rfl rfl (Nat.le_refl _) rfl ⟨rfl, rfl⟩
set_option maxRecDepth 100000 in
set_option maxHeartbeats 4000000 in
theorem cz_label {ex : List tm_Sh} {k w : Int32} {mI : tm_I} {mL : tm_L} (hn : w < 0 ∨ 4 ≤ w) : tm_Mh ty_Lw_label hh_label 7 120 1 6 [.ref 0, .int k, .int w, .ref 57] (sh0 ++ ex, mI, mL, rr) (tm_is (some (.int 1)) (sh0 ++ ex ++ [.inl 10], mI, mL, rr)) := by
  refine tm_bodyH (by decide) (Nat.le_of_ble_eq_true rfl) fun Γ C G Hh hlen => ?_
  have Ro := G.ro
  refine tm_w C fr0_ok to_Lw_label 4 rfl rfl rfl trivial ?_
  refine tm_catch (hp := []) (hx0 := (0, 10, 13, 13)) (hr0 := []) (ci := 10) C Ro Hh tl_Lw_15 (tm_get_d to_Lw_label rfl) (cx_label hn) (ck := 0) rfl rfl rfl rfl (Nat.le_of_ble_eq_true rfl) ⟨by decide, by decide, by decide, by decide, hlen⟩ rfl (by decide) (by decide) tl_cA th_A (fun r h => by cases h) ?_
  refine tm_w C fr0_ok to_Lw_label 1 rfl rfl rfl trivial ?_
  exact tm_ei C G to_Lw_label rfl rfl (Nat.le_refl _) rfl ⟨rfl, rfl⟩
set_option maxRecDepth 100000 in
set_option maxHeartbeats 4000000 in
theorem cz_orderA {ex : List tm_Sh} {k w : Int32} {mI : tm_I} {mL : tm_L} (hn : w < 0 ∨ 8 < w) : tm_Mh ty_Lw_order hh_order 7 120 1 6 [.ref 0, .int k, .int w, .ref 57] (sh0 ++ ex, mI, mL, rr) (tm_is (some (.int 1)) (sh0 ++ ex ++ [.inl 10], mI, mL, rr)) := by
  refine tm_bodyH (by decide) (Nat.le_of_ble_eq_true rfl) fun Γ C G Hh hlen => ?_
  have Ro := G.ro
  refine tm_w C fr0_ok to_Lw_order 4 rfl rfl rfl trivial ?_
  refine tm_catch (hp := []) (hx0 := (0, 10, 13, 13)) (hr0 := [(0, 10, 17, 22)]) (ci := 10) C Ro Hh tl_Lw_19 (tm_get_d to_Lw_order rfl) (cx_orderA hn) (ck := 0) rfl rfl rfl rfl (Nat.le_of_ble_eq_true rfl) ⟨by decide, by decide, by decide, by decide, hlen⟩ rfl (by decide) (by decide) tl_cA th_A (fun r h => by cases h) ?_
  refine tm_w C fr0_ok to_Lw_order 1 rfl rfl rfl trivial ?_
  exact tm_ei C G to_Lw_order rfl rfl (Nat.le_refl _) rfl ⟨rfl, rfl⟩
set_option maxRecDepth 100000 in
set_option maxHeartbeats 4000000 in
theorem cz_orderI {ex : List tm_Sh} {k w : Int32} {mI : tm_I} {mL : tm_L} (hn : ¬ w < 0 ∧ w ≤ 8) (hk : k < 0 ∨ mI 20 4 ≤ k) : tm_Mh ty_Lw_order hh_order 7 120 1 6 [.ref 0, .int k, .int w, .ref 57] (sh0 ++ ex, mI, mL, rr) (tm_is (some (.int 2)) (sh0 ++ ex ++ [.inl 11], mI, mL, rr)) := by
  refine tm_bodyH (by decide) (Nat.le_of_ble_eq_true rfl) fun Γ C G Hh hlen => ?_
  have Ro := G.ro
  refine tm_w C fr0_ok to_Lw_order 4 rfl rfl rfl trivial ?_
  refine tm_catch (hp := [(0, 10, 13, 13)]) (hx0 := (0, 10, 17, 22)) (hr0 := []) (ci := 11) C Ro Hh tl_Lw_19 (tm_get_d to_Lw_order rfl) (cx_orderI hn hk) (ck := 0) rfl rfl rfl rfl (Nat.le_of_ble_eq_true rfl) ⟨by decide, by decide, by decide, by decide, hlen⟩ rfl (by decide) (by decide) tl_cI th_I (fun r h => (List.mem_singleton.mp h) ▸ ⟨by decide, tl_cA, rfl⟩) ?_
  refine tm_w C fr0_ok to_Lw_order 1 rfl rfl rfl trivial ?_
  exact tm_ei C G to_Lw_order rfl rfl (Nat.le_refl _) rfl ⟨rfl, rfl⟩
set_option maxRecDepth 100000 in
set_option maxHeartbeats 4000000 in
theorem cz_data {ex : List tm_Sh} {k w : Int32} {mI : tm_I} {mL : tm_L} (hk : k < 0 ∨ mI 20 4 ≤ k) : tm_Mh ty_Lw_data hh_data 7 120 1 6 [.ref 0, .int k, .int w, .ref 57] (sh0 ++ ex, mI, mL, rr) (tm_is (some (.int 1)) (sh0 ++ ex ++ [.inl 11], mI, mL, rr)) := by
  refine tm_bodyH (by decide) (Nat.le_of_ble_eq_true rfl) fun Γ C G Hh hlen => ?_
  have Ro := G.ro
  refine tm_w C fr0_ok to_Lw_data 4 rfl rfl rfl trivial ?_
  refine tm_catch (hp := []) (hx0 := (0, 9, 12, 22)) (hr0 := []) (ci := 11) C Ro Hh tl_Lw_24 (tm_get_d to_Lw_data rfl) (cx_data hk) (ck := 0) rfl rfl rfl rfl (Nat.le_of_ble_eq_true rfl) ⟨by decide, by decide, by decide, by decide, hlen⟩ rfl (by decide) (by decide) tl_cI th_I (fun r h => by cases h) ?_
  refine tm_w C fr0_ok to_Lw_data 1 rfl rfl rfl trivial ?_
  exact tm_ei C G to_Lw_data rfl rfl (Nat.le_refl _) rfl ⟨rfl, rfl⟩
