/-! the arms of the law that go through its helpers -/
def lw_long (a b : Int32) : Int64 := (a.toInt64 <<< ((Int8.ofInt 32).toInt32.toInt64 &&& 63)) ||| (b.toInt64 &&& 4294967295)
theorem lw_cmp {x y : Int64} (h : x = y) : lg_cmp x y = 0 := by subst h; simp [lg_cmp]
set_option maxRecDepth 100000 in
set_option maxHeartbeats 4000000 in
theorem la_write {Γ : tm_G} {cells slots L : Nat} {xs : Nat → Int32} {ex : List tm_Sh} {mI : tm_I} {mL : tm_L} {i : Int32} {a b c : Option Value} {r1 r2 : Int32 × tm_I × tm_L} {r3 : Int32 × tm_I × tm_L} (C : tm_C Γ "LabelScriptLaw" code 8) (Ro : tm_Ro Γ 14 542 601024 7293033) (Hx : tm_Hx Γ) (S : tm_Sx Γ L xs) (hc : cells + 1 ≤ 601024) (hs : slots + 6 ≤ 7293033) (hlen : (sh0 ++ ex).length + 1 ≤ 1000000) (i1 : vp_in (i + Int32.ofInt 1) L) (i2 : vp_in (i + Int32.ofInt 2) L) (i3 : vp_in (i + Int32.ofInt 3) L) (h1 : f_La_write (xs (i + Int32.ofInt 1).toNatClampNeg) (lw_long (xs (i + Int32.ofInt 2).toNatClampNeg) (xs (i + Int32.ofInt 3).toNatClampNeg)) mI mL = some r1) (h2 : f_Mo_write (xs (i + Int32.ofInt 1).toNatClampNeg) (lw_long (xs (i + Int32.ofInt 2).toNatClampNeg) (xs (i + Int32.ofInt 3).toNatClampNeg)) r1.2.1 (tm_up r1.2.2 57 0 r1.1.toInt64) = some r2) (h3 : f_Mo_thrown r2.2.1 r2.2.2 = some r3) (he : r3.1 = 0) (hv : r3.2.2 57 0 = r2.1.toInt64)
    (k : tm_T Γ 8 cells slots 439 (lv_L i (some (.int 0)) (some (.int r2.1)) c) [] (sh0 ++ ex) r3.2.1 r3.2.2 rr) : tm_T Γ 8 cells slots 84 (lv_L i a b c) [] (sh0 ++ ex) mI mL rr := by
  refine tm_w C fr0_ok to_Lw 4 rfl rfl rfl trivial ?_
  refine tm_scr C S to_Lw rfl i1 ?_
  refine tm_w C fr0_ok to_Lw 3 rfl rfl rfl trivial ?_
  refine tm_scr C S to_Lw rfl i2 ?_
  refine tm_w C fr0_ok to_Lw 6 rfl rfl rfl trivial ?_
  refine tm_scr C S to_Lw rfl i3 ?_
  refine tm_w C fr0_ok to_Lw 0 rfl rfl rfl trivial ?_
  refine tm_ldc2 (v := 4294967295) C (tm_in 1239 (by decide +kernel) rfl) (tm_get_d to_Lw rfl) ?_
  refine tm_w C fr0_ok to_Lw 2 rfl rfl rfl trivial ?_
  refine tm_callSh C Ro Hx tl_hw (tm_get_d to_Lw rfl) (ch_write h1) rfl rfl (Nat.le_of_ble_eq_true rfl) ⟨by decide, by decide, by omega, by omega, by omega⟩ (fun v X hq => ?_)
  obtain ⟨rfl, rfl⟩ := hq
  refine tm_w C fr0_ok to_Lw 5 rfl rfl rfl trivial ?_
  refine tm_scr C S to_Lw rfl i1 ?_
  refine tm_w C fr0_ok to_Lw 3 rfl rfl rfl trivial ?_
  refine tm_scr C S to_Lw rfl i2 ?_
  refine tm_w C fr0_ok to_Lw 6 rfl rfl rfl trivial ?_
  refine tm_scr C S to_Lw rfl i3 ?_
  refine tm_w C fr0_ok to_Lw 0 rfl rfl rfl trivial ?_
  refine tm_ldc2 (v := 4294967295) C (tm_in 1239 (by decide +kernel) rfl) (tm_get_d to_Lw rfl) ?_
  refine tm_w C fr0_ok to_Lw 1 rfl rfl rfl trivial ?_
  refine tm_cV C Ro to_Lw tl_Lw_39 rfl (ct_Mo_write h2) rfl rfl rfl rfl rfl rfl rfl (by omega) (by omega) ?_
  refine tm_w C fr0_ok to_Lw 1 rfl rfl rfl trivial ?_
  refine tm_cV C Ro to_Lw tl_Lw_40 rfl (ct_Mo_thrown h3) rfl rfl rfl rfl rfl rfl rfl (by omega) (by omega) ?_
  refine tm_w C fr0_ok to_Lw 0 rfl rfl rfl trivial ?_
  refine tm_b C to_Lw rfl rfl (fun _ => ?_) (fun h => absurd he h)
  refine tm_w C fr0_ok to_Lw 0 rfl rfl rfl trivial ?_
  refine tm_b C to_Lw rfl rfl (fun h => absurd rfl h) (fun _ => ?_)
  refine tm_w C fr0_ok to_Lw 5 rfl rfl rfl ⟨⟨1, rfl, by unfold vp_in; decide⟩, trivial⟩ ?_
  refine tm_b C to_Lw rfl rfl (fun _ => ?_) (fun h => absurd (lw_cmp hv) h)
  refine tm_w C fr0_ok to_Lw 0 rfl rfl rfl trivial ?_
  exact k
set_option maxRecDepth 100000 in
set_option maxHeartbeats 4000000 in
theorem lz_write {Γ : tm_G} {cells slots L : Nat} {xs : Nat → Int32} {ex : List tm_Sh} {mI : tm_I} {mL : tm_L} {i : Int32} {a b c : Option Value} {r2 : Int32 × tm_I × tm_L} {r3 : Int32 × tm_I × tm_L} (C : tm_C Γ "LabelScriptLaw" code 8) (Ro : tm_Ro Γ 14 542 601024 7293033) (Hx : tm_Hx Γ) (S : tm_Sx Γ L xs) (hc : cells + 1 ≤ 601024) (hs : slots + 6 ≤ 7293033) (hlen : (sh0 ++ ex).length + 1 ≤ 1000000) (i1 : vp_in (i + Int32.ofInt 1) L) (i2 : vp_in (i + Int32.ofInt 2) L) (i3 : vp_in (i + Int32.ofInt 3) L) (hn : xs (i + Int32.ofInt 1).toNatClampNeg < 1 ∨ 8 < xs (i + Int32.ofInt 1).toNatClampNeg) (h2 : f_Mo_write (xs (i + Int32.ofInt 1).toNatClampNeg) (lw_long (xs (i + Int32.ofInt 2).toNatClampNeg) (xs (i + Int32.ofInt 3).toNatClampNeg)) mI mL = some r2) (h3 : f_Mo_thrown r2.2.1 r2.2.2 = some r3) (he : r3.1 = 1)
    (k : tm_T Γ 8 (cells + 1) (slots + 6) 439 (lv_L i (some (.int 1)) (some (.int r2.1)) c) [] (sh0 ++ (ex ++ [.inl 10])) r3.2.1 r3.2.2 rr) : tm_T Γ 8 cells slots 84 (lv_L i a b c) [] (sh0 ++ ex) mI mL rr := by
  refine tm_w C fr0_ok to_Lw 4 rfl rfl rfl trivial ?_
  refine tm_scr C S to_Lw rfl i1 ?_
  refine tm_w C fr0_ok to_Lw 3 rfl rfl rfl trivial ?_
  refine tm_scr C S to_Lw rfl i2 ?_
  refine tm_w C fr0_ok to_Lw 6 rfl rfl rfl trivial ?_
  refine tm_scr C S to_Lw rfl i3 ?_
  refine tm_w C fr0_ok to_Lw 0 rfl rfl rfl trivial ?_
  refine tm_ldc2 (v := 4294967295) C (tm_in 1239 (by decide +kernel) rfl) (tm_get_d to_Lw rfl) ?_
  refine tm_w C fr0_ok to_Lw 2 rfl rfl rfl trivial ?_
  refine tm_callSh C Ro Hx tl_hw (tm_get_d to_Lw rfl) (cz_write hn) rfl rfl (Nat.le_of_ble_eq_true rfl) ⟨by decide, by decide, by omega, by omega, hlen⟩ (fun v X hq => ?_)
  obtain ⟨rfl, rfl⟩ := hq
  show tm_T Γ 8 _ _ _ _ _ (sh0 ++ ex ++ [.inl 10]) _ _ _
  rw [List.append_assoc]
  refine tm_w C fr0_ok to_Lw 5 rfl rfl rfl trivial ?_
  refine tm_scr C S to_Lw rfl i1 ?_
  refine tm_w C fr0_ok to_Lw 3 rfl rfl rfl trivial ?_
  refine tm_scr C S to_Lw rfl i2 ?_
  refine tm_w C fr0_ok to_Lw 6 rfl rfl rfl trivial ?_
  refine tm_scr C S to_Lw rfl i3 ?_
  refine tm_w C fr0_ok to_Lw 0 rfl rfl rfl trivial ?_
  refine tm_ldc2 (v := 4294967295) C (tm_in 1239 (by decide +kernel) rfl) (tm_get_d to_Lw rfl) ?_
  refine tm_w C fr0_ok to_Lw 1 rfl rfl rfl trivial ?_
  refine tm_cV C Ro to_Lw tl_Lw_39 rfl (ct_Mo_write h2) rfl rfl rfl rfl rfl rfl rfl hc hs ?_
  refine tm_w C fr0_ok to_Lw 1 rfl rfl rfl trivial ?_
  refine tm_cV C Ro to_Lw tl_Lw_40 rfl (ct_Mo_thrown h3) rfl rfl rfl rfl rfl rfl rfl hc hs ?_
  refine tm_w C fr0_ok to_Lw 0 rfl rfl rfl trivial ?_
  refine tm_b C to_Lw rfl rfl (fun _ => ?_) (fun h => absurd he h)
  refine tm_w C fr0_ok to_Lw 0 rfl rfl rfl trivial ?_
  refine tm_b C to_Lw rfl rfl (fun _ => ?_) (fun h => absurd (by decide) h)
  refine tm_w C fr0_ok to_Lw 0 rfl rfl rfl trivial ?_
  exact k
set_option maxRecDepth 100000 in
set_option maxHeartbeats 4000000 in
theorem la_label {Γ : tm_G} {cells slots L : Nat} {xs : Nat → Int32} {ex : List tm_Sh} {mI : tm_I} {mL : tm_L} {i : Int32} {a b c : Option Value} {r1 r2 : Int32 × tm_I × tm_L} {r3 : Int32 × tm_I × tm_L} (C : tm_C Γ "LabelScriptLaw" code 8) (Ro : tm_Ro Γ 14 542 601024 7293033) (Hx : tm_Hx Γ) (S : tm_Sx Γ L xs) (hc : cells + 1 ≤ 601024) (hs : slots + 6 ≤ 7293033) (hlen : (sh0 ++ ex).length + 1 ≤ 1000000) (i1 : vp_in (i + Int32.ofInt 1) L) (i2 : vp_in (i + Int32.ofInt 2) L) (h1 : f_La_label (xs (i + Int32.ofInt 1).toNatClampNeg) (xs (i + Int32.ofInt 2).toNatClampNeg) mI mL = some r1) (h2 : f_Mo_label (xs (i + Int32.ofInt 1).toNatClampNeg) (xs (i + Int32.ofInt 2).toNatClampNeg) r1.2.1 (tm_up r1.2.2 57 0 r1.1.toInt64) = some r2) (h3 : f_Mo_thrown r2.2.1 r2.2.2 = some r3) (he : r3.1 = 0) (hv : r3.2.2 57 0 = r2.1.toInt64)
    (k : tm_T Γ 8 cells slots 439 (lv_L i (some (.int 0)) (some (.int r2.1)) c) [] (sh0 ++ ex) r3.2.1 r3.2.2 rr) : tm_T Γ 8 cells slots 236 (lv_L i a b c) [] (sh0 ++ ex) mI mL rr := by
  refine tm_w C fr0_ok to_Lw 4 rfl rfl rfl trivial ?_
  refine tm_scr C S to_Lw rfl i1 ?_
  refine tm_w C fr0_ok to_Lw 3 rfl rfl rfl trivial ?_
  refine tm_scr C S to_Lw rfl i2 ?_
  refine tm_w C fr0_ok to_Lw 0 rfl rfl rfl trivial ?_
  refine tm_callSh C Ro Hx tl_hl (tm_get_d to_Lw rfl) (ch_label h1) rfl rfl (Nat.le_of_ble_eq_true rfl) ⟨by decide, by decide, by omega, by omega, by omega⟩ (fun v X hq => ?_)
  obtain ⟨rfl, rfl⟩ := hq
  refine tm_w C fr0_ok to_Lw 5 rfl rfl rfl trivial ?_
  refine tm_scr C S to_Lw rfl i1 ?_
  refine tm_w C fr0_ok to_Lw 3 rfl rfl rfl trivial ?_
  refine tm_scr C S to_Lw rfl i2 ?_
  refine tm_cV C Ro to_Lw tl_Lw_63 rfl (ct_Mo_label h2) rfl rfl rfl rfl rfl rfl rfl (by omega) (by omega) ?_
  refine tm_w C fr0_ok to_Lw 1 rfl rfl rfl trivial ?_
  refine tm_cV C Ro to_Lw tl_Lw_40 rfl (ct_Mo_thrown h3) rfl rfl rfl rfl rfl rfl rfl (by omega) (by omega) ?_
  refine tm_w C fr0_ok to_Lw 0 rfl rfl rfl trivial ?_
  refine tm_b C to_Lw rfl rfl (fun _ => ?_) (fun h => absurd he h)
  refine tm_w C fr0_ok to_Lw 0 rfl rfl rfl trivial ?_
  refine tm_b C to_Lw rfl rfl (fun h => absurd rfl h) (fun _ => ?_)
  refine tm_w C fr0_ok to_Lw 5 rfl rfl rfl ⟨⟨1, rfl, by unfold vp_in; decide⟩, trivial⟩ ?_
  refine tm_b C to_Lw rfl rfl (fun _ => ?_) (fun h => absurd (lw_cmp hv) h)
  refine tm_w C fr0_ok to_Lw 0 rfl rfl rfl trivial ?_
  exact k
set_option maxRecDepth 100000 in
set_option maxHeartbeats 4000000 in
theorem lz_label {Γ : tm_G} {cells slots L : Nat} {xs : Nat → Int32} {ex : List tm_Sh} {mI : tm_I} {mL : tm_L} {i : Int32} {a b c : Option Value} {r2 : Int32 × tm_I × tm_L} {r3 : Int32 × tm_I × tm_L} (C : tm_C Γ "LabelScriptLaw" code 8) (Ro : tm_Ro Γ 14 542 601024 7293033) (Hx : tm_Hx Γ) (S : tm_Sx Γ L xs) (hc : cells + 1 ≤ 601024) (hs : slots + 6 ≤ 7293033) (hlen : (sh0 ++ ex).length + 1 ≤ 1000000) (i1 : vp_in (i + Int32.ofInt 1) L) (i2 : vp_in (i + Int32.ofInt 2) L) (hn : xs (i + Int32.ofInt 2).toNatClampNeg < 0 ∨ 4 ≤ xs (i + Int32.ofInt 2).toNatClampNeg) (h2 : f_Mo_label (xs (i + Int32.ofInt 1).toNatClampNeg) (xs (i + Int32.ofInt 2).toNatClampNeg) mI mL = some r2) (h3 : f_Mo_thrown r2.2.1 r2.2.2 = some r3) (he : r3.1 = 1)
    (k : tm_T Γ 8 (cells + 1) (slots + 6) 439 (lv_L i (some (.int 1)) (some (.int r2.1)) c) [] (sh0 ++ (ex ++ [.inl 10])) r3.2.1 r3.2.2 rr) : tm_T Γ 8 cells slots 236 (lv_L i a b c) [] (sh0 ++ ex) mI mL rr := by
  refine tm_w C fr0_ok to_Lw 4 rfl rfl rfl trivial ?_
  refine tm_scr C S to_Lw rfl i1 ?_
  refine tm_w C fr0_ok to_Lw 3 rfl rfl rfl trivial ?_
  refine tm_scr C S to_Lw rfl i2 ?_
  refine tm_w C fr0_ok to_Lw 0 rfl rfl rfl trivial ?_
  refine tm_callSh C Ro Hx tl_hl (tm_get_d to_Lw rfl) (cz_label hn) rfl rfl (Nat.le_of_ble_eq_true rfl) ⟨by decide, by decide, by omega, by omega, hlen⟩ (fun v X hq => ?_)
  obtain ⟨rfl, rfl⟩ := hq
  show tm_T Γ 8 _ _ _ _ _ (sh0 ++ ex ++ [.inl 10]) _ _ _
  rw [List.append_assoc]
  refine tm_w C fr0_ok to_Lw 5 rfl rfl rfl trivial ?_
  refine tm_scr C S to_Lw rfl i1 ?_
  refine tm_w C fr0_ok to_Lw 3 rfl rfl rfl trivial ?_
  refine tm_scr C S to_Lw rfl i2 ?_
  refine tm_cV C Ro to_Lw tl_Lw_63 rfl (ct_Mo_label h2) rfl rfl rfl rfl rfl rfl rfl hc hs ?_
  refine tm_w C fr0_ok to_Lw 1 rfl rfl rfl trivial ?_
  refine tm_cV C Ro to_Lw tl_Lw_40 rfl (ct_Mo_thrown h3) rfl rfl rfl rfl rfl rfl rfl hc hs ?_
  refine tm_w C fr0_ok to_Lw 0 rfl rfl rfl trivial ?_
  refine tm_b C to_Lw rfl rfl (fun _ => ?_) (fun h => absurd he h)
  refine tm_w C fr0_ok to_Lw 0 rfl rfl rfl trivial ?_
  refine tm_b C to_Lw rfl rfl (fun _ => ?_) (fun h => absurd (by decide) h)
  refine tm_w C fr0_ok to_Lw 0 rfl rfl rfl trivial ?_
  exact k
set_option maxRecDepth 100000 in
set_option maxHeartbeats 4000000 in
theorem la_order {Γ : tm_G} {cells slots L : Nat} {xs : Nat → Int32} {ex : List tm_Sh} {mI : tm_I} {mL : tm_L} {i : Int32} {a b c : Option Value} {r1 r2 : Int32 × tm_I × tm_L} {r3 : Int32 × tm_I × tm_L} (C : tm_C Γ "LabelScriptLaw" code 8) (Ro : tm_Ro Γ 14 542 601024 7293033) (Hx : tm_Hx Γ) (S : tm_Sx Γ L xs) (hc : cells + 1 ≤ 601024) (hs : slots + 6 ≤ 7293033) (hlen : (sh0 ++ ex).length + 1 ≤ 1000000) (i1 : vp_in (i + Int32.ofInt 1) L) (i2 : vp_in (i + Int32.ofInt 2) L) (h1 : f_La_order (xs (i + Int32.ofInt 1).toNatClampNeg) (xs (i + Int32.ofInt 2).toNatClampNeg) mI mL = some r1) (h2 : f_Mo_order (xs (i + Int32.ofInt 1).toNatClampNeg) (xs (i + Int32.ofInt 2).toNatClampNeg) r1.2.1 (tm_up r1.2.2 57 0 r1.1.toInt64) = some r2) (h3 : f_Mo_thrown r2.2.1 r2.2.2 = some r3) (he : r3.1 = 0) (hv : r3.2.2 57 0 = r2.1.toInt64)
    (k : tm_T Γ 8 cells slots 439 (lv_L i (some (.int 0)) (some (.int r2.1)) c) [] (sh0 ++ ex) r3.2.1 r3.2.2 rr) : tm_T Γ 8 cells slots 304 (lv_L i a b c) [] (sh0 ++ ex) mI mL rr := by
  refine tm_w C fr0_ok to_Lw 4 rfl rfl rfl trivial ?_
  refine tm_scr C S to_Lw rfl i1 ?_
  refine tm_w C fr0_ok to_Lw 3 rfl rfl rfl trivial ?_
  refine tm_scr C S to_Lw rfl i2 ?_
  refine tm_w C fr0_ok to_Lw 0 rfl rfl rfl trivial ?_
  refine tm_callSh C Ro Hx tl_ho (tm_get_d to_Lw rfl) (ch_order h1) rfl rfl (Nat.le_of_ble_eq_true rfl) ⟨by decide, by decide, by omega, by omega, by omega⟩ (fun v X hq => ?_)
  obtain ⟨rfl, rfl⟩ := hq
  refine tm_w C fr0_ok to_Lw 5 rfl rfl rfl trivial ?_
  refine tm_scr C S to_Lw rfl i1 ?_
  refine tm_w C fr0_ok to_Lw 3 rfl rfl rfl trivial ?_
  refine tm_scr C S to_Lw rfl i2 ?_
  refine tm_cV C Ro to_Lw tl_Lw_66 rfl (ct_Mo_order h2) rfl rfl rfl rfl rfl rfl rfl (by omega) (by omega) ?_
  refine tm_w C fr0_ok to_Lw 1 rfl rfl rfl trivial ?_
  refine tm_cV C Ro to_Lw tl_Lw_40 rfl (ct_Mo_thrown h3) rfl rfl rfl rfl rfl rfl rfl (by omega) (by omega) ?_
  refine tm_w C fr0_ok to_Lw 0 rfl rfl rfl trivial ?_
  refine tm_b C to_Lw rfl rfl (fun _ => ?_) (fun h => absurd he h)
  refine tm_w C fr0_ok to_Lw 0 rfl rfl rfl trivial ?_
  refine tm_b C to_Lw rfl rfl (fun h => absurd rfl h) (fun _ => ?_)
  refine tm_w C fr0_ok to_Lw 5 rfl rfl rfl ⟨⟨1, rfl, by unfold vp_in; decide⟩, trivial⟩ ?_
  refine tm_b C to_Lw rfl rfl (fun _ => ?_) (fun h => absurd (lw_cmp hv) h)
  refine tm_w C fr0_ok to_Lw 0 rfl rfl rfl trivial ?_
  exact k
set_option maxRecDepth 100000 in
set_option maxHeartbeats 4000000 in
theorem lz_orderA {Γ : tm_G} {cells slots L : Nat} {xs : Nat → Int32} {ex : List tm_Sh} {mI : tm_I} {mL : tm_L} {i : Int32} {a b c : Option Value} {r2 : Int32 × tm_I × tm_L} {r3 : Int32 × tm_I × tm_L} (C : tm_C Γ "LabelScriptLaw" code 8) (Ro : tm_Ro Γ 14 542 601024 7293033) (Hx : tm_Hx Γ) (S : tm_Sx Γ L xs) (hc : cells + 1 ≤ 601024) (hs : slots + 6 ≤ 7293033) (hlen : (sh0 ++ ex).length + 1 ≤ 1000000) (i1 : vp_in (i + Int32.ofInt 1) L) (i2 : vp_in (i + Int32.ofInt 2) L) (hn : xs (i + Int32.ofInt 2).toNatClampNeg < 0 ∨ 8 < xs (i + Int32.ofInt 2).toNatClampNeg) (h2 : f_Mo_order (xs (i + Int32.ofInt 1).toNatClampNeg) (xs (i + Int32.ofInt 2).toNatClampNeg) mI mL = some r2) (h3 : f_Mo_thrown r2.2.1 r2.2.2 = some r3) (he : r3.1 = 1)
    (k : tm_T Γ 8 (cells + 1) (slots + 6) 439 (lv_L i (some (.int 1)) (some (.int r2.1)) c) [] (sh0 ++ (ex ++ [.inl 10])) r3.2.1 r3.2.2 rr) : tm_T Γ 8 cells slots 304 (lv_L i a b c) [] (sh0 ++ ex) mI mL rr := by
  refine tm_w C fr0_ok to_Lw 4 rfl rfl rfl trivial ?_
  refine tm_scr C S to_Lw rfl i1 ?_
  refine tm_w C fr0_ok to_Lw 3 rfl rfl rfl trivial ?_
  refine tm_scr C S to_Lw rfl i2 ?_
  refine tm_w C fr0_ok to_Lw 0 rfl rfl rfl trivial ?_
  refine tm_callSh C Ro Hx tl_ho (tm_get_d to_Lw rfl) (cz_orderA hn) rfl rfl (Nat.le_of_ble_eq_true rfl) ⟨by decide, by decide, by omega, by omega, hlen⟩ (fun v X hq => ?_)
  obtain ⟨rfl, rfl⟩ := hq
  show tm_T Γ 8 _ _ _ _ _ (sh0 ++ ex ++ [.inl 10]) _ _ _
  rw [List.append_assoc]
  refine tm_w C fr0_ok to_Lw 5 rfl rfl rfl trivial ?_
  refine tm_scr C S to_Lw rfl i1 ?_
  refine tm_w C fr0_ok to_Lw 3 rfl rfl rfl trivial ?_
  refine tm_scr C S to_Lw rfl i2 ?_
  refine tm_cV C Ro to_Lw tl_Lw_66 rfl (ct_Mo_order h2) rfl rfl rfl rfl rfl rfl rfl hc hs ?_
  refine tm_w C fr0_ok to_Lw 1 rfl rfl rfl trivial ?_
  refine tm_cV C Ro to_Lw tl_Lw_40 rfl (ct_Mo_thrown h3) rfl rfl rfl rfl rfl rfl rfl hc hs ?_
  refine tm_w C fr0_ok to_Lw 0 rfl rfl rfl trivial ?_
  refine tm_b C to_Lw rfl rfl (fun _ => ?_) (fun h => absurd he h)
  refine tm_w C fr0_ok to_Lw 0 rfl rfl rfl trivial ?_
  refine tm_b C to_Lw rfl rfl (fun _ => ?_) (fun h => absurd (by decide) h)
  refine tm_w C fr0_ok to_Lw 0 rfl rfl rfl trivial ?_
  exact k
set_option maxRecDepth 100000 in
set_option maxHeartbeats 4000000 in
theorem lz_orderI {Γ : tm_G} {cells slots L : Nat} {xs : Nat → Int32} {ex : List tm_Sh} {mI : tm_I} {mL : tm_L} {i : Int32} {a b c : Option Value} {r2 : Int32 × tm_I × tm_L} {r3 : Int32 × tm_I × tm_L} (C : tm_C Γ "LabelScriptLaw" code 8) (Ro : tm_Ro Γ 14 542 601024 7293033) (Hx : tm_Hx Γ) (S : tm_Sx Γ L xs) (hc : cells + 1 ≤ 601024) (hs : slots + 6 ≤ 7293033) (hlen : (sh0 ++ ex).length + 1 ≤ 1000000) (i1 : vp_in (i + Int32.ofInt 1) L) (i2 : vp_in (i + Int32.ofInt 2) L) (hn : ¬ xs (i + Int32.ofInt 2).toNatClampNeg < 0 ∧ xs (i + Int32.ofInt 2).toNatClampNeg ≤ 8) (hk : xs (i + Int32.ofInt 1).toNatClampNeg < 0 ∨ mI 20 4 ≤ xs (i + Int32.ofInt 1).toNatClampNeg) (h2 : f_Mo_order (xs (i + Int32.ofInt 1).toNatClampNeg) (xs (i + Int32.ofInt 2).toNatClampNeg) mI mL = some r2) (h3 : f_Mo_thrown r2.2.1 r2.2.2 = some r3) (he : r3.1 = 2)
    (k : tm_T Γ 8 (cells + 1) (slots + 6) 439 (lv_L i (some (.int 2)) (some (.int r2.1)) c) [] (sh0 ++ (ex ++ [.inl 11])) r3.2.1 r3.2.2 rr) : tm_T Γ 8 cells slots 304 (lv_L i a b c) [] (sh0 ++ ex) mI mL rr := by
  refine tm_w C fr0_ok to_Lw 4 rfl rfl rfl trivial ?_
  refine tm_scr C S to_Lw rfl i1 ?_
  refine tm_w C fr0_ok to_Lw 3 rfl rfl rfl trivial ?_
  refine tm_scr C S to_Lw rfl i2 ?_
  refine tm_w C fr0_ok to_Lw 0 rfl rfl rfl trivial ?_
  refine tm_callSh C Ro Hx tl_ho (tm_get_d to_Lw rfl) (cz_orderI hn hk) rfl rfl (Nat.le_of_ble_eq_true rfl) ⟨by decide, by decide, by omega, by omega, hlen⟩ (fun v X hq => ?_)
  obtain ⟨rfl, rfl⟩ := hq
  show tm_T Γ 8 _ _ _ _ _ (sh0 ++ ex ++ [.inl 11]) _ _ _
  rw [List.append_assoc]
  refine tm_w C fr0_ok to_Lw 5 rfl rfl rfl trivial ?_
  refine tm_scr C S to_Lw rfl i1 ?_
  refine tm_w C fr0_ok to_Lw 3 rfl rfl rfl trivial ?_
  refine tm_scr C S to_Lw rfl i2 ?_
  refine tm_cV C Ro to_Lw tl_Lw_66 rfl (ct_Mo_order h2) rfl rfl rfl rfl rfl rfl rfl hc hs ?_
  refine tm_w C fr0_ok to_Lw 1 rfl rfl rfl trivial ?_
  refine tm_cV C Ro to_Lw tl_Lw_40 rfl (ct_Mo_thrown h3) rfl rfl rfl rfl rfl rfl rfl hc hs ?_
  refine tm_w C fr0_ok to_Lw 0 rfl rfl rfl trivial ?_
  refine tm_b C to_Lw rfl rfl (fun _ => ?_) (fun h => absurd he h)
  refine tm_w C fr0_ok to_Lw 0 rfl rfl rfl trivial ?_
  refine tm_b C to_Lw rfl rfl (fun _ => ?_) (fun h => absurd (by decide) h)
  refine tm_w C fr0_ok to_Lw 0 rfl rfl rfl trivial ?_
  exact k
set_option maxRecDepth 100000 in
set_option maxHeartbeats 4000000 in
theorem la_data {Γ : tm_G} {cells slots L : Nat} {xs : Nat → Int32} {ex : List tm_Sh} {mI : tm_I} {mL : tm_L} {i : Int32} {a b c : Option Value} {r1 r2 : Int64 × tm_I × tm_L} {r3 : Int32 × tm_I × tm_L} (C : tm_C Γ "LabelScriptLaw" code 8) (Ro : tm_Ro Γ 14 542 601024 7293033) (Hx : tm_Hx Γ) (S : tm_Sx Γ L xs) (hc : cells + 1 ≤ 601024) (hs : slots + 6 ≤ 7293033) (hlen : (sh0 ++ ex).length + 1 ≤ 1000000) (i1 : vp_in (i + Int32.ofInt 1) L) (i2 : vp_in (i + Int32.ofInt 2) L) (h1 : f_La_data (xs (i + Int32.ofInt 1).toNatClampNeg) (xs (i + Int32.ofInt 2).toNatClampNeg) mI mL = some r1) (h2 : f_Mo_data (xs (i + Int32.ofInt 1).toNatClampNeg) (xs (i + Int32.ofInt 2).toNatClampNeg) r1.2.1 (tm_up r1.2.2 57 0 r1.1) = some r2) (h3 : f_Mo_thrown r2.2.1 r2.2.2 = some r3) (he : r3.1 = 0) (hv : r3.2.2 57 0 = r2.1)
    (k : tm_T Γ 8 cells slots 439 (lv_L i (some (.int 0)) (some (.long r2.1)) none) [] (sh0 ++ ex) r3.2.1 r3.2.2 rr) : tm_T Γ 8 cells slots 372 (lv_L i a b c) [] (sh0 ++ ex) mI mL rr := by
  refine tm_w C fr0_ok to_Lw 4 rfl rfl rfl trivial ?_
  refine tm_scr C S to_Lw rfl i1 ?_
  refine tm_w C fr0_ok to_Lw 3 rfl rfl rfl trivial ?_
  refine tm_scr C S to_Lw rfl i2 ?_
  refine tm_w C fr0_ok to_Lw 0 rfl rfl rfl trivial ?_
  refine tm_callSh C Ro Hx tl_hd (tm_get_d to_Lw rfl) (ch_data h1) rfl rfl (Nat.le_of_ble_eq_true rfl) ⟨by decide, by decide, by omega, by omega, by omega⟩ (fun v X hq => ?_)
  obtain ⟨rfl, rfl⟩ := hq
  refine tm_w C fr0_ok to_Lw 5 rfl rfl rfl trivial ?_
  refine tm_scr C S to_Lw rfl i1 ?_
  refine tm_w C fr0_ok to_Lw 3 rfl rfl rfl trivial ?_
  refine tm_scr C S to_Lw rfl i2 ?_
  refine tm_cV C Ro to_Lw tl_Lw_69 rfl (ct_Mo_data h2) rfl rfl rfl rfl rfl rfl rfl (by omega) (by omega) ?_
  refine tm_w C fr0_ok to_Lw 1 rfl rfl rfl trivial ?_
  refine tm_cV C Ro to_Lw tl_Lw_40 rfl (ct_Mo_thrown h3) rfl rfl rfl rfl rfl rfl rfl (by omega) (by omega) ?_
  refine tm_w C fr0_ok to_Lw 0 rfl rfl rfl trivial ?_
  refine tm_b C to_Lw rfl rfl (fun _ => ?_) (fun h => absurd he h)
  refine tm_w C fr0_ok to_Lw 0 rfl rfl rfl trivial ?_
  refine tm_b C to_Lw rfl rfl (fun h => absurd rfl h) (fun _ => ?_)
  refine tm_w C fr0_ok to_Lw 4 rfl rfl rfl ⟨⟨1, rfl, by unfold vp_in; decide⟩, trivial⟩ ?_
  refine tm_b C to_Lw rfl rfl (fun _ => ?_) (fun h => absurd (lw_cmp hv) h)
  refine tm_w C fr0_ok to_Lw 0 rfl rfl rfl trivial ?_
  exact k
set_option maxRecDepth 100000 in
set_option maxHeartbeats 4000000 in
theorem lz_data {Γ : tm_G} {cells slots L : Nat} {xs : Nat → Int32} {ex : List tm_Sh} {mI : tm_I} {mL : tm_L} {i : Int32} {a b c : Option Value} {r2 : Int64 × tm_I × tm_L} {r3 : Int32 × tm_I × tm_L} (C : tm_C Γ "LabelScriptLaw" code 8) (Ro : tm_Ro Γ 14 542 601024 7293033) (Hx : tm_Hx Γ) (S : tm_Sx Γ L xs) (hc : cells + 1 ≤ 601024) (hs : slots + 6 ≤ 7293033) (hlen : (sh0 ++ ex).length + 1 ≤ 1000000) (i1 : vp_in (i + Int32.ofInt 1) L) (i2 : vp_in (i + Int32.ofInt 2) L) (hk : xs (i + Int32.ofInt 1).toNatClampNeg < 0 ∨ mI 20 4 ≤ xs (i + Int32.ofInt 1).toNatClampNeg) (h2 : f_Mo_data (xs (i + Int32.ofInt 1).toNatClampNeg) (xs (i + Int32.ofInt 2).toNatClampNeg) mI mL = some r2) (h3 : f_Mo_thrown r2.2.1 r2.2.2 = some r3) (he : r3.1 = 1)
    (k : tm_T Γ 8 (cells + 1) (slots + 6) 439 (lv_L i (some (.int 1)) (some (.long r2.1)) none) [] (sh0 ++ (ex ++ [.inl 11])) r3.2.1 r3.2.2 rr) : tm_T Γ 8 cells slots 372 (lv_L i a b c) [] (sh0 ++ ex) mI mL rr := by
  refine tm_w C fr0_ok to_Lw 4 rfl rfl rfl trivial ?_
  refine tm_scr C S to_Lw rfl i1 ?_
  refine tm_w C fr0_ok to_Lw 3 rfl rfl rfl trivial ?_
  refine tm_scr C S to_Lw rfl i2 ?_
  refine tm_w C fr0_ok to_Lw 0 rfl rfl rfl trivial ?_
  refine tm_callSh C Ro Hx tl_hd (tm_get_d to_Lw rfl) (cz_data hk) rfl rfl (Nat.le_of_ble_eq_true rfl) ⟨by decide, by decide, by omega, by omega, hlen⟩ (fun v X hq => ?_)
  obtain ⟨rfl, rfl⟩ := hq
  show tm_T Γ 8 _ _ _ _ _ (sh0 ++ ex ++ [.inl 11]) _ _ _
  rw [List.append_assoc]
  refine tm_w C fr0_ok to_Lw 5 rfl rfl rfl trivial ?_
  refine tm_scr C S to_Lw rfl i1 ?_
  refine tm_w C fr0_ok to_Lw 3 rfl rfl rfl trivial ?_
  refine tm_scr C S to_Lw rfl i2 ?_
  refine tm_cV C Ro to_Lw tl_Lw_69 rfl (ct_Mo_data h2) rfl rfl rfl rfl rfl rfl rfl hc hs ?_
  refine tm_w C fr0_ok to_Lw 1 rfl rfl rfl trivial ?_
  refine tm_cV C Ro to_Lw tl_Lw_40 rfl (ct_Mo_thrown h3) rfl rfl rfl rfl rfl rfl rfl hc hs ?_
  refine tm_w C fr0_ok to_Lw 0 rfl rfl rfl trivial ?_
  refine tm_b C to_Lw rfl rfl (fun _ => ?_) (fun h => absurd he h)
  refine tm_w C fr0_ok to_Lw 0 rfl rfl rfl trivial ?_
  refine tm_b C to_Lw rfl rfl (fun _ => ?_) (fun h => absurd (by decide) h)
  refine tm_w C fr0_ok to_Lw 0 rfl rfl rfl trivial ?_
  exact k
