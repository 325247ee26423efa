/-! one turn of the law, over an invariant -/
def lw_Step (Inv : tm_I → tm_L → Prop) : Prop := ∀ (mI : tm_I) (mL : tm_L), Inv mI mL →
  (∃ r1 r2, f_La_wipe mI mL = some r1 ∧ f_Mo_wipe r1.2.1 r1.2.2 = some r2 ∧ r1.1 = r2.1 ∧ Inv r2.2.1 r2.2.2) ∧
  (∃ r1 r2, f_La_read mI mL = some r1 ∧ f_Mo_read r1.2.1 r1.2.2 = some r2 ∧ r1.1 = r2.1 ∧ Inv r2.2.1 r2.2.2) ∧
  (∃ r1 r2, f_La_fault mI mL = some r1 ∧ f_Mo_fault r1.2.1 r1.2.2 = some r2 ∧ r1.1 = r2.1 ∧ Inv r2.2.1 r2.2.2) ∧
  (∃ r1 r2, f_La_place mI mL = some r1 ∧ f_Mo_place r1.2.1 r1.2.2 = some r2 ∧ r1.1 = r2.1 ∧ Inv r2.2.1 r2.2.2) ∧
  (∀ (n : Int32) (x : Int64), ((n < 1 ∨ 8 < n) ∧ ∃ r2 r3, f_Mo_write n x mI mL = some r2 ∧ f_Mo_thrown r2.2.1 r2.2.2 = some r3 ∧ r3.1 = 1 ∧ Inv r3.2.1 r3.2.2) ∨ (∃ r1 r2 r3, f_La_write n x mI mL = some r1 ∧ f_Mo_write n x r1.2.1 (tm_up r1.2.2 57 0 r1.1.toInt64) = some r2 ∧ f_Mo_thrown r2.2.1 r2.2.2 = some r3 ∧ r3.1 = 0 ∧ r3.2.2 57 0 = r2.1.toInt64 ∧ Inv r3.2.1 r3.2.2)) ∧
  (∀ (n w : Int32), ((w < 0 ∨ 4 ≤ w) ∧ ∃ r2 r3, f_Mo_label n w mI mL = some r2 ∧ f_Mo_thrown r2.2.1 r2.2.2 = some r3 ∧ r3.1 = 1 ∧ Inv r3.2.1 r3.2.2) ∨ (∃ r1 r2 r3, f_La_label n w mI mL = some r1 ∧ f_Mo_label n w r1.2.1 (tm_up r1.2.2 57 0 r1.1.toInt64) = some r2 ∧ f_Mo_thrown r2.2.1 r2.2.2 = some r3 ∧ r3.1 = 0 ∧ r3.2.2 57 0 = r2.1.toInt64 ∧ Inv r3.2.1 r3.2.2)) ∧
  (∀ (n w : Int32), ((w < 0 ∨ 8 < w) ∧ ∃ r2 r3, f_Mo_order n w mI mL = some r2 ∧ f_Mo_thrown r2.2.1 r2.2.2 = some r3 ∧ r3.1 = 1 ∧ Inv r3.2.1 r3.2.2) ∨ ((¬ w < 0 ∧ w ≤ 8) ∧ (n < 0 ∨ mI 20 4 ≤ n) ∧ ∃ r2 r3, f_Mo_order n w mI mL = some r2 ∧ f_Mo_thrown r2.2.1 r2.2.2 = some r3 ∧ r3.1 = 2 ∧ Inv r3.2.1 r3.2.2) ∨ (∃ r1 r2 r3, f_La_order n w mI mL = some r1 ∧ f_Mo_order n w r1.2.1 (tm_up r1.2.2 57 0 r1.1.toInt64) = some r2 ∧ f_Mo_thrown r2.2.1 r2.2.2 = some r3 ∧ r3.1 = 0 ∧ r3.2.2 57 0 = r2.1.toInt64 ∧ Inv r3.2.1 r3.2.2)) ∧
  (∀ (n w : Int32), ((n < 0 ∨ mI 20 4 ≤ n) ∧ ∃ r2 r3, f_Mo_data n w mI mL = some r2 ∧ f_Mo_thrown r2.2.1 r2.2.2 = some r3 ∧ r3.1 = 1 ∧ Inv r3.2.1 r3.2.2) ∨ (∃ r1 r2 r3, f_La_data n w mI mL = some r1 ∧ f_Mo_data n w r1.2.1 (tm_up r1.2.2 57 0 r1.1) = some r2 ∧ f_Mo_thrown r2.2.1 r2.2.2 = some r3 ∧ r3.1 = 0 ∧ r3.2.2 57 0 = r2.1 ∧ Inv r3.2.1 r3.2.2))
set_option maxRecDepth 100000 in
set_option maxHeartbeats 4000000 in
theorem lw_turn {Inv : tm_I → tm_L → Prop} (hI : lw_Step Inv) {Γ : tm_G} {cells slots L : Nat} {xs : Nat → Int32} {ex : List tm_Sh} {mI : tm_I} {mL : tm_L} {i : Int32} {a b c : Option Value} (C : tm_C Γ "LabelScriptLaw" code 8) (Ro : tm_Ro Γ 14 542 601024 7293033) (Hx : tm_Hx Γ) (S : tm_Sx Γ L xs) (hc : cells + 1 ≤ 601024) (hs : slots + 6 ≤ 7293033) (hlen : (sh0 ++ ex).length + 1 ≤ 1000000) (i0 : vp_in i L) (i1 : vp_in (i + Int32.ofInt 1) L) (i2 : vp_in (i + Int32.ofInt 2) L) (i3 : vp_in (i + Int32.ofInt 3) L) (hv : Inv mI mL)
    (k : ∀ (cells' slots' : Nat) (ex' : List tm_Sh) (mI' : tm_I) (mL' : tm_L) (a' b' c' : Option Value), cells' ≤ cells + 1 → slots' ≤ slots + 6 → (sh0 ++ ex').length ≤ (sh0 ++ ex).length + 1 → Inv mI' mL' → tm_T Γ 8 cells' slots' 439 (lv_L i a' b' c') [] (sh0 ++ ex') mI' mL' rr) : tm_T Γ 8 cells slots 32 (lv_L i a b c) [] (sh0 ++ ex) mI mL rr := by
  obtain ⟨w1, w2, w3, w4, w5, w6, w7, w8⟩ := hI mI mL hv
  have hl2 : ∀ ci : Nat, (sh0 ++ (ex ++ [(Sum.inl ci : tm_Sh)])).length ≤ (sh0 ++ ex).length + 1 := fun ci => by simp [List.length_append]; omega
  refine tm_w C fr0_ok to_Lw 1 rfl rfl rfl trivial ?_
  refine tm_scr C S to_Lw rfl i0 ?_
  refine tm_w C fr0_ok to_Lw 1 rfl rfl rfl trivial ?_
  generalize (xs i.toNatClampNeg &&& (Int8.ofInt 7).toInt32) = w
  by_cases h0 : w = 0
  · refine tm_swI (tgt := 84) C (tm_get_d to_Lw rfl) 0 (45) h0 (by decide) (by decide) (by decide) (by decide) ?_
    rcases w5 (xs (i + Int32.ofInt 1).toNatClampNeg) (lw_long (xs (i + Int32.ofInt 2).toNatClampNeg) (xs (i + Int32.ofInt 3).toNatClampNeg)) with ⟨hn, r2, r3, q2, q3, q4, q5⟩ | ⟨r1, r2, r3, q1, q2, q3, q4, q5, q6⟩
    · exact lz_write C Ro Hx S hc hs hlen i1 i2 i3 hn q2 q3 q4 (k _ _ _ _ _ _ _ _ (Nat.le_refl _) (Nat.le_refl _) (hl2 _) q5)
    · exact la_write C Ro Hx S hc hs hlen i1 i2 i3 q1 q2 q3 q4 q5 (k _ _ _ _ _ _ _ _ (by omega) (by omega) (by omega) q6)
  by_cases h1 : w = 1
  · refine tm_swI (tgt := 184) C (tm_get_d to_Lw rfl) 1 (145) h1 (by decide) (by decide) (by decide) (by decide) ?_
    obtain ⟨r1, r2, q1, q2, q3, q4⟩ := w1
    exact la_wipe C Ro (by omega) (by omega) q1 q2 q3 (k _ _ _ _ _ _ _ _ (by omega) (by omega) (by omega) q4)
  by_cases h2 : w = 2
  · refine tm_swI (tgt := 197) C (tm_get_d to_Lw rfl) 2 (158) h2 (by decide) (by decide) (by decide) (by decide) ?_
    obtain ⟨r1, r2, q1, q2, q3, q4⟩ := w2
    exact la_read C Ro (by omega) (by omega) q1 q2 q3 (k _ _ _ _ _ _ _ _ (by omega) (by omega) (by omega) q4)
  by_cases h3 : w = 3
  · refine tm_swI (tgt := 210) C (tm_get_d to_Lw rfl) 3 (171) h3 (by decide) (by decide) (by decide) (by decide) ?_
    obtain ⟨r1, r2, q1, q2, q3, q4⟩ := w3
    exact la_fault C Ro (by omega) (by omega) q1 q2 q3 (k _ _ _ _ _ _ _ _ (by omega) (by omega) (by omega) q4)
  by_cases h4 : w = 4
  · refine tm_swI (tgt := 223) C (tm_get_d to_Lw rfl) 4 (184) h4 (by decide) (by decide) (by decide) (by decide) ?_
    obtain ⟨r1, r2, q1, q2, q3, q4⟩ := w4
    exact la_place C Ro (by omega) (by omega) q1 q2 q3 (k _ _ _ _ _ _ _ _ (by omega) (by omega) (by omega) q4)
  by_cases h5 : w = 5
  · refine tm_swI (tgt := 236) C (tm_get_d to_Lw rfl) 5 (197) h5 (by decide) (by decide) (by decide) (by decide) ?_
    rcases w6 (xs (i + Int32.ofInt 1).toNatClampNeg) (xs (i + Int32.ofInt 2).toNatClampNeg) with ⟨hn, r2, r3, q2, q3, q4, q5⟩ | ⟨r1, r2, r3, q1, q2, q3, q4, q5, q6⟩
    · exact lz_label C Ro Hx S hc hs hlen i1 i2 hn q2 q3 q4 (k _ _ _ _ _ _ _ _ (Nat.le_refl _) (Nat.le_refl _) (hl2 _) q5)
    · exact la_label C Ro Hx S hc hs hlen i1 i2 q1 q2 q3 q4 q5 (k _ _ _ _ _ _ _ _ (by omega) (by omega) (by omega) q6)
  by_cases h6 : w = 6
  · refine tm_swI (tgt := 304) C (tm_get_d to_Lw rfl) 6 (265) h6 (by decide) (by decide) (by decide) (by decide) ?_
    rcases w7 (xs (i + Int32.ofInt 1).toNatClampNeg) (xs (i + Int32.ofInt 2).toNatClampNeg) with ⟨hn, r2, r3, q2, q3, q4, q5⟩ | ⟨hn, hk, r2, r3, q2, q3, q4, q5⟩ | ⟨r1, r2, r3, q1, q2, q3, q4, q5, q6⟩
    · exact lz_orderA C Ro Hx S hc hs hlen i1 i2 hn q2 q3 q4 (k _ _ _ _ _ _ _ _ (Nat.le_refl _) (Nat.le_refl _) (hl2 _) q5)
    · exact lz_orderI C Ro Hx S hc hs hlen i1 i2 hn hk q2 q3 q4 (k _ _ _ _ _ _ _ _ (Nat.le_refl _) (Nat.le_refl _) (hl2 _) q5)
    · exact la_order C Ro Hx S hc hs hlen i1 i2 q1 q2 q3 q4 q5 (k _ _ _ _ _ _ _ _ (by omega) (by omega) (by omega) q6)
  by_cases h7 : w = 7
  · refine tm_swI (tgt := 372) C (tm_get_d to_Lw rfl) 7 (333) h7 (by decide) (by decide) (by decide) (by decide) ?_
    rcases w8 (xs (i + Int32.ofInt 1).toNatClampNeg) (xs (i + Int32.ofInt 2).toNatClampNeg) with ⟨hn, r2, r3, q2, q3, q4, q5⟩ | ⟨r1, r2, r3, q1, q2, q3, q4, q5, q6⟩
    · exact lz_data C Ro Hx S hc hs hlen i1 i2 hn q2 q3 q4 (k _ _ _ _ _ _ _ _ (Nat.le_refl _) (Nat.le_refl _) (hl2 _) q5)
    · exact la_data C Ro Hx S hc hs hlen i1 i2 q1 q2 q3 q4 q5 (k _ _ _ _ _ _ _ _ (by omega) (by omega) (by omega) q6)
  refine tm_swD (tgt := 439) C (tm_get_d to_Lw rfl) [0, 1, 2, 3, 4, 5, 6, 7] (by decide) (by decide) (by simp only [List.forall_mem_cons]; exact ⟨h0, h1, h2, h3, h4, h5, h6, h7, fun _ h => by cases h⟩) (by decide) ?_
  exact k _ _ _ _ _ _ _ _ (by omega) (by omega) (by omega) hv
