/-! the memory once all is made; the invariant there -/
def st_I : tm_I := tm_row (mi_Mo_init_39 (tm_row (mi_La_init_0 (tm_row (fun _ _ => 0) 0 0)) 39 0)) 57 0
def st_L : tm_L := tm_row (ml_Mo_init_39 (tm_row (ml_La_init_0 (tm_row (fun _ _ => 0) 0 0)) 39 0)) 57 0
def st_R : tm_R := tm_row (mr_Mo_init_39 (tm_row (mr_La_init_0 (tm_row (fun _ _ => 0) 0 tm_nul)) 39 tm_nul)) 57 tm_nul
def st_ok (o : Nat) : Bool := match sh0[o]? with
  | some (.inl ci) => (List.range (tm_N tm_cl ci)).all fun j => !(tm_isR (tm_ct ci j)) || st_R o j == rr o j
  | some (.inr y) => y.1 == .int || y.1 == .long
  | none => true
set_option maxRecDepth 100000 in
theorem st_all : ((List.range 58).all fun o => st_ok o) = true := by decide +kernel
theorem st_fv {ty : FieldType} {mI : tm_I} {mL : tm_L} {mR mR' : tm_R} {o j : Nat} (h : tm_isR ty = true → mR o j = mR' o j) : tm_fv ty mI mL mR o j = tm_fv ty mI mL mR' o j := by
  cases ty <;> first | rfl | (simp only [tm_fv]; rw [h rfl])
theorem st_W {f : Nat → Nat} {cA : FieldType → ClassId} {mI : tm_I} {mL : tm_L} : tm_W f cA tm_cl tm_ct sh0 mI mL rr = tm_W f cA tm_cl tm_ct sh0 mI mL st_R := by
  refine tm_W_eq (fun o x hx => ?_)
  have ho : o < 58 := (List.getElem?_eq_some_iff.mp hx).1
  have hk : st_ok o = true := (List.all_eq_true.mp st_all) o (List.mem_range.mpr ho)
  unfold st_ok at hk
  rw [hx] at hk
  cases x with
  | inl ci =>
    simp only [tm_E]
    congr 2
    refine List.map_congr_left (fun j hj => ?_)
    have h1 := (List.all_eq_true.mp hk) j hj
    rw [st_fv (mR' := st_R) (fun hr => ?_)]
    rw [hr, Bool.not_true, Bool.false_or, beq_iff_eq] at h1
    exact h1.symm
  | inr y =>
    obtain ⟨ty, n⟩ := y
    simp only [Bool.or_eq_true, beq_iff_eq] at hk
    rcases hk with rfl | rfl <;> rfl
set_option maxRecDepth 100000 in
theorem st_c : st_I 2 0 = 4096 ∧ st_I 2 1 = 512 ∧ st_I 5 0 = 400 ∧ st_I 5 1 = 50 ∧ st_I 10 0 = 200 ∧ st_I 10 1 = 25 ∧ st_I 13 0 = 200 ∧ st_I 13 1 = 25 ∧ st_I 23 0 = 200 ∧ st_I 23 1 = 25 ∧ st_I 27 0 = 200 ∧ st_I 27 1 = 25 ∧ st_I 3 0 = 0 ∧ (∀ k, k < 8 → st_I 6 k = 0) ∧ (∀ k, k < 10 → st_I 11 k = 0) ∧ st_I 39 2 = 0 ∧ (∀ k, k < 8 → st_I 42 k = 0) ∧ (∀ k, k < 10 → st_I 44 k = 0) ∧ st_I 0 6 = st_I 39 13 ∧ st_I 0 7 = st_I 39 14 ∧ st_I 20 3 = 0 ∧ st_I 39 35 = 0 ∧ st_I 20 4 = 0 ∧ st_I 39 37 = 0 := by decide +kernel
theorem st_iv : pu_IvA st_I st_L := by
  obtain ⟨a1, a2, a3, a4, a5, a6, a7, a8, a9, a10, a11, a12, b1, b2, b3, c1, c2, c3, d1, d2, d3, d4, d5, d6⟩ := st_c
  refine ⟨fun _ => [], fun _ => [], [], [], [], ⟨a1, a2, a3, a4, a5, a6, a7, a8, a9, a10, a11, a12, pu_Row.empty b1, Nat.zero_le _, fun k hk => ⟨pu_Row.empty (b2 k hk), Nat.zero_le _⟩, fun k hk => ⟨pu_Row.empty (b3 k hk), Nat.zero_le _⟩⟩, ⟨c1, Nat.zero_le _, fun i hi => absurd hi (Nat.not_lt_zero i), fun k hk => ⟨c2 k hk, Nat.zero_le _⟩, fun k _ i hi => absurd hi (Nat.not_lt_zero i), fun k hk => ⟨c3 k hk, Nat.zero_le _⟩, fun k _ i hi => absurd hi (Nat.not_lt_zero i)⟩, fun b hb => absurd hb List.not_mem_nil, fun k => ⟨fun b hb => absurd hb List.not_mem_nil, Nat.zero_le _⟩, fun k => ⟨fun b hb => absurd hb List.not_mem_nil, Nat.zero_le _⟩, d1, d2, d3, d4, Nat.zero_le _, d5, d6, Nat.zero_le _, fun k hk => absurd hk (Nat.not_lt_zero k), fun k hk => absurd hk (Nat.not_lt_zero k), ⟨0, fun k hk => absurd hk (Nat.not_lt_zero k)⟩, fun k hk => absurd hk (Nat.not_lt_zero k), fun o ho => absurd ho List.not_mem_nil, fun o ho => absurd ho List.not_mem_nil, fun o ho => absurd ho List.not_mem_nil⟩
theorem st_step : lw_Step pu_IvA := fun _ _ h => ⟨pu_iv_wipe h, pu_iv_read h, pu_iv_fault h, pu_iv_place h, fun n x => pu_iv_write h n x, fun n w => pu_iv_label h n w, fun n w => pu_iv_order h n w, fun n w => pu_iv_data h n w⟩
