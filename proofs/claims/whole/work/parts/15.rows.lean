/-! Four and Rows -/
theorem i_lt {a b : Int32} : a < b ↔ a.toInt < b.toInt := Int32.lt_iff_toInt_lt
theorem i_le {a b : Int32} : a ≤ b ↔ a.toInt ≤ b.toInt := Int32.le_iff_toInt_le
theorem i_in {i : Int32} {n : Nat} (h0 : ¬ i < 0) (hn : n < 2 ^ 31) (h1 : ¬ nI n ≤ i) : vp_in i n := by
  rw [vp_in_iff]
  rw [i_lt, Int32.toInt_zero] at h0
  rw [i_le, nI_toInt hn] at h1
  omega
def isFo (o : Nat) : Prop := o = 17 ∨ o = 30 ∨ o = 32 ∨ o = 34
set_option maxRecDepth 100000 in
theorem ct_Fo_get {o : Nat} (ho : isFo o) (ex : List tm_Sh) (mI : tm_I) (mL : tm_L) (i : Int32) : tm_M ty_Fo_get 0 0 0 0 [.ref o, .int i] (sh0 ++ ex, mI, mL, rr) (fun v X => v = some (.int (if i < 0 then 0 else if 4 ≤ i then 0 else mI (o + 1) i.toNatClampNeg)) ∧ X = (sh0 ++ ex, mI, mL, rr)) := by
  rcases ho with rfl | rfl | rfl | rfl
  all_goals
    refine tm_body rfl (Nat.le_of_ble_eq_true rfl) fun Γ C G => ?_
    repeat' (first
      | refine tm_b C to_Fo_get rfl rfl (fun h => ?_) (fun h => ?_)
      | refine tm_ei C G to_Fo_get rfl rfl (Nat.le_refl _) rfl ?_
      | refine tm_w C tfo_Fo to_Fo_get 60 rfl rfl rfl ?_ ?_)
    all_goals (try (repeat' (first | exact trivial | exact rfl | refine And.intro ?_ ?_ | refine ⟨_, rfl, ?_⟩)))
    all_goals trace_state
    all_goals sorry
