/-! Four and Rows -/
theorem i_lt {a b : Int32} : a < b ↔ a.toInt < b.toInt := Int32.lt_iff_toInt_lt
theorem i_le {a b : Int32} : a ≤ b ↔ a.toInt ≤ b.toInt := Int32.le_iff_toInt_le
theorem i_in {i : Int32} {n : Nat} (h0 : ¬ i < 0) (hn : n < 2 ^ 31) (h1 : ¬ Int32.ofNat n ≤ i) : vp_in i n := by
  rw [vp_in_iff]
  rw [i_lt, Int32.toInt_zero] at h0
  have h1 : ¬ nI n ≤ i := h1
  rw [i_le, nI_toInt hn] at h1
  omega
def isFo (o : Nat) : Prop := o = 17 ∨ o = 30 ∨ o = 32 ∨ o = 34
def fo_get (mI : tm_I) (o : Nat) (i : Int32) : Int32 := if i < 0 then 0 else if Int32.ofNat 4 ≤ i then 0 else mI (o + 1) i.toNatClampNeg
set_option maxRecDepth 100000 in
theorem ct_Fo_get {o : Nat} (ho : isFo o) (ex : List tm_Sh) (mI : tm_I) (mL : tm_L) (i : Int32) : tm_M ty_Fo_get 0 0 0 0 [.ref o, .int i] (sh0 ++ ex, mI, mL, rr) (tm_is (some (.int (fo_get mI o i))) (sh0 ++ ex, mI, mL, rr)) := by
  unfold fo_get
  rcases ho with rfl | rfl | rfl | rfl
  all_goals
    refine tm_body rfl (Nat.le_of_ble_eq_true rfl) fun Γ C G => ?_
    repeat' (first
      | refine tm_b C to_Fo_get rfl rfl (fun h => ?_) (fun h => ?_)
      | refine tm_ei C G to_Fo_get rfl rfl (Nat.le_refl _) rfl ?_
      | refine tm_w C tfo_Fo to_Fo_get 60 rfl rfl rfl ?_ ?_)
    all_goals (try (repeat' (first | exact trivial | exact rfl | refine And.intro ?_ ?_ | refine ⟨_, rfl, ?_⟩)))
    all_goals clear C G
    all_goals (try dsimp only at *)
    all_goals first
      | exact i_in (by assumption) (by decide) (by assumption)
      | (repeat' split
         all_goals first | rfl | contradiction)
def fo_set (mI : tm_I) (o : Nat) (i x : Int32) : tm_I := if i < 0 then mI else if Int32.ofNat 4 ≤ i then mI else tm_up mI (o + 1) i.toNatClampNeg x
set_option maxRecDepth 100000 in
theorem ct_Fo_set {o : Nat} (ho : isFo o) (ex : List tm_Sh) (mI : tm_I) (mL : tm_L) (i : Int32) (x : Int32) : tm_M ty_Fo_set 0 0 0 0 [.ref o, .int i, .int x] (sh0 ++ ex, mI, mL, rr) (tm_is none (sh0 ++ ex, fo_set mI o i x, mL, rr)) := by
  unfold fo_set
  rcases ho with rfl | rfl | rfl | rfl
  all_goals
    refine tm_body rfl (Nat.le_of_ble_eq_true rfl) fun Γ C G => ?_
    repeat' (first
      | refine tm_b C to_Fo_set rfl rfl (fun h => ?_) (fun h => ?_)
      | refine tm_ev C G to_Fo_set rfl rfl (Nat.le_refl _) ?_
      | refine tm_w C tfo_Fo to_Fo_set 60 rfl rfl rfl ?_ ?_)
    all_goals (try (repeat' (first | exact trivial | exact rfl | refine And.intro ?_ ?_ | refine ⟨_, rfl, ?_⟩)))
    all_goals clear C G
    all_goals (try dsimp only at *)
    all_goals first
      | exact i_in (by assumption) (by decide) (by assumption)
      | (repeat' split
         all_goals first | rfl | contradiction)
def fo_all (mI : tm_I) (o : Nat) (a b c d : Int32) : tm_I := tm_up (tm_up (tm_up (tm_up mI (o + 1) 0 a) (o + 1) 1 b) (o + 1) 2 c) (o + 1) 3 d
theorem fo_set_all (mI : tm_I) (o : Nat) (a b c d : Int32) : fo_set (fo_set (fo_set (fo_set mI o (Int32.ofInt 0) a) o (Int32.ofInt 1) b) o (Int32.ofInt 2) c) o (Int32.ofInt 3) d = fo_all mI o a b c d := rfl
set_option maxRecDepth 100000 in
theorem ct_Fo_setAll {o : Nat} (ho : isFo o) (ex : List tm_Sh) (mI : tm_I) (mL : tm_L) (a b c d : Int32) : tm_M ty_Fo_setAll 1 22 0 0 [.ref o, .int a, .int b, .int c, .int d] (sh0 ++ ex, mI, mL, rr) (tm_is none (sh0 ++ ex, fo_all mI o a b c d, mL, rr)) := by
  rw [← fo_set_all]
  have ho1 := ho
  rcases ho with rfl | rfl | rfl | rfl
  all_goals
    refine tm_body rfl (Nat.le_of_ble_eq_true rfl) fun Γ C G => ?_
    have Ro := G.ro
    repeat' (first
      | refine tm_ev C G to_Fo_setAll rfl rfl (Nat.le_refl _) ?_
      | refine tm_cV C Ro to_Fo_setAll tl_Fo_13 rfl (ct_Fo_set ho1 ex _ _ _ _) rfl rfl rfl rfl rfl rfl rfl (Nat.le_refl _) (Nat.le_refl _) ?_
      | refine tm_w C tfo_Fo to_Fo_setAll 60 rfl rfl rfl ?_ ?_)
    all_goals first
      | exact trivial
      | exact ⟨rfl, rfl⟩
theorem fo_get_0 (mI : tm_I) (o : Nat) : fo_get mI o (Int32.ofInt 0) = mI (o + 1) 0 := rfl
theorem fo_get_1 (mI : tm_I) (o : Nat) : fo_get mI o (Int32.ofInt 1) = mI (o + 1) 1 := rfl
theorem fo_get_2 (mI : tm_I) (o : Nat) : fo_get mI o (Int32.ofInt 2) = mI (o + 1) 2 := rfl
theorem fo_get_3 (mI : tm_I) (o : Nat) : fo_get mI o (Int32.ofInt 3) = mI (o + 1) 3 := rfl
