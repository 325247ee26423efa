/-! calls of methods that make nothing, and whose answer and memory are told outright -/
def tm_is (v0 : Option Value) (X0 : tm_X) : Option Value → tm_X → Prop := fun v X => v = v0 ∧ X = X0
section TMC
variable {Γ : tm_G} {own : String} {cc : ByteArray} {nL cells slots rf rl rc rs : Nat} {pc pc0 idx n : Nat} {lv : List (Option Value)} {st stk As : List Value} {sh : List tm_Sh} {mI : tm_I} {mL : tm_L} {mR : tm_R} {y : tm_Y} {fm lo : Nat} {v0 : Option Value} {X0 : tm_X} {host : String} {o ci : Nat} {tb : List (Nat × Instr × Nat)}
theorem tm_len0 (k : sh.length ≤ 1000000 → tm_T Γ nL cells slots pc lv st sh mI mL mR) : tm_T Γ nL cells slots pc lv st sh mI mL mR := by
  obtain ⟨p, l, e, R, s, m, args, below, meth, c, D, f, cA, b, QQ⟩ := Γ
  intro hsh
  exact k hsh hsh
theorem tm_cV (C : tm_C Γ own cc nL) (Ro : tm_Ro Γ rf rl rc rs) (hB : ∀ q ∈ tb, decode cc q.1 = .ok q.2) (L : tm_LV own idx y n) (hd : tm_get tb pc = some (pc0, .invokevirtual idx, 3)) (M : tm_M y fm lo 0 0 (.ref o :: As) (sh, mI, mL, mR) (tm_is v0 X0)) (ho : sh[o]? = some (.inl ci)) (hci : (tm_cl[ci]?).map (fun q => q.1) = some y.1.cls) (hstk : stk = As.reverse ++ .ref o :: st) (hn : As.length = n) (hw : Nat.ble ((st.map fun v => v.category).sum) 8 = true) (h1 : Nat.ble (fm + 1) rf = true) (h2 : Nat.ble (8 + (y.2.2.1 + 11) + lo) rl = true) (h3 : cells ≤ rc) (h4 : slots ≤ rs)
    (k : tm_T Γ nL cells slots (pc + 3) lv (v0.toList ++ st) X0.1 X0.2.1 X0.2.2.1 X0.2.2.2) : tm_T Γ nL cells slots pc lv stk sh mI mL mR := by
  refine tm_len0 fun hsh => ?_
  refine tm_callV C Ro L (tm_get_d hB hd) M ho hci hstk hn (Nat.le_of_ble_eq_true hw) ⟨Nat.le_of_ble_eq_true h1, Nat.le_of_ble_eq_true h2, h3, h4, hsh⟩ (fun v X hq => ?_)
  obtain ⟨rfl, rfl⟩ := hq
  exact k
theorem tm_cS (C : tm_C Γ own cc nL) (Ro : tm_Ro Γ rf rl rc rs) (hB : ∀ q ∈ tb, decode cc q.1 = .ok q.2) (L : tm_LS own idx y n) (hd : tm_get tb pc = some (pc0, .invokestatic idx, 3)) (M : tm_M y fm lo 0 0 As (sh, mI, mL, mR) (tm_is v0 X0)) (hstk : stk = As.reverse ++ st) (hn : As.length = n) (hw : Nat.ble ((st.map fun v => v.category).sum) 8 = true) (h1 : Nat.ble (fm + 1) rf = true) (h2 : Nat.ble (8 + (y.2.2.1 + 11) + lo) rl = true) (h3 : cells ≤ rc) (h4 : slots ≤ rs)
    (k : tm_T Γ nL cells slots (pc + 3) lv (v0.toList ++ st) X0.1 X0.2.1 X0.2.2.1 X0.2.2.2) : tm_T Γ nL cells slots pc lv stk sh mI mL mR := by
  refine tm_len0 fun hsh => ?_
  refine tm_callS C Ro L (tm_get_d hB hd) M hstk hn (Nat.le_of_ble_eq_true hw) ⟨Nat.le_of_ble_eq_true h1, Nat.le_of_ble_eq_true h2, h3, h4, hsh⟩ (fun v X hq => ?_)
  obtain ⟨rfl, rfl⟩ := hq
  exact k
theorem tm_cN (C : tm_C Γ own cc nL) (Ro : tm_Ro Γ rf rl rc rs) (hB : ∀ q ∈ tb, decode cc q.1 = .ok q.2) (L : tm_LSN own idx y n host) (hd : tm_get tb pc = some (pc0, .invokestatic idx, 3)) (M : tm_M y fm lo 0 0 As (sh, mI, mL, mR) (tm_is v0 X0)) (hstk : stk = As.reverse ++ st) (hn : As.length = n) (hw : Nat.ble ((st.map fun v => v.category).sum) 8 = true) (h1 : Nat.ble (fm + 1) rf = true) (h2 : Nat.ble (8 + (y.2.2.1 + 11) + lo) rl = true) (h3 : cells ≤ rc) (h4 : slots ≤ rs)
    (k : tm_T Γ nL cells slots (pc + 3) lv (v0.toList ++ st) X0.1 X0.2.1 X0.2.2.1 X0.2.2.2) : tm_T Γ nL cells slots pc lv stk sh mI mL mR := by
  refine tm_len0 fun hsh => ?_
  refine tm_callSN C Ro L (tm_get_d hB hd) M hstk hn (Nat.le_of_ble_eq_true hw) ⟨Nat.le_of_ble_eq_true h1, Nat.le_of_ble_eq_true h2, h3, h4, hsh⟩ (fun v X hq => ?_)
  obtain ⟨rfl, rfl⟩ := hq
  exact k
/-- a state by another name -/
theorem tm_as {lv' : List (Option Value)} {st' : List Value} {mI' : tm_I} {mL' : tm_L} {pc' : Nat} (h1 : pc = pc') (h2 : lv = lv') (h3 : st = st') (h4 : mI = mI') (h5 : mL = mL') (k : tm_T Γ nL cells slots pc' lv' st' sh mI' mL' mR) : tm_T Γ nL cells slots pc lv st sh mI mL mR := by
  subst h1; subst h2; subst h3; subst h4; subst h5; exact k
end TMC
