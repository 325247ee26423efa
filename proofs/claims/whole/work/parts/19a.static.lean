/-! tables of ranges by number, texts by number -/
def tm_sv (j : Nat) : List Int32 := (tm_sa.getD j ("", [])).2
theorem tm_sa_at {j : Nat} (h : j < 15) : tm_sa[j]? = some (tm_sa.getD j ("", [])) := by
  have h1 : j < tm_sa.length := h
  rw [List.getD_eq_getElem?_getD, List.getElem?_eq_getElem h1]; rfl
section TST
variable {Γ : tm_G} {own : String} {cc : ByteArray} {nL cells slots rf rl rc rs : Nat} {pc pc0 tgt len idx n : Nat} {lv : List (Option Value)} {st stk As : List Value} {sh : List tm_Sh} {mI : tm_I} {mL : tm_L} {mR : tm_R} {tb : List (Nat × Instr × Nat)} {y : tm_Y} {fm lo : Nat} {v0 : Option Value} {X0 : tm_X}
theorem tm_tabJ (C : tm_C Γ own cc nL) (hB : ∀ q ∈ tb, decode cc q.1 = .ok q.2) (hd : tm_get tb pc = some (pc0, .iaload, 1)) {j : Nat} (hj : j < 15) {i : Int32} (hin : ¬ (i < 0 ∨ (tm_sv j).length ≤ i.toNatClampNeg)) (k : tm_T Γ nL cells slots (pc + 1) lv (.int ((tm_sv j).getD i.toNatClampNeg 0) :: st) sh mI mL mR) : tm_T Γ nL cells slots pc lv (.int i :: .ref (1000001 + j) :: st) sh mI mL mR :=
  tm_tab C j (tm_sa_at hj) hin (tm_get_d hB hd) k
theorem tm_tabLJ (C : tm_C Γ own cc nL) (hB : ∀ q ∈ tb, decode cc q.1 = .ok q.2) (hd : tm_get tb pc = some (pc0, .arraylength, 1)) {j : Nat} (hj : j < 15) (k : tm_T Γ nL cells slots (pc + 1) lv (.int (Int32.ofNat (tm_sv j).length) :: st) sh mI mL mR) : tm_T Γ nL cells slots pc lv (.ref (1000001 + j) :: st) sh mI mL mR :=
  tm_tabL C j (tm_sa_at hj) (tm_get_d hB hd) k
theorem tm_ea {X : tm_X} {Q : Option Value → tm_X → Prop} {mc ms : Nat} {av : List Value} (C : tm_C Γ y.1.cls y.2.1 y.2.2.1) (G : tm_Γ y fm lo mc ms av X Q Γ) (hB : ∀ q ∈ tb, decode y.2.1 q.1 = .ok q.2) {x : Nat} {ty : FieldType} (hd : tm_get tb pc = some (pc0, .areturn, 1)) (hr : y.2.2.2 = some (.array ty)) (hs : slots ≤ ms) (hq : Q (some (.ref x)) (sh, mI, mL, mR)) : tm_T Γ y.2.2.1 mc slots pc lv [.ref x] sh mI mL mR := tm_reta C G hr (Or.inr ⟨_, rfl⟩) hs hq (tm_get_d hB hd)
theorem tm_ge {k : Nat} (h : k < 1001000) : k ≠ tm_nul := by
  have h2 : tm_nul = 1000000000 := rfl
  omega
/-- a text out of the pool -/
theorem tm_ldcT (C : tm_C Γ own cc nL) (hB : ∀ q ∈ tb, decode cc q.1 = .ok q.2) (hd : tm_get tb pc = some (pc0, .ldc idx, 2)) (i : Nat) {tx : String} {bs : List Int32} (hi : tm_ss[i]? = some (own, idx, tx, bs)) (k : tm_T Γ nL cells slots (pc + 2) lv (.ref (1000101 + i) :: st) sh mI mL mR) : tm_T Γ nL cells slots pc lv st sh mI mL mR := by
  obtain ⟨p, l, e, R, s, m, args, below, meth, c, D, f, cA, b, QQ⟩ := Γ
  obtain ⟨hx, hb, hml, hown, hts, hK, hf, hbs, hlk, hSt⟩ := C
  intro hsh hsz H locs ls hP hS hl
  have hjl : i < 7 := (List.getElem?_eq_some_iff.mp hi).1
  have k := k hsh hsz H locs ls hP hS hl
  rw [tm_map_v, tm_v_ref (tm_ge (by omega))] at k
  exact va_ldcS hx hb hown (hSt.2.2.1 i _ hi) (tm_get_d hB hd) k
theorem tm_txV (C : tm_C Γ own cc nL) (hB : ∀ q ∈ tb, decode cc q.1 = .ok q.2) (hd : tm_get tb pc = some (pc0, .getfield idx, 3)) {i : Nat} (hi : i < 7) (hlink : Cond.fieldLink own idx "java/lang/String" "value" "[B" ∈ tm_tb) (k : tm_T Γ nL cells slots (pc + 3) lv (.ref (1000201 + i) :: st) sh mI mL mR) : tm_T Γ nL cells slots pc lv (.ref (1000101 + i) :: st) sh mI mL mR := by
  obtain ⟨p, l, e, R, s, m, args, below, meth, c, D, f, cA, b, QQ⟩ := Γ
  obtain ⟨hx, hb, hml, hown, hts, hK, hf, hbs, hlk, hSt⟩ := C
  intro hsh hsz H locs ls hP hS hl
  have k := k hsh hsz H locs ls hP hS hl
  rw [tm_map_v, tm_v_ref (tm_ge (by omega))] at k
  rw [tm_map_v, tm_v_ref (tm_ge (by omega))]
  exact vk_getf hx hb (hSt.2.1.1 i hi).2.2.1 hS hown (hts _ hlink) (fun _ h => h) (tm_get_d hB hd) k
theorem tm_txC (C : tm_C Γ own cc nL) (hB : ∀ q ∈ tb, decode cc q.1 = .ok q.2) (hd : tm_get tb pc = some (pc0, .getfield idx, 3)) {i : Nat} (hi : i < 7) (hlink : Cond.fieldLink own idx "java/lang/String" "coder" "B" ∈ tm_tb) (k : tm_T Γ nL cells slots (pc + 3) lv (.int 0 :: st) sh mI mL mR) : tm_T Γ nL cells slots pc lv (.ref (1000101 + i) :: st) sh mI mL mR := by
  obtain ⟨p, l, e, R, s, m, args, below, meth, c, D, f, cA, b, QQ⟩ := Γ
  obtain ⟨hx, hb, hml, hown, hts, hK, hf, hbs, hlk, hSt⟩ := C
  intro hsh hsz H locs ls hP hS hl
  have k := k hsh hsz H locs ls hP hS hl
  rw [tm_map_v, tm_v_ref (tm_ge (by omega))]
  exact vk_getf hx hb (hSt.2.1.1 i hi).2.1 hS hown (hts _ hlink) (fun _ h => h) (tm_get_d hB hd) k
def tm_tx (i : Nat) : List Int32 := tm_sbyt.getD i []
def tm_tl (i : Nat) : Nat := tm_slen.getD i 0
theorem tm_txB (C : tm_C Γ own cc nL) (hB : ∀ q ∈ tb, decode cc q.1 = .ok q.2) (hd : tm_get tb pc = some (pc0, .baload, 1)) {j : Nat} (hj : j < 7) {i : Int32} (hin : ¬ (i < 0 ∨ tm_tl j ≤ i.toNatClampNeg)) (k : tm_T Γ nL cells slots (pc + 1) lv (.int ((tm_tx j).getD i.toNatClampNeg 0) :: st) sh mI mL mR) : tm_T Γ nL cells slots pc lv (.int i :: .ref (1000201 + j) :: st) sh mI mL mR := by
  obtain ⟨p, l, e, R, s, m, args, below, meth, c, D, f, cA, b, QQ⟩ := Γ
  obtain ⟨hx, hb, hml, hown, hts, hK, hf, hbs, hlk, hSt⟩ := C
  intro hsh hsz H locs ls hP hS hl
  have k := k hsh hsz H locs ls hP hS hl
  rw [tm_map_v, tm_map_v, tm_v_ref (tm_ge (by omega))]
  exact va_tb hx hb (hSt.2.1.1 j hj).2.2.2 hS hin rfl (tm_get_d hB hd) k
theorem tm_txL (C : tm_C Γ own cc nL) (hB : ∀ q ∈ tb, decode cc q.1 = .ok q.2) (hd : tm_get tb pc = some (pc0, .arraylength, 1)) {j : Nat} (hj : j < 7) (k : tm_T Γ nL cells slots (pc + 1) lv (.int (Int32.ofNat (tm_tl j)) :: st) sh mI mL mR) : tm_T Γ nL cells slots pc lv (.ref (1000201 + j) :: st) sh mI mL mR := by
  obtain ⟨p, l, e, R, s, m, args, below, meth, c, D, f, cA, b, QQ⟩ := Γ
  obtain ⟨hx, hb, hml, hown, hts, hK, hf, hbs, hlk, hSt⟩ := C
  intro hsh hsz H locs ls hP hS hl
  have k := k hsh hsz H locs ls hP hS hl
  rw [tm_map_v, tm_v_ref (tm_ge (by omega))]
  exact va_tlen hx hb (hSt.2.1.1 j hj).2.2.2 hS rfl (tm_get_d hB hd) k
theorem tm_cmp (C : tm_C Γ own cc nL) (hB : ∀ q ∈ tb, decode cc q.1 = .ok q.2) (hd : tm_get tb pc = some (pc0, .getstatic idx, 3)) (hlink : Cond.fieldLink own idx "java/lang/String" "COMPACT_STRINGS" "Z" ∈ tm_tb) (k : tm_T Γ nL cells slots (pc + 3) lv (.int 1 :: st) sh mI mL mR) : tm_T Γ nL cells slots pc lv st sh mI mL mR := by
  obtain ⟨p, l, e, R, s, m, args, below, meth, c, D, f, cA, b, QQ⟩ := Γ
  obtain ⟨hx, hb, hml, hown, hts, hK, hf, hbs, hlk, hSt⟩ := C
  intro hsh hsz H locs ls hP hS hl
  exact va_gets hx hb hSt.2.2.2.1.1 hS hown (hts _ hlink) (fun _ h => h) (tm_get_d hB hd) (k hsh hsz H locs ls hP hS hl)
theorem tm_getsJ (C : tm_C Γ own cc nL) (hB : ∀ q ∈ tb, decode cc q.1 = .ok q.2) (hd : tm_get tb pc = some (pc0, .getstatic idx, 3)) (j : Nat) {q : String × List Int32} (hj : tm_sa[j]? = some q) (hc : Jvm.Cond.fieldLink own idx "LabelScript$Numbers" q.1 "[I" ∈ tm_tb) (k : tm_T Γ nL cells slots (pc + 3) lv (.ref (1000001 + j) :: st) sh mI mL mR) : tm_T Γ nL cells slots pc lv st sh mI mL mR :=
  tm_gets C j hj hc (tm_get_d hB hd) k
/-- a call on a text -/
theorem tm_cT (C : tm_C Γ own cc nL) (Ro : tm_Ro Γ rf rl rc rs) (hB : ∀ q ∈ tb, decode cc q.1 = .ok q.2) (L : tm_LV own idx y n) (hd : tm_get tb pc = some (pc0, .invokevirtual idx, 3)) {i : Nat} (hi : i < 7) (M : tm_M y fm lo 0 0 (.ref (1000101 + i) :: As) (sh, mI, mL, mR) (tm_is v0 X0)) (hcls : y.1.cls = "java/lang/String") (hstk : stk = As.reverse ++ .ref (1000101 + i) :: st) (hn : As.length = n) (hw : Nat.ble ((st.map fun v => v.category).sum) 8 = true) (h1 : Nat.ble (fm + 1) rf = true) (h2 : Nat.ble (8 + (y.2.2.1 + 11) + lo) rl = true) (h3 : cells ≤ rc) (h4 : slots ≤ rs)
    (k : tm_T Γ nL cells slots (pc + 3) lv (v0.toList ++ st) X0.1 X0.2.1 X0.2.2.1 X0.2.2.2) : tm_T Γ nL cells slots pc lv stk sh mI mL mR := by
  obtain ⟨p, l, e, R, s, m, args, below, meth, c, D, f, cA, b, QQ⟩ := Γ
  obtain ⟨hx, hb, hml, hown, hts, hK, hf, hbs, hlk, hSt⟩ := C
  obtain ⟨r1, r2, r3, r4⟩ := Ro
  obtain ⟨⟨l1, l2, l3, l4, l5⟩, l6, l7, l8⟩ := L
  intro hsh hsz H locs ls hP hS hl
  subst hstk
  refine tm_hle fun hle => ?_
  have hsz1 : H.size = b + sh.length := by have := tm_hsz hP hS hf hbs hsh; omega
  have hv : tm_v f (.ref (1000101 + i)) = .ref (f (1000101 + i)) := tm_v_ref (tm_ge (by omega))
  have M1 := M hsh l D f cA b
  rw [List.map_cons, hv] at M1
  have hrv := vk_recv hSt.2.1 hi hS
  rw [← hcls] at hrv
  have k1 : ∀ (v : Option Value) (X : tm_X), tm_is v0 X0 v X → tm_T (p, l, e, R, s, m, args, below, meth, c, D, f, cA, b, QQ) nL (cells + 0) (slots + 0) (pc + 3) lv (v.toList ++ st) X.1 X.2.1 X.2.2.1 X.2.2.2 := by
    intro v X hq
    obtain ⟨rfl, rfl⟩ := hq
    exact k
  refine tm_after (va_runV (As := As.map (tm_v f)) (n := n) (C := y.1.cls) (b := f (1000101 + i)) ⟨hx, hb, hml, hown, hts⟩ M1 (cwV n hts (tm_good fun w hw => ?_) rfl rfl rfl ⟨rfl, l3, l4, l5⟩ ⟨by rw [r1]; exact Nat.le_of_ble_eq_true h1, by rw [r2]; exact Nat.le_of_ble_eq_true h2⟩) ⟨tm_blind, hrv, fun U hU hW => ?_⟩ rfl (by rw [List.length_map]; exact hn) hl.1 (by show List.map (tm_v f) (As.reverse ++ .ref (1000101 + i) :: st) = _; rw [List.map_append, List.map_reverse, List.map_cons, hv]) (lv_room (by rw [tm_cats]; exact Nat.le_of_ble_eq_true hw)) (tm_get_d hB hd) ⟨by rw [r3]; exact h3, by rw [r4]; exact h4⟩) hS hl hsz hsh k1
  · rcases List.mem_append.mp hw with h | h
    · rcases List.mem_cons.mp h with rfl | h
      · exact l6
      · rcases List.mem_cons.mp h with rfl | h
        · exact l7
        · rcases List.mem_cons.mp h with rfl | h
          · exact l8
          · rcases List.mem_cons.mp h with rfl | h
            · exact l2
            · cases h
    · rcases List.mem_cons.mp h with rfl | h
      · exact l1
      · exact h
  · have h9 := tm_pre (av := .ref (1000101 + i) :: As) hsh hsz1 hP hS hK hf hSt hU hW
    rw [List.map_cons, hv] at h9
    exact h9
end TST
theorem tm_nb {x : Int32} (h : x = 0 ∨ x = 1) : narrow .byte (.int x) = .int x := by
  rcases h with rfl | rfl <;> rfl
