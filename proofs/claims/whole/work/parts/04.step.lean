/-! the values that a frame's table holds -/
def tm_set (lv : List (Option Value)) (i : Nat) (v : Value) : List (Option Value) :=
  let a := if v.category = 2 then (lv.set i (some v)).set (i + 1) none else lv.set i (some v)
  match i with
  | 0 => a
  | j + 1 => match lv[j]? with
    | some (some w) => if w.category = 2 then a.set j none else a
    | _ => a
def tm_has (f : Nat → Nat) (ls : Array Slot) (nL : Nat) (lv : List (Option Value)) : Prop := ls.size = nL ∧ lv_wf ls ∧ lv.length ≤ nL ∧ ∀ (i : Nat) (v : Value), lv[i]? = some (some v) → ls[i]? = some (Slot.val (tm_v f v))
def tm_ll (f : Nat → Nat) (lv : List (Option Value)) : List (Nat × Value) := (List.range lv.length).filterMap fun i => match lv[i]? with
  | some (some v) => some (i, tm_v f v)
  | _ => none
theorem tm_ll_mem {f : Nat → Nat} {lv : List (Option Value)} {j : Nat} {w : Value} (h : lv[j]? = some (some w)) : (j, tm_v f w) ∈ tm_ll f lv := by
  refine List.mem_filterMap.mpr ⟨j, List.mem_range.mpr (List.getElem?_eq_some_iff.mp h).1, ?_⟩
  simp only [h]
theorem tm_ll_inv {f : Nat → Nat} {lv : List (Option Value)} {q : Nat × Value} (h : q ∈ tm_ll f lv) : ∃ w, lv[q.1]? = some (some w) ∧ q.2 = tm_v f w := by
  obtain ⟨i, -, hi⟩ := List.mem_filterMap.mp h
  split at hi
  · rename_i v hv
    cases hi
    exact ⟨v, hv, rfl⟩
  · cases hi
theorem tm_has.ll {f : Nat → Nat} {ls : Array Slot} {nL : Nat} {lv : List (Option Value)} (h : tm_has f ls nL lv) : lv_has ls nL (tm_ll f lv) := by
  refine ⟨h.1, h.2.1, fun q hq => ?_⟩
  obtain ⟨w, h1, h2⟩ := tm_ll_inv hq
  rw [h2]
  exact h.2.2.2 q.1 w h1
theorem tm_set_len {lv : List (Option Value)} {i : Nat} {v : Value} : (tm_set lv i v).length = lv.length := by
  have base : (if v.category = 2 then (lv.set i (some v)).set (i + 1) none else lv.set i (some v)).length = lv.length := by split <;> simp
  unfold tm_set
  cases i with
  | zero => exact base
  | succ j =>
    dsimp only
    split
    · split
      · rw [List.length_set]; exact base
      · exact base
    · exact base
theorem tm_set_inv {lv : List (Option Value)} {i j : Nat} {v w : Value} (h : (tm_set lv i v)[j]? = some (some w)) : (j = i ∧ w = v) ∨ (j ≠ i ∧ lv[j]? = some (some w) ∧ ¬ (j + 1 = i ∧ w.category = 2) ∧ (v.category = 2 → j ≠ i + 1)) := by
  have base : ∀ (a : List (Option Value)), a = (if v.category = 2 then (lv.set i (some v)).set (i + 1) none else lv.set i (some v)) → a[j]? = some (some w) → (j = i ∧ w = v) ∨ (j ≠ i ∧ lv[j]? = some (some w) ∧ (v.category = 2 → j ≠ i + 1)) := by
    intro a ha hj
    by_cases hji : j = i
    · left
      refine ⟨hji, ?_⟩
      subst hji
      rw [ha] at hj
      split at hj
      · rw [List.getElem?_set_ne (by omega)] at hj
        rw [List.getElem?_set] at hj
        simp only [if_true] at hj
        split at hj
        · cases hj; rfl
        · cases hj
      · rw [List.getElem?_set] at hj
        simp only [if_true] at hj
        split at hj
        · cases hj; rfl
        · cases hj
    · right
      refine ⟨hji, ?_⟩
      rw [ha] at hj
      split at hj
      · rename_i hc
        by_cases hj1 : j = i + 1
        · subst hj1
          simp [List.getElem?_set] at hj
        · rw [List.getElem?_set_ne (by omega), List.getElem?_set_ne (by omega)] at hj
          exact ⟨hj, fun _ => hj1⟩
      · rename_i hc
        rw [List.getElem?_set_ne (by omega)] at hj
        exact ⟨hj, fun q => absurd q hc⟩
  unfold tm_set at h
  cases i with
  | zero =>
    rcases base _ rfl h with h1 | ⟨h1, h2, h3⟩
    · exact Or.inl h1
    · exact Or.inr ⟨h1, h2, by omega, h3⟩
  | succ i' =>
    dsimp only at h
    split at h
    · rename_i u hu
      split at h
      · rename_i hc
        by_cases hji : j = i'
        · subst hji
          simp [List.getElem?_set] at h
        · rw [List.getElem?_set_ne (by omega)] at h
          rcases base _ rfl h with h1 | ⟨h1, h2, h3⟩
          · exact Or.inl h1
          · exact Or.inr ⟨h1, h2, by omega, h3⟩
      · rename_i hc
        rcases base _ rfl h with h1 | ⟨h1, h2, h3⟩
        · exact Or.inl h1
        · refine Or.inr ⟨h1, h2, ?_, h3⟩
          rintro ⟨q1, q2⟩
          have : j = i' := by omega
          subst this
          rw [hu] at h2
          cases h2
          exact hc q2
    · rename_i hno
      rcases base _ rfl h with h1 | ⟨h1, h2, h3⟩
      · exact Or.inl h1
      · refine Or.inr ⟨h1, h2, ?_, h3⟩
        rintro ⟨q1, q2⟩
        have : j = i' := by omega
        subst this
        exact hno w h2
theorem tm_has_of1 {f : Nat → Nat} {ls : Array Slot} {nL i : Nat} {lv : List (Option Value)} {v : Value} (hlen : lv.length ≤ nL) (h : lv_has ls nL ((i, tm_v f v) :: (tm_ll f lv).filter (fun q => !(q.1 == i) && !(q.1 + 1 == i && q.2.category == 2)))) : tm_has f ls nL (tm_set lv i v) := by
  refine ⟨h.1, h.2.1, by rw [tm_set_len]; exact hlen, fun j w hj => ?_⟩
  rcases tm_set_inv hj with ⟨rfl, rfl⟩ | ⟨h1, h2, h3, h4⟩
  · exact h.2.2 _ List.mem_cons_self
  · refine h.2.2 (j, tm_v f w) (List.mem_cons_of_mem _ (List.mem_filter.mpr ⟨tm_ll_mem h2, ?_⟩))
    simp only [tm_v_cat, Bool.and_eq_true, Bool.not_eq_true', beq_eq_false_iff_ne, ne_eq, Bool.and_eq_false_iff]
    refine ⟨h1, ?_⟩
    by_cases q : j + 1 = i
    · exact Or.inr (fun z => h3 ⟨q, z⟩)
    · exact Or.inl q
theorem tm_has_of2 {f : Nat → Nat} {ls : Array Slot} {nL i : Nat} {lv : List (Option Value)} {v : Value} (hlen : lv.length ≤ nL) (hc : v.category = 2) (h : lv_has ls nL ((i, tm_v f v) :: (tm_ll f lv).filter (fun q => !(q.1 == i) && (!(q.1 == i + 1) && !(q.1 + 1 == i && q.2.category == 2))))) : tm_has f ls nL (tm_set lv i v) := by
  refine ⟨h.1, h.2.1, by rw [tm_set_len]; exact hlen, fun j w hj => ?_⟩
  rcases tm_set_inv hj with ⟨rfl, rfl⟩ | ⟨h1, h2, h3, h4⟩
  · exact h.2.2 _ List.mem_cons_self
  · refine h.2.2 (j, tm_v f w) (List.mem_cons_of_mem _ (List.mem_filter.mpr ⟨tm_ll_mem h2, ?_⟩))
    simp only [tm_v_cat, Bool.and_eq_true, Bool.not_eq_true', beq_eq_false_iff_ne, ne_eq, Bool.and_eq_false_iff]
    refine ⟨h1, h4 hc, ?_⟩
    by_cases q : j + 1 = i
    · exact Or.inr (fun z => h3 ⟨q, z⟩)
    · exact Or.inl q
/-! one instruction that neither calls, makes, nor ends: what must hold for it, where it goes, and what it leaves -/
abbrev tm_O : Type := List Prop × Nat × List (Option Value) × List Value × tm_I × tm_L × tm_R
abbrev tm_Fr : Type := Nat → Option (Nat × Nat × FieldType)
def tm_off (pc : Nat) (off : Int) : Nat := ((pc : Int) + off).toNat
def tm_ld (lv : List (Option Value)) (i : Nat) : Option Value := match lv[i]? with
  | some (some v) => some v
  | _ => none
theorem tm_ld_eq {lv : List (Option Value)} {i : Nat} {v : Value} (h : tm_ld lv i = some v) : lv[i]? = some (some v) := by
  unfold tm_ld at h
  split at h
  · rename_i w hw; cases h; exact hw
  · cases h
def tm_isI (ty : FieldType) : Bool := match ty with
  | .int => true
  | .boolean => true
  | .byte => true
  | .char => true
  | .short => true
  | _ => false
def tm_isR (ty : FieldType) : Bool := match ty with
  | .object _ => true
  | .array _ => true
  | _ => false
def tm_fin (ci k : Nat) : Bool := match tm_cl[ci]? with
  | some q => (q.2.1 k).2.2.2
  | none => true
def tm_stp (fr : tm_Fr) (ins : Instr) (len pc : Nat) (lv : List (Option Value)) (st : List Value) (sh : List tm_Sh) (mI : tm_I) (mL : tm_L) (mR : tm_R) : Option tm_O :=
  match ins, len with
  | .iconst n, 1 => some ([], pc + 1, lv, .int (Int32.ofInt n) :: st, mI, mL, mR)
  | .bipush n, 2 => some ([], pc + 2, lv, .int (Int8.ofInt n).toInt32 :: st, mI, mL, mR)
  | .sipush n, 3 => some ([], pc + 3, lv, .int (Int16.ofInt n).toInt32 :: st, mI, mL, mR)
  | .lconst n, 1 => some ([], pc + 1, lv, .long (Int64.ofNat (n : Nat)) :: st, mI, mL, mR)
  | .aconst_null, 1 => some ([], pc + 1, lv, .ref tm_nul :: st, mI, mL, mR)
  | .iload_n k, 1 => match tm_ld lv (k : Nat) with
    | some (.int x) => some ([], pc + 1, lv, .int x :: st, mI, mL, mR)
    | _ => none
  | .iload k, 2 => match tm_ld lv k with
    | some (.int x) => some ([], pc + 2, lv, .int x :: st, mI, mL, mR)
    | _ => none
  | .lload_n k, 1 => match tm_ld lv (k : Nat) with
    | some (.long x) => some ([], pc + 1, lv, .long x :: st, mI, mL, mR)
    | _ => none
  | .lload k, 2 => match tm_ld lv k with
    | some (.long x) => some ([], pc + 2, lv, .long x :: st, mI, mL, mR)
    | _ => none
  | .aload_n k, 1 => match tm_ld lv (k : Nat) with
    | some (.ref x) => some ([], pc + 1, lv, .ref x :: st, mI, mL, mR)
    | _ => none
  | .aload k, 2 => match tm_ld lv k with
    | some (.ref x) => some ([], pc + 2, lv, .ref x :: st, mI, mL, mR)
    | _ => none
  | .istore_n k, 1 => match st with
    | .int x :: r => if (k : Nat) < lv.length then some ([], pc + 1, tm_set lv (k : Nat) (.int x), r, mI, mL, mR) else none
    | _ => none
  | .istore k, 2 => match st with
    | .int x :: r => if k < lv.length then some ([], pc + 2, tm_set lv k (.int x), r, mI, mL, mR) else none
    | _ => none
  | .lstore_n k, 1 => match st with
    | .long x :: r => if (k : Nat) + 1 < lv.length then some ([], pc + 1, tm_set lv (k : Nat) (.long x), r, mI, mL, mR) else none
    | _ => none
  | .lstore k, 2 => match st with
    | .long x :: r => if k + 1 < lv.length then some ([], pc + 2, tm_set lv k (.long x), r, mI, mL, mR) else none
    | _ => none
  | .astore_n k, 1 => match st with
    | .ref x :: r => if (k : Nat) < lv.length then some ([], pc + 1, tm_set lv (k : Nat) (.ref x), r, mI, mL, mR) else none
    | _ => none
  | .astore k, 2 => match st with
    | .ref x :: r => if k < lv.length then some ([], pc + 2, tm_set lv k (.ref x), r, mI, mL, mR) else none
    | _ => none
  | .iinc k n, 3 => match tm_ld lv k with
    | some (.int x) => if k < lv.length then some ([], pc + 3, tm_set lv k (.int (x + Int32.ofInt n)), st, mI, mL, mR) else none
    | _ => none
  | .iadd, 1 => match st with
    | .int y :: .int x :: r => some ([], pc + 1, lv, .int (x + y) :: r, mI, mL, mR)
    | _ => none
  | .isub, 1 => match st with
    | .int y :: .int x :: r => some ([], pc + 1, lv, .int (x - y) :: r, mI, mL, mR)
    | _ => none
  | .imul, 1 => match st with
    | .int y :: .int x :: r => some ([], pc + 1, lv, .int (x * y) :: r, mI, mL, mR)
    | _ => none
  | .iand, 1 => match st with
    | .int y :: .int x :: r => some ([], pc + 1, lv, .int (x &&& y) :: r, mI, mL, mR)
    | _ => none
  | .ior, 1 => match st with
    | .int y :: .int x :: r => some ([], pc + 1, lv, .int (x ||| y) :: r, mI, mL, mR)
    | _ => none
  | .ixor, 1 => match st with
    | .int y :: .int x :: r => some ([], pc + 1, lv, .int (x ^^^ y) :: r, mI, mL, mR)
    | _ => none
  | .ishl, 1 => match st with
    | .int y :: .int x :: r => some ([], pc + 1, lv, .int (x <<< (y &&& 31)) :: r, mI, mL, mR)
    | _ => none
  | .ishr, 1 => match st with
    | .int y :: .int x :: r => some ([], pc + 1, lv, .int (x >>> (y &&& 31)) :: r, mI, mL, mR)
    | _ => none
  | .iushr, 1 => match st with
    | .int y :: .int x :: r => some ([], pc + 1, lv, .int ((x.toUInt32 >>> (y.toUInt32 &&& Int32.toUInt32 31)).toInt32) :: r, mI, mL, mR)
    | _ => none
  | .idiv, 1 => match st with
    | .int y :: .int x :: r => some ([¬ y = 0], pc + 1, lv, .int (x / y) :: r, mI, mL, mR)
    | _ => none
  | .irem, 1 => match st with
    | .int y :: .int x :: r => some ([¬ y = 0], pc + 1, lv, .int (x - x / y * y) :: r, mI, mL, mR)
    | _ => none
  | .ladd, 1 => match st with
    | .long y :: .long x :: r => some ([], pc + 1, lv, .long (x + y) :: r, mI, mL, mR)
    | _ => none
  | .lsub, 1 => match st with
    | .long y :: .long x :: r => some ([], pc + 1, lv, .long (x - y) :: r, mI, mL, mR)
    | _ => none
  | .lmul, 1 => match st with
    | .long y :: .long x :: r => some ([], pc + 1, lv, .long (x * y) :: r, mI, mL, mR)
    | _ => none
  | .land, 1 => match st with
    | .long y :: .long x :: r => some ([], pc + 1, lv, .long (x &&& y) :: r, mI, mL, mR)
    | _ => none
  | .lor, 1 => match st with
    | .long y :: .long x :: r => some ([], pc + 1, lv, .long (x ||| y) :: r, mI, mL, mR)
    | _ => none
  | .lxor, 1 => match st with
    | .long y :: .long x :: r => some ([], pc + 1, lv, .long (x ^^^ y) :: r, mI, mL, mR)
    | _ => none
  | .ldiv, 1 => match st with
    | .long y :: .long x :: r => some ([¬ y = 0], pc + 1, lv, .long (x / y) :: r, mI, mL, mR)
    | _ => none
  | .lrem, 1 => match st with
    | .long y :: .long x :: r => some ([¬ y = 0], pc + 1, lv, .long (x - x / y * y) :: r, mI, mL, mR)
    | _ => none
  | .ineg, 1 => match st with
    | .int x :: r => some ([], pc + 1, lv, .int (-x) :: r, mI, mL, mR)
    | _ => none
  | .lneg, 1 => match st with
    | .long x :: r => some ([], pc + 1, lv, .long (-x) :: r, mI, mL, mR)
    | _ => none
  | .lushr, 1 => match st with
    | .int y :: .long x :: r => some ([], pc + 1, lv, .long ((x.toUInt64 >>> (y.toInt64.toUInt64 &&& Int64.toUInt64 63)).toInt64) :: r, mI, mL, mR)
    | _ => none
  | .lshl, 1 => match st with
    | .int y :: .long x :: r => some ([], pc + 1, lv, .long (x <<< (y.toInt64 &&& 63)) :: r, mI, mL, mR)
    | _ => none
  | .lshr, 1 => match st with
    | .int y :: .long x :: r => some ([], pc + 1, lv, .long (x >>> (y.toInt64 &&& 63)) :: r, mI, mL, mR)
    | _ => none
  | .i2l, 1 => match st with
    | .int x :: r => some ([], pc + 1, lv, .long x.toInt64 :: r, mI, mL, mR)
    | _ => none
  | .l2i, 1 => match st with
    | .long x :: r => some ([], pc + 1, lv, .int x.toInt32 :: r, mI, mL, mR)
    | _ => none
  | .i2b, 1 => match st with
    | .int x :: r => some ([], pc + 1, lv, .int x.toInt8.toInt32 :: r, mI, mL, mR)
    | _ => none
  | .i2s, 1 => match st with
    | .int x :: r => some ([], pc + 1, lv, .int x.toInt16.toInt32 :: r, mI, mL, mR)
    | _ => none
  | .i2c, 1 => match st with
    | .int x :: r => some ([], pc + 1, lv, .int (x.toUInt32 % 65536).toInt32 :: r, mI, mL, mR)
    | _ => none
  | .lcmp, 1 => match st with
    | .long y :: .long x :: r => some ([], pc + 1, lv, .int (lg_cmp x y) :: r, mI, mL, mR)
    | _ => none
  | .dup, 1 => match st with
    | x :: r => if x.category = 1 then some ([], pc + 1, lv, x :: x :: r, mI, mL, mR) else none
    | _ => none
  | .pop, 1 => match st with
    | x :: r => if x.category = 1 then some ([], pc + 1, lv, r, mI, mL, mR) else none
    | _ => none
  | .dup_x1, 1 => match st with
    | x :: y :: r => if x.category = 1 ∧ y.category = 1 then some ([], pc + 1, lv, x :: y :: x :: r, mI, mL, mR) else none
    | _ => none
  | .dup_x2, 1 => match st with
    | x :: y :: z :: r => if x.category = 1 ∧ y.category = 1 ∧ z.category = 1 then some ([], pc + 1, lv, x :: y :: z :: x :: r, mI, mL, mR) else none
    | _ => none
  | .dup2, 1 => match st with
    | x :: y :: r => if x.category = 1 ∧ y.category = 1 then some ([], pc + 1, lv, x :: y :: x :: y :: r, mI, mL, mR) else none
    | _ => none
  | .goto off, 3 => if (pc : Int) + off = (tm_off pc off : Nat) then some ([], tm_off pc off, lv, st, mI, mL, mR) else none
  | .getfield k, 3 => match st, fr k with
    | .ref o :: r, some q => some ([sh[o]? = some (.inl q.1)], pc + 3, lv, tm_fv q.2.2 mI mL mR o q.2.1 :: r, mI, mL, mR)
    | _, _ => none
  | .putfield k, 3 => match st, fr k with
    | .int x :: .ref o :: r, some q => if tm_fin q.1 q.2.1 = false ∧ q.2.2 = .int then some ([sh[o]? = some (.inl q.1)], pc + 3, lv, r, tm_up mI o q.2.1 x, mL, mR)
      else if tm_fin q.1 q.2.1 = false ∧ tm_isI q.2.2 = true then some ([sh[o]? = some (.inl q.1), narrow q.2.2 (.int x) = .int x, fits q.2.2 (.int x) = true], pc + 3, lv, r, tm_up mI o q.2.1 x, mL, mR) else none
    | .long x :: .ref o :: r, some q => if tm_fin q.1 q.2.1 = false ∧ q.2.2 = .long then some ([sh[o]? = some (.inl q.1)], pc + 3, lv, r, mI, tm_up mL o q.2.1 x, mR) else none
    | .ref x :: .ref o :: r, some q => if tm_fin q.1 q.2.1 = false ∧ tm_isR q.2.2 = true then some ([sh[o]? = some (.inl q.1)], pc + 3, lv, r, mI, mL, tm_up mR o q.2.1 x) else none
    | _, _ => none
  | .iaload, 1 => match st with
    | .int i :: .ref o :: r => some ([∃ n, sh[o]? = some (.inr (.int, n)) ∧ vp_in i n], pc + 1, lv, .int (mI o i.toNatClampNeg) :: r, mI, mL, mR)
    | _ => none
  | .baload, 1 => match st with
    | .int i :: .ref o :: r => some ([∃ n, sh[o]? = some (.inr (.byte, n)) ∧ vp_in i n], pc + 1, lv, .int (mI o i.toNatClampNeg) :: r, mI, mL, mR)
    | _ => none
  | .laload, 1 => match st with
    | .int i :: .ref o :: r => some ([∃ n, sh[o]? = some (.inr (.long, n)) ∧ vp_in i n], pc + 1, lv, .long (mL o i.toNatClampNeg) :: r, mI, mL, mR)
    | _ => none
  | .iastore, 1 => match st with
    | .int x :: .int i :: .ref o :: r => some ([∃ n, sh[o]? = some (.inr (.int, n)) ∧ vp_in i n], pc + 1, lv, r, tm_up mI o i.toNatClampNeg x, mL, mR)
    | _ => none
  | .bastore, 1 => match st with
    | .int x :: .int i :: .ref o :: r => some ([∃ n, sh[o]? = some (.inr (.byte, n)) ∧ vp_in i n], pc + 1, lv, r, tm_up mI o i.toNatClampNeg (vp_nar .byte x), mL, mR)
    | _ => none
  | .lastore, 1 => match st with
    | .long x :: .int i :: .ref o :: r => some ([∃ n, sh[o]? = some (.inr (.long, n)) ∧ vp_in i n], pc + 1, lv, r, mI, tm_up mL o i.toNatClampNeg x, mR)
    | _ => none
  | .arraylength, 1 => match st with
    | .ref o :: r => match sh[o]? with
      | some (.inr q) => if q.1 = .int ∨ q.1 = .long ∨ q.1 = .byte then some ([], pc + 1, lv, .int (Int32.ofNat q.2) :: r, mI, mL, mR) else none
      | _ => none
    | _ => none
  | _, _ => none
def tm_all : List Prop → Prop
  | [] => True
  | a :: r => a ∧ tm_all r
theorem tm_all_app {a b : List Prop} (h : tm_all (a ++ b)) : tm_all a ∧ tm_all b := by
  induction a with
  | nil => exact ⟨trivial, h⟩
  | cons x r ih => exact ⟨⟨h.1, (ih h.2).1⟩, (ih h.2).2⟩
/-- a stretch of instructions, one behind the other -/
def tm_fold (fr : tm_Fr) : List (Nat × Instr × Nat) → Nat → List (Option Value) → List Value → List tm_Sh → tm_I → tm_L → tm_R → Option tm_O
  | [], pc, lv, st, _, mI, mL, mR => some ([], pc, lv, st, mI, mL, mR)
  | q :: r, pc, lv, st, sh, mI, mL, mR => if q.1 = pc then match tm_stp fr q.2.1 q.2.2 pc lv st sh mI mL mR with
    | none => none
    | some (ob, pc', lv', st', a, b, c) => match tm_fold fr r pc' lv' st' sh a b c with
      | none => none
      | some (ob2, rest) => some (ob ++ ob2, rest)
    else none
